section
/-! WHAT LIES OUTSIDE: the strings of the class, the row of State, what a throw needs -/
def yY (xa : Nat → Nat) : (Nat → Prop) → State → Heap → Prop := fun A U H => y_str xa A U H ∧ va_AO "LetByTheDegree$State" U ∧ (vk_R "LetByTheDegree" 169 "no such room" (xa 5) U ∧ vk_R "LetByTheDegree" 193 "nothing such is told of a room" (xa 6) U ∧ vk_R "LetByTheDegree" 198 "no such person" (xa 7) U ∧ vk_R "LetByTheDegree" 220 "nothing such is told of a person" (xa 8) U ∧ vk_R "LetByTheDegree" 456 "no such number of the row" (xa 9) U) ∧ vx_Zq Bundle.tN "UNASSIGNED_STACK" Bundle.steD A U H ∧ vx_Zq Bundle.tN "SUPPRESSED_SENTINEL" Bundle.listD A U H ∧ va_Nw (.castable xN xN) U ∧ va_Nw (.declares (Bundle.initS "java/lang/RuntimeException")) U ∧ va_Nw (.declares (Bundle.initS "java/lang/Exception")) U ∧ va_Nw (.declares (Bundle.initS Bundle.tN)) U
theorem yY_ok (xa : Nat → Nat) : m_Yok (yY xa) := by
  refine ⟨fun A u U H hv h => ?_, fun A u U H hW h => ?_, fun A U H H1 hq h => ?_, fun A B U H hAB h => ?_⟩
  · have ha : u.vm.Alike U.vm := by rw [hv]; exact Vm.Alike.refl _
    obtain ⟨⟨a1, a2, a3, a4, a5, a6⟩, b, ⟨c1, c2, c3, c4, c5⟩, d, e, n1, n2, n3, n4⟩ := h
    exact ⟨⟨a1.same hv, a2.moved ha, a3.moved ha, a4.moved ha, a5.moved ha, a6.moved ha⟩, b.moved ha, ⟨c1.same hv, c2.same hv, c3.same hv, c4.same hv, c5.same hv⟩, d.moved ha, e.moved ha, va_Nw.same rfl hv.symm n1, va_Nw.same rfl hv.symm n2, va_Nw.same rfl hv.symm n3, va_Nw.same rfl hv.symm n4⟩
  · have ha : u.vm.Alike U.vm := hW.alike
    obtain ⟨⟨a1, a2, a3, a4, a5, a6⟩, b, ⟨c1, c2, c3, c4, c5⟩, d, e, n1, n2, n3, n4⟩ := h
    exact ⟨⟨a1.warm hW, a2.moved ha, a3.moved ha, a4.moved ha, a5.moved ha, a6.moved ha⟩, b.moved ha, ⟨c1.warm hW, c2.warm hW, c3.warm hW, c4.warm hW, c5.warm hW⟩, d.moved ha, e.moved ha, va_Nw.warmC hW n1, va_Nw.warmD hW n2, va_Nw.warmD hW n3, va_Nw.warmD hW n4⟩
  · obtain ⟨⟨a1, a2, a3, a4, a5, a6⟩, b, c, d, e, n⟩ := h
    exact ⟨⟨a1, a2.kept hq, a3.kept hq, a4.kept hq, a5.kept hq, a6.kept hq⟩, b, c, d.kept hq, e.kept hq, n⟩
  · obtain ⟨⟨a1, a2, a3, a4, a5, a6⟩, b, c, d, e, n⟩ := h
    exact ⟨⟨a1, a2.narrow hAB, a3.narrow hAB, a4.narrow hAB, a5.narrow hAB, a6.narrow hAB⟩, b, c, d.narrow hAB, e.narrow hAB, n⟩
theorem yY_str (xa : Nat → Nat) : ∀ A U H, yY xa A U H → y_str xa A U H := fun _ _ _ h => h.1
theorem yY_AO (xa : Nat → Nat) : ∀ A U H, yY xa A U H → va_AO "LetByTheDegree$State" U := fun _ _ _ h => h.2.1
/-! a throw of the class -/
def y_bad : List Cond := [.castable xN xN, .declares (Bundle.initS "java/lang/RuntimeException"), .declares (Bundle.initS "java/lang/Exception"), .declares (Bundle.initS Bundle.tN)]
theorem y_split : ∀ w ∈ y_at "LetByTheDegree" 171, w ∈ a_tb ∨ w ∈ y_bad := by
  have h : (y_at "LetByTheDegree" 171).all (fun w => decide (w ∈ y_bad) || (y_pl.any (fun q => decide (g_nth (a_part q.1) q.2 = some w) && goodWord w) || decide (w ∈ a_tb))) = true := by decide +kernel
  intro w hw
  rcases Bool.or_eq_true _ _ |>.mp (List.all_eq_true.mp h w hw) with h | h
  · exact Or.inr (of_decide_eq_true h)
  · rcases Bool.or_eq_true _ _ |>.mp h with h | h
    · obtain ⟨q, -, hq⟩ := List.any_eq_true.mp h
      obtain ⟨h1, h2⟩ := Bool.and_eq_true _ _ |>.mp hq
      exact Or.inl (a_inG (of_decide_eq_true h1) h2)
    · exact Or.inl (of_decide_eq_true h)
theorem y_ot_all : ∀ w ∈ Cond.classLink "LetByTheDegree" 167 xN :: Cond.initialized xN :: y_at "LetByTheDegree" 171, vx_ot w = true := by
  have h : (Cond.classLink "LetByTheDegree" 167 xN :: Cond.initialized xN :: y_at "LetByTheDegree" 171).all vx_ot = true := by decide +kernel
  exact fun w hw => List.all_eq_true.mp h w hw
theorem x_cl : Cond.classLink "LetByTheDegree" 167 xN ∈ a_tb := a_in (k := 6) (i := 49) rfl rfl
theorem x_ini : Cond.initialized xN ∈ a_tb := a_in (k := 1) (i := 25) rfl rfl
def x_XC (dC : Nat → ClassId) (dI : Nat → Nat → Nat) (aC : Nat → ClassId) (xa ad : Nat → Nat) (sz : Nat) (σ : m_H) (Qx : m_H → Prop) : String → State → State → Prop := fun E st t =>
  E = xN ∧ (∃ (σ' : m_H) (ad' : Nat → Nat), Qx σ' ∧ (∀ k, k < σ.length → ad' k = ad k) ∧ (∀ k, ad' (m_X0 + k) = xa k) ∧ va_P (dC, dI) vwCl (m_W ad' aC σ') t.heap ∧ va_K (dC, dI) vwCl (m_tys aC) t ∧ va_D (va_A (m_W ad aC σ) sz) (m_W ad' aC σ')) ∧ va_F (va_A (m_W ad aC σ) sz) st t
/-- from the cells σ and these arguments the method comes back, or it throws, and what it leaves is Q's, or Qx's -/
def v_KX (l : Launch) (X : Nat → Option (List Int32)) (Y : (Nat → Prop) → State → Heap → Prop) (xa : Nat → Nat) (d : Nat) (y : MethodName) (b : ByteArray) (n : Nat) (r : Option FieldType) (σ : m_H) (as : List Value) (Q : Option Value → m_H → Prop) (Qx : m_H → Prop) : Prop :=
  ∀ (dC : Nat → ClassId) (dI : Nat → Nat → Nat) (aC : Nat → ClassId) (ad : Nat → Nat) (sz : Nat), (∀ k, ad (m_X0 + k) = xa k) → vx_Met l y (m_ws y b n r) (m_rm d 1 6) (m_Pc dC dI aC X Y xa ad sz σ as) (m_Qc dC dI aC xa ad sz σ Q) (x_XC dC dI aC xa ad sz σ Qx) 1 6 (va_A (m_W ad aC σ) sz)
theorem v_KX_of {l : Launch} {X : Nat → Option (List Int32)} {Y : (Nat → Prop) → State → Heap → Prop} {xa : Nat → Nat} {d : Nat} {y : MethodName} {b : ByteArray} {n : Nat} {r : Option FieldType} {σ : m_H} {as : List Value} {Q : Option Value → m_H → Prop} {Qx : m_H → Prop} (hy : plainName y.cls = true) (hlen : (lg_sl as).length ≤ n)
    (body : ∀ (p : Program) (e : Env) (s : State) (m : MethodId) (args : Array Value) (below : List Frame) (meth : Method) (c : Code) (dC : Nat → ClassId) (dI : Nat → Nat → Nat) (aC : Nat → ClassId) (ad : Nat → Nat) (sz : Nat), m_Ctx p s m args meth c b n y.cls dC dI aC (va_A (m_W ad aC σ) sz) xa X Y → meth.sig.returnType = r → (∀ x ∈ c.exceptionTable.toList, False) →
      mV p l e (m_rm d 1 6) s m args below meth c (vx_MQ below (m_Qc dC dI aC xa ad sz σ Q) (x_XC dC dI aC xa ad sz σ Qx) args s 1 6 (va_A (m_W ad aC σ) sz)) dC dI aC (va_A (m_W ad aC σ) sz) σ.length ad xa n (σ, 0, 0, 0, lv_args 0 as, [])) : v_KX l X Y xa d y b n r σ as Q Qx := by
  intro dC dI aC ad sz hX
  refine vx_ofW (cc := b) (maxL := n) (ret := r) hy rfl ?_
  intro p e s m args below meth c s₁ B hml htab hv
  obtain ⟨ha, hsz, hP, hK, hD0, hE⟩ := hv
  have hts := atoms_spec (ws := m_ws y b n r) B.pre
  have hown : s.vm.findClass y.cls = some m.cls := findClass_of_methodNamed B.named
  have hC : m_Ctx p s m args meth c b n y.cls dC dI aC (va_A (m_W ad aC σ) sz) xa X Y := ⟨B.exec, B.bytes, hml, hown, fun w hw => hts w (List.mem_cons_of_mem _ hw), hK, fun q h => Or.inr (by rw [← hsz]; exact h), hE, B.notSynchronized⟩
  have hD := hD0.self (sz := sz)
  have hl := lv_entry (as.map (m_re ad)) (n := n) (by rw [m_sl_len]; exact hlen)
  rw [ha, lg_entry_eq]
  generalize (lg_sl (as.map (m_re ad)) ++ List.replicate (n - (lg_sl (as.map (m_re ad))).length) Slot.unset).toArray = lsC at hl ⊢
  rw [m_lv_args] at hl
  have hb := body p e s m args below meth c dC dI aC ad sz hC B.returns htab ad s.heap [] lsC (fun _ _ => rfl) hX hP hD va_S.rf hl
  rw [← ha]
  exact hb
section TH
variable {p : Program} {l : Launch} {e : Env} {R : Room} {s : State} {m : MethodId} {args : Array Value} {below : List Frame} {meth : Method} {c : Code} {dC : Nat → ClassId} {dI : Nat → Nat → Nat} {aC : Nat → ClassId} {ad0 xa : Nat → Nat} {nL : Nat} {cc : ByteArray} {X : Nat → Option (List Int32)} {Y : (Nat → Prop) → State → Heap → Prop}
variable {σ σ0 : m_H} {pc sz : Nat} {ls : List (Nat × Value)} {Q : Option Value → m_H → Prop} {Qx : m_H → Prop}
theorem y_words {A : Nat → Prop} {own : String} (hC : m_Ctx p s m args meth c cc nL own dC dI aC A xa X Y) (hn : va_Nw (.castable xN xN) s ∧ va_Nw (.declares (Bundle.initS "java/lang/RuntimeException")) s ∧ va_Nw (.declares (Bundle.initS "java/lang/Exception")) s ∧ va_Nw (.declares (Bundle.initS Bundle.tN)) s) : ∀ w ∈ y_at "LetByTheDegree" 171, w.before args s = true := fun w hw => by
  rcases y_split w hw with h | h
  · exact m_ctb hC h
  · simp only [y_bad, List.mem_cons, List.not_mem_nil, or_false] at h
    rcases h with rfl | rfl | rfl | rfl
    · exact va_Nw.use rfl hn.1
    · exact va_Nw.use rfl hn.2.1
    · exact va_Nw.use rfl hn.2.2.1
    · exact va_Nw.use rfl hn.2.2.2
theorem v_vret {A : Nat → Prop} {n0 : Nat} {Qc : Array Value → State → Outcome → State → Prop} {XC : String → State → State → Prop} {mc ms : Nat} {free : Addr → Prop} {g : m_G} (h : mV p l e R s m args below meth c (MQ below Qc args s 0 0 free) dC dI aC A n0 ad0 xa nL g) : mV p l e R s m args below meth c (vx_MQ below Qc XC args s mc ms free) dC dI aC A n0 ad0 xa nL g := fun ad H locs lsC h1 h2 h3 h4 h5 h6 T hT X => by
  obtain ⟨t, a1, o, b1, b2, b3, L, b4, b5⟩ := h ad H locs lsC h1 h2 h3 h4 h5 h6 T hT X
  exact ⟨t, a1, o, b1, b2, Or.inl ⟨b3, L, ⟨b4.1, b4.2.1, b4.2.2.mono (Nat.zero_le _) (Nat.zero_le _)⟩, b5⟩⟩
theorem x_out {ad : Nat → Nat} {H : Heap} {locs : List Loc} {A : Nat → Prop} (hA : A = va_A (m_W ad0 aC σ0) sz) (hK : va_K (dC, dI) vwCl (m_tys aC) s) (hQ : Qx σ) (h1 : ∀ k, k < σ0.length → ad k = ad0 k) (h2 : ∀ k, ad (m_X0 + k) = xa k) (h3 : va_P (dC, dI) vwCl (m_W ad aC σ) H) (h4 : va_D A (m_W ad aC σ)) (h5 : va_S A s.heap H locs) :
    ∀ t : State, s.vm.Alike t.vm → H.size ≤ t.heap.size → (∀ q : Nat, q < H.size → t.heap[q]? = H[q]?) → x_XC dC dI aC xa ad0 sz σ0 Qx xN s t := fun t ha hsz hq => by
  subst hA
  exact ⟨rfl, ⟨σ, ad, hQ, h1, h2, h3.kept (fun k q hk => hq _ (vx_lt h3 hk)), va_K.moved ha hK, h4⟩, ⟨Nat.le_trans h5.1 hsz, fun q hq1 hq2 => (hq q (Nat.lt_of_lt_of_le hq1 h5.1)).trans (h5.2.1 q hq1 hq2)⟩⟩
theorem mV_thr (hC : m_Ctx p s m args meth c cc nL "LetByTheDegree" dC dI aC (va_A (m_W ad0 aC σ0) sz) xa X (yY xa)) (hl : l.stackTraces = false) (htab : ∀ x ∈ c.exceptionTable.toList, False) {is k : Nat} {text : String} (hstr : vk_R "LetByTheDegree" is text (xa k) s)
    (d0 : decode cc pc = .ok (.new 167, 3)) (d3 : decode cc (pc + 3) = .ok (.dup, 1)) (d4 : decode cc (pc + 4) = .ok (.ldc is, 2)) (d6 : decode cc (pc + 6) = .ok (.invokespecial 171, 3)) (d9 : decode cc (pc + 9) = .ok (.athrow, 1)) (hR : 6 ≤ R.frames ∧ 240 ≤ R.locals) (hc : 1 ≤ R.cells) (hs : 6 ≤ R.slots) (hQ : Qx σ) :
    mV p l e R s m args below meth c (vx_MQ below (m_Qc dC dI aC xa ad0 sz σ0 Q) (x_XC dC dI aC xa ad0 sz σ0 Qx) args s 1 6 (va_A (m_W ad0 aC σ0) sz)) dC dI aC (va_A (m_W ad0 aC σ0) sz) σ0.length ad0 xa nL (σ, 0, 0, pc, ls, []) := by
  intro ad H locs lsC h1 h2 h3 h4 h5 h6
  have hY := hC.2.2.2.2.2.2.2.1.2.2.2.2
  refine y_throwS (own := "LetByTheDegree") (A := va_A (m_W ad0 aC σ0) sz) hC.1 hC.2.1 hl hC.2.2.2.1 (m_ctb hC x_cl) (m_ctb hC x_ini) hstr (y_words hC hY.2.2.2.2.2) y_ot_all hY.2.2.2.1 hY.2.2.2.2.1 h5 (h6.1.trans hC.2.2.1.symm) d0 d3 d4 d6 d9 (fun x hx => absurd (htab x hx) id) ?_ ?_ (by omega) (by omega) hC.2.2.2.2.2.2.2.2 (x_out rfl hC.2.2.2.2.2.1 hQ h1 h2 h3 h4 h5) h5.2.2 (Nat.le_refl _) (Nat.le_refl _)
  · show 2 + 3 < R.frames
    omega
  · show 0 + (13 * (2 + 1) + 43) ≤ R.locals
    omega
theorem mV_thrW (hC : m_Ctx p s m args meth c cc nL "LetByTheDegree" dC dI aC (va_A (m_W ad0 aC σ0) sz) xa X (yY xa)) (hl : l.stackTraces = false) (htab : ∀ x ∈ c.exceptionTable.toList, False) {is k : Nat} {text : String} (hstr : vk_R "LetByTheDegree" is text (xa k) s)
    (d0 : decode cc pc = .ok (.new 167, 3)) (d3 : decode cc (pc + 3) = .ok (.dup, 1)) (d4 : decode cc (pc + 4) = .ok (.ldc_w is, 3)) (d6 : decode cc (pc + 7) = .ok (.invokespecial 171, 3)) (d9 : decode cc (pc + 10) = .ok (.athrow, 1)) (hR : 6 ≤ R.frames ∧ 240 ≤ R.locals) (hc : 1 ≤ R.cells) (hs : 6 ≤ R.slots) (hQ : Qx σ) :
    mV p l e R s m args below meth c (vx_MQ below (m_Qc dC dI aC xa ad0 sz σ0 Q) (x_XC dC dI aC xa ad0 sz σ0 Qx) args s 1 6 (va_A (m_W ad0 aC σ0) sz)) dC dI aC (va_A (m_W ad0 aC σ0) sz) σ0.length ad0 xa nL (σ, 0, 0, pc, ls, []) := by
  intro ad H locs lsC h1 h2 h3 h4 h5 h6
  have hY := hC.2.2.2.2.2.2.2.1.2.2.2.2
  refine y_throwSW (own := "LetByTheDegree") (A := va_A (m_W ad0 aC σ0) sz) hC.1 hC.2.1 hl hC.2.2.2.1 (m_ctb hC x_cl) (m_ctb hC x_ini) hstr (y_words hC hY.2.2.2.2.2) y_ot_all hY.2.2.2.1 hY.2.2.2.2.1 h5 (h6.1.trans hC.2.2.1.symm) d0 d3 d4 d6 d9 (fun x hx => absurd (htab x hx) id) ?_ ?_ (by omega) (by omega) hC.2.2.2.2.2.2.2.2 (x_out rfl hC.2.2.2.2.2.1 hQ h1 h2 h3 h4 h5) h5.2.2 (Nat.le_refl _) (Nat.le_refl _)
  · show 2 + 3 < R.frames
    omega
  · show 0 + (13 * (2 + 1) + 43) ≤ R.locals
    omega
end TH
theorem v_KX.mono {l : Launch} {X : Nat → Option (List Int32)} {Y : (Nat → Prop) → State → Heap → Prop} {xa : Nat → Nat} {d : Nat} {y : MethodName} {b : ByteArray} {n : Nat} {r : Option FieldType} {σ : m_H} {as : List Value} {Q Q' : Option Value → m_H → Prop} {Qx Qx' : m_H → Prop} (k : v_KX l X Y xa d y b n r σ as Q Qx) (h : ∀ r σ', Q r σ' → Q' r σ') (hx : ∀ σ', Qx σ' → Qx' σ') : v_KX l X Y xa d y b n r σ as Q' Qx' := fun dC dI aC ad sz hX => by
  have hM := k dC dI aC ad sz hX
  intro p e ha hf hc s m args below hfr hap hP hK
  obtain ⟨n', o, h1, h2, h3, h4⟩ := hM p e ha hf hc s m args below hfr hap hP hK
  refine ⟨n', o, h1, h2, h3, ?_⟩
  rcases h4 with ⟨⟨⟨r, σ', ad', q1, q2, q3⟩, q4⟩, hL⟩ | ⟨q, hq, E, ce, L, ⟨e1, ⟨σ1, ad1, d1, d4⟩, d5⟩, c6⟩
  · exact Or.inl ⟨⟨⟨r, σ', ad', q1, h r σ' q2, q3⟩, q4⟩, hL⟩
  · exact Or.inr ⟨q, hq, E, ce, L, ⟨e1, ⟨σ1, ad1, hx _ d1, d4⟩, d5⟩, c6⟩
noncomputable def m_KX (yi : Nat) (l : Launch) (X : Nat → Option (List Int32)) (Y : (Nat → Prop) → State → Heap → Prop) (xa : Nat → Nat) (d : Nat) (y : MethodName) (b : ByteArray) (n : Nat) (r : Option FieldType) (σ : m_H) (as : List Value) (Q : Option Value → m_H → Prop) (Qx : m_H → Prop) : Prop :=
  z_ok σ → v_KX l X Y xa d y b n r σ as (fun r1 σ1 => Q r1 σ1 ∧ z_ok σ1 ∧ z_Ev yi (z_m σ, 0, z_fr yi (z_s as), []) (z_m σ1, r1.map z_v)) (fun σ1 => Qx σ1 ∧ z_ok σ1 ∧ z_Ev yi (z_m σ, 0, z_fr yi (z_s as), []) (z_m σ1, some (9, 0)))
noncomputable def m_QX (below : List Frame) (dC : Nat → ClassId) (dI : Nat → Nat → Nat) (aC : Nat → ClassId) (xa ad : Nat → Nat) (sz : Nat) (σ : m_H) (Q : Option Value → m_H → Prop) (Qx : m_H → Prop) (args : Array Value) (s : State) (mc ms : Nat) (A : Nat → Prop) : z_Q → State → Prop := fun rz => vx_MQ below (m_Qc dC dI aC xa ad sz σ (fun r1 σ1 => Q r1 σ1 ∧ z_ok σ1 ∧ rz = (z_m σ1, r1.map z_v))) (x_XC dC dI aC xa ad sz σ (fun σ1 => Qx σ1 ∧ z_ok σ1 ∧ rz = (z_m σ1, some (9, 0)))) args s mc ms A
theorem m_KX_of {yi : Nat} {K : List (List a_K)} (hK : kt_at yi = K) {l : Launch} {X : Nat → Option (List Int32)} {Y : (Nat → Prop) → State → Heap → Prop} {xa : Nat → Nat} {d : Nat} {y : MethodName} {b : ByteArray} {n : Nat} {r : Option FieldType} {σ : m_H} {as : List Value} {Q : Option Value → m_H → Prop} {Qx : m_H → Prop} (hy : plainName y.cls = true) (hlen : (lg_sl as).length ≤ n) (hnl : Nat.ble n (z_nl yi) = true)
    (body : ∀ (p : Program) (e : Env) (s : State) (m : MethodId) (args : Array Value) (below : List Frame) (meth : Method) (c : Code) (dC : Nat → ClassId) (dI : Nat → Nat → Nat) (aC : Nat → ClassId) (ad : Nat → Nat) (sz : Nat), m_Ctx p s m args meth c b n y.cls dC dI aC (va_A (m_W ad aC σ) sz) xa X Y → meth.sig.returnType = r → (∀ x ∈ c.exceptionTable.toList, False) →
      mW K (z_Ev yi) p l e (m_rm d 1 6) s m args below meth c (m_QX below dC dI aC xa ad sz σ Q Qx args s 1 6 (va_A (m_W ad aC σ) sz)) dC dI aC (va_A (m_W ad aC σ) sz) σ.length ad xa n (σ, 0, 0, 0, lv_args 0 as, [])) : m_KX yi l X Y xa d y b n r σ as Q Qx := by
  intro hz
  subst hK
  refine v_KX_of hy hlen (fun p e s m args below meth c dC dI aC ad sz hC hr htab => ?_)
  refine mV_mono (fun t ht => ?_) (body p e s m args below meth c dC dI aC ad sz hC hr htab (z_cl_Ev yi) hz (z_fr yi (z_s as)) (z_fr_ok (Nat.le_of_ble_eq_true hnl)))
  obtain ⟨rz, h1, o, a1, a2, a3⟩ := ht
  refine ⟨o, a1, a2, ?_⟩
  rcases a3 with ⟨⟨⟨r1, σ1, ad1, b1, ⟨b2, b3, b4⟩, b5⟩, b6⟩, b7⟩ | a3
  · rw [b4] at h1
    exact Or.inl ⟨⟨⟨r1, σ1, ad1, b1, ⟨b2, b3, h1⟩, b5⟩, b6⟩, b7⟩
  · obtain ⟨q, hq, E, ce, L, ⟨e1, ⟨σ1, ad1, ⟨d1, d2, d3⟩, d4⟩, d5⟩, c6⟩ := a3
    rw [d3] at h1
    exact Or.inr ⟨q, hq, E, ce, L, ⟨e1, ⟨σ1, ad1, ⟨d1, d2, h1⟩, d4⟩, d5⟩, c6⟩
section TI
variable {p : Program} {l : Launch} {e : Env} {R : Room} {s : State} {m : MethodId} {args : Array Value} {below : List Frame} {meth : Method} {c : Code} {dC : Nat → ClassId} {dI : Nat → Nat → Nat} {aC : Nat → ClassId} {ad0 xa : Nat → Nat} {nL : Nat} {cc : ByteArray} {X : Nat → Option (List Int32)} {Y : (Nat → Prop) → State → Heap → Prop}
variable {K : List (List a_K)} {Z : z_G → z_Q → Prop}
variable {σ σ0 : m_H} {pc sz : Nat} {ls : List (Nat × Value)} {Q : Option Value → m_H → Prop} {Qx : m_H → Prop}
theorem m_vret {A : Nat → Prop} {n0 mc ms : Nat} {g : m_G} (h : mW K Z p l e R s m args below meth c (m_QZ below dC dI aC xa ad0 sz σ0 Q args s 0 0 (va_A (m_W ad0 aC σ0) sz)) dC dI aC A n0 ad0 xa nL g) : mW K Z p l e R s m args below meth c (m_QX below dC dI aC xa ad0 sz σ0 Q Qx args s mc ms (va_A (m_W ad0 aC σ0) sz)) dC dI aC A n0 ad0 xa nL g := fun hcl hz zl hl => mV_mono (fun t ht => by
  obtain ⟨r, h1, o, b1, b2, b3, L, b4, b5⟩ := ht
  exact ⟨r, h1, o, b1, b2, Or.inl ⟨b3, L, ⟨b4.1, b4.2.1, b4.2.2.mono (Nat.zero_le _) (Nat.zero_le _)⟩, b5⟩⟩) (h hcl hz zl hl)
theorem mW_thr (hC : m_Ctx p s m args meth c cc nL "LetByTheDegree" dC dI aC (va_A (m_W ad0 aC σ0) sz) xa X (yY xa)) (hl : l.stackTraces = false) (htab : ∀ x ∈ c.exceptionTable.toList, False) {is k : Nat} {text : String} (hstr : vk_R "LetByTheDegree" is text (xa k) s) {x0 x1 x2 x3 x4 : List Nat}
    (d0 : z_dx K cc pc (.new 167) 3 x0) (d3 : z_dx K cc (pc + 3) .dup 1 x1) (d4 : z_dx K cc (pc + 4) (.ldc is) 2 x2) (d6 : z_dx K cc (pc + 6) (.invokespecial 171) 3 x3) (d9 : z_dx K cc (pc + 9) .athrow 1 x4) (hR : 6 ≤ R.frames ∧ 240 ≤ R.locals) (hc : 1 ≤ R.cells) (hs : 6 ≤ R.slots) (hQ : Qx σ) :
    mW K Z p l e R s m args below meth c (m_QX below dC dI aC xa ad0 sz σ0 Q Qx args s 1 6 (va_A (m_W ad0 aC σ0) sz)) dC dI aC (va_A (m_W ad0 aC σ0) sz) σ0.length ad0 xa nL (σ, 0, 0, pc, ls, []) := fun hcl hz zl hzl => by
  obtain ⟨fl, hq⟩ := d0.2
  have h1 : Z (z_m σ, pc, zl, []) (z_m σ, some (9, 0)) := hcl.2.1 _ _ _ hq rfl rfl
  exact mV_mono (fun t h => ⟨(z_m σ, some (9, 0)), h1, h⟩) (mV_thr hC hl htab hstr d0.1 d3.1 d4.1 d6.1 d9.1 hR hc hs (Q := fun r1 σ1 => Q r1 σ1 ∧ z_ok σ1 ∧ ((z_m σ, some (9, 0)) : z_Q) = (z_m σ1, r1.map z_v)) (Qx := fun σ1 => Qx σ1 ∧ z_ok σ1 ∧ ((z_m σ, some (9, 0)) : z_Q) = (z_m σ1, some (9, 0))) ⟨hQ, hz, rfl⟩)
theorem mW_thrW (hC : m_Ctx p s m args meth c cc nL "LetByTheDegree" dC dI aC (va_A (m_W ad0 aC σ0) sz) xa X (yY xa)) (hl : l.stackTraces = false) (htab : ∀ x ∈ c.exceptionTable.toList, False) {is k : Nat} {text : String} (hstr : vk_R "LetByTheDegree" is text (xa k) s) {x0 x1 x2 x3 x4 : List Nat}
    (d0 : z_dx K cc pc (.new 167) 3 x0) (d3 : z_dx K cc (pc + 3) .dup 1 x1) (d4 : z_dx K cc (pc + 4) (.ldc_w is) 3 x2) (d6 : z_dx K cc (pc + 7) (.invokespecial 171) 3 x3) (d9 : z_dx K cc (pc + 10) .athrow 1 x4) (hR : 6 ≤ R.frames ∧ 240 ≤ R.locals) (hc : 1 ≤ R.cells) (hs : 6 ≤ R.slots) (hQ : Qx σ) :
    mW K Z p l e R s m args below meth c (m_QX below dC dI aC xa ad0 sz σ0 Q Qx args s 1 6 (va_A (m_W ad0 aC σ0) sz)) dC dI aC (va_A (m_W ad0 aC σ0) sz) σ0.length ad0 xa nL (σ, 0, 0, pc, ls, []) := fun hcl hz zl hzl => by
  obtain ⟨fl, hq⟩ := d0.2
  have h1 : Z (z_m σ, pc, zl, []) (z_m σ, some (9, 0)) := hcl.2.1 _ _ _ hq rfl rfl
  exact mV_mono (fun t h => ⟨(z_m σ, some (9, 0)), h1, h⟩) (mV_thrW hC hl htab hstr d0.1 d3.1 d4.1 d6.1 d9.1 hR hc hs (Q := fun r1 σ1 => Q r1 σ1 ∧ z_ok σ1 ∧ ((z_m σ, some (9, 0)) : z_Q) = (z_m σ1, r1.map z_v)) (Qx := fun σ1 => Qx σ1 ∧ z_ok σ1 ∧ ((z_m σ, some (9, 0)) : z_Q) = (z_m σ1, some (9, 0))) ⟨hQ, hz, rfl⟩)
end TI
/-- the contract of a method that returns, or throws at one of its cuts -/
noncomputable def c_semX (l : Launch) (X : Nat → Option (List Int32)) (Y : (Nat → Prop) → State → Heap → Prop) (xa : Nat → Nat) (d : Nat) (C : A_C) : Prop := match C with
  | (y, E0, args, ov0, mc, tau, dep, alts, _, _) => ∀ (q : a_M), a_mt[y]? = some q → ∀ (ρ0 : List Int) (M z dz : Int) (σ : m_H) (vs : List Value), e_ok M E0 ρ0 → 0 ≤ M → h_ok M σ → l_ev ρ0 tau = some z → 0 ≤ z → M + z ≤ 1073741824 → l_ev ρ0 dep = some dz → dz ≤ (d : Int) → o_ok ρ0 ov0 σ → s_ok ρ0 args vs → (∀ v ∈ vs, m_vOk h_N v) →
    m_KX y l X Y xa d q.1 q.2.1 q.2.2.1 q.2.2.2 σ vs (c_post alts mc (M + z) ρ0 σ) (fun σ' => h_ok (M + z) σ' ∧ h_fr mc σ σ')
theorem c_methX {l : Launch} {X : Nat → Option (List Int32)} {xa : Nat → Nat} {d : Nat} {C : A_C} {q : a_M} {cs : Nat → List A_C} {code : List (List a_K)} {fuel : Nat} (hkt : kt_at C.1 = code) (hIx : ix_K l X (yY xa) xa) (hX : ∀ i, i < 2 → X i = some ((x_tab i).map Int32.ofInt)) (hq : a_mt[C.1]? = some q) (hpl : plainName q.1.cls = true)
    (hk : ∀ r ∈ code, ∀ e ∈ r, k_ok q.1.cls q.2.1 e) (hcy : ∀ y, ∀ C ∈ cs y, C.1 = y) (hcs : ∀ d', d = d' + 1 → ∀ y, ∀ C ∈ cs y, c_sem l X (yY xa) xa d' C) (hc1 : c_pre q.2.2.1 C = true) (hc2 : c_go1 cs q.2.2.1 q.2.2.2 code fuel C (c_start C) = true)
    (hthr : ∀ U ∈ c_cuts C, ∀ (p : Program) (e : Env) (s : State) (m : MethodId) (args : Array Value) (below : List Frame) (meth : Method) (c : Code) (dC : Nat → ClassId) (dI : Nat → Nat → Nat) (aC : Nat → ClassId) (ad : Nat → Nat) (sz : Nat) (σ0 σ : m_H) (ls : List (Nat × Value)) (st : List Value) (Q : Option Value → m_H → Prop) (Qx : m_H → Prop) (ρ : List Int),
      m_Ctx p s m args meth c q.2.1 q.2.2.1 q.1.cls dC dI aC (va_A (m_W ad aC σ0) sz) xa X (yY xa) → (∀ x ∈ c.exceptionTable.toList, False) → s_ok ρ U.2.2.2.2.1 st → Qx σ → mW code (z_Ev C.1) p l e (m_rm d 1 6) s m args below meth c (m_QX below dC dI aC xa ad sz σ0 Q Qx args s 1 6 (va_A (m_W ad aC σ0) sz)) dC dI aC (va_A (m_W ad aC σ0) sz) σ0.length ad xa q.2.2.1 (σ, 0, 0, U.1, ls, st)) : c_semX l X (yY xa) xa d C := by
  obtain ⟨y, E0, args, ov0, mc, tau, dep, alts, cuts, ph0⟩ := C
  have hY := yY_ok xa
  have hYS := yY_str xa
  unfold c_pre at hc1
  unfold c_go1 c_start at hc2
  simp only at hc1 hc2 hq hkt hthr
  obtain ⟨h1, h2⟩ := Bool.and_eq_true _ _ |>.mp hc1
  clear hc1
  split at h1
  · rename_i kc hkc
    split at h2
    · rename_i pp hpp
      intro q' hq' ρ0 M z dz σ vs a1 a2 a3 a4 a5 a6 a7 a8 a9 a10 a11
      obtain rfl : q' = q := Option.some.inj (hq'.symm.trans hq)
      have hidn : h_sub ρ0 (c_idn E0.length) ρ0 := by
        refine ⟨by simp [c_idn, a1.1], fun i b r g1 g2 => ?_⟩
        have hi := (List.getElem?_eq_some_iff.mp g2).1
        have : b = (1, i, 0) := by
          unfold c_idn at g1
          rw [List.getElem?_map, List.getElem?_range (by rw [← a1.1]; exact hi)] at g1
          exact (Option.some.inj g1).symm
        subst this
        show (ρ0[i]?).map (fun r => r + 0) = some r
        rw [g2]; simp
      obtain ⟨fv0, p1, -⟩ := l_app_ok hidn hpp
      refine m_KX_of hkt hpl (by rw [sl_len args vs kc a10 hkc]; exact Nat.le_of_ble_eq_true h1) (z_nl_ok hq) (fun p e s m args' below meth c dC dI aC ad sz hC hrt htab => ?_)
      rw [← hrt] at hc2
      have hR0 : d ≤ (m_rm d 1 6).frames ∧ 40 * d ≤ (m_rm d 1 6).locals := ⟨Nat.le_refl _, Nat.le_refl _⟩
      refine a_go_ok (fv := fv0) hC hY hYS hIx hX (by omega) a1.1 (by rw [a3.1]; exact Nat.le_refl _) hk hcy hcs a7 a8 hR0 (fun B ρ S g i n aux hg hd hrt => m_vret (a_rt_ok (by omega) (fun _ _ z => z) hC hg a1.1 hd hrt)) (fun U' hU' fv' B' ρ' g' hlt h0 hg' => ?_) fuel 1 _ hc2 M ρ0 _ ?_
      · obtain ⟨σ', ce, sl, pc, ls, st⟩ := g'
        have hce : ce = 0 := hg'.ce
        have hsl : sl = 0 := hg'.sl
        have hpc : pc = U'.1 := hg'.pc
        subst hce hsl hpc
        obtain ⟨hB1, zz, z1, z2, z3⟩ := hg'.bu
        exact hthr U' hU' p e s m args' below meth c dC dI aC ad sz σ σ' ls st _ _ ρ' hC htab hg'.s ⟨h_ok_mono (by omega) hg'.h, hg'.fr⟩
      · exact ⟨r_ext.rf, a1, (fun q hq => by cases hq), ⟨a2, z, a4, a5, Int.le_refl _⟩, p1, a3, rfl, rfl, rfl, (a_args_ok args vs 0 kc a10 hkc).2, (fun u hu => a11 _ (lv_args_in vs 0 u hu)), trivial, (fun v hv => by cases hv), a9, (fun p k _ => rfl)⟩
    · cases h2
  · cases h1
end
section
/-! METHODS THAT THROW: those of the class, and the law's that catch -/
def iR : Int × Int × Bool := (-2147483648, 2147483647, false)
def lR : Int × Int × Bool := (-9223372036854775808, 9223372036854775807, false)
def cx_room : A_C := (155, [iR, iR], [(2, 0, 0), (1, 0, 0), (1, 1, 0)], [], [(6, 0, 39), (7, 0, 6)], (0, []), (5, []), [([iR, iR, iR], [], some (1, 2, 0), [])], [(11, [iR, iR], [], [], [], [], (0, []), (0, [])), (136, [iR, iR], [], [], [], [], (0, []), (0, []))], (1, []))
def cx_person : A_C := (156, [iR, iR], [(2, 0, 0), (1, 0, 0), (1, 1, 0)], [], [], (0, []), (5, []), [([iR, iR, iR], [], some (1, 2, 0), [])], [(11, [iR, iR], [], [], [], [], (0, []), (0, [])), (111, [iR, iR], [], [], [], [], (0, []), (0, []))], (1, []))
def cx_row : A_C := (158, [iR], [(2, 0, 0), (1, 0, 0)], [], [], (0, []), (5, []), [([iR, lR], [], some (4, 1, 0), [])], [(12, [iR], [], [], [], [], (0, []), (0, []))], (1, []))
theorem cx_room_p : c_pre 3 cx_room = true := by decide +kernel
theorem cx_person_p : c_pre 3 cx_person = true := by decide +kernel
theorem cx_row_p : c_pre 2 cx_row = true := by decide +kernel
set_option maxRecDepth 100000 in
theorem cx_room_g : c_go1 cs_at 3 (some .int) kt_155 4000 cx_room (c_start cx_room) = true := by decide +kernel
set_option maxRecDepth 100000 in
theorem cx_person_g : c_go1 cs_at 3 (some .int) kt_156 4000 cx_person (c_start cx_person) = true := by decide +kernel
set_option maxRecDepth 100000 in
theorem cx_row_g : c_go1 cs_at 2 (some .long) kt_158 4000 cx_row (c_start cx_row) = true := by decide +kernel
theorem s_nil {ρ : List Int} {st : List Value} (h : s_ok ρ [] st) : st = [] := by
  cases st with
  | nil => rfl
  | cons v t => exact absurd h id
section CX
variable {l : Launch} {X : Nat → Option (List Int32)} {xa : Nat → Nat}
theorem cx_room_sem (hl : l.stackTraces = false) (hX : ∀ i, i < 2 → X i = some ((x_tab i).map Int32.ofInt)) {d : Nat} (hd : 6 ≤ d) (hcy : ∀ y, ∀ C ∈ cs_at y, C.1 = y) (hcs : ∀ d', d = d' + 1 → ∀ y, ∀ C ∈ cs_at y, c_sem l X (yY xa) xa d' C) : c_semX l X (yY xa) xa d cx_room := by
  have hk := k_all_ok (own := "LetByTheDegree") rfl kt_155_ok
  refine c_methX (code := kt_155) rfl (ix_K_ok (yY_ok xa) (yY_str xa)) hX (q := _) rfl (by decide) hk hcy hcs cx_room_p cx_room_g (fun U hU p e s m args below meth c dC dI aC ad sz σ0 σ ls st Q Qx ρ hC htab hst hQ => ?_)
  have hR : 6 ≤ (m_rm d 1 6).frames ∧ 240 ≤ (m_rm d 1 6).locals := ⟨hd, by show 240 ≤ 40 * d; omega⟩
  have hy := hC.2.2.2.2.2.2.2.1.2.2.2.2
  rcases List.mem_cons.mp hU with rfl | hU
  · obtain rfl := s_nil hst
    exact mW_thr hC hl htab hy.2.2.1.1 (kd hk (pc := 11) rfl).1 (kd hk (pc := 14) rfl).1 (kd hk (pc := 15) rfl).1 (kd hk (pc := 17) rfl).1 (kd hk (pc := 20) rfl).1 hR (Nat.le_refl _) (Nat.le_refl _) hQ
  · obtain rfl := List.mem_singleton.mp hU
    obtain rfl := s_nil hst
    exact mW_thr hC hl htab hy.2.2.1.2.1 (kd hk (pc := 136) rfl).1 (kd hk (pc := 139) rfl).1 (kd hk (pc := 140) rfl).1 (kd hk (pc := 142) rfl).1 (kd hk (pc := 145) rfl).1 hR (Nat.le_refl _) (Nat.le_refl _) hQ
theorem cx_person_sem (hl : l.stackTraces = false) (hX : ∀ i, i < 2 → X i = some ((x_tab i).map Int32.ofInt)) {d : Nat} (hd : 6 ≤ d) (hcy : ∀ y, ∀ C ∈ cs_at y, C.1 = y) (hcs : ∀ d', d = d' + 1 → ∀ y, ∀ C ∈ cs_at y, c_sem l X (yY xa) xa d' C) : c_semX l X (yY xa) xa d cx_person := by
  have hk := k_all_ok (own := "LetByTheDegree") rfl kt_156_ok
  refine c_methX (code := kt_156) rfl (ix_K_ok (yY_ok xa) (yY_str xa)) hX (q := _) rfl (by decide) hk hcy hcs cx_person_p cx_person_g (fun U hU p e s m args below meth c dC dI aC ad sz σ0 σ ls st Q Qx ρ hC htab hst hQ => ?_)
  have hR : 6 ≤ (m_rm d 1 6).frames ∧ 240 ≤ (m_rm d 1 6).locals := ⟨hd, by show 240 ≤ 40 * d; omega⟩
  have hy := hC.2.2.2.2.2.2.2.1.2.2.2.2
  rcases List.mem_cons.mp hU with rfl | hU
  · obtain rfl := s_nil hst
    exact mW_thr hC hl htab hy.2.2.1.2.2.1 (kd hk (pc := 11) rfl).1 (kd hk (pc := 14) rfl).1 (kd hk (pc := 15) rfl).1 (kd hk (pc := 17) rfl).1 (kd hk (pc := 20) rfl).1 hR (Nat.le_refl _) (Nat.le_refl _) hQ
  · obtain rfl := List.mem_singleton.mp hU
    obtain rfl := s_nil hst
    exact mW_thr hC hl htab hy.2.2.1.2.2.2.1 (kd hk (pc := 111) rfl).1 (kd hk (pc := 114) rfl).1 (kd hk (pc := 115) rfl).1 (kd hk (pc := 117) rfl).1 (kd hk (pc := 120) rfl).1 hR (Nat.le_refl _) (Nat.le_refl _) hQ
theorem cx_row_sem (hl : l.stackTraces = false) (hX : ∀ i, i < 2 → X i = some ((x_tab i).map Int32.ofInt)) {d : Nat} (hd : 6 ≤ d) (hcy : ∀ y, ∀ C ∈ cs_at y, C.1 = y) (hcs : ∀ d', d = d' + 1 → ∀ y, ∀ C ∈ cs_at y, c_sem l X (yY xa) xa d' C) : c_semX l X (yY xa) xa d cx_row := by
  have hk := k_all_ok (own := "LetByTheDegree") rfl kt_158_ok
  refine c_methX (code := kt_158) rfl (ix_K_ok (yY_ok xa) (yY_str xa)) hX (q := _) rfl (by decide) hk hcy hcs cx_row_p cx_row_g (fun U hU p e s m args below meth c dC dI aC ad sz σ0 σ ls st Q Qx ρ hC htab hst hQ => ?_)
  have hR : 6 ≤ (m_rm d 1 6).frames ∧ 240 ≤ (m_rm d 1 6).locals := ⟨hd, by show 240 ≤ 40 * d; omega⟩
  have hy := hC.2.2.2.2.2.2.2.1.2.2.2.2
  obtain rfl := List.mem_singleton.mp hU
  obtain rfl := s_nil hst
  exact mW_thrW hC hl htab hy.2.2.1.2.2.2.2 (kd hk (pc := 12) rfl).1 (kd hk (pc := 15) rfl).1 (kd hk (pc := 16) rfl).1 (kd hk (pc := 19) rfl).1 (kd hk (pc := 22) rfl).1 hR (Nat.le_refl _) (Nat.le_refl _) hQ
end CX
/-! methods with a table of their own -/
theorem x_ofWH {l : Launch} {y : MethodName} {ws ws' : List Cond} {rm : Room} {Pc : Array Value → State → Prop} {Qc : Array Value → State → Outcome → State → Prop} {mc ms : Nat} {free : Addr → Prop} {cc : ByteArray} {maxL : Nat} {ret : Option FieldType} {hh : List (Nat × Nat × Nat × Nat)}
    (hy : plainName y.cls = true) (hw : ws = Cond.codeWith y cc maxL ret hh :: ws')
    (body : ∀ p e s m args below meth c s₁, BodyLoose p l y (headSpec ws rm) cc maxL ret e s m args below meth c s₁ → c.maxLocals = maxL → Pc args s →
      W p l e (headSpec ws rm).room s m args below meth c s.heap [] 0 0 (MQ below Qc args s mc ms free) (entryFrame m args maxL)) : Met l y ws rm Pc Qc mc ms free := by
  refine MetFree.of_bodyS (code := cc) (maxLocals := maxL) (ret := ret) hy ?_ ?_
  · intro args s m h hn
    obtain ⟨m9, meth, c, hn9, h1, h2, h3, h4, -, h5, h6, -⟩ := Cond.codeWith_spec (atoms_spec (ws := ws) h _ (by rw [hw]; exact List.mem_cons_self))
    cases hn.symm.trans hn9
    exact ⟨meth, c, h1, h2, h3, h4, h5, h6⟩
  · intro p e s m args below meth c s₁ B hml hP _
    have hh0 : s₁.heap = s.heap := by rw [B.state]; rfl
    obtain ⟨t, a1, o, b1, b2, b3⟩ := body p e s m args below meth c s₁ B hml hP s₁ hh0 (Stand.of_body B)
    exact ⟨t, o, a1, b1, b2, ⟨b3.1, b3.2⟩⟩
def m_wsH (y : MethodName) (b : ByteArray) (n : Nat) (r : Option FieldType) (hh : List (Nat × Nat × Nat × Nat)) : List Cond := .codeWith y b n r hh :: a_tb
def m_KH (l : Launch) (X : Nat → Option (List Int32)) (Y : (Nat → Prop) → State → Heap → Prop) (xa : Nat → Nat) (d : Nat) (y : MethodName) (b : ByteArray) (n : Nat) (r : Option FieldType) (hh : List (Nat × Nat × Nat × Nat)) (σ : m_H) (as : List Value) (Q : Option Value → m_H → Prop) (mc ms : Nat) : Prop :=
  ∀ (dC : Nat → ClassId) (dI : Nat → Nat → Nat) (aC : Nat → ClassId) (ad : Nat → Nat) (sz : Nat), (∀ k, ad (m_X0 + k) = xa k) → Met l y (m_wsH y b n r hh) (m_rm d mc ms) (m_Pc dC dI aC X Y xa ad sz σ as) (m_Qc dC dI aC xa ad sz σ Q) mc ms (va_A (m_W ad aC σ) sz)
theorem m_KH_of {l : Launch} {X : Nat → Option (List Int32)} {Y : (Nat → Prop) → State → Heap → Prop} {xa : Nat → Nat} {d : Nat} {y : MethodName} {b : ByteArray} {n : Nat} {r : Option FieldType} {hh : List (Nat × Nat × Nat × Nat)} {σ : m_H} {as : List Value} {Q : Option Value → m_H → Prop} {mc ms : Nat} (hy : plainName y.cls = true) (hlen : (lg_sl as).length ≤ n)
    (body : ∀ (p : Program) (e : Env) (s : State) (m : MethodId) (args : Array Value) (below : List Frame) (meth : Method) (c : Code) (dC : Nat → ClassId) (dI : Nat → Nat → Nat) (aC : Nat → ClassId) (ad : Nat → Nat) (sz : Nat), m_Ctx p s m args meth c b n y.cls dC dI aC (va_A (m_W ad aC σ) sz) xa X Y → meth.sig.returnType = r → c.exceptionTable.toList = tableOf hh →
      mV p l e (m_rm d mc ms) s m args below meth c (MQ below (m_Qc dC dI aC xa ad sz σ Q) args s mc ms (va_A (m_W ad aC σ) sz)) dC dI aC (va_A (m_W ad aC σ) sz) σ.length ad xa n (σ, 0, 0, 0, lv_args 0 as, [])) : m_KH l X Y xa d y b n r hh σ as Q mc ms := by
  intro dC dI aC ad sz hX
  refine x_ofWH (cc := b) (maxL := n) (ret := r) hy rfl ?_
  intro p e s m args below meth c s₁ B hml hv
  obtain ⟨ha, hsz, hP, hK, hD0, hE⟩ := hv
  have hts := atoms_spec (ws := m_wsH y b n r hh) B.pre
  have htab := vx_table (x := y) B (hts _ List.mem_cons_self)
  have hown : s.vm.findClass y.cls = some m.cls := findClass_of_methodNamed B.named
  have hC : m_Ctx p s m args meth c b n y.cls dC dI aC (va_A (m_W ad aC σ) sz) xa X Y := ⟨B.exec, B.bytes, hml, hown, fun w hw => hts w (List.mem_cons_of_mem _ hw), hK, fun q h => Or.inr (by rw [← hsz]; exact h), hE, B.notSynchronized⟩
  have hD := hD0.self (sz := sz)
  have hl := lv_entry (as.map (m_re ad)) (n := n) (by rw [m_sl_len]; exact hlen)
  rw [ha, lg_entry_eq]
  generalize (lg_sl (as.map (m_re ad)) ++ List.replicate (n - (lg_sl (as.map (m_re ad))).length) Slot.unset).toArray = lsC at hl ⊢
  rw [m_lv_args] at hl
  have hb := body p e s m args below meth c dC dI aC ad sz hC B.returns htab ad s.heap [] lsC (fun _ _ => rfl) hX hP hD va_S.rf hl
  rw [← ha]
  exact hb
section GX
variable {p : Program} {l : Launch} {e : Env} {R : Room} {s : State} {m : MethodId} {args : Array Value} {below : List Frame} {meth : Method} {c : Code} {QQ : State → Prop} {dC : Nat → ClassId} {dI : Nat → Nat → Nat} {aC : Nat → ClassId} {A : Nat → Prop} {n0 : Nat} {ad0 xa : Nat → Nat} {nL : Nat} {cc : ByteArray} {own : String} {X : Nat → Option (List Int32)} {Y : (Nat → Prop) → State → Heap → Prop}
variable {σ : m_H} {ce sl pc mc ms : Nat} {ls : List (Nat × Value)} {st as : List Value} {Q : Option Value → m_H → Prop} {Qx : m_H → Prop}
theorem m_goOnX {ad : Nat → Nat} {H : Heap} {locs : List Loc} {lsC : Array Slot} {st0 : List Value} {a : Array Value} (hC : m_Ctx p s m args meth c cc nL own dC dI aC A xa X Y)
    (hr : vx_Run p l e R s m args below meth c H locs ce sl mc ms (F0 m pc lsC st0) (st.map (m_re ad)) (m_Qc dC dI aC xa ad H.size σ Q a) (x_XC dC dI aC xa ad H.size σ Qx) (va_A (m_W ad aC σ) H.size))
    (h1 : ∀ k, k < n0 → ad k = ad0 k) (h2 : ∀ k, ad (m_X0 + k) = xa k) (hn0 : n0 ≤ σ.length) (h4 : va_D A (m_W ad aC σ)) (h5 : va_S A s.heap H locs) (h6 : lv_has lsC nL (m_lv ad ls)) (ho : ∀ v ∈ st, m_vOk σ.length v) (hol : ∀ q ∈ ls, m_vOk σ.length q.2)
    (kk : ∀ (r : Option Value) (σ' : m_H), Q r σ' → mV p l e R s m args below meth c QQ dC dI aC A n0 ad0 xa nL (σ', ce + mc, sl + ms, pc + 3, ls, r.toList ++ st))
    (kx : ∀ (σ' : m_H) (ad' : Nat → Nat) (H' : Heap) (locs' : List Loc) (q : Addr) (cell : Cell) (rest : List Value), Qx σ' → (∀ k, k < n0 → ad' k = ad0 k) → (∀ k, ad' (m_X0 + k) = xa k) → va_P (dC, dI) vwCl (m_W ad' aC σ') H' → va_D A (m_W ad' aC σ') → va_S A s.heap H' locs' → lv_has lsC nL (m_lv ad' ls) → H'[q]? = some cell → cell.vm = .none → s.vm.findClass xN = some cell.cls → vx_W p l e R s m args below meth c H' locs' (ce + mc) (sl + ms) QQ (F0 m pc lsC rest) q) :
    W p l e R s m args below meth c H locs ce sl QQ (F0 m pc lsC st0) := by
  have hfree := m_wfree (aC := aC) hC.2.2.2.2.2.2.1 h4 h5
  intro T hT Xs
  rcases hr T hT Xs with ⟨v, st₀, t, T', L, e0, X', hL, e1, e2, hq, stp⟩ | ⟨q, st₀, t, T', L, E, cell, e0, X', hL, e1, e2, hx, hcell, hv, hcl, stp⟩
  · obtain ⟨⟨r, σ', ad', hv, hQ, g1, g2, g3, g4, g5⟩, hz, hk⟩ := hq
    obtain rfl : v = r.map (m_re ad') := by injection hv
    rw [e0] at hz hk
    have hag : ∀ k, (k < σ.length ∨ m_X0 ≤ k) → ad k = ad' k := by
      intro k hk2
      rcases hk2 with hk2 | hk2
      · exact (g1 k hk2).symm
      · obtain ⟨j, rfl⟩ := Nat.exists_eq_add_of_le hk2
        rw [h2, g2]
    have est : st.map (m_re ad) = st.map (m_re ad') := List.map_congr_left fun v hv => m_re_congr hag (ho v hv)
    have els : m_lv ad ls = m_lv ad' ls := List.map_congr_left fun q hq => by rw [m_re_congr hag (hol q hq)]
    have kk2 := kk r σ' hQ ad' T'.heap (locs ++ L) lsC (fun k h => (g1 k (Nat.lt_of_lt_of_le h hn0)).trans (h1 k h)) g2 (by rw [e1]; exact g3) (g5.weaken fun _ q _ h => hfree _ h)
      ⟨Nat.le_trans h5.1 (by rw [e1]; exact hz), fun q q1 q2 => by rw [e1, hk q (Nat.lt_of_lt_of_le q1 h5.1) (fun z => q2 (hfree q z))]; exact h5.2.1 q q1 q2, fun q hq => by
        rcases List.mem_append.mp hq with h | h
        · exact h5.2.2 q h
        · exact hfree _ (hL q h)⟩ (by rw [← els]; exact h6)
    obtain ⟨t2, a1, b1⟩ := kk2 T' rfl X'
    refine ⟨t2, stp t2 ?_, b1⟩
    have ex : (r.toList ++ st).map (m_re ad') = (r.map (m_re ad')).toList ++ st.map (m_re ad) := by
      rw [List.map_append, est]
      cases r <;> rfl
    have a2 : Steps p.tables e below (T'.setTop (F0 m (pc + 3) lsC ((r.toList ++ st).map (m_re ad')))) t2 := a1
    rw [ex] at a2
    exact a2
  · obtain ⟨rfl, ⟨σ', ad', hQ, g1, g2, g3, g4, g5⟩, hz, hk⟩ := hx
    rw [e0] at hz hk
    have hag : ∀ k, (k < σ.length ∨ m_X0 ≤ k) → ad k = ad' k := by
      intro k hk2
      rcases hk2 with hk2 | hk2
      · exact (g1 k hk2).symm
      · obtain ⟨j, rfl⟩ := Nat.exists_eq_add_of_le hk2
        rw [h2, g2]
    have els : m_lv ad ls = m_lv ad' ls := List.map_congr_left fun q hq => by rw [m_re_congr hag (hol q hq)]
    obtain ⟨t2, a1, b1⟩ := kx σ' ad' T'.heap (locs ++ L) q cell (st.map (m_re ad)) hQ (fun k h => (g1 k (Nat.lt_of_lt_of_le h hn0)).trans (h1 k h)) g2 (by rw [e1]; exact g3) (g5.weaken fun _ q _ h => hfree _ h)
      ⟨Nat.le_trans h5.1 (by rw [e1]; exact hz), fun q q1 q2 => by rw [e1, hk q (Nat.lt_of_lt_of_le q1 h5.1) (fun z => q2 (hfree q z))]; exact h5.2.1 q q1 q2, fun q hq => by
        rcases List.mem_append.mp hq with h | h
        · exact h5.2.2 q h
        · exact hfree _ (hL q h)⟩ (by rw [← els]; exact h6) (by rw [e1]; exact hcell) hv hcl T' rfl X'
    exact ⟨t2, stp.trans a1, b1⟩
/-- a call of an object's method that may throw -/
theorem mV_callVX (hY : m_Yok Y) (hC : m_Ctx p s m args meth c cc nL own dC dI aC A xa X Y) {q ci idx d n : Nat} {r0 : vw_C} {fs : List Value} {y : MethodName} {b : ByteArray} {rt : Option FieldType} (hd : decode cc pc = .ok (.invokevirtual idx, 3)) (hM : v_KX l X Y xa d y b n rt σ (.ref q :: as) Q Qx) (hσ : σ[q]? = some (.inr ci, fs)) (hc : vwCl[ci]? = some r0) (hyc : y.cls = r0.1)
    (w1 : Cond.methodLink own idx y ∈ a_tb) (w2 : Cond.instanceMethod y ∈ a_tb) (w3 : Cond.selects r0.1 y y ∈ a_tb) (w4 : Cond.initialized r0.1 ∈ a_tb) (w5 : Cond.code y b n rt ∈ a_tb) (hy : y.cls ≠ "java/lang/invoke/MethodHandle" ∧ y.cls ≠ "java/lang/invoke/VarHandle") (hlen : (parseMethodDescriptor y.desc).map (fun d => d.parameters.length) = some as.length)
    (hR : d + 1 ≤ R.frames ∧ 40 * d + 40 ≤ R.locals) (h20 : n ≤ 20) (hce : ce + 1 ≤ R.cells) (hsl : sl + 6 ≤ R.slots) (h8 : (st.map fun v => v.category).sum ≤ 8) (hn0 : n0 ≤ σ.length) (ho : ∀ v ∈ st, m_vOk σ.length v) (hol : ∀ q ∈ ls, m_vOk σ.length q.2)
    (kk : ∀ (r : Option Value) (σ' : m_H), Q r σ' → mV p l e R s m args below meth c QQ dC dI aC A n0 ad0 xa nL (σ', ce + 1, sl + 6, pc + 3, ls, r.toList ++ st))
    (kx : ∀ (σ' : m_H) (ad' : Nat → Nat) (H' : Heap) (locs' : List Loc) (lsC : Array Slot) (q : Addr) (cell : Cell) (rest : List Value), Qx σ' → (∀ k, k < n0 → ad' k = ad0 k) → (∀ k, ad' (m_X0 + k) = xa k) → va_P (dC, dI) vwCl (m_W ad' aC σ') H' → va_D A (m_W ad' aC σ') → va_S A s.heap H' locs' → lv_has lsC nL (m_lv ad' ls) → H'[q]? = some cell → cell.vm = .none → s.vm.findClass xN = some cell.cls → vx_W p l e R s m args below meth c H' locs' (ce + 1) (sl + 6) QQ (F0 m pc lsC rest) q) :
    mV p l e R s m args below meth c QQ dC dI aC A n0 ad0 xa nL (σ, ce, sl, pc, ls, as.reverse ++ .ref q :: st) := by
  intro ad H locs lsC h1 h2 h3 h4 h5 h6
  have hG : GoodIn a_tb (wsV own idx r0.1 y (m_ws y b n rt)) := a_good fun w hw => by
    rcases List.mem_append.mp hw with h | h
    · simp only [List.mem_cons, List.not_mem_nil, or_false] at h
      rcases h with rfl | rfl | rfl | rfl <;> assumption
    · exact m_wsIn w5 w h
  refine m_goOnX hC (ad := ad) (σ := σ) (H := H) (locs := locs) (vx_runV (As := as.map (m_re ad)) (rest := st.map (m_re ad)) (g := F0 m pc lsC ((as.reverse ++ .ref q :: st).map (m_re ad))) hC.fix (hM dC dI aC ad H.size h2)
    (cwV as.length hC.2.2.2.2.1 hG rfl rfl rfl ⟨hyc, hy.1, hy.2, hlen⟩ (m_room hR h20)) ⟨m_blind hY, va_recv hC.2.2.2.2.2.1 h3 hc (m_W_at hσ), m_pre (as := .ref q :: as) hY hC h3 h4 h5⟩ rfl (by simp) h6.1 (by simp [m_re]) (m_cats8 h8 _) hd ⟨hce, hsl⟩) h1 h2 hn0 h4 h5 h6 ho hol kk (fun σ' ad' H' locs' q cell rest a1 a2 a3 a4 a5 a6 a7 a8 a9 a10 => kx σ' ad' H' locs' lsC q cell rest a1 a2 a3 a4 a5 a6 a7 a8 a9 a10)
/-- a static call of a method with a table of its own -/
theorem mV_callSH (hY : m_Yok Y) (hC : m_Ctx p s m args meth c cc nL own dC dI aC A xa X Y) {idx d n : Nat} {y : MethodName} {b : ByteArray} {rt : Option FieldType} {hh : List (Nat × Nat × Nat × Nat)} (hd : decode cc pc = .ok (.invokestatic idx, 3)) (hM : m_KH l X Y xa d y b n rt hh σ as Q mc ms)
    (w1 : Cond.methodLink own idx y ∈ a_tb) (w2 : Cond.static y ∈ a_tb) (w4 : Cond.initialized y.cls ∈ a_tb) (w5 : Cond.codeWith y b n rt hh ∈ a_tb) (hy : y.cls ≠ "java/lang/invoke/MethodHandle" ∧ y.cls ≠ "java/lang/invoke/VarHandle") (hlen : (parseMethodDescriptor y.desc).map (fun d => d.parameters.length) = some as.length)
    (hR : d + 1 ≤ R.frames ∧ 40 * d + 40 ≤ R.locals) (h20 : n ≤ 20) (hce : ce + mc ≤ R.cells) (hsl : sl + ms ≤ R.slots) (h8 : (st.map fun v => v.category).sum ≤ 8) (hn0 : n0 ≤ σ.length) (ho : ∀ v ∈ st, m_vOk σ.length v) (hol : ∀ q ∈ ls, m_vOk σ.length q.2)
    (kk : ∀ (r : Option Value) (σ' : m_H), Q r σ' → mV p l e R s m args below meth c QQ dC dI aC A n0 ad0 xa nL (σ', ce + mc, sl + ms, pc + 3, ls, r.toList ++ st)) : mV p l e R s m args below meth c QQ dC dI aC A n0 ad0 xa nL (σ, ce, sl, pc, ls, as.reverse ++ st) := by
  intro ad H locs lsC h1 h2 h3 h4 h5 h6
  have hG : GoodIn a_tb (va_wsS own idx y (m_wsH y b n rt hh)) := a_good fun w hw => by
    rcases List.mem_append.mp hw with h | h
    · simp only [List.mem_cons, List.not_mem_nil, or_false] at h
      rcases h with rfl | rfl | rfl <;> assumption
    · rcases List.mem_cons.mp h with rfl | h
      · exact w5
      · exact h
  refine m_goOn hC (ad := ad) (σ := σ) (H := H) (locs := locs) (vx_runSW (As := as.map (m_re ad)) (rest := st.map (m_re ad)) (g := F0 m pc lsC ((as.reverse ++ st).map (m_re ad))) hC.fix (hM dC dI aC ad H.size h2)
    (vx_cwSW as.length hC.2.2.2.2.1 hG rfl rfl rfl ⟨hy.1, hy.2, hlen⟩ (m_room hR h20)) ⟨m_blind hY, m_pre (as := as) hY hC h3 h4 h5⟩ rfl (by simp) h6.1 (by simp) (m_cats8 h8 _) hd ⟨hce, hsl⟩) h1 h2 hn0 h4 h5 h6 ho hol kk
end GX
end
