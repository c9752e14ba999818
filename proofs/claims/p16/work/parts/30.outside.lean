section
/-! WHAT LIES OUTSIDE: the strings of the class, the row of State, what a throw needs -/
def yY (xa : Nat → Nat) : (Nat → Prop) → State → Heap → Prop := fun A U H => y_str xa A U H ∧ va_AO "LetByTheDegree$State" U ∧ (vk_R "LetByTheDegree" 169 "no such room" (xa 5) U ∧ vk_R "LetByTheDegree" 193 "nothing such is told of a room" (xa 6) U ∧ vk_R "LetByTheDegree" 198 "no such person" (xa 7) U ∧ vk_R "LetByTheDegree" 220 "nothing such is told of a person" (xa 8) U ∧ vk_R "LetByTheDegree" 456 "no such number of the row" (xa 9) U) ∧ vx_Zq Bundle.tN "UNASSIGNED_STACK" Bundle.steD A U H ∧ vx_Zq Bundle.tN "SUPPRESSED_SENTINEL" Bundle.listD A U H ∧ va_Nw (.castable xN xN) U ∧ va_Nw (.declares (Bundle.initS "java/lang/RuntimeException")) U ∧ va_Nw (.declares (Bundle.initS "java/lang/Exception")) U ∧ va_Nw (.declares (Bundle.initS Bundle.tN)) U
theorem yY_ok (xa : Nat → Nat) : m_Yok (yY xa) := by
  refine ⟨fun A u U H hv h => ?_, fun A u U H hW h => ?_, fun A U H H1 hq h => ?_, fun A B U H hAB h => ?_⟩
  · have ha : u.vm.Alike U.vm := by rw [hv]; exact Vm.Alike.refl _
    obtain ⟨⟨a1, a2, a3, a4, a5, a6⟩, b, ⟨c1, c2, c3, c4, c5⟩, d, e, n1, n2, n3, n4⟩ := h
    exact ⟨⟨a1.same hv, a2.moved ha, a3.moved ha, a4.moved ha, a5.moved ha, a6.moved ha⟩, b.moved ha, ⟨c1.same hv, c2.same hv, c3.same hv, c4.same hv, c5.same hv⟩, d.moved ha, e.moved ha, va_Nw.same rfl hv.symm n1, va_Nw.same rfl hv.symm n2, va_Nw.same rfl hv.symm n3, va_Nw.same rfl hv.symm n4⟩
  · have ha : u.vm.Alike U.vm := hW.alike
    obtain ⟨⟨a1, a2, a3, a4, a5, a6⟩, b, ⟨c1, c2, c3, c4, c5⟩, d, e, n1, n2, n3, n4⟩ := h
    exact ⟨⟨a1.warm hW, a2.moved ha, a3.moved ha, a4.moved ha, a5.moved ha, a6.moved ha⟩, b.moved ha, ⟨c1.warm hW, c2.warm hW, c3.warm hW, c4.warm hW, c5.warm hW⟩, d.moved ha, e.moved ha, va_Nw.warmC hW n1, va_Nw.warmD hW n2, va_Nw.warmD hW n3, va_Nw.warmD hW n4⟩
  · obtain ⟨⟨a1, a2, a3, a4, a5, a6⟩, b, c, d, e, n⟩ := h
    exact ⟨⟨a1, a2.kept hq, a3.kept hq, a4.kept hq, a5.kept hq, a6.kept hq⟩, b, c, d.kept hq, e.kept hq, n⟩
  · obtain ⟨⟨a1, a2, a3, a4, a5, a6⟩, b, c, d, e, n⟩ := h
    exact ⟨⟨a1, a2.narrow hAB, a3.narrow hAB, a4.narrow hAB, a5.narrow hAB, a6.narrow hAB⟩, b, c, d.narrow hAB, e.narrow hAB, n⟩
theorem yY_str (xa : Nat → Nat) : ∀ A U H, yY xa A U H → y_str xa A U H := fun _ _ _ h => h.1
theorem yY_AO (xa : Nat → Nat) : ∀ A U H, yY xa A U H → va_AO "LetByTheDegree$State" U := fun _ _ _ h => h.2.1
/-! a throw of the class -/
def y_bad : List Cond := [.castable xN xN, .declares (Bundle.initS "java/lang/RuntimeException"), .declares (Bundle.initS "java/lang/Exception"), .declares (Bundle.initS Bundle.tN)]
theorem y_split : ∀ w ∈ y_at "LetByTheDegree" 171, w ∈ a_tb ∨ w ∈ y_bad := by
  have h : (y_at "LetByTheDegree" 171).all (fun w => decide (w ∈ y_bad) || (y_pl.any (fun q => decide (g_nth (a_part q.1) q.2 = some w) && goodWord w) || decide (w ∈ a_tb))) = true := by decide +kernel
  intro w hw
  rcases Bool.or_eq_true _ _ |>.mp (List.all_eq_true.mp h w hw) with h | h
  · exact Or.inr (of_decide_eq_true h)
  · rcases Bool.or_eq_true _ _ |>.mp h with h | h
    · obtain ⟨q, -, hq⟩ := List.any_eq_true.mp h
      obtain ⟨h1, h2⟩ := Bool.and_eq_true _ _ |>.mp hq
      exact Or.inl (a_inG (of_decide_eq_true h1) h2)
    · exact Or.inl (of_decide_eq_true h)
theorem y_ot_all : ∀ w ∈ Cond.classLink "LetByTheDegree" 167 xN :: Cond.initialized xN :: y_at "LetByTheDegree" 171, vx_ot w = true := by
  have h : (Cond.classLink "LetByTheDegree" 167 xN :: Cond.initialized xN :: y_at "LetByTheDegree" 171).all vx_ot = true := by decide +kernel
  exact fun w hw => List.all_eq_true.mp h w hw
theorem x_cl : Cond.classLink "LetByTheDegree" 167 xN ∈ a_tb := a_in (k := 6) (i := 49) rfl rfl
theorem x_ini : Cond.initialized xN ∈ a_tb := a_in (k := 1) (i := 25) rfl rfl
def x_XC (dC : Nat → ClassId) (dI : Nat → Nat → Nat) (aC : Nat → ClassId) (xa ad : Nat → Nat) (sz : Nat) (σ : m_H) (Qx : m_H → Prop) : String → State → State → Prop := fun E st t =>
  E = xN ∧ (∃ (σ' : m_H) (ad' : Nat → Nat), Qx σ' ∧ (∀ k, k < σ.length → ad' k = ad k) ∧ (∀ k, ad' (m_X0 + k) = xa k) ∧ va_P (dC, dI) vwCl (m_W ad' aC σ') t.heap ∧ va_K (dC, dI) vwCl (m_tys aC) t ∧ va_D (va_A (m_W ad aC σ) sz) (m_W ad' aC σ')) ∧ va_F (va_A (m_W ad aC σ) sz) st t
/-- from the cells σ and these arguments the method comes back, or it throws, and what it leaves is Q's, or Qx's -/
def v_KX (l : Launch) (X : Nat → Option (List Int32)) (Y : (Nat → Prop) → State → Heap → Prop) (xa : Nat → Nat) (d : Nat) (y : MethodName) (b : ByteArray) (n : Nat) (r : Option FieldType) (σ : m_H) (as : List Value) (Q : Option Value → m_H → Prop) (Qx : m_H → Prop) : Prop :=
  ∀ (dC : Nat → ClassId) (dI : Nat → Nat → Nat) (aC : Nat → ClassId) (ad : Nat → Nat) (sz : Nat), (∀ k, ad (m_X0 + k) = xa k) → vx_Met l y (m_ws y b n r) (m_rm d 1 6) (m_Pc dC dI aC X Y xa ad sz σ as) (m_Qc dC dI aC xa ad sz σ Q) (x_XC dC dI aC xa ad sz σ Qx) 1 6 (va_A (m_W ad aC σ) sz)
theorem v_KX_of {l : Launch} {X : Nat → Option (List Int32)} {Y : (Nat → Prop) → State → Heap → Prop} {xa : Nat → Nat} {d : Nat} {y : MethodName} {b : ByteArray} {n : Nat} {r : Option FieldType} {σ : m_H} {as : List Value} {Q : Option Value → m_H → Prop} {Qx : m_H → Prop} (hy : plainName y.cls = true) (hlen : (lg_sl as).length ≤ n)
    (body : ∀ (p : Program) (e : Env) (s : State) (m : MethodId) (args : Array Value) (below : List Frame) (meth : Method) (c : Code) (dC : Nat → ClassId) (dI : Nat → Nat → Nat) (aC : Nat → ClassId) (ad : Nat → Nat) (sz : Nat), m_Ctx p s m args meth c b n y.cls dC dI aC (va_A (m_W ad aC σ) sz) xa X Y → meth.sig.returnType = r → (∀ x ∈ c.exceptionTable.toList, False) →
      mV p l e (m_rm d 1 6) s m args below meth c (vx_MQ below (m_Qc dC dI aC xa ad sz σ Q) (x_XC dC dI aC xa ad sz σ Qx) args s 1 6 (va_A (m_W ad aC σ) sz)) dC dI aC (va_A (m_W ad aC σ) sz) σ.length ad xa n (σ, 0, 0, 0, lv_args 0 as, [])) : v_KX l X Y xa d y b n r σ as Q Qx := by
  intro dC dI aC ad sz hX
  refine vx_ofW (cc := b) (maxL := n) (ret := r) hy rfl ?_
  intro p e s m args below meth c s₁ B hml htab hv
  obtain ⟨ha, hsz, hP, hK, hD0, hE⟩ := hv
  have hts := atoms_spec (ws := m_ws y b n r) B.pre
  have hown : s.vm.findClass y.cls = some m.cls := findClass_of_methodNamed B.named
  have hC : m_Ctx p s m args meth c b n y.cls dC dI aC (va_A (m_W ad aC σ) sz) xa X Y := ⟨B.exec, B.bytes, hml, hown, fun w hw => hts w (List.mem_cons_of_mem _ hw), hK, fun q h => Or.inr (by rw [← hsz]; exact h), hE, B.notSynchronized⟩
  have hD := hD0.self (sz := sz)
  have hl := lv_entry (as.map (m_re ad)) (n := n) (by rw [m_sl_len]; exact hlen)
  rw [ha, lg_entry_eq]
  generalize (lg_sl (as.map (m_re ad)) ++ List.replicate (n - (lg_sl (as.map (m_re ad))).length) Slot.unset).toArray = lsC at hl ⊢
  rw [m_lv_args] at hl
  have hb := body p e s m args below meth c dC dI aC ad sz hC B.returns htab ad s.heap [] lsC (fun _ _ => rfl) hX hP hD va_S.rf hl
  rw [← ha]
  exact hb
section TH
variable {p : Program} {l : Launch} {e : Env} {R : Room} {s : State} {m : MethodId} {args : Array Value} {below : List Frame} {meth : Method} {c : Code} {dC : Nat → ClassId} {dI : Nat → Nat → Nat} {aC : Nat → ClassId} {ad0 xa : Nat → Nat} {nL : Nat} {cc : ByteArray} {X : Nat → Option (List Int32)} {Y : (Nat → Prop) → State → Heap → Prop}
variable {σ σ0 : m_H} {pc sz : Nat} {ls : List (Nat × Value)} {Q : Option Value → m_H → Prop} {Qx : m_H → Prop}
theorem y_words {A : Nat → Prop} {own : String} (hC : m_Ctx p s m args meth c cc nL own dC dI aC A xa X Y) (hn : va_Nw (.castable xN xN) s ∧ va_Nw (.declares (Bundle.initS "java/lang/RuntimeException")) s ∧ va_Nw (.declares (Bundle.initS "java/lang/Exception")) s ∧ va_Nw (.declares (Bundle.initS Bundle.tN)) s) : ∀ w ∈ y_at "LetByTheDegree" 171, w.before args s = true := fun w hw => by
  rcases y_split w hw with h | h
  · exact m_ctb hC h
  · simp only [y_bad, List.mem_cons, List.not_mem_nil, or_false] at h
    rcases h with rfl | rfl | rfl | rfl
    · exact va_Nw.use rfl hn.1
    · exact va_Nw.use rfl hn.2.1
    · exact va_Nw.use rfl hn.2.2.1
    · exact va_Nw.use rfl hn.2.2.2
theorem v_vret {A : Nat → Prop} {n0 : Nat} {Qc : Array Value → State → Outcome → State → Prop} {XC : String → State → State → Prop} {mc ms : Nat} {free : Addr → Prop} {g : m_G} (h : mV p l e R s m args below meth c (MQ below Qc args s 0 0 free) dC dI aC A n0 ad0 xa nL g) : mV p l e R s m args below meth c (vx_MQ below Qc XC args s mc ms free) dC dI aC A n0 ad0 xa nL g := fun ad H locs lsC h1 h2 h3 h4 h5 h6 T hT X => by
  obtain ⟨t, a1, o, b1, b2, b3, L, b4, b5⟩ := h ad H locs lsC h1 h2 h3 h4 h5 h6 T hT X
  exact ⟨t, a1, o, b1, b2, Or.inl ⟨b3, L, ⟨b4.1, b4.2.1, b4.2.2.mono (Nat.zero_le _) (Nat.zero_le _)⟩, b5⟩⟩
theorem x_out {ad : Nat → Nat} {H : Heap} {locs : List Loc} {A : Nat → Prop} (hA : A = va_A (m_W ad0 aC σ0) sz) (hK : va_K (dC, dI) vwCl (m_tys aC) s) (hQ : Qx σ) (h1 : ∀ k, k < σ0.length → ad k = ad0 k) (h2 : ∀ k, ad (m_X0 + k) = xa k) (h3 : va_P (dC, dI) vwCl (m_W ad aC σ) H) (h4 : va_D A (m_W ad aC σ)) (h5 : va_S A s.heap H locs) :
    ∀ t : State, s.vm.Alike t.vm → H.size ≤ t.heap.size → (∀ q : Nat, q < H.size → t.heap[q]? = H[q]?) → x_XC dC dI aC xa ad0 sz σ0 Qx xN s t := fun t ha hsz hq => by
  subst hA
  exact ⟨rfl, ⟨σ, ad, hQ, h1, h2, h3.kept (fun k q hk => hq _ (vx_lt h3 hk)), va_K.moved ha hK, h4⟩, ⟨Nat.le_trans h5.1 hsz, fun q hq1 hq2 => (hq q (Nat.lt_of_lt_of_le hq1 h5.1)).trans (h5.2.1 q hq1 hq2)⟩⟩
theorem mV_thr (hC : m_Ctx p s m args meth c cc nL "LetByTheDegree" dC dI aC (va_A (m_W ad0 aC σ0) sz) xa X (yY xa)) (hl : l.stackTraces = false) (htab : ∀ x ∈ c.exceptionTable.toList, False) {is k : Nat} {text : String} (hstr : vk_R "LetByTheDegree" is text (xa k) s)
    (d0 : decode cc pc = .ok (.new 167, 3)) (d3 : decode cc (pc + 3) = .ok (.dup, 1)) (d4 : decode cc (pc + 4) = .ok (.ldc is, 2)) (d6 : decode cc (pc + 6) = .ok (.invokespecial 171, 3)) (d9 : decode cc (pc + 9) = .ok (.athrow, 1)) (hR : 6 ≤ R.frames ∧ 240 ≤ R.locals) (hc : 1 ≤ R.cells) (hs : 6 ≤ R.slots) (hQ : Qx σ) :
    mV p l e R s m args below meth c (vx_MQ below (m_Qc dC dI aC xa ad0 sz σ0 Q) (x_XC dC dI aC xa ad0 sz σ0 Qx) args s 1 6 (va_A (m_W ad0 aC σ0) sz)) dC dI aC (va_A (m_W ad0 aC σ0) sz) σ0.length ad0 xa nL (σ, 0, 0, pc, ls, []) := by
  intro ad H locs lsC h1 h2 h3 h4 h5 h6
  have hY := hC.2.2.2.2.2.2.2.1.2.2.2.2
  refine y_throwS (own := "LetByTheDegree") (A := va_A (m_W ad0 aC σ0) sz) hC.1 hC.2.1 hl hC.2.2.2.1 (m_ctb hC x_cl) (m_ctb hC x_ini) hstr (y_words hC hY.2.2.2.2.2) y_ot_all hY.2.2.2.1 hY.2.2.2.2.1 h5 (h6.1.trans hC.2.2.1.symm) d0 d3 d4 d6 d9 (fun x hx => absurd (htab x hx) id) ?_ ?_ (by omega) (by omega) hC.2.2.2.2.2.2.2.2 (x_out rfl hC.2.2.2.2.2.1 hQ h1 h2 h3 h4 h5) h5.2.2 (Nat.le_refl _) (Nat.le_refl _)
  · show 2 + 3 < R.frames
    omega
  · show 0 + (13 * (2 + 1) + 43) ≤ R.locals
    omega
theorem mV_thrW (hC : m_Ctx p s m args meth c cc nL "LetByTheDegree" dC dI aC (va_A (m_W ad0 aC σ0) sz) xa X (yY xa)) (hl : l.stackTraces = false) (htab : ∀ x ∈ c.exceptionTable.toList, False) {is k : Nat} {text : String} (hstr : vk_R "LetByTheDegree" is text (xa k) s)
    (d0 : decode cc pc = .ok (.new 167, 3)) (d3 : decode cc (pc + 3) = .ok (.dup, 1)) (d4 : decode cc (pc + 4) = .ok (.ldc_w is, 3)) (d6 : decode cc (pc + 7) = .ok (.invokespecial 171, 3)) (d9 : decode cc (pc + 10) = .ok (.athrow, 1)) (hR : 6 ≤ R.frames ∧ 240 ≤ R.locals) (hc : 1 ≤ R.cells) (hs : 6 ≤ R.slots) (hQ : Qx σ) :
    mV p l e R s m args below meth c (vx_MQ below (m_Qc dC dI aC xa ad0 sz σ0 Q) (x_XC dC dI aC xa ad0 sz σ0 Qx) args s 1 6 (va_A (m_W ad0 aC σ0) sz)) dC dI aC (va_A (m_W ad0 aC σ0) sz) σ0.length ad0 xa nL (σ, 0, 0, pc, ls, []) := by
  intro ad H locs lsC h1 h2 h3 h4 h5 h6
  have hY := hC.2.2.2.2.2.2.2.1.2.2.2.2
  refine y_throwSW (own := "LetByTheDegree") (A := va_A (m_W ad0 aC σ0) sz) hC.1 hC.2.1 hl hC.2.2.2.1 (m_ctb hC x_cl) (m_ctb hC x_ini) hstr (y_words hC hY.2.2.2.2.2) y_ot_all hY.2.2.2.1 hY.2.2.2.2.1 h5 (h6.1.trans hC.2.2.1.symm) d0 d3 d4 d6 d9 (fun x hx => absurd (htab x hx) id) ?_ ?_ (by omega) (by omega) hC.2.2.2.2.2.2.2.2 (x_out rfl hC.2.2.2.2.2.1 hQ h1 h2 h3 h4 h5) h5.2.2 (Nat.le_refl _) (Nat.le_refl _)
  · show 2 + 3 < R.frames
    omega
  · show 0 + (13 * (2 + 1) + 43) ≤ R.locals
    omega
end TH
theorem v_KX.mono {l : Launch} {X : Nat → Option (List Int32)} {Y : (Nat → Prop) → State → Heap → Prop} {xa : Nat → Nat} {d : Nat} {y : MethodName} {b : ByteArray} {n : Nat} {r : Option FieldType} {σ : m_H} {as : List Value} {Q Q' : Option Value → m_H → Prop} {Qx Qx' : m_H → Prop} (k : v_KX l X Y xa d y b n r σ as Q Qx) (h : ∀ r σ', Q r σ' → Q' r σ') (hx : ∀ σ', Qx σ' → Qx' σ') : v_KX l X Y xa d y b n r σ as Q' Qx' := fun dC dI aC ad sz hX => by
  have hM := k dC dI aC ad sz hX
  intro p e ha hf hc s m args below hfr hap hP hK
  obtain ⟨n', o, h1, h2, h3, h4⟩ := hM p e ha hf hc s m args below hfr hap hP hK
  refine ⟨n', o, h1, h2, h3, ?_⟩
  rcases h4 with ⟨⟨⟨r, σ', ad', q1, q2, q3⟩, q4⟩, hL⟩ | ⟨q, hq, E, ce, L, ⟨e1, ⟨σ1, ad1, d1, d4⟩, d5⟩, c6⟩
  · exact Or.inl ⟨⟨⟨r, σ', ad', q1, h r σ' q2, q3⟩, q4⟩, hL⟩
  · exact Or.inr ⟨q, hq, E, ce, L, ⟨e1, ⟨σ1, ad1, hx _ d1, d4⟩, d5⟩, c6⟩
noncomputable def m_KX (yi : Nat) (l : Launch) (X : Nat → Option (List Int32)) (Y : (Nat → Prop) → State → Heap → Prop) (xa : Nat → Nat) (d : Nat) (y : MethodName) (b : ByteArray) (n : Nat) (r : Option FieldType) (σ : m_H) (as : List Value) (Q : Option Value → m_H → Prop) (Qx : m_H → Prop) : Prop :=
  z_ok σ → v_KX l X Y xa d y b n r σ as (fun r1 σ1 => Q r1 σ1 ∧ z_ok σ1 ∧ z_Ev yi (z_m σ, 0, z_fr yi (z_s as), []) (z_m σ1, r1.map z_v)) (fun σ1 => Qx σ1 ∧ z_ok σ1 ∧ z_Ev yi (z_m σ, 0, z_fr yi (z_s as), []) (z_m σ1, some (9, 0)))
noncomputable def m_QX (below : List Frame) (dC : Nat → ClassId) (dI : Nat → Nat → Nat) (aC : Nat → ClassId) (xa ad : Nat → Nat) (sz : Nat) (σ : m_H) (Q : Option Value → m_H → Prop) (Qx : m_H → Prop) (args : Array Value) (s : State) (mc ms : Nat) (A : Nat → Prop) : z_Q → State → Prop := fun rz => vx_MQ below (m_Qc dC dI aC xa ad sz σ (fun r1 σ1 => Q r1 σ1 ∧ z_ok σ1 ∧ rz = (z_m σ1, r1.map z_v))) (x_XC dC dI aC xa ad sz σ (fun σ1 => Qx σ1 ∧ z_ok σ1 ∧ rz = (z_m σ1, some (9, 0)))) args s mc ms A
theorem m_KX_of {yi : Nat} {K : List (List a_K)} (hK : kt_at yi = K) {l : Launch} {X : Nat → Option (List Int32)} {Y : (Nat → Prop) → State → Heap → Prop} {xa : Nat → Nat} {d : Nat} {y : MethodName} {b : ByteArray} {n : Nat} {r : Option FieldType} {σ : m_H} {as : List Value} {Q : Option Value → m_H → Prop} {Qx : m_H → Prop} (hy : plainName y.cls = true) (hlen : (lg_sl as).length ≤ n) (hnl : Nat.ble n (z_nl yi) = true)
    (body : ∀ (p : Program) (e : Env) (s : State) (m : MethodId) (args : Array Value) (below : List Frame) (meth : Method) (c : Code) (dC : Nat → ClassId) (dI : Nat → Nat → Nat) (aC : Nat → ClassId) (ad : Nat → Nat) (sz : Nat), m_Ctx p s m args meth c b n y.cls dC dI aC (va_A (m_W ad aC σ) sz) xa X Y → meth.sig.returnType = r → (∀ x ∈ c.exceptionTable.toList, False) →
      mW K (z_Ev yi) p l e (m_rm d 1 6) s m args below meth c (m_QX below dC dI aC xa ad sz σ Q Qx args s 1 6 (va_A (m_W ad aC σ) sz)) dC dI aC (va_A (m_W ad aC σ) sz) σ.length ad xa n (σ, 0, 0, 0, lv_args 0 as, [])) : m_KX yi l X Y xa d y b n r σ as Q Qx := by
  intro hz
  subst hK
  refine v_KX_of hy hlen (fun p e s m args below meth c dC dI aC ad sz hC hr htab => ?_)
  refine mV_mono (fun t ht => ?_) (body p e s m args below meth c dC dI aC ad sz hC hr htab (z_cl_Ev yi) hz (z_fr yi (z_s as)) (z_fr_ok (Nat.le_of_ble_eq_true hnl)))
  obtain ⟨rz, h1, o, a1, a2, a3⟩ := ht
  refine ⟨o, a1, a2, ?_⟩
  rcases a3 with ⟨⟨⟨r1, σ1, ad1, b1, ⟨b2, b3, b4⟩, b5⟩, b6⟩, b7⟩ | a3
  · rw [b4] at h1
    exact Or.inl ⟨⟨⟨r1, σ1, ad1, b1, ⟨b2, b3, h1⟩, b5⟩, b6⟩, b7⟩
  · obtain ⟨q, hq, E, ce, L, ⟨e1, ⟨σ1, ad1, ⟨d1, d2, d3⟩, d4⟩, d5⟩, c6⟩ := a3
    rw [d3] at h1
    exact Or.inr ⟨q, hq, E, ce, L, ⟨e1, ⟨σ1, ad1, ⟨d1, d2, h1⟩, d4⟩, d5⟩, c6⟩
section TI
variable {p : Program} {l : Launch} {e : Env} {R : Room} {s : State} {m : MethodId} {args : Array Value} {below : List Frame} {meth : Method} {c : Code} {dC : Nat → ClassId} {dI : Nat → Nat → Nat} {aC : Nat → ClassId} {ad0 xa : Nat → Nat} {nL : Nat} {cc : ByteArray} {X : Nat → Option (List Int32)} {Y : (Nat → Prop) → State → Heap → Prop}
variable {K : List (List a_K)} {Z : z_G → z_Q → Prop}
variable {σ σ0 : m_H} {pc sz : Nat} {ls : List (Nat × Value)} {Q : Option Value → m_H → Prop} {Qx : m_H → Prop}
theorem m_vret {A : Nat → Prop} {n0 mc ms : Nat} {g : m_G} (h : mW K Z p l e R s m args below meth c (m_QZ below dC dI aC xa ad0 sz σ0 Q args s 0 0 (va_A (m_W ad0 aC σ0) sz)) dC dI aC A n0 ad0 xa nL g) : mW K Z p l e R s m args below meth c (m_QX below dC dI aC xa ad0 sz σ0 Q Qx args s mc ms (va_A (m_W ad0 aC σ0) sz)) dC dI aC A n0 ad0 xa nL g := fun hcl hz zl hl => mV_mono (fun t ht => by
  obtain ⟨r, h1, o, b1, b2, b3, L, b4, b5⟩ := ht
  exact ⟨r, h1, o, b1, b2, Or.inl ⟨b3, L, ⟨b4.1, b4.2.1, b4.2.2.mono (Nat.zero_le _) (Nat.zero_le _)⟩, b5⟩⟩) (h hcl hz zl hl)
theorem mW_thr (hC : m_Ctx p s m args meth c cc nL "LetByTheDegree" dC dI aC (va_A (m_W ad0 aC σ0) sz) xa X (yY xa)) (hl : l.stackTraces = false) (htab : ∀ x ∈ c.exceptionTable.toList, False) {is k : Nat} {text : String} (hstr : vk_R "LetByTheDegree" is text (xa k) s) {x0 x1 x2 x3 x4 : List Nat}
    (d0 : z_dx K cc pc (.new 167) 3 x0) (d3 : z_dx K cc (pc + 3) .dup 1 x1) (d4 : z_dx K cc (pc + 4) (.ldc is) 2 x2) (d6 : z_dx K cc (pc + 6) (.invokespecial 171) 3 x3) (d9 : z_dx K cc (pc + 9) .athrow 1 x4) (hR : 6 ≤ R.frames ∧ 240 ≤ R.locals) (hc : 1 ≤ R.cells) (hs : 6 ≤ R.slots) (hQ : Qx σ) :
    mW K Z p l e R s m args below meth c (m_QX below dC dI aC xa ad0 sz σ0 Q Qx args s 1 6 (va_A (m_W ad0 aC σ0) sz)) dC dI aC (va_A (m_W ad0 aC σ0) sz) σ0.length ad0 xa nL (σ, 0, 0, pc, ls, []) := fun hcl hz zl hzl => by
  obtain ⟨fl, hq⟩ := d0.2
  have h1 : Z (z_m σ, pc, zl, []) (z_m σ, some (9, 0)) := hcl.2.1 _ _ _ hq rfl rfl
  exact mV_mono (fun t h => ⟨(z_m σ, some (9, 0)), h1, h⟩) (mV_thr hC hl htab hstr d0.1 d3.1 d4.1 d6.1 d9.1 hR hc hs (Q := fun r1 σ1 => Q r1 σ1 ∧ z_ok σ1 ∧ ((z_m σ, some (9, 0)) : z_Q) = (z_m σ1, r1.map z_v)) (Qx := fun σ1 => Qx σ1 ∧ z_ok σ1 ∧ ((z_m σ, some (9, 0)) : z_Q) = (z_m σ1, some (9, 0))) ⟨hQ, hz, rfl⟩)
theorem mW_thrW (hC : m_Ctx p s m args meth c cc nL "LetByTheDegree" dC dI aC (va_A (m_W ad0 aC σ0) sz) xa X (yY xa)) (hl : l.stackTraces = false) (htab : ∀ x ∈ c.exceptionTable.toList, False) {is k : Nat} {text : String} (hstr : vk_R "LetByTheDegree" is text (xa k) s) {x0 x1 x2 x3 x4 : List Nat}
    (d0 : z_dx K cc pc (.new 167) 3 x0) (d3 : z_dx K cc (pc + 3) .dup 1 x1) (d4 : z_dx K cc (pc + 4) (.ldc_w is) 3 x2) (d6 : z_dx K cc (pc + 7) (.invokespecial 171) 3 x3) (d9 : z_dx K cc (pc + 10) .athrow 1 x4) (hR : 6 ≤ R.frames ∧ 240 ≤ R.locals) (hc : 1 ≤ R.cells) (hs : 6 ≤ R.slots) (hQ : Qx σ) :
    mW K Z p l e R s m args below meth c (m_QX below dC dI aC xa ad0 sz σ0 Q Qx args s 1 6 (va_A (m_W ad0 aC σ0) sz)) dC dI aC (va_A (m_W ad0 aC σ0) sz) σ0.length ad0 xa nL (σ, 0, 0, pc, ls, []) := fun hcl hz zl hzl => by
  obtain ⟨fl, hq⟩ := d0.2
  have h1 : Z (z_m σ, pc, zl, []) (z_m σ, some (9, 0)) := hcl.2.1 _ _ _ hq rfl rfl
  exact mV_mono (fun t h => ⟨(z_m σ, some (9, 0)), h1, h⟩) (mV_thrW hC hl htab hstr d0.1 d3.1 d4.1 d6.1 d9.1 hR hc hs (Q := fun r1 σ1 => Q r1 σ1 ∧ z_ok σ1 ∧ ((z_m σ, some (9, 0)) : z_Q) = (z_m σ1, r1.map z_v)) (Qx := fun σ1 => Qx σ1 ∧ z_ok σ1 ∧ ((z_m σ, some (9, 0)) : z_Q) = (z_m σ1, some (9, 0))) ⟨hQ, hz, rfl⟩)
end TI
/-- the contract of a method that returns, or throws at one of its cuts -/
noncomputable def c_semX (l : Launch) (X : Nat → Option (List Int32)) (Y : (Nat → Prop) → State → Heap → Prop) (xa : Nat → Nat) (d : Nat) (C : A_C) : Prop := match C with
  | (y, E0, args, ov0, mc, tau, dep, alts, _, _) => ∀ (q : a_M), a_mt[y]? = some q → ∀ (ρ0 : List Int) (M z dz : Int) (σ : m_H) (vs : List Value), e_ok M E0 ρ0 → 0 ≤ M → h_ok M σ → l_ev ρ0 tau = some z → 0 ≤ z → M + z ≤ 1073741824 → l_ev ρ0 dep = some dz → dz ≤ (d : Int) → o_ok ρ0 ov0 σ → s_ok ρ0 args vs → (∀ v ∈ vs, m_vOk h_N v) →
    m_KX y l X Y xa d q.1 q.2.1 q.2.2.1 q.2.2.2 σ vs (c_post alts mc (M + z) ρ0 σ) (fun σ' => h_ok (M + z) σ' ∧ h_fr mc σ σ')
theorem c_methX {l : Launch} {X : Nat → Option (List Int32)} {xa : Nat → Nat} {d : Nat} {C : A_C} {q : a_M} {cs : Nat → List A_C} {code : List (List a_K)} {fuel : Nat} (hkt : kt_at C.1 = code) (hIx : ix_K l X (yY xa) xa) (hX : ∀ i, i < 2 → X i = some ((x_tab i).map Int32.ofInt)) (hq : a_mt[C.1]? = some q) (hpl : plainName q.1.cls = true)
    (hk : ∀ r ∈ code, ∀ e ∈ r, k_ok q.1.cls q.2.1 e) (hcy : ∀ y, ∀ C ∈ cs y, C.1 = y) (hcs : ∀ d', d = d' + 1 → ∀ y, ∀ C ∈ cs y, c_sem l X (yY xa) xa d' C) (hc1 : c_pre q.2.2.1 C = true) (hc2 : c_go1 cs q.2.2.1 q.2.2.2 code fuel C (c_start C) = true)
    (hthr : ∀ U ∈ c_cuts C, ∀ (p : Program) (e : Env) (s : State) (m : MethodId) (args : Array Value) (below : List Frame) (meth : Method) (c : Code) (dC : Nat → ClassId) (dI : Nat → Nat → Nat) (aC : Nat → ClassId) (ad : Nat → Nat) (sz : Nat) (σ0 σ : m_H) (ls : List (Nat × Value)) (st : List Value) (Q : Option Value → m_H → Prop) (Qx : m_H → Prop) (ρ : List Int),
      m_Ctx p s m args meth c q.2.1 q.2.2.1 q.1.cls dC dI aC (va_A (m_W ad aC σ0) sz) xa X (yY xa) → (∀ x ∈ c.exceptionTable.toList, False) → s_ok ρ U.2.2.2.2.1 st → Qx σ → mW code (z_Ev C.1) p l e (m_rm d 1 6) s m args below meth c (m_QX below dC dI aC xa ad sz σ0 Q Qx args s 1 6 (va_A (m_W ad aC σ0) sz)) dC dI aC (va_A (m_W ad aC σ0) sz) σ0.length ad xa q.2.2.1 (σ, 0, 0, U.1, ls, st)) : c_semX l X (yY xa) xa d C := by
  obtain ⟨y, E0, args, ov0, mc, tau, dep, alts, cuts, ph0⟩ := C
  have hY := yY_ok xa
  have hYS := yY_str xa
  unfold c_pre at hc1
  unfold c_go1 c_start at hc2
  simp only at hc1 hc2 hq hkt hthr
  obtain ⟨h1, h2⟩ := Bool.and_eq_true _ _ |>.mp hc1
  clear hc1
  split at h1
  · rename_i kc hkc
    split at h2
    · rename_i pp hpp
      intro q' hq' ρ0 M z dz σ vs a1 a2 a3 a4 a5 a6 a7 a8 a9 a10 a11
      obtain rfl : q' = q := Option.some.inj (hq'.symm.trans hq)
      have hidn : h_sub ρ0 (c_idn E0.length) ρ0 := by
        refine ⟨by simp [c_idn, a1.1], fun i b r g1 g2 => ?_⟩
        have hi := (List.getElem?_eq_some_iff.mp g2).1
        have : b = (1, i, 0) := by
          unfold c_idn at g1
          rw [List.getElem?_map, List.getElem?_range (by rw [← a1.1]; exact hi)] at g1
          exact (Option.some.inj g1).symm
        subst this
        show (ρ0[i]?).map (fun r => r + 0) = some r
        rw [g2]; simp
      obtain ⟨fv0, p1, -⟩ := l_app_ok hidn hpp
      refine m_KX_of hkt hpl (by rw [sl_len args vs kc a10 hkc]; exact Nat.le_of_ble_eq_true h1) (z_nl_ok hq) (fun p e s m args' below meth c dC dI aC ad sz hC hrt htab => ?_)
      rw [← hrt] at hc2
      have hR0 : d ≤ (m_rm d 1 6).frames ∧ 40 * d ≤ (m_rm d 1 6).locals := ⟨Nat.le_refl _, Nat.le_refl _⟩
      refine a_go_ok (fv := fv0) hC hY hYS hIx hX (by omega) a1.1 (by rw [a3.1]; exact Nat.le_refl _) hk hcy hcs a7 a8 hR0 (fun B ρ S g i n aux hg hd hrt => m_vret (a_rt_ok (by omega) (fun _ _ z => z) hC hg a1.1 hd hrt)) (fun U' hU' fv' B' ρ' g' hlt h0 hg' => ?_) fuel 1 _ hc2 M ρ0 _ ?_
      · obtain ⟨σ', ce, sl, pc, ls, st⟩ := g'
        have hce : ce = 0 := hg'.ce
        have hsl : sl = 0 := hg'.sl
        have hpc : pc = U'.1 := hg'.pc
        subst hce hsl hpc
        obtain ⟨hB1, zz, z1, z2, z3⟩ := hg'.bu
        exact hthr U' hU' p e s m args' below meth c dC dI aC ad sz σ σ' ls st _ _ ρ' hC htab hg'.s ⟨h_ok_mono (by omega) hg'.h, hg'.fr⟩
      · exact ⟨r_ext.rf, a1, (fun q hq => by cases hq), ⟨a2, z, a4, a5, Int.le_refl _⟩, p1, a3, rfl, rfl, rfl, (a_args_ok args vs 0 kc a10 hkc).2, (fun u hu => a11 _ (lv_args_in vs 0 u hu)), trivial, (fun v hv => by cases hv), a9, (fun p k _ => rfl)⟩
    · cases h2
  · cases h1
end
section
/-! METHODS THAT THROW: those of the class, and the law's that catch -/
def iR : Int × Int × Bool := (-2147483648, 2147483647, false)
def lR : Int × Int × Bool := (-9223372036854775808, 9223372036854775807, false)
def cx_room : A_C := (155, [iR, iR], [(2, 0, 0), (1, 0, 0), (1, 1, 0)], [], [(6, 0, 39), (7, 0, 6)], (0, []), (5, []), [([iR, iR, iR], [], some (1, 2, 0), [])], [(11, [iR, iR], [], [], [], [], (0, []), (0, [])), (136, [iR, iR], [], [], [], [], (0, []), (0, []))], (1, []))
def cx_person : A_C := (156, [iR, iR], [(2, 0, 0), (1, 0, 0), (1, 1, 0)], [], [], (0, []), (5, []), [([iR, iR, iR], [], some (1, 2, 0), [])], [(11, [iR, iR], [], [], [], [], (0, []), (0, [])), (111, [iR, iR], [], [], [], [], (0, []), (0, []))], (1, []))
def cx_row : A_C := (158, [iR], [(2, 0, 0), (1, 0, 0)], [], [], (0, []), (5, []), [([iR, lR], [], some (4, 1, 0), [])], [(12, [iR], [], [], [], [], (0, []), (0, []))], (1, []))
theorem cx_room_p : c_pre 3 cx_room = true := by decide +kernel
theorem cx_person_p : c_pre 3 cx_person = true := by decide +kernel
theorem cx_row_p : c_pre 2 cx_row = true := by decide +kernel
set_option maxRecDepth 100000 in
theorem cx_room_g : c_go1 cs_at 3 (some .int) kt_155 4000 cx_room (c_start cx_room) = true := by decide +kernel
set_option maxRecDepth 100000 in
theorem cx_person_g : c_go1 cs_at 3 (some .int) kt_156 4000 cx_person (c_start cx_person) = true := by decide +kernel
set_option maxRecDepth 100000 in
theorem cx_row_g : c_go1 cs_at 2 (some .long) kt_158 4000 cx_row (c_start cx_row) = true := by decide +kernel
theorem s_nil {ρ : List Int} {st : List Value} (h : s_ok ρ [] st) : st = [] := by
  cases st with
  | nil => rfl
  | cons v t => exact absurd h id
section CX
variable {l : Launch} {X : Nat → Option (List Int32)} {xa : Nat → Nat}
theorem cx_room_sem (hl : l.stackTraces = false) (hX : ∀ i, i < 2 → X i = some ((x_tab i).map Int32.ofInt)) {d : Nat} (hd : 6 ≤ d) (hcy : ∀ y, ∀ C ∈ cs_at y, C.1 = y) (hcs : ∀ d', d = d' + 1 → ∀ y, ∀ C ∈ cs_at y, c_sem l X (yY xa) xa d' C) : c_semX l X (yY xa) xa d cx_room := by
  have hk := k_all_ok (own := "LetByTheDegree") rfl kt_155_ok
  refine c_methX (code := kt_155) rfl (ix_K_ok (yY_ok xa) (yY_str xa)) hX (q := _) rfl (by decide) hk hcy hcs cx_room_p cx_room_g (fun U hU p e s m args below meth c dC dI aC ad sz σ0 σ ls st Q Qx ρ hC htab hst hQ => ?_)
  have hR : 6 ≤ (m_rm d 1 6).frames ∧ 240 ≤ (m_rm d 1 6).locals := ⟨hd, by show 240 ≤ 40 * d; omega⟩
  have hy := hC.2.2.2.2.2.2.2.1.2.2.2.2
  rcases List.mem_cons.mp hU with rfl | hU
  · obtain rfl := s_nil hst
    exact mW_thr hC hl htab hy.2.2.1.1 (kd hk (pc := 11) rfl).1 (kd hk (pc := 14) rfl).1 (kd hk (pc := 15) rfl).1 (kd hk (pc := 17) rfl).1 (kd hk (pc := 20) rfl).1 hR (Nat.le_refl _) (Nat.le_refl _) hQ
  · obtain rfl := List.mem_singleton.mp hU
    obtain rfl := s_nil hst
    exact mW_thr hC hl htab hy.2.2.1.2.1 (kd hk (pc := 136) rfl).1 (kd hk (pc := 139) rfl).1 (kd hk (pc := 140) rfl).1 (kd hk (pc := 142) rfl).1 (kd hk (pc := 145) rfl).1 hR (Nat.le_refl _) (Nat.le_refl _) hQ
theorem cx_person_sem (hl : l.stackTraces = false) (hX : ∀ i, i < 2 → X i = some ((x_tab i).map Int32.ofInt)) {d : Nat} (hd : 6 ≤ d) (hcy : ∀ y, ∀ C ∈ cs_at y, C.1 = y) (hcs : ∀ d', d = d' + 1 → ∀ y, ∀ C ∈ cs_at y, c_sem l X (yY xa) xa d' C) : c_semX l X (yY xa) xa d cx_person := by
  have hk := k_all_ok (own := "LetByTheDegree") rfl kt_156_ok
  refine c_methX (code := kt_156) rfl (ix_K_ok (yY_ok xa) (yY_str xa)) hX (q := _) rfl (by decide) hk hcy hcs cx_person_p cx_person_g (fun U hU p e s m args below meth c dC dI aC ad sz σ0 σ ls st Q Qx ρ hC htab hst hQ => ?_)
  have hR : 6 ≤ (m_rm d 1 6).frames ∧ 240 ≤ (m_rm d 1 6).locals := ⟨hd, by show 240 ≤ 40 * d; omega⟩
  have hy := hC.2.2.2.2.2.2.2.1.2.2.2.2
  rcases List.mem_cons.mp hU with rfl | hU
  · obtain rfl := s_nil hst
    exact mW_thr hC hl htab hy.2.2.1.2.2.1 (kd hk (pc := 11) rfl).1 (kd hk (pc := 14) rfl).1 (kd hk (pc := 15) rfl).1 (kd hk (pc := 17) rfl).1 (kd hk (pc := 20) rfl).1 hR (Nat.le_refl _) (Nat.le_refl _) hQ
  · obtain rfl := List.mem_singleton.mp hU
    obtain rfl := s_nil hst
    exact mW_thr hC hl htab hy.2.2.1.2.2.2.1 (kd hk (pc := 111) rfl).1 (kd hk (pc := 114) rfl).1 (kd hk (pc := 115) rfl).1 (kd hk (pc := 117) rfl).1 (kd hk (pc := 120) rfl).1 hR (Nat.le_refl _) (Nat.le_refl _) hQ
theorem cx_row_sem (hl : l.stackTraces = false) (hX : ∀ i, i < 2 → X i = some ((x_tab i).map Int32.ofInt)) {d : Nat} (hd : 6 ≤ d) (hcy : ∀ y, ∀ C ∈ cs_at y, C.1 = y) (hcs : ∀ d', d = d' + 1 → ∀ y, ∀ C ∈ cs_at y, c_sem l X (yY xa) xa d' C) : c_semX l X (yY xa) xa d cx_row := by
  have hk := k_all_ok (own := "LetByTheDegree") rfl kt_158_ok
  refine c_methX (code := kt_158) rfl (ix_K_ok (yY_ok xa) (yY_str xa)) hX (q := _) rfl (by decide) hk hcy hcs cx_row_p cx_row_g (fun U hU p e s m args below meth c dC dI aC ad sz σ0 σ ls st Q Qx ρ hC htab hst hQ => ?_)
  have hR : 6 ≤ (m_rm d 1 6).frames ∧ 240 ≤ (m_rm d 1 6).locals := ⟨hd, by show 240 ≤ 40 * d; omega⟩
  have hy := hC.2.2.2.2.2.2.2.1.2.2.2.2
  obtain rfl := List.mem_singleton.mp hU
  obtain rfl := s_nil hst
  exact mW_thrW hC hl htab hy.2.2.1.2.2.2.2 (kd hk (pc := 12) rfl).1 (kd hk (pc := 15) rfl).1 (kd hk (pc := 16) rfl).1 (kd hk (pc := 19) rfl).1 (kd hk (pc := 22) rfl).1 hR (Nat.le_refl _) (Nat.le_refl _) hQ
end CX
/-! methods with a table of their own -/
theorem x_ofWH {l : Launch} {y : MethodName} {ws ws' : List Cond} {rm : Room} {Pc : Array Value → State → Prop} {Qc : Array Value → State → Outcome → State → Prop} {mc ms : Nat} {free : Addr → Prop} {cc : ByteArray} {maxL : Nat} {ret : Option FieldType} {hh : List (Nat × Nat × Nat × Nat)}
    (hy : plainName y.cls = true) (hw : ws = Cond.codeWith y cc maxL ret hh :: ws')
    (body : ∀ p e s m args below meth c s₁, BodyLoose p l y (headSpec ws rm) cc maxL ret e s m args below meth c s₁ → c.maxLocals = maxL → Pc args s →
      W p l e (headSpec ws rm).room s m args below meth c s.heap [] 0 0 (MQ below Qc args s mc ms free) (entryFrame m args maxL)) : Met l y ws rm Pc Qc mc ms free := by
  refine MetFree.of_bodyS (code := cc) (maxLocals := maxL) (ret := ret) hy ?_ ?_
  · intro args s m h hn
    obtain ⟨m9, meth, c, hn9, h1, h2, h3, h4, -, h5, h6, -⟩ := Cond.codeWith_spec (atoms_spec (ws := ws) h _ (by rw [hw]; exact List.mem_cons_self))
    cases hn.symm.trans hn9
    exact ⟨meth, c, h1, h2, h3, h4, h5, h6⟩
  · intro p e s m args below meth c s₁ B hml hP _
    have hh0 : s₁.heap = s.heap := by rw [B.state]; rfl
    obtain ⟨t, a1, o, b1, b2, b3⟩ := body p e s m args below meth c s₁ B hml hP s₁ hh0 (Stand.of_body B)
    exact ⟨t, o, a1, b1, b2, ⟨b3.1, b3.2⟩⟩
def m_wsH (y : MethodName) (b : ByteArray) (n : Nat) (r : Option FieldType) (hh : List (Nat × Nat × Nat × Nat)) : List Cond := .codeWith y b n r hh :: a_tb
def m_KH (l : Launch) (X : Nat → Option (List Int32)) (Y : (Nat → Prop) → State → Heap → Prop) (xa : Nat → Nat) (d : Nat) (y : MethodName) (b : ByteArray) (n : Nat) (r : Option FieldType) (hh : List (Nat × Nat × Nat × Nat)) (σ : m_H) (as : List Value) (Q : Option Value → m_H → Prop) (mc ms : Nat) : Prop :=
  ∀ (dC : Nat → ClassId) (dI : Nat → Nat → Nat) (aC : Nat → ClassId) (ad : Nat → Nat) (sz : Nat), (∀ k, ad (m_X0 + k) = xa k) → Met l y (m_wsH y b n r hh) (m_rm d mc ms) (m_Pc dC dI aC X Y xa ad sz σ as) (m_Qc dC dI aC xa ad sz σ Q) mc ms (va_A (m_W ad aC σ) sz)
theorem m_KH_of {l : Launch} {X : Nat → Option (List Int32)} {Y : (Nat → Prop) → State → Heap → Prop} {xa : Nat → Nat} {d : Nat} {y : MethodName} {b : ByteArray} {n : Nat} {r : Option FieldType} {hh : List (Nat × Nat × Nat × Nat)} {σ : m_H} {as : List Value} {Q : Option Value → m_H → Prop} {mc ms : Nat} (hy : plainName y.cls = true) (hlen : (lg_sl as).length ≤ n)
    (body : ∀ (p : Program) (e : Env) (s : State) (m : MethodId) (args : Array Value) (below : List Frame) (meth : Method) (c : Code) (dC : Nat → ClassId) (dI : Nat → Nat → Nat) (aC : Nat → ClassId) (ad : Nat → Nat) (sz : Nat), m_Ctx p s m args meth c b n y.cls dC dI aC (va_A (m_W ad aC σ) sz) xa X Y → meth.sig.returnType = r → c.exceptionTable.toList = tableOf hh →
      mV p l e (m_rm d mc ms) s m args below meth c (MQ below (m_Qc dC dI aC xa ad sz σ Q) args s mc ms (va_A (m_W ad aC σ) sz)) dC dI aC (va_A (m_W ad aC σ) sz) σ.length ad xa n (σ, 0, 0, 0, lv_args 0 as, [])) : m_KH l X Y xa d y b n r hh σ as Q mc ms := by
  intro dC dI aC ad sz hX
  refine x_ofWH (cc := b) (maxL := n) (ret := r) hy rfl ?_
  intro p e s m args below meth c s₁ B hml hv
  obtain ⟨ha, hsz, hP, hK, hD0, hE⟩ := hv
  have hts := atoms_spec (ws := m_wsH y b n r hh) B.pre
  have htab := vx_table (x := y) B (hts _ List.mem_cons_self)
  have hown : s.vm.findClass y.cls = some m.cls := findClass_of_methodNamed B.named
  have hC : m_Ctx p s m args meth c b n y.cls dC dI aC (va_A (m_W ad aC σ) sz) xa X Y := ⟨B.exec, B.bytes, hml, hown, fun w hw => hts w (List.mem_cons_of_mem _ hw), hK, fun q h => Or.inr (by rw [← hsz]; exact h), hE, B.notSynchronized⟩
  have hD := hD0.self (sz := sz)
  have hl := lv_entry (as.map (m_re ad)) (n := n) (by rw [m_sl_len]; exact hlen)
  rw [ha, lg_entry_eq]
  generalize (lg_sl (as.map (m_re ad)) ++ List.replicate (n - (lg_sl (as.map (m_re ad))).length) Slot.unset).toArray = lsC at hl ⊢
  rw [m_lv_args] at hl
  have hb := body p e s m args below meth c dC dI aC ad sz hC B.returns htab ad s.heap [] lsC (fun _ _ => rfl) hX hP hD va_S.rf hl
  rw [← ha]
  exact hb
section GX
variable {p : Program} {l : Launch} {e : Env} {R : Room} {s : State} {m : MethodId} {args : Array Value} {below : List Frame} {meth : Method} {c : Code} {QQ : State → Prop} {dC : Nat → ClassId} {dI : Nat → Nat → Nat} {aC : Nat → ClassId} {A : Nat → Prop} {n0 : Nat} {ad0 xa : Nat → Nat} {nL : Nat} {cc : ByteArray} {own : String} {X : Nat → Option (List Int32)} {Y : (Nat → Prop) → State → Heap → Prop}
variable {σ : m_H} {ce sl pc mc ms : Nat} {ls : List (Nat × Value)} {st as : List Value} {Q : Option Value → m_H → Prop} {Qx : m_H → Prop}
theorem m_goOnX {ad : Nat → Nat} {H : Heap} {locs : List Loc} {lsC : Array Slot} {st0 : List Value} {a : Array Value} (hC : m_Ctx p s m args meth c cc nL own dC dI aC A xa X Y)
    (hr : vx_Run p l e R s m args below meth c H locs ce sl mc ms (F0 m pc lsC st0) (st.map (m_re ad)) (m_Qc dC dI aC xa ad H.size σ Q a) (x_XC dC dI aC xa ad H.size σ Qx) (va_A (m_W ad aC σ) H.size))
    (h1 : ∀ k, k < n0 → ad k = ad0 k) (h2 : ∀ k, ad (m_X0 + k) = xa k) (hn0 : n0 ≤ σ.length) (h4 : va_D A (m_W ad aC σ)) (h5 : va_S A s.heap H locs) (h6 : lv_has lsC nL (m_lv ad ls)) (ho : ∀ v ∈ st, m_vOk σ.length v) (hol : ∀ q ∈ ls, m_vOk σ.length q.2)
    (kk : ∀ (r : Option Value) (σ' : m_H), Q r σ' → mV p l e R s m args below meth c QQ dC dI aC A n0 ad0 xa nL (σ', ce + mc, sl + ms, pc + 3, ls, r.toList ++ st))
    (kx : ∀ (σ' : m_H) (ad' : Nat → Nat) (H' : Heap) (locs' : List Loc) (q : Addr) (cell : Cell) (rest : List Value), Qx σ' → (∀ k, k < n0 → ad' k = ad0 k) → (∀ k, ad' (m_X0 + k) = xa k) → va_P (dC, dI) vwCl (m_W ad' aC σ') H' → va_D A (m_W ad' aC σ') → va_S A s.heap H' locs' → lv_has lsC nL (m_lv ad' ls) → H'[q]? = some cell → cell.vm = .none → s.vm.findClass xN = some cell.cls → vx_W p l e R s m args below meth c H' locs' (ce + mc) (sl + ms) QQ (F0 m pc lsC rest) q) :
    W p l e R s m args below meth c H locs ce sl QQ (F0 m pc lsC st0) := by
  have hfree := m_wfree (aC := aC) hC.2.2.2.2.2.2.1 h4 h5
  intro T hT Xs
  rcases hr T hT Xs with ⟨v, st₀, t, T', L, e0, X', hL, e1, e2, hq, stp⟩ | ⟨q, st₀, t, T', L, E, cell, e0, X', hL, e1, e2, hx, hcell, hv, hcl, stp⟩
  · obtain ⟨⟨r, σ', ad', hv, hQ, g1, g2, g3, g4, g5⟩, hz, hk⟩ := hq
    obtain rfl : v = r.map (m_re ad') := by injection hv
    rw [e0] at hz hk
    have hag : ∀ k, (k < σ.length ∨ m_X0 ≤ k) → ad k = ad' k := by
      intro k hk2
      rcases hk2 with hk2 | hk2
      · exact (g1 k hk2).symm
      · obtain ⟨j, rfl⟩ := Nat.exists_eq_add_of_le hk2
        rw [h2, g2]
    have est : st.map (m_re ad) = st.map (m_re ad') := List.map_congr_left fun v hv => m_re_congr hag (ho v hv)
    have els : m_lv ad ls = m_lv ad' ls := List.map_congr_left fun q hq => by rw [m_re_congr hag (hol q hq)]
    have kk2 := kk r σ' hQ ad' T'.heap (locs ++ L) lsC (fun k h => (g1 k (Nat.lt_of_lt_of_le h hn0)).trans (h1 k h)) g2 (by rw [e1]; exact g3) (g5.weaken fun _ q _ h => hfree _ h)
      ⟨Nat.le_trans h5.1 (by rw [e1]; exact hz), fun q q1 q2 => by rw [e1, hk q (Nat.lt_of_lt_of_le q1 h5.1) (fun z => q2 (hfree q z))]; exact h5.2.1 q q1 q2, fun q hq => by
        rcases List.mem_append.mp hq with h | h
        · exact h5.2.2 q h
        · exact hfree _ (hL q h)⟩ (by rw [← els]; exact h6)
    obtain ⟨t2, a1, b1⟩ := kk2 T' rfl X'
    refine ⟨t2, stp t2 ?_, b1⟩
    have ex : (r.toList ++ st).map (m_re ad') = (r.map (m_re ad')).toList ++ st.map (m_re ad) := by
      rw [List.map_append, est]
      cases r <;> rfl
    have a2 : Steps p.tables e below (T'.setTop (F0 m (pc + 3) lsC ((r.toList ++ st).map (m_re ad')))) t2 := a1
    rw [ex] at a2
    exact a2
  · obtain ⟨rfl, ⟨σ', ad', hQ, g1, g2, g3, g4, g5⟩, hz, hk⟩ := hx
    rw [e0] at hz hk
    have hag : ∀ k, (k < σ.length ∨ m_X0 ≤ k) → ad k = ad' k := by
      intro k hk2
      rcases hk2 with hk2 | hk2
      · exact (g1 k hk2).symm
      · obtain ⟨j, rfl⟩ := Nat.exists_eq_add_of_le hk2
        rw [h2, g2]
    have els : m_lv ad ls = m_lv ad' ls := List.map_congr_left fun q hq => by rw [m_re_congr hag (hol q hq)]
    obtain ⟨t2, a1, b1⟩ := kx σ' ad' T'.heap (locs ++ L) q cell (st.map (m_re ad)) hQ (fun k h => (g1 k (Nat.lt_of_lt_of_le h hn0)).trans (h1 k h)) g2 (by rw [e1]; exact g3) (g5.weaken fun _ q _ h => hfree _ h)
      ⟨Nat.le_trans h5.1 (by rw [e1]; exact hz), fun q q1 q2 => by rw [e1, hk q (Nat.lt_of_lt_of_le q1 h5.1) (fun z => q2 (hfree q z))]; exact h5.2.1 q q1 q2, fun q hq => by
        rcases List.mem_append.mp hq with h | h
        · exact h5.2.2 q h
        · exact hfree _ (hL q h)⟩ (by rw [← els]; exact h6) (by rw [e1]; exact hcell) hv hcl T' rfl X'
    exact ⟨t2, stp.trans a1, b1⟩
/-- a call of an object's method that may throw -/
theorem mV_callVX (hY : m_Yok Y) (hC : m_Ctx p s m args meth c cc nL own dC dI aC A xa X Y) {q ci idx d n : Nat} {r0 : vw_C} {fs : List Value} {y : MethodName} {b : ByteArray} {rt : Option FieldType} (hd : decode cc pc = .ok (.invokevirtual idx, 3)) (hM : v_KX l X Y xa d y b n rt σ (.ref q :: as) Q Qx) (hσ : σ[q]? = some (.inr ci, fs)) (hc : vwCl[ci]? = some r0) (hyc : y.cls = r0.1)
    (w1 : Cond.methodLink own idx y ∈ a_tb) (w2 : Cond.instanceMethod y ∈ a_tb) (w3 : Cond.selects r0.1 y y ∈ a_tb) (w4 : Cond.initialized r0.1 ∈ a_tb) (w5 : Cond.code y b n rt ∈ a_tb) (hy : y.cls ≠ "java/lang/invoke/MethodHandle" ∧ y.cls ≠ "java/lang/invoke/VarHandle") (hlen : (parseMethodDescriptor y.desc).map (fun d => d.parameters.length) = some as.length)
    (hR : d + 1 ≤ R.frames ∧ 40 * d + 40 ≤ R.locals) (h20 : n ≤ 20) (hce : ce + 1 ≤ R.cells) (hsl : sl + 6 ≤ R.slots) (h8 : (st.map fun v => v.category).sum ≤ 8) (hn0 : n0 ≤ σ.length) (ho : ∀ v ∈ st, m_vOk σ.length v) (hol : ∀ q ∈ ls, m_vOk σ.length q.2)
    (kk : ∀ (r : Option Value) (σ' : m_H), Q r σ' → mV p l e R s m args below meth c QQ dC dI aC A n0 ad0 xa nL (σ', ce + 1, sl + 6, pc + 3, ls, r.toList ++ st))
    (kx : ∀ (σ' : m_H) (ad' : Nat → Nat) (H' : Heap) (locs' : List Loc) (lsC : Array Slot) (q : Addr) (cell : Cell) (rest : List Value), Qx σ' → (∀ k, k < n0 → ad' k = ad0 k) → (∀ k, ad' (m_X0 + k) = xa k) → va_P (dC, dI) vwCl (m_W ad' aC σ') H' → va_D A (m_W ad' aC σ') → va_S A s.heap H' locs' → lv_has lsC nL (m_lv ad' ls) → H'[q]? = some cell → cell.vm = .none → s.vm.findClass xN = some cell.cls → vx_W p l e R s m args below meth c H' locs' (ce + 1) (sl + 6) QQ (F0 m pc lsC rest) q) :
    mV p l e R s m args below meth c QQ dC dI aC A n0 ad0 xa nL (σ, ce, sl, pc, ls, as.reverse ++ .ref q :: st) := by
  intro ad H locs lsC h1 h2 h3 h4 h5 h6
  have hG : GoodIn a_tb (wsV own idx r0.1 y (m_ws y b n rt)) := a_good fun w hw => by
    rcases List.mem_append.mp hw with h | h
    · simp only [List.mem_cons, List.not_mem_nil, or_false] at h
      rcases h with rfl | rfl | rfl | rfl <;> assumption
    · exact m_wsIn w5 w h
  refine m_goOnX hC (ad := ad) (σ := σ) (H := H) (locs := locs) (vx_runV (As := as.map (m_re ad)) (rest := st.map (m_re ad)) (g := F0 m pc lsC ((as.reverse ++ .ref q :: st).map (m_re ad))) hC.fix (hM dC dI aC ad H.size h2)
    (cwV as.length hC.2.2.2.2.1 hG rfl rfl rfl ⟨hyc, hy.1, hy.2, hlen⟩ (m_room hR h20)) ⟨m_blind hY, va_recv hC.2.2.2.2.2.1 h3 hc (m_W_at hσ), m_pre (as := .ref q :: as) hY hC h3 h4 h5⟩ rfl (by simp) h6.1 (by simp [m_re]) (m_cats8 h8 _) hd ⟨hce, hsl⟩) h1 h2 hn0 h4 h5 h6 ho hol kk (fun σ' ad' H' locs' q cell rest a1 a2 a3 a4 a5 a6 a7 a8 a9 a10 => kx σ' ad' H' locs' lsC q cell rest a1 a2 a3 a4 a5 a6 a7 a8 a9 a10)
/-- a static call of a method with a table of its own -/
theorem mV_callSH (hY : m_Yok Y) (hC : m_Ctx p s m args meth c cc nL own dC dI aC A xa X Y) {idx d n : Nat} {y : MethodName} {b : ByteArray} {rt : Option FieldType} {hh : List (Nat × Nat × Nat × Nat)} (hd : decode cc pc = .ok (.invokestatic idx, 3)) (hM : m_KH l X Y xa d y b n rt hh σ as Q mc ms)
    (w1 : Cond.methodLink own idx y ∈ a_tb) (w2 : Cond.static y ∈ a_tb) (w4 : Cond.initialized y.cls ∈ a_tb) (w5 : Cond.codeWith y b n rt hh ∈ a_tb) (hy : y.cls ≠ "java/lang/invoke/MethodHandle" ∧ y.cls ≠ "java/lang/invoke/VarHandle") (hlen : (parseMethodDescriptor y.desc).map (fun d => d.parameters.length) = some as.length)
    (hR : d + 1 ≤ R.frames ∧ 40 * d + 40 ≤ R.locals) (h20 : n ≤ 20) (hce : ce + mc ≤ R.cells) (hsl : sl + ms ≤ R.slots) (h8 : (st.map fun v => v.category).sum ≤ 8) (hn0 : n0 ≤ σ.length) (ho : ∀ v ∈ st, m_vOk σ.length v) (hol : ∀ q ∈ ls, m_vOk σ.length q.2)
    (kk : ∀ (r : Option Value) (σ' : m_H), Q r σ' → mV p l e R s m args below meth c QQ dC dI aC A n0 ad0 xa nL (σ', ce + mc, sl + ms, pc + 3, ls, r.toList ++ st)) : mV p l e R s m args below meth c QQ dC dI aC A n0 ad0 xa nL (σ, ce, sl, pc, ls, as.reverse ++ st) := by
  intro ad H locs lsC h1 h2 h3 h4 h5 h6
  have hG : GoodIn a_tb (va_wsS own idx y (m_wsH y b n rt hh)) := a_good fun w hw => by
    rcases List.mem_append.mp hw with h | h
    · simp only [List.mem_cons, List.not_mem_nil, or_false] at h
      rcases h with rfl | rfl | rfl <;> assumption
    · rcases List.mem_cons.mp h with rfl | h
      · exact w5
      · exact h
  refine m_goOn hC (ad := ad) (σ := σ) (H := H) (locs := locs) (vx_runSW (As := as.map (m_re ad)) (rest := st.map (m_re ad)) (g := F0 m pc lsC ((as.reverse ++ st).map (m_re ad))) hC.fix (hM dC dI aC ad H.size h2)
    (vx_cwSW as.length hC.2.2.2.2.1 hG rfl rfl rfl ⟨hy.1, hy.2, hlen⟩ (m_room hR h20)) ⟨m_blind hY, m_pre (as := as) hY hC h3 h4 h5⟩ rfl (by simp) h6.1 (by simp) (m_cats8 h8 _) hd ⟨hce, hsl⟩) h1 h2 hn0 h4 h5 h6 ho hol kk
end GX
end
section
/-! THE LAW'S room, person, row -/
noncomputable def c_semH (l : Launch) (X : Nat → Option (List Int32)) (Y : (Nat → Prop) → State → Heap → Prop) (xa : Nat → Nat) (d : Nat) (C : A_C) (y : MethodName) (b : ByteArray) (n : Nat) (r : Option FieldType) (hh : List (Nat × Nat × Nat × Nat)) : Prop := match C with
  | (_, E0, args, ov0, mc, tau, dep, alts, _, _) => ∀ (ρ0 : List Int) (M z dz : Int) (σ : m_H) (vs : List Value), e_ok M E0 ρ0 → 0 ≤ M → h_ok M σ → l_ev ρ0 tau = some z → 0 ≤ z → M + z ≤ 1073741824 → l_ev ρ0 dep = some dz → dz ≤ (d : Int) → o_ok ρ0 ov0 σ → s_ok ρ0 args vs → (∀ v ∈ vs, m_vOk h_N v) →
    m_KH l X Y xa d y b n r hh σ vs (c_post alts mc (M + z) ρ0 σ) 1 6
theorem px_2 : (parseMethodDescriptor "(II)I").map (fun d => d.parameters.length) = some 2 := by decide +kernel
theorem px_1 : (parseMethodDescriptor "(I)J").map (fun d => d.parameters.length) = some 1 := by decide +kernel
theorem x_own13 : Cond.classLink "LetByTheDegreeLaw" 13 xN ∈ a_tb := a_in (k := 6) (i := 44) rfl rfl
theorem x_278 {B : Int} {σ : m_H} (hh : h_ok B σ) : ∃ vs, σ[278]? = some (.inl 4, vs) ∧ vs.length = 1 := by
  obtain ⟨vs, h1, h2, -⟩ := h_cell hh (p := 278) (by decide)
  rw [show h_kd 278 = .inl 4 by decide +kernel] at h1
  rw [show h_ln 278 = 1 by decide +kernel] at h2
  exact ⟨vs, h1, h2⟩
theorem x_set278 {B : Int} {σ : m_H} {vs : List Value} (hh : h_ok B σ) (h : σ[278]? = some (.inl 4, vs)) (x : Int64) : h_ok B (σ.set 278 (.inl 4, vs.set 0 (.long x))) := by
  rw [← show h_kd 278 = .inl 4 by decide +kernel] at h ⊢
  refine h_set hh h ?_ trivial
  rw [show h_ty 278 0 = (2, 0, 0) by decide +kernel]
  exact ⟨x, rfl⟩
theorem x_0 {B : Int} {σ : m_H} (hh : h_ok B σ) : ∃ vs, σ[0]? = some (.inr 12, vs) := by
  obtain ⟨vs, h1, h2, -⟩ := h_cell hh (p := 0) (by decide)
  rw [show h_kd 0 = .inr 12 by decide +kernel] at h1
  exact ⟨vs, h1⟩
section LX
variable {p : Program} {l : Launch} {e : Env} {R : Room} {s : State} {m : MethodId} {args : Array Value} {below : List Frame} {meth : Method} {c : Code} {dC : Nat → ClassId} {dI : Nat → Nat → Nat} {aC : Nat → ClassId} {A : Nat → Prop} {n0 : Nat} {ad0 xa : Nat → Nat} {nL : Nat} {cc : ByteArray} {X : Nat → Option (List Int32)} {Y : (Nat → Prop) → State → Heap → Prop} {QQ : State → Prop}
/-- caught: the exception is put aside, 1 is answered -/
theorem x_catch (hC : m_Ctx p s m args meth c cc nL "LetByTheDegreeLaw" dC dI aC A xa X (yY xa)) {H : Heap} {locs : List Loc} {lsC : Array Slot} {q : Addr} {cell : Cell} {rest : List Value} {ce sl pc to h : Nat}
    (htab : c.exceptionTable.toList = tableOf [(0, to, h, 13)]) (hpc : pc < to) (hcell : H[q]? = some cell) (hv : cell.vm = .none) (hcl : s.vm.findClass xN = some cell.cls)
    (kk : W p l e R s m args below meth c H locs ce sl QQ (F0 m h lsC [.ref q])) : vx_W p l e R s m args below meth c H locs ce sl QQ (F0 m pc lsC rest) q := by
  refine vx_catch (own := "LetByTheDegreeLaw") (name := xN) (E := xN) hC.2.2.2.1 [] ⟨0, to, h, 13⟩ [] (by rw [htab]; rfl) (fun z hz => by cases hz) ?_ (show (13 : Nat) ≠ 0 by decide) (m_ctb hC x_own13) (va_Nw.use rfl hC.2.2.2.2.2.2.2.1.2.2.2.2.2.2.2.2.2.1) hcell hv hcl kk
  unfold covers
  simp [hpc]
end LX
def yl_room : MethodName := ⟨"LetByTheDegreeLaw", "room", "(LLetByTheDegree;II[J)I"⟩
theorem jl_room_0 : decode method_3_code 0 = .ok (.aload_n 3, 1) := by decide +kernel
theorem jl_room_1 : decode method_3_code 1 = .ok (.iconst (0), 1) := by decide +kernel
theorem jl_room_2 : decode method_3_code 2 = .ok (.aload_n 0, 1) := by decide +kernel
theorem jl_room_3 : decode method_3_code 3 = .ok (.iload_n 1, 1) := by decide +kernel
theorem jl_room_4 : decode method_3_code 4 = .ok (.iload_n 2, 1) := by decide +kernel
theorem jl_room_5 : decode method_3_code 5 = .ok (.invokevirtual 7, 3) := by decide +kernel
theorem jl_room_8 : decode method_3_code 8 = .ok (.i2l, 1) := by decide +kernel
theorem jl_room_9 : decode method_3_code 9 = .ok (.lastore, 1) := by decide +kernel
theorem jl_room_10 : decode method_3_code 10 = .ok (.goto (7), 3) := by decide +kernel
theorem jl_room_13 : decode method_3_code 13 = .ok (.astore 4, 2) := by decide +kernel
theorem jl_room_15 : decode method_3_code 15 = .ok (.iconst (1), 1) := by decide +kernel
theorem jl_room_16 : decode method_3_code 16 = .ok (.ireturn, 1) := by decide +kernel
theorem jl_room_17 : decode method_3_code 17 = .ok (.iconst (0), 1) := by decide +kernel
theorem jl_room_18 : decode method_3_code 18 = .ok (.ireturn, 1) := by decide +kernel
def cl_room : A_C := (0, [iR, iR], [(2, 0, 0), (1, 0, 0), (1, 1, 0), (2, 278, 0)], [], [(6, 0, 39), (7, 0, 6), (278, 0, 0)], (0, []), (7, []), [([iR, iR], [], some (0, 0, 0), []), ([iR, iR], [], some (0, 0, 1), [])], [], (0, []))
theorem cl_room_sem {l : Launch} {X : Nat → Option (List Int32)} {xa : Nat → Nat} {d : Nat} (hd : 6 ≤ d) (h : c_semX l X (yY xa) xa d cx_room) : c_semH l X (yY xa) xa (d + 1) cl_room yl_room method_3_code 5 (some .int) [(0, 10, 13, 13)] := by
  intro ρ0 M z dz σ vs he hM hh htau hz hMz hdep hdz ho ha hv
  have hzz : (0 : Int) + 0 = z := Option.some.inj htau
  obtain rfl : z = 0 := by omega
  clear hzz
  cases vs with
  | nil => exact absurd ha id
  | cons v1 t1 =>
  obtain ⟨hv1, ha⟩ := ha
  have hv1 : v1 = .ref 0 := hv1
  subst hv1
  cases t1 with
  | nil => exact absurd ha id
  | cons v2 t2 =>
  obtain ⟨hv2, ha⟩ := ha
  obtain ⟨x, rx, rfl, hrx, hxx⟩ := v_var hv2
  cases t2 with
  | nil => exact absurd ha id
  | cons v3 t2 =>
  obtain ⟨hv3, ha⟩ := ha
  obtain ⟨w, rw0, rfl, hrw, hww⟩ := v_var hv3
  cases t2 with
  | nil => exact absurd ha id
  | cons v4 t4 =>
  obtain ⟨hv4, ha⟩ := ha
  have hv4 : v4 = .ref 278 := hv4
  subst hv4
  cases t4 with
  | cons v5 t5 => exact absurd ha id
  | nil =>
  have hσl : σ.length = h_N := hh.1
  have hN : (0 : Nat) < h_N ∧ 278 < h_N := by decide
  obtain ⟨fs, hσ0⟩ := x_0 hh
  have hK0 := h _ rfl ρ0 M 0 5 σ [.ref 0, .int x, .int w] he hM hh rfl (by decide) (by omega) rfl (by omega) (fun q hq => by cases hq) ⟨rfl, hv2, hv3, trivial⟩ (fun v hv => by
    simp only [List.mem_cons, List.not_mem_nil, or_false] at hv
    rcases hv with rfl | rfl | rfl
    · exact vok_ref hN.1
    · trivial
    · trivial)
  have hK := (hK0 (z_of_h hh)).mono (fun _ _ q => q.1) (fun _ q => q.1)
  have hls : ∀ u ∈ ([(0, .ref 0), (1, .int x), (2, .int w), (3, .ref 278)] : List (Nat × Value)), m_vOk σ.length u.2 := fun u hu => by
    rw [hσl]
    simp only [List.mem_cons, List.not_mem_nil, or_false] at hu
    rcases hu with rfl | rfl | rfl | rfl
    · exact vok_ref hN.1
    · trivial
    · trivial
    · exact vok_ref hN.2
  refine m_KH_of (by decide) (Nat.le_of_ble_eq_true rfl) (fun p e s m args below meth c dC dI aC ad sz hC hrt htab => ?_)
  refine mV_aload_n hC jl_room_0 rfl ?_
  refine mV_iconst hC jl_room_1 ?_
  refine mV_aload_n hC jl_room_2 rfl ?_
  refine mV_iload_n hC jl_room_3 rfl ?_
  refine mV_iload_n hC jl_room_4 rfl ?_
  refine mV_callVX (yY_ok xa) hC (as := [.int x, .int w]) (st := [.int 0, .ref 278]) (r0 := _) (q := 0) jl_room_5 hK hσ0 (ci := 12) rfl rfl (a_in (k := 6) (i := 45) rfl rfl) (a_in (k := 6) (i := 46) rfl rfl) (a_in (k := 6) (i := 47) rfl rfl) (a_in (k := 1) (i := 1) rfl rfl) (a_in (k := 6) (i := 48) rfl rfl) (by decide) px_2 ⟨Nat.le_refl _, Nat.le_refl _⟩ (by decide) (Nat.le_refl _) (Nat.le_refl _) (by decide) (Nat.le_refl _) (fun v hv => by
    rw [hσl]
    simp only [List.mem_cons, List.not_mem_nil, or_false] at hv
    rcases hv with rfl | rfl
    · trivial
    · exact vok_ref hN.2) hls (fun r σ' hQ => ?_) (fun σ' ad' H' locs' lsC q cell rest hQ b1 b2 b3 b4 b5 b6 b7 b8 b9 => ?_)
  · obtain ⟨q, hq, ρ', c1, c2, c3, c4, c5, c6, c7⟩ := hQ
    obtain rfl := List.mem_singleton.mp hq
    cases r with
    | none => exact absurd c4 id
    | some v =>
      obtain ⟨y, ry, rfl, hry, hyy⟩ := v_var (show v_ok ρ' (1, 2, 0) v from c4)
      obtain ⟨os, g1, g2⟩ := x_278 c5
      refine mV_i2l hC jl_room_8 ?_
      refine mV_lastore hC jl_room_9 g1 (i := 0) (by rw [g2]; exact vp_in_iff.mpr ⟨by decide, by decide⟩) ?_
      refine mV_goto hC jl_room_10 (tgt := 17) rfl ?_
      refine mV_iconst hC jl_room_17 ?_
      refine mV_iret hC jl_room_18 hrt rfl ⟨_, List.mem_cons_self, ρ0, r_ext.rf, by rw [Int.add_zero]; exact he, (fun q hq => by cases hq), ⟨0, rfl, rfl⟩, x_set278 c5 g1 y.toInt64, (fun q hq => by cases hq), ?_⟩ (Nat.le_refl _) (Nat.le_refl _)
      refine h_fr_set ?_ g1 ⟨(278, 0, 0), by decide, rfl, Nat.le_refl _, Nat.le_refl _⟩
      exact fun p k hn => c7 p k (fun z => hn (by obtain ⟨u, u1, u2⟩ := z; exact ⟨u, (by rcases List.mem_cons.mp u1 with rfl | u1; exact List.mem_cons_self; rcases List.mem_cons.mp u1 with rfl | u1; exact List.mem_cons_of_mem _ List.mem_cons_self; cases u1), u2⟩))
  · refine x_catch hC htab (by decide) b7 b8 b9 ?_
    refine lv_astore hC.1 hC.2.1 jl_room_13 b6 (by decide) rfl (fun ls' hl' => ?_)
    have k2 : mV p l e (m_rm (d + 1) 1 6) s m args below meth c (MQ below (m_Qc dC dI aC xa ad sz σ (c_post [([iR, iR], [], some (0, 0, 0), []), ([iR, iR], [], some (0, 0, 1), [])] [(6, 0, 39), (7, 0, 6), (278, 0, 0)] (M + 0) ρ0 σ)) args s 1 6 (va_A (m_W ad aC σ) sz)) dC dI aC (va_A (m_W ad aC σ) sz) σ.length ad xa 5 (σ', 0 + 1, 0 + 6, 15, [], []) := by
      refine mV_iconst hC jl_room_15 ?_
      refine mV_iret hC jl_room_16 hrt rfl ⟨_, List.mem_cons_of_mem _ List.mem_cons_self, ρ0, r_ext.rf, by rw [Int.add_zero]; exact he, (fun q hq => by cases hq), ⟨1, rfl, rfl⟩, hQ.1, (fun q hq => by cases hq), ?_⟩ (Nat.le_refl _) (Nat.le_refl _)
      exact fun p k hn => hQ.2 p k (fun z => hn (by obtain ⟨u, u1, u2⟩ := z; exact ⟨u, (by rcases List.mem_cons.mp u1 with rfl | u1; exact List.mem_cons_self; rcases List.mem_cons.mp u1 with rfl | u1; exact List.mem_cons_of_mem _ List.mem_cons_self; cases u1), u2⟩))
    exact k2 ad' H' locs' ls' b1 b2 b3 b4 b5 ⟨hl'.1, hl'.2.1, fun q hq => by cases hq⟩
def yl_person : MethodName := ⟨"LetByTheDegreeLaw", "person", "(LLetByTheDegree;II[J)I"⟩
theorem jl_person_0 : decode method_4_code 0 = .ok (.aload_n 3, 1) := by decide +kernel
theorem jl_person_1 : decode method_4_code 1 = .ok (.iconst (0), 1) := by decide +kernel
theorem jl_person_2 : decode method_4_code 2 = .ok (.aload_n 0, 1) := by decide +kernel
theorem jl_person_3 : decode method_4_code 3 = .ok (.iload_n 1, 1) := by decide +kernel
theorem jl_person_4 : decode method_4_code 4 = .ok (.iload_n 2, 1) := by decide +kernel
theorem jl_person_5 : decode method_4_code 5 = .ok (.invokevirtual 15, 3) := by decide +kernel
theorem jl_person_8 : decode method_4_code 8 = .ok (.i2l, 1) := by decide +kernel
theorem jl_person_9 : decode method_4_code 9 = .ok (.lastore, 1) := by decide +kernel
theorem jl_person_10 : decode method_4_code 10 = .ok (.goto (7), 3) := by decide +kernel
theorem jl_person_13 : decode method_4_code 13 = .ok (.astore 4, 2) := by decide +kernel
theorem jl_person_15 : decode method_4_code 15 = .ok (.iconst (1), 1) := by decide +kernel
theorem jl_person_16 : decode method_4_code 16 = .ok (.ireturn, 1) := by decide +kernel
theorem jl_person_17 : decode method_4_code 17 = .ok (.iconst (0), 1) := by decide +kernel
theorem jl_person_18 : decode method_4_code 18 = .ok (.ireturn, 1) := by decide +kernel
def cl_person : A_C := (0, [iR, iR], [(2, 0, 0), (1, 0, 0), (1, 1, 0), (2, 278, 0)], [], [(278, 0, 0)], (0, []), (7, []), [([iR, iR], [], some (0, 0, 0), []), ([iR, iR], [], some (0, 0, 1), [])], [], (0, []))
theorem cl_person_sem {l : Launch} {X : Nat → Option (List Int32)} {xa : Nat → Nat} {d : Nat} (hd : 6 ≤ d) (h : c_semX l X (yY xa) xa d cx_person) : c_semH l X (yY xa) xa (d + 1) cl_person yl_person method_4_code 5 (some .int) [(0, 10, 13, 13)] := by
  intro ρ0 M z dz σ vs he hM hh htau hz hMz hdep hdz ho ha hv
  have hzz : (0 : Int) + 0 = z := Option.some.inj htau
  obtain rfl : z = 0 := by omega
  clear hzz
  cases vs with
  | nil => exact absurd ha id
  | cons v1 t1 =>
  obtain ⟨hv1, ha⟩ := ha
  have hv1 : v1 = .ref 0 := hv1
  subst hv1
  cases t1 with
  | nil => exact absurd ha id
  | cons v2 t2 =>
  obtain ⟨hv2, ha⟩ := ha
  obtain ⟨x, rx, rfl, hrx, hxx⟩ := v_var hv2
  cases t2 with
  | nil => exact absurd ha id
  | cons v3 t2 =>
  obtain ⟨hv3, ha⟩ := ha
  obtain ⟨w, rw0, rfl, hrw, hww⟩ := v_var hv3
  cases t2 with
  | nil => exact absurd ha id
  | cons v4 t4 =>
  obtain ⟨hv4, ha⟩ := ha
  have hv4 : v4 = .ref 278 := hv4
  subst hv4
  cases t4 with
  | cons v5 t5 => exact absurd ha id
  | nil =>
  have hσl : σ.length = h_N := hh.1
  have hN : (0 : Nat) < h_N ∧ 278 < h_N := by decide
  obtain ⟨fs, hσ0⟩ := x_0 hh
  have hK0 := h _ rfl ρ0 M 0 5 σ [.ref 0, .int x, .int w] he hM hh rfl (by decide) (by omega) rfl (by omega) (fun q hq => by cases hq) ⟨rfl, hv2, hv3, trivial⟩ (fun v hv => by
    simp only [List.mem_cons, List.not_mem_nil, or_false] at hv
    rcases hv with rfl | rfl | rfl
    · exact vok_ref hN.1
    · trivial
    · trivial)
  have hK := (hK0 (z_of_h hh)).mono (fun _ _ q => q.1) (fun _ q => q.1)
  have hls : ∀ u ∈ ([(0, .ref 0), (1, .int x), (2, .int w), (3, .ref 278)] : List (Nat × Value)), m_vOk σ.length u.2 := fun u hu => by
    rw [hσl]
    simp only [List.mem_cons, List.not_mem_nil, or_false] at hu
    rcases hu with rfl | rfl | rfl | rfl
    · exact vok_ref hN.1
    · trivial
    · trivial
    · exact vok_ref hN.2
  refine m_KH_of (by decide) (Nat.le_of_ble_eq_true rfl) (fun p e s m args below meth c dC dI aC ad sz hC hrt htab => ?_)
  refine mV_aload_n hC jl_person_0 rfl ?_
  refine mV_iconst hC jl_person_1 ?_
  refine mV_aload_n hC jl_person_2 rfl ?_
  refine mV_iload_n hC jl_person_3 rfl ?_
  refine mV_iload_n hC jl_person_4 rfl ?_
  refine mV_callVX (yY_ok xa) hC (as := [.int x, .int w]) (st := [.int 0, .ref 278]) (r0 := _) (q := 0) jl_person_5 hK hσ0 (ci := 12) rfl rfl (a_in (k := 6) (i := 118) rfl rfl) (a_in (k := 6) (i := 119) rfl rfl) (a_in (k := 6) (i := 120) rfl rfl) (a_in (k := 1) (i := 1) rfl rfl) (a_in (k := 6) (i := 121) rfl rfl) (by decide) px_2 ⟨Nat.le_refl _, Nat.le_refl _⟩ (by decide) (Nat.le_refl _) (Nat.le_refl _) (by decide) (Nat.le_refl _) (fun v hv => by
    rw [hσl]
    simp only [List.mem_cons, List.not_mem_nil, or_false] at hv
    rcases hv with rfl | rfl
    · trivial
    · exact vok_ref hN.2) hls (fun r σ' hQ => ?_) (fun σ' ad' H' locs' lsC q cell rest hQ b1 b2 b3 b4 b5 b6 b7 b8 b9 => ?_)
  · obtain ⟨q, hq, ρ', c1, c2, c3, c4, c5, c6, c7⟩ := hQ
    obtain rfl := List.mem_singleton.mp hq
    cases r with
    | none => exact absurd c4 id
    | some v =>
      obtain ⟨y, ry, rfl, hry, hyy⟩ := v_var (show v_ok ρ' (1, 2, 0) v from c4)
      obtain ⟨os, g1, g2⟩ := x_278 c5
      refine mV_i2l hC jl_person_8 ?_
      refine mV_lastore hC jl_person_9 g1 (i := 0) (by rw [g2]; exact vp_in_iff.mpr ⟨by decide, by decide⟩) ?_
      refine mV_goto hC jl_person_10 (tgt := 17) rfl ?_
      refine mV_iconst hC jl_person_17 ?_
      refine mV_iret hC jl_person_18 hrt rfl ⟨_, List.mem_cons_self, ρ0, r_ext.rf, by rw [Int.add_zero]; exact he, (fun q hq => by cases hq), ⟨0, rfl, rfl⟩, x_set278 c5 g1 y.toInt64, (fun q hq => by cases hq), ?_⟩ (Nat.le_refl _) (Nat.le_refl _)
      refine h_fr_set ?_ g1 ⟨(278, 0, 0), by decide, rfl, Nat.le_refl _, Nat.le_refl _⟩
      exact fun p k hn => c7 p k (fun z => hn (by obtain ⟨u, u1, u2⟩ := z; exact ⟨u, (by cases u1), u2⟩))
  · refine x_catch hC htab (by decide) b7 b8 b9 ?_
    refine lv_astore hC.1 hC.2.1 jl_person_13 b6 (by decide) rfl (fun ls' hl' => ?_)
    have k2 : mV p l e (m_rm (d + 1) 1 6) s m args below meth c (MQ below (m_Qc dC dI aC xa ad sz σ (c_post [([iR, iR], [], some (0, 0, 0), []), ([iR, iR], [], some (0, 0, 1), [])] [(278, 0, 0)] (M + 0) ρ0 σ)) args s 1 6 (va_A (m_W ad aC σ) sz)) dC dI aC (va_A (m_W ad aC σ) sz) σ.length ad xa 5 (σ', 0 + 1, 0 + 6, 15, [], []) := by
      refine mV_iconst hC jl_person_15 ?_
      refine mV_iret hC jl_person_16 hrt rfl ⟨_, List.mem_cons_of_mem _ List.mem_cons_self, ρ0, r_ext.rf, by rw [Int.add_zero]; exact he, (fun q hq => by cases hq), ⟨1, rfl, rfl⟩, hQ.1, (fun q hq => by cases hq), ?_⟩ (Nat.le_refl _) (Nat.le_refl _)
      exact fun p k hn => hQ.2 p k (fun z => hn (by obtain ⟨u, u1, u2⟩ := z; exact ⟨u, (by cases u1), u2⟩))
    exact k2 ad' H' locs' ls' b1 b2 b3 b4 b5 ⟨hl'.1, hl'.2.1, fun q hq => by cases hq⟩
def yl_row : MethodName := ⟨"LetByTheDegreeLaw", "row", "(LLetByTheDegree;I[J)I"⟩
theorem jl_row_0 : decode method_5_code 0 = .ok (.aload_n 2, 1) := by decide +kernel
theorem jl_row_1 : decode method_5_code 1 = .ok (.iconst (0), 1) := by decide +kernel
theorem jl_row_2 : decode method_5_code 2 = .ok (.aload_n 0, 1) := by decide +kernel
theorem jl_row_3 : decode method_5_code 3 = .ok (.iload_n 1, 1) := by decide +kernel
theorem jl_row_4 : decode method_5_code 4 = .ok (.invokevirtual 18, 3) := by decide +kernel
theorem jl_row_7 : decode method_5_code 7 = .ok (.lastore, 1) := by decide +kernel
theorem jl_row_8 : decode method_5_code 8 = .ok (.goto (6), 3) := by decide +kernel
theorem jl_row_11 : decode method_5_code 11 = .ok (.astore_n 3, 1) := by decide +kernel
theorem jl_row_12 : decode method_5_code 12 = .ok (.iconst (1), 1) := by decide +kernel
theorem jl_row_13 : decode method_5_code 13 = .ok (.ireturn, 1) := by decide +kernel
theorem jl_row_14 : decode method_5_code 14 = .ok (.iconst (0), 1) := by decide +kernel
theorem jl_row_15 : decode method_5_code 15 = .ok (.ireturn, 1) := by decide +kernel
def cl_row : A_C := (0, [iR], [(2, 0, 0), (1, 0, 0), (2, 278, 0)], [], [(278, 0, 0)], (0, []), (7, []), [([iR], [], some (0, 0, 0), []), ([iR], [], some (0, 0, 1), [])], [], (0, []))
theorem cl_row_sem {l : Launch} {X : Nat → Option (List Int32)} {xa : Nat → Nat} {d : Nat} (hd : 6 ≤ d) (h : c_semX l X (yY xa) xa d cx_row) : c_semH l X (yY xa) xa (d + 1) cl_row yl_row method_5_code 4 (some .int) [(0, 8, 11, 13)] := by
  intro ρ0 M z dz σ vs he hM hh htau hz hMz hdep hdz ho ha hv
  have hzz : (0 : Int) + 0 = z := Option.some.inj htau
  obtain rfl : z = 0 := by omega
  clear hzz
  cases vs with
  | nil => exact absurd ha id
  | cons v1 t1 =>
  obtain ⟨hv1, ha⟩ := ha
  have hv1 : v1 = .ref 0 := hv1
  subst hv1
  cases t1 with
  | nil => exact absurd ha id
  | cons v2 t2 =>
  obtain ⟨hv2, ha⟩ := ha
  obtain ⟨x, rx, rfl, hrx, hxx⟩ := v_var hv2
  cases t2 with
  | nil => exact absurd ha id
  | cons v4 t4 =>
  obtain ⟨hv4, ha⟩ := ha
  have hv4 : v4 = .ref 278 := hv4
  subst hv4
  cases t4 with
  | cons v5 t5 => exact absurd ha id
  | nil =>
  have hσl : σ.length = h_N := hh.1
  have hN : (0 : Nat) < h_N ∧ 278 < h_N := by decide
  obtain ⟨fs, hσ0⟩ := x_0 hh
  have hK0 := h _ rfl ρ0 M 0 5 σ [.ref 0, .int x] he hM hh rfl (by decide) (by omega) rfl (by omega) (fun q hq => by cases hq) ⟨rfl, hv2, trivial⟩ (fun v hv => by
    simp only [List.mem_cons, List.not_mem_nil, or_false] at hv
    rcases hv with rfl | rfl
    · exact vok_ref hN.1
    · trivial)
  have hK := (hK0 (z_of_h hh)).mono (fun _ _ q => q.1) (fun _ q => q.1)
  have hls : ∀ u ∈ ([(0, .ref 0), (1, .int x), (2, .ref 278)] : List (Nat × Value)), m_vOk σ.length u.2 := fun u hu => by
    rw [hσl]
    simp only [List.mem_cons, List.not_mem_nil, or_false] at hu
    rcases hu with rfl | rfl | rfl
    · exact vok_ref hN.1
    · trivial
    · exact vok_ref hN.2
  refine m_KH_of (by decide) (Nat.le_of_ble_eq_true rfl) (fun p e s m args below meth c dC dI aC ad sz hC hrt htab => ?_)
  refine mV_aload_n hC jl_row_0 rfl ?_
  refine mV_iconst hC jl_row_1 ?_
  refine mV_aload_n hC jl_row_2 rfl ?_
  refine mV_iload_n hC jl_row_3 rfl ?_
  refine mV_callVX (yY_ok xa) hC (as := [.int x]) (st := [.int 0, .ref 278]) (r0 := _) (q := 0) jl_row_4 hK hσ0 (ci := 12) rfl rfl (a_in (k := 6) (i := 131) rfl rfl) (a_in (k := 6) (i := 132) rfl rfl) (a_in (k := 6) (i := 133) rfl rfl) (a_in (k := 1) (i := 1) rfl rfl) (a_in (k := 6) (i := 134) rfl rfl) (by decide) px_1 ⟨Nat.le_refl _, Nat.le_refl _⟩ (by decide) (Nat.le_refl _) (Nat.le_refl _) (by decide) (Nat.le_refl _) (fun v hv => by
    rw [hσl]
    simp only [List.mem_cons, List.not_mem_nil, or_false] at hv
    rcases hv with rfl | rfl
    · trivial
    · exact vok_ref hN.2) hls (fun r σ' hQ => ?_) (fun σ' ad' H' locs' lsC q cell rest hQ b1 b2 b3 b4 b5 b6 b7 b8 b9 => ?_)
  · obtain ⟨q, hq, ρ', c1, c2, c3, c4, c5, c6, c7⟩ := hQ
    obtain rfl := List.mem_singleton.mp hq
    cases r with
    | none => exact absurd c4 id
    | some v =>
      obtain ⟨y, ry, rfl, hry, hyy⟩ : ∃ (y : Int64) (r : Int), v = .long y ∧ ρ'[1]? = some r ∧ y.toInt = r + 0 := c4
      obtain ⟨os, g1, g2⟩ := x_278 c5
      refine mV_lastore hC jl_row_7 g1 (i := 0) (by rw [g2]; exact vp_in_iff.mpr ⟨by decide, by decide⟩) ?_
      refine mV_goto hC jl_row_8 (tgt := 14) rfl ?_
      refine mV_iconst hC jl_row_14 ?_
      refine mV_iret hC jl_row_15 hrt rfl ⟨_, List.mem_cons_self, ρ0, r_ext.rf, by rw [Int.add_zero]; exact he, (fun q hq => by cases hq), ⟨0, rfl, rfl⟩, x_set278 c5 g1 y, (fun q hq => by cases hq), ?_⟩ (Nat.le_refl _) (Nat.le_refl _)
      refine h_fr_set ?_ g1 ⟨(278, 0, 0), by decide, rfl, Nat.le_refl _, Nat.le_refl _⟩
      exact fun p k hn => c7 p k (fun z => hn (by obtain ⟨u, u1, u2⟩ := z; exact ⟨u, (by cases u1), u2⟩))
  · refine x_catch hC htab (by decide) b7 b8 b9 ?_
    refine lv_astore_n hC.1 hC.2.1 jl_row_11 rfl b6 (by decide) rfl (fun ls' hl' => ?_)
    have k2 : mV p l e (m_rm (d + 1) 1 6) s m args below meth c (MQ below (m_Qc dC dI aC xa ad sz σ (c_post [([iR], [], some (0, 0, 0), []), ([iR], [], some (0, 0, 1), [])] [(278, 0, 0)] (M + 0) ρ0 σ)) args s 1 6 (va_A (m_W ad aC σ) sz)) dC dI aC (va_A (m_W ad aC σ) sz) σ.length ad xa 4 (σ', 0 + 1, 0 + 6, 12, [], []) := by
      refine mV_iconst hC jl_row_12 ?_
      refine mV_iret hC jl_row_13 hrt rfl ⟨_, List.mem_cons_of_mem _ List.mem_cons_self, ρ0, r_ext.rf, by rw [Int.add_zero]; exact he, (fun q hq => by cases hq), ⟨1, rfl, rfl⟩, hQ.1, (fun q hq => by cases hq), ?_⟩ (Nat.le_refl _) (Nat.le_refl _)
      exact fun p k hn => hQ.2 p k (fun z => hn (by obtain ⟨u, u1, u2⟩ := z; exact ⟨u, (by cases u1), u2⟩))
    exact k2 ad' H' locs' ls' b1 b2 b3 b4 b5 ⟨hl'.1, hl'.2.1, fun q hq => by cases hq⟩
end
section
/-! ALL CONTRACTS TOGETHER: the methods by their numbers -/
def mq_4 : a_M := (⟨"LetByTheDegree$Rule", "becomeUntold", "()V"⟩, prog_6_method_2_code, 1, none)
set_option maxRecDepth 100000 in
theorem mq_4_at : a_mt[4]? = some mq_4 := a_mt_nth 0 4 4 a_mt_0 mq_4 rfl a_mt_t_0 rfl rfl
theorem mq_4_pl : plainFor mq_4.1 = true := by decide +kernel
theorem mq_4_kt : kt_at 4 = kt_4 := rfl
theorem mq_4_k : ∀ r ∈ kt_4, ∀ e ∈ r, k_ok mq_4.1.cls mq_4.2.1 e := k_all_ok (c := 4) rfl kt_4_ok
def mq_14 : a_M := (⟨"LetByTheDegree", "sign", "(I)I"⟩, prog_1_method_2_code, 2, (some FieldType.int))
set_option maxRecDepth 100000 in
theorem mq_14_at : a_mt[14]? = some mq_14 := a_mt_nth 0 14 14 a_mt_0 mq_14 rfl a_mt_t_0 rfl rfl
theorem mq_14_pl : plainFor mq_14.1 = true := by decide +kernel
theorem mq_14_kt : kt_at 14 = kt_14 := rfl
theorem mq_14_k : ∀ r ∈ kt_14, ∀ e ∈ r, k_ok mq_14.1.cls mq_14.2.1 e := k_all_ok (c := 12) rfl kt_14_ok
def mq_15 : a_M := (⟨"LetByTheDegree$Signs", "append", "(I)Z"⟩, prog_8_method_2_code, 3, (some FieldType.boolean))
set_option maxRecDepth 100000 in
theorem mq_15_at : a_mt[15]? = some mq_15 := a_mt_nth 0 15 15 a_mt_0 mq_15 rfl a_mt_t_0 rfl rfl
theorem mq_15_pl : plainFor mq_15.1 = true := by decide +kernel
theorem mq_15_kt : kt_at 15 = kt_15 := rfl
theorem mq_15_k : ∀ r ∈ kt_15, ∀ e ∈ r, k_ok mq_15.1.cls mq_15.2.1 e := k_all_ok (c := 6) rfl kt_15_ok
def mq_16 : a_M := (⟨"LetByTheDegree", "end", "(I)Z"⟩, prog_1_method_3_code, 2, (some FieldType.boolean))
set_option maxRecDepth 100000 in
theorem mq_16_at : a_mt[16]? = some mq_16 := a_mt_nth 1 0 16 a_mt_1 mq_16 rfl a_mt_t_1 rfl rfl
theorem mq_16_pl : plainFor mq_16.1 = true := by decide +kernel
theorem mq_16_kt : kt_at 16 = kt_16 := rfl
theorem mq_16_k : ∀ r ∈ kt_16, ∀ e ∈ r, k_ok mq_16.1.cls mq_16.2.1 e := k_all_ok (c := 12) rfl kt_16_ok
def mq_17 : a_M := (⟨"LetByTheDegree$Signs", "cut", "(I)Z"⟩, prog_8_method_3_code, 2, (some FieldType.boolean))
set_option maxRecDepth 100000 in
theorem mq_17_at : a_mt[17]? = some mq_17 := a_mt_nth 1 1 17 a_mt_1 mq_17 rfl a_mt_t_1 rfl rfl
theorem mq_17_pl : plainFor mq_17.1 = true := by decide +kernel
theorem mq_17_kt : kt_at 17 = kt_17 := rfl
theorem mq_17_k : ∀ r ∈ kt_17, ∀ e ∈ r, k_ok mq_17.1.cls mq_17.2.1 e := k_all_ok (c := 6) rfl kt_17_ok
def mq_18 : a_M := (⟨"LetByTheDegree", "house", "()I"⟩, prog_1_method_4_code, 3, (some FieldType.int))
set_option maxRecDepth 100000 in
theorem mq_18_at : a_mt[18]? = some mq_18 := a_mt_nth 1 2 18 a_mt_1 mq_18 rfl a_mt_t_1 rfl rfl
theorem mq_18_pl : plainFor mq_18.1 = true := by decide +kernel
theorem mq_18_kt : kt_at 18 = kt_18 := rfl
theorem mq_18_k : ∀ r ∈ kt_18, ∀ e ∈ r, k_ok mq_18.1.cls mq_18.2.1 e := k_all_ok (c := 12) rfl kt_18_ok
def mq_19 : a_M := (⟨"LetByTheDegree$House", "readHouse", "(LLetByTheDegree$Signs;)Z"⟩, prog_3_method_9_code, 3, (some FieldType.boolean))
set_option maxRecDepth 100000 in
theorem mq_19_at : a_mt[19]? = some mq_19 := a_mt_nth 1 3 19 a_mt_1 mq_19 rfl a_mt_t_1 rfl rfl
theorem mq_19_pl : plainFor mq_19.1 = true := by decide +kernel
theorem mq_19_kt : kt_at 19 = kt_19 := rfl
theorem mq_19_k : ∀ r ∈ kt_19, ∀ e ∈ r, k_ok mq_19.1.cls mq_19.2.1 e := k_all_ok (c := 1) rfl kt_19_ok
def mq_20 : a_M := (⟨"LetByTheDegree$Signs", "begin", "(I)V"⟩, prog_8_method_5_code, 2, none)
set_option maxRecDepth 100000 in
theorem mq_20_at : a_mt[20]? = some mq_20 := a_mt_nth 1 4 20 a_mt_1 mq_20 rfl a_mt_t_1 rfl rfl
theorem mq_20_pl : plainFor mq_20.1 = true := by decide +kernel
theorem mq_20_kt : kt_at 20 = kt_20 := rfl
theorem mq_20_k : ∀ r ∈ kt_20, ∀ e ∈ r, k_ok mq_20.1.cls mq_20.2.1 e := k_all_ok (c := 6) rfl kt_20_ok
def mq_21 : a_M := (⟨"LetByTheDegree$House", "readStorey", "(LLetByTheDegree$Signs;I)Z"⟩, prog_3_method_10_code, 5, (some FieldType.boolean))
set_option maxRecDepth 100000 in
theorem mq_21_at : a_mt[21]? = some mq_21 := a_mt_nth 1 5 21 a_mt_1 mq_21 rfl a_mt_t_1 rfl rfl
theorem mq_21_pl : plainFor mq_21.1 = true := by decide +kernel
theorem mq_21_kt : kt_at 21 = kt_21 := rfl
theorem mq_21_k : ∀ r ∈ kt_21, ∀ e ∈ r, k_ok mq_21.1.cls mq_21.2.1 e := k_all_ok (c := 1) rfl kt_21_ok
def mq_22 : a_M := (⟨"LetByTheDegree$House", "readIce", "(LLetByTheDegree$Signs;)I"⟩, prog_3_method_11_code, 3, (some FieldType.int))
set_option maxRecDepth 100000 in
theorem mq_22_at : a_mt[22]? = some mq_22 := a_mt_nth 1 6 22 a_mt_1 mq_22 rfl a_mt_t_1 rfl rfl
theorem mq_22_pl : plainFor mq_22.1 = true := by decide +kernel
theorem mq_22_kt : kt_at 22 = kt_22 := rfl
theorem mq_22_k : ∀ r ∈ kt_22, ∀ e ∈ r, k_ok mq_22.1.cls mq_22.2.1 e := k_all_ok (c := 1) rfl kt_22_ok
def mq_23 : a_M := (⟨"LetByTheDegree$Signs", "nextDigit", "()I"⟩, prog_8_method_7_code, 1, (some FieldType.int))
set_option maxRecDepth 100000 in
theorem mq_23_at : a_mt[23]? = some mq_23 := a_mt_nth 1 7 23 a_mt_1 mq_23 rfl a_mt_t_1 rfl rfl
theorem mq_23_pl : plainFor mq_23.1 = true := by decide +kernel
theorem mq_23_kt : kt_at 23 = kt_23 := rfl
theorem mq_23_k : ∀ r ∈ kt_23, ∀ e ∈ r, k_ok mq_23.1.cls mq_23.2.1 e := k_all_ok (c := 6) rfl kt_23_ok
def mq_24 : a_M := (⟨"LetByTheDegree$Signs", "next", "()I"⟩, prog_8_method_6_code, 1, (some FieldType.int))
set_option maxRecDepth 100000 in
theorem mq_24_at : a_mt[24]? = some mq_24 := a_mt_nth 1 8 24 a_mt_1 mq_24 rfl a_mt_t_1 rfl rfl
theorem mq_24_pl : plainFor mq_24.1 = true := by decide +kernel
theorem mq_24_kt : kt_at 24 = kt_24 := rfl
theorem mq_24_k : ∀ r ∈ kt_24, ∀ e ∈ r, k_ok mq_24.1.cls mq_24.2.1 e := k_all_ok (c := 6) rfl kt_24_ok
def mq_25 : a_M := (⟨"LetByTheDegree", "digitOf", "(I)I"⟩, prog_1_method_59_code, 1, (some FieldType.int))
set_option maxRecDepth 100000 in
theorem mq_25_at : a_mt[25]? = some mq_25 := a_mt_nth 1 9 25 a_mt_1 mq_25 rfl a_mt_t_1 rfl rfl
theorem mq_25_pl : plainFor mq_25.1 = true := by decide +kernel
theorem mq_25_kt : kt_at 25 = kt_25 := rfl
theorem mq_25_k : ∀ r ∈ kt_25, ∀ e ∈ r, k_ok mq_25.1.cls mq_25.2.1 e := k_all_ok (c := 12) rfl kt_25_ok
def mq_26 : a_M := (⟨"LetByTheDegree$Signs", "step", "(Z)Z"⟩, prog_8_method_8_code, 2, (some FieldType.boolean))
set_option maxRecDepth 100000 in
theorem mq_26_at : a_mt[26]? = some mq_26 := a_mt_nth 1 10 26 a_mt_1 mq_26 rfl a_mt_t_1 rfl rfl
theorem mq_26_pl : plainFor mq_26.1 = true := by decide +kernel
theorem mq_26_kt : kt_at 26 = kt_26 := rfl
theorem mq_26_k : ∀ r ∈ kt_26, ∀ e ∈ r, k_ok mq_26.1.cls mq_26.2.1 e := k_all_ok (c := 6) rfl kt_26_ok
def mq_27 : a_M := (⟨"LetByTheDegree$Signs", "stepOver", "(C)Z"⟩, prog_8_method_9_code, 2, (some FieldType.boolean))
set_option maxRecDepth 100000 in
theorem mq_27_at : a_mt[27]? = some mq_27 := a_mt_nth 1 11 27 a_mt_1 mq_27 rfl a_mt_t_1 rfl rfl
theorem mq_27_pl : plainFor mq_27.1 = true := by decide +kernel
theorem mq_27_kt : kt_at 27 = kt_27 := rfl
theorem mq_27_k : ∀ r ∈ kt_27, ∀ e ∈ r, k_ok mq_27.1.cls mq_27.2.1 e := k_all_ok (c := 6) rfl kt_27_ok
def mq_28 : a_M := (⟨"LetByTheDegree$Signs", "ended", "()Z"⟩, prog_8_method_10_code, 1, (some FieldType.boolean))
set_option maxRecDepth 100000 in
theorem mq_28_at : a_mt[28]? = some mq_28 := a_mt_nth 1 12 28 a_mt_1 mq_28 rfl a_mt_t_1 rfl rfl
theorem mq_28_pl : plainFor mq_28.1 = true := by decide +kernel
theorem mq_28_kt : kt_at 28 = kt_28 := rfl
theorem mq_28_k : ∀ r ∈ kt_28, ∀ e ∈ r, k_ok mq_28.1.cls mq_28.2.1 e := k_all_ok (c := 6) rfl kt_28_ok
def mq_29 : a_M := (⟨"LetByTheDegree$Signs", "empty", "()V"⟩, prog_8_method_4_code, 1, none)
set_option maxRecDepth 100000 in
theorem mq_29_at : a_mt[29]? = some mq_29 := a_mt_nth 1 13 29 a_mt_1 mq_29 rfl a_mt_t_1 rfl rfl
theorem mq_29_pl : plainFor mq_29.1 = true := by decide +kernel
theorem mq_29_kt : kt_at 29 = kt_29 := rfl
theorem mq_29_k : ∀ r ∈ kt_29, ∀ e ∈ r, k_ok mq_29.1.cls mq_29.2.1 e := k_all_ok (c := 6) rfl kt_29_ok
def mq_30 : a_M := (⟨"LetByTheDegree$House", "build", "(LLetByTheDegree$State;)I"⟩, prog_3_method_12_code, 3, (some FieldType.int))
set_option maxRecDepth 100000 in
theorem mq_30_at : a_mt[30]? = some mq_30 := a_mt_nth 1 14 30 a_mt_1 mq_30 rfl a_mt_t_1 rfl rfl
theorem mq_30_pl : plainFor mq_30.1 = true := by decide +kernel
theorem mq_30_kt : kt_at 30 = kt_30 := rfl
theorem mq_30_k : ∀ r ∈ kt_30, ∀ e ∈ r, k_ok mq_30.1.cls mq_30.2.1 e := k_all_ok (c := 1) rfl kt_30_ok
def mq_31 : a_M := (⟨"LetByTheDegree$State", "clear", "()V"⟩, prog_10_method_3_code, 2, none)
set_option maxRecDepth 100000 in
theorem mq_31_at : a_mt[31]? = some mq_31 := a_mt_nth 1 15 31 a_mt_1 mq_31 rfl a_mt_t_1 rfl rfl
theorem mq_31_pl : plainFor mq_31.1 = true := by decide +kernel
theorem mq_31_kt : kt_at 31 = kt_31 := rfl
theorem mq_31_k : ∀ r ∈ kt_31, ∀ e ∈ r, k_ok mq_31.1.cls mq_31.2.1 e := k_all_ok (c := 8) rfl kt_31_ok
def mq_32 : a_M := (⟨"LetByTheDegree$House", "has", "(I)Z"⟩, prog_3_method_2_code, 2, (some FieldType.boolean))
set_option maxRecDepth 100000 in
theorem mq_32_at : a_mt[32]? = some mq_32 := a_mt_nth 2 0 32 a_mt_2 mq_32 rfl a_mt_t_2 rfl rfl
theorem mq_32_pl : plainFor mq_32.1 = true := by decide +kernel
theorem mq_32_kt : kt_at 32 = kt_32 := rfl
theorem mq_32_k : ∀ r ∈ kt_32, ∀ e ∈ r, k_ok mq_32.1.cls mq_32.2.1 e := k_all_ok (c := 1) rfl kt_32_ok
def mq_33 : a_M := (⟨"LetByTheDegree$Past", "forgetDone", "()V"⟩, prog_5_method_4_code, 1, none)
set_option maxRecDepth 100000 in
theorem mq_33_at : a_mt[33]? = some mq_33 := a_mt_nth 2 1 33 a_mt_2 mq_33 rfl a_mt_t_2 rfl rfl
theorem mq_33_pl : plainFor mq_33.1 = true := by decide +kernel
theorem mq_33_kt : kt_at 33 = kt_33 := rfl
theorem mq_33_k : ∀ r ∈ kt_33, ∀ e ∈ r, k_ok mq_33.1.cls mq_33.2.1 e := k_all_ok (c := 3) rfl kt_33_ok
def mq_34 : a_M := (⟨"LetByTheDegree$Past", "forgetKept", "()V"⟩, prog_5_method_5_code, 2, none)
set_option maxRecDepth 100000 in
theorem mq_34_at : a_mt[34]? = some mq_34 := a_mt_nth 2 2 34 a_mt_2 mq_34 rfl a_mt_t_2 rfl rfl
theorem mq_34_pl : plainFor mq_34.1 = true := by decide +kernel
theorem mq_34_kt : kt_at 34 = kt_34 := rfl
theorem mq_34_k : ∀ r ∈ kt_34, ∀ e ∈ r, k_ok mq_34.1.cls mq_34.2.1 e := k_all_ok (c := 3) rfl kt_34_ok
def mq_35 : a_M := (⟨"LetByTheDegree", "people", "()I"⟩, prog_1_method_5_code, 2, (some FieldType.int))
set_option maxRecDepth 100000 in
theorem mq_35_at : a_mt[35]? = some mq_35 := a_mt_nth 2 3 35 a_mt_2 mq_35 rfl a_mt_t_2 rfl rfl
theorem mq_35_pl : plainFor mq_35.1 = true := by decide +kernel
theorem mq_35_kt : kt_at 35 = kt_35 := rfl
theorem mq_35_k : ∀ r ∈ kt_35, ∀ e ∈ r, k_ok mq_35.1.cls mq_35.2.1 e := k_all_ok (c := 12) rfl kt_35_ok
def mq_36 : a_M := (⟨"LetByTheDegree$House", "readPeople", "(LLetByTheDegree$Signs;)Z"⟩, prog_3_method_13_code, 3, (some FieldType.boolean))
set_option maxRecDepth 100000 in
theorem mq_36_at : a_mt[36]? = some mq_36 := a_mt_nth 2 4 36 a_mt_2 mq_36 rfl a_mt_t_2 rfl rfl
theorem mq_36_pl : plainFor mq_36.1 = true := by decide +kernel
theorem mq_36_kt : kt_at 36 = kt_36 := rfl
theorem mq_36_k : ∀ r ∈ kt_36, ∀ e ∈ r, k_ok mq_36.1.cls mq_36.2.1 e := k_all_ok (c := 1) rfl kt_36_ok
def mq_37 : a_M := (⟨"LetByTheDegree$House", "readLine", "(LLetByTheDegree$Signs;I)Z"⟩, prog_3_method_14_code, 7, (some FieldType.boolean))
set_option maxRecDepth 100000 in
theorem mq_37_at : a_mt[37]? = some mq_37 := a_mt_nth 2 5 37 a_mt_2 mq_37 rfl a_mt_t_2 rfl rfl
theorem mq_37_pl : plainFor mq_37.1 = true := by decide +kernel
theorem mq_37_kt : kt_at 37 = kt_37 := rfl
theorem mq_37_k : ∀ r ∈ kt_37, ∀ e ∈ r, k_ok mq_37.1.cls mq_37.2.1 e := k_all_ok (c := 1) rfl kt_37_ok
noncomputable def mq_38 : a_M := (⟨"LetByTheDegree$House", a_nmA, "(LLetByTheDegree$State;)V"⟩, prog_3_method_15_code, 3, none)
set_option maxRecDepth 100000 in
theorem mq_38_at : a_mt[38]? = some mq_38 := a_mt_nth 2 6 38 a_mt_2 mq_38 rfl a_mt_t_2 rfl rfl
theorem mq_38_pl : plainFor mq_38.1 = true := by decide +kernel
theorem mq_38_kt : kt_at 38 = kt_38 := rfl
theorem mq_38_k : ∀ r ∈ kt_38, ∀ e ∈ r, k_ok mq_38.1.cls mq_38.2.1 e := k_all_ok (c := 1) rfl kt_38_ok
def mq_39 : a_M := (⟨"LetByTheDegree", "rule", "()I"⟩, prog_1_method_6_code, 2, (some FieldType.int))
set_option maxRecDepth 100000 in
theorem mq_39_at : a_mt[39]? = some mq_39 := a_mt_nth 2 7 39 a_mt_2 mq_39 rfl a_mt_t_2 rfl rfl
theorem mq_39_pl : plainFor mq_39.1 = true := by decide +kernel
theorem mq_39_kt : kt_at 39 = kt_39 := rfl
theorem mq_39_k : ∀ r ∈ kt_39, ∀ e ∈ r, k_ok mq_39.1.cls mq_39.2.1 e := k_all_ok (c := 12) rfl kt_39_ok
def mq_40 : a_M := (⟨"LetByTheDegree$RuleReader", "read", "()Z"⟩, prog_7_method_2_code, 1, (some FieldType.boolean))
set_option maxRecDepth 100000 in
theorem mq_40_at : a_mt[40]? = some mq_40 := a_mt_nth 2 8 40 a_mt_2 mq_40 rfl a_mt_t_2 rfl rfl
theorem mq_40_pl : plainFor mq_40.1 = true := by decide +kernel
theorem mq_40_kt : kt_at 40 = kt_40 := rfl
theorem mq_40_k : ∀ r ∈ kt_40, ∀ e ∈ r, k_ok mq_40.1.cls mq_40.2.1 e := k_all_ok (c := 5) rfl kt_40_ok
def mq_41 : a_M := (⟨"LetByTheDegree$RuleReader", "expression", "(I)Z"⟩, prog_7_method_4_code, 4, (some FieldType.boolean))
set_option maxRecDepth 100000 in
theorem mq_41_at : a_mt[41]? = some mq_41 := a_mt_nth 2 9 41 a_mt_2 mq_41 rfl a_mt_t_2 rfl rfl
theorem mq_41_pl : plainFor mq_41.1 = true := by decide +kernel
theorem mq_41_kt : kt_at 41 = kt_41 := rfl
theorem mq_41_k : ∀ r ∈ kt_41, ∀ e ∈ r, k_ok mq_41.1.cls mq_41.2.1 e := k_all_ok (c := 5) rfl kt_41_ok
def mq_42 : a_M := (⟨"LetByTheDegree$RuleReader", "chain", "(IZ)Z"⟩, prog_7_method_5_code, 6, (some FieldType.boolean))
set_option maxRecDepth 100000 in
theorem mq_42_at : a_mt[42]? = some mq_42 := a_mt_nth 2 10 42 a_mt_2 mq_42 rfl a_mt_t_2 rfl rfl
theorem mq_42_pl : plainFor mq_42.1 = true := by decide +kernel
theorem mq_42_kt : kt_at 42 = kt_42 := rfl
theorem mq_42_k : ∀ r ∈ kt_42, ∀ e ∈ r, k_ok mq_42.1.cls mq_42.2.1 e := k_all_ok (c := 5) rfl kt_42_ok
def mq_43 : a_M := (⟨"LetByTheDegree$RuleReader", "part", "(IZ)Z"⟩, prog_7_method_6_code, 3, (some FieldType.boolean))
set_option maxRecDepth 100000 in
theorem mq_43_at : a_mt[43]? = some mq_43 := a_mt_nth 2 11 43 a_mt_2 mq_43 rfl a_mt_t_2 rfl rfl
theorem mq_43_pl : plainFor mq_43.1 = true := by decide +kernel
theorem mq_43_kt : kt_at 43 = kt_43 := rfl
theorem mq_43_k : ∀ r ∈ kt_43, ∀ e ∈ r, k_ok mq_43.1.cls mq_43.2.1 e := k_all_ok (c := 5) rfl kt_43_ok
def mq_44 : a_M := (⟨"LetByTheDegree$RuleReader", "signed", "(I)Z"⟩, prog_7_method_8_code, 4, (some FieldType.boolean))
set_option maxRecDepth 100000 in
theorem mq_44_at : a_mt[44]? = some mq_44 := a_mt_nth 2 12 44 a_mt_2 mq_44 rfl a_mt_t_2 rfl rfl
theorem mq_44_pl : plainFor mq_44.1 = true := by decide +kernel
theorem mq_44_kt : kt_at 44 = kt_44 := rfl
theorem mq_44_k : ∀ r ∈ kt_44, ∀ e ∈ r, k_ok mq_44.1.cls mq_44.2.1 e := k_all_ok (c := 5) rfl kt_44_ok
def mq_45 : a_M := (⟨"LetByTheDegree$RuleReader", "thing", "(I)Z"⟩, prog_7_method_9_code, 4, (some FieldType.boolean))
set_option maxRecDepth 100000 in
theorem mq_45_at : a_mt[45]? = some mq_45 := a_mt_nth 2 13 45 a_mt_2 mq_45 rfl a_mt_t_2 rfl rfl
theorem mq_45_pl : plainFor mq_45.1 = true := by decide +kernel
theorem mq_45_kt : kt_at 45 = kt_45 := rfl
theorem mq_45_k : ∀ r ∈ kt_45, ∀ e ∈ r, k_ok mq_45.1.cls mq_45.2.1 e := k_all_ok (c := 5) rfl kt_45_ok
def mq_46 : a_M := (⟨"LetByTheDegree$RuleReader", "bracket", "(I)Z"⟩, prog_7_method_10_code, 2, (some FieldType.boolean))
set_option maxRecDepth 100000 in
theorem mq_46_at : a_mt[46]? = some mq_46 := a_mt_nth 2 14 46 a_mt_2 mq_46 rfl a_mt_t_2 rfl rfl
theorem mq_46_pl : plainFor mq_46.1 = true := by decide +kernel
theorem mq_46_kt : kt_at 46 = kt_46 := rfl
theorem mq_46_k : ∀ r ∈ kt_46, ∀ e ∈ r, k_ok mq_46.1.cls mq_46.2.1 e := k_all_ok (c := 5) rfl kt_46_ok
def mq_47 : a_M := (⟨"LetByTheDegree$RuleReader", "number", "()V"⟩, prog_7_method_11_code, 4, none)
set_option maxRecDepth 100000 in
theorem mq_47_at : a_mt[47]? = some mq_47 := a_mt_nth 2 15 47 a_mt_2 mq_47 rfl a_mt_t_2 rfl rfl
theorem mq_47_pl : plainFor mq_47.1 = true := by decide +kernel
theorem mq_47_kt : kt_at 47 = kt_47 := rfl
theorem mq_47_k : ∀ r ∈ kt_47, ∀ e ∈ r, k_ok mq_47.1.cls mq_47.2.1 e := k_all_ok (c := 5) rfl kt_47_ok
def mq_48 : a_M := (⟨"LetByTheDegree$RuleReader", "emit", "(I)V"⟩, prog_7_method_3_code, 2, none)
set_option maxRecDepth 100000 in
theorem mq_48_at : a_mt[48]? = some mq_48 := a_mt_nth 3 0 48 a_mt_3 mq_48 rfl a_mt_t_3 rfl rfl
theorem mq_48_pl : plainFor mq_48.1 = true := by decide +kernel
theorem mq_48_kt : kt_at 48 = kt_48 := rfl
theorem mq_48_k : ∀ r ∈ kt_48, ∀ e ∈ r, k_ok mq_48.1.cls mq_48.2.1 e := k_all_ok (c := 5) rfl kt_48_ok
def mq_51 : a_M := (⟨"LetByTheDegree$RuleReader", "joins", "(IZ)Z"⟩, prog_7_method_7_code, 2, (some FieldType.boolean))
set_option maxRecDepth 100000 in
theorem mq_51_at : a_mt[51]? = some mq_51 := a_mt_nth 3 3 51 a_mt_3 mq_51 rfl a_mt_t_3 rfl rfl
theorem mq_51_pl : plainFor mq_51.1 = true := by decide +kernel
theorem mq_51_kt : kt_at 51 = kt_51 := rfl
theorem mq_51_k : ∀ r ∈ kt_51, ∀ e ∈ r, k_ok mq_51.1.cls mq_51.2.1 e := k_all_ok (c := 5) rfl kt_51_ok
def mq_52 : a_M := (⟨"LetByTheDegree$Rule", "become", "([II)V"⟩, prog_6_method_3_code, 3, none)
set_option maxRecDepth 100000 in
theorem mq_52_at : a_mt[52]? = some mq_52 := a_mt_nth 3 4 52 a_mt_3 mq_52 rfl a_mt_t_3 rfl rfl
theorem mq_52_pl : plainFor mq_52.1 = true := by decide +kernel
theorem mq_52_kt : kt_at 52 = kt_52 := rfl
theorem mq_52_k : ∀ r ∈ kt_52, ∀ e ∈ r, k_ok mq_52.1.cls mq_52.2.1 e := k_all_ok (c := 4) rfl kt_52_ok
def mq_53 : a_M := (⟨"LetByTheDegree", "set", "(II)I"⟩, prog_1_method_9_code, 4, (some FieldType.int))
set_option maxRecDepth 100000 in
theorem mq_53_at : a_mt[53]? = some mq_53 := a_mt_nth 3 5 53 a_mt_3 mq_53 rfl a_mt_t_3 rfl rfl
theorem mq_53_pl : plainFor mq_53.1 = true := by decide +kernel
theorem mq_53_kt : kt_at 53 = kt_53 := rfl
theorem mq_53_k : ∀ r ∈ kt_53, ∀ e ∈ r, k_ok mq_53.1.cls mq_53.2.1 e := k_all_ok (c := 12) rfl kt_53_ok
def mq_54 : a_M := (⟨"LetByTheDegree", "doing", "(III)I"⟩, prog_1_method_10_code, 5, (some FieldType.int))
set_option maxRecDepth 100000 in
theorem mq_54_at : a_mt[54]? = some mq_54 := a_mt_nth 3 6 54 a_mt_3 mq_54 rfl a_mt_t_3 rfl rfl
theorem mq_54_pl : plainFor mq_54.1 = true := by decide +kernel
theorem mq_54_kt : kt_at 54 = kt_54 := rfl
theorem mq_54_k : ∀ r ∈ kt_54, ∀ e ∈ r, k_ok mq_54.1.cls mq_54.2.1 e := k_all_ok (c := 12) rfl kt_54_ok
def mq_55 : a_M := (⟨"LetByTheDegree$House", "knows", "(I)Z"⟩, prog_3_method_3_code, 2, (some FieldType.boolean))
set_option maxRecDepth 100000 in
theorem mq_55_at : a_mt[55]? = some mq_55 := a_mt_nth 3 7 55 a_mt_3 mq_55 rfl a_mt_t_3 rfl rfl
theorem mq_55_pl : plainFor mq_55.1 = true := by decide +kernel
theorem mq_55_kt : kt_at 55 = kt_55 := rfl
theorem mq_55_k : ∀ r ∈ kt_55, ∀ e ∈ r, k_ok mq_55.1.cls mq_55.2.1 e := k_all_ok (c := 1) rfl kt_55_ok
def mq_56 : a_M := (⟨"LetByTheDegree", "sheet", "(IIII)I"⟩, prog_1_method_11_code, 10, (some FieldType.int))
set_option maxRecDepth 100000 in
theorem mq_56_at : a_mt[56]? = some mq_56 := a_mt_nth 3 8 56 a_mt_3 mq_56 rfl a_mt_t_3 rfl rfl
theorem mq_56_pl : plainFor mq_56.1 = true := by decide +kernel
theorem mq_56_kt : kt_at 56 = kt_56 := rfl
theorem mq_56_k : ∀ r ∈ kt_56, ∀ e ∈ r, k_ok mq_56.1.cls mq_56.2.1 e := k_all_ok (c := 12) rfl kt_56_ok
def mq_57 : a_M := (⟨"LetByTheDegree", "entry", "(II)I"⟩, prog_1_method_12_code, 3, (some FieldType.int))
set_option maxRecDepth 100000 in
theorem mq_57_at : a_mt[57]? = some mq_57 := a_mt_nth 3 9 57 a_mt_3 mq_57 rfl a_mt_t_3 rfl rfl
theorem mq_57_pl : plainFor mq_57.1 = true := by decide +kernel
theorem mq_57_kt : kt_at 57 = kt_57 := rfl
theorem mq_57_k : ∀ r ∈ kt_57, ∀ e ∈ r, k_ok mq_57.1.cls mq_57.2.1 e := k_all_ok (c := 12) rfl kt_57_ok
def mq_58 : a_M := (⟨"LetByTheDegree", "move", "(II)I"⟩, prog_1_method_13_code, 4, (some FieldType.int))
set_option maxRecDepth 100000 in
theorem mq_58_at : a_mt[58]? = some mq_58 := a_mt_nth 3 10 58 a_mt_3 mq_58 rfl a_mt_t_3 rfl rfl
theorem mq_58_pl : plainFor mq_58.1 = true := by decide +kernel
theorem mq_58_kt : kt_at 58 = kt_58 := rfl
theorem mq_58_k : ∀ r ∈ kt_58, ∀ e ∈ r, k_ok mq_58.1.cls mq_58.2.1 e := k_all_ok (c := 12) rfl kt_58_ok
def mq_59 : a_M := (⟨"LetByTheDegree", "moveAnswer", "(II)I"⟩, prog_1_method_14_code, 4, (some FieldType.int))
set_option maxRecDepth 100000 in
theorem mq_59_at : a_mt[59]? = some mq_59 := a_mt_nth 3 11 59 a_mt_3 mq_59 rfl a_mt_t_3 rfl rfl
theorem mq_59_pl : plainFor mq_59.1 = true := by decide +kernel
theorem mq_59_kt : kt_at 59 = kt_59 := rfl
theorem mq_59_k : ∀ r ∈ kt_59, ∀ e ∈ r, k_ok mq_59.1.cls mq_59.2.1 e := k_all_ok (c := 12) rfl kt_59_ok
def mq_60 : a_M := (⟨"LetByTheDegree$Past", "remember", "(LLetByTheDegree$State;)V"⟩, prog_5_method_2_code, 2, none)
set_option maxRecDepth 100000 in
theorem mq_60_at : a_mt[60]? = some mq_60 := a_mt_nth 3 12 60 a_mt_3 mq_60 rfl a_mt_t_3 rfl rfl
theorem mq_60_pl : plainFor mq_60.1 = true := by decide +kernel
theorem mq_60_kt : kt_at 60 = kt_60 := rfl
theorem mq_60_k : ∀ r ∈ kt_60, ∀ e ∈ r, k_ok mq_60.1.cls mq_60.2.1 e := k_all_ok (c := 3) rfl kt_60_ok
def mq_61 : a_M := (⟨"LetByTheDegree$State", "become", "(LLetByTheDegree$State;)V"⟩, prog_10_method_2_code, 2, none)
set_option maxRecDepth 100000 in
theorem mq_61_at : a_mt[61]? = some mq_61 := a_mt_nth 3 13 61 a_mt_3 mq_61 rfl a_mt_t_3 rfl rfl
theorem mq_61_pl : plainFor mq_61.1 = true := by decide +kernel
theorem mq_61_kt : kt_at 61 = kt_61 := rfl
theorem mq_61_k : ∀ r ∈ kt_61, ∀ e ∈ r, k_ok mq_61.1.cls mq_61.2.1 e := k_all_ok (c := 8) rfl kt_61_ok
def mq_62 : a_M := (⟨"LetByTheDegree", "stove", "(I)I"⟩, prog_1_method_15_code, 3, (some FieldType.int))
set_option maxRecDepth 100000 in
theorem mq_62_at : a_mt[62]? = some mq_62 := a_mt_nth 3 14 62 a_mt_3 mq_62 rfl a_mt_t_3 rfl rfl
theorem mq_62_pl : plainFor mq_62.1 = true := by decide +kernel
theorem mq_62_kt : kt_at 62 = kt_62 := rfl
theorem mq_62_k : ∀ r ∈ kt_62, ∀ e ∈ r, k_ok mq_62.1.cls mq_62.2.1 e := k_all_ok (c := 12) rfl kt_62_ok
def mq_63 : a_M := (⟨"LetByTheDegree", "stoveAnswer", "(I)I"⟩, prog_1_method_16_code, 2, (some FieldType.int))
set_option maxRecDepth 100000 in
theorem mq_63_at : a_mt[63]? = some mq_63 := a_mt_nth 3 15 63 a_mt_3 mq_63 rfl a_mt_t_3 rfl rfl
theorem mq_63_pl : plainFor mq_63.1 = true := by decide +kernel
theorem mq_63_kt : kt_at 63 = kt_63 := rfl
theorem mq_63_k : ∀ r ∈ kt_63, ∀ e ∈ r, k_ok mq_63.1.cls mq_63.2.1 e := k_all_ok (c := 12) rfl kt_63_ok
def mq_64 : a_M := (⟨"LetByTheDegree", "hour", "()I"⟩, prog_1_method_17_code, 1, (some FieldType.int))
set_option maxRecDepth 100000 in
theorem mq_64_at : a_mt[64]? = some mq_64 := a_mt_nth 4 0 64 a_mt_4 mq_64 rfl a_mt_t_4 rfl rfl
theorem mq_64_pl : plainFor mq_64.1 = true := by decide +kernel
theorem mq_64_kt : kt_at 64 = kt_64 := rfl
theorem mq_64_k : ∀ r ∈ kt_64, ∀ e ∈ r, k_ok mq_64.1.cls mq_64.2.1 e := k_all_ok (c := 12) rfl kt_64_ok
def mq_65 : a_M := (⟨"LetByTheDegree", "letPass", "(I)I"⟩, prog_1_method_19_code, 2, (some FieldType.int))
set_option maxRecDepth 100000 in
theorem mq_65_at : a_mt[65]? = some mq_65 := a_mt_nth 4 1 65 a_mt_4 mq_65 rfl a_mt_t_4 rfl rfl
theorem mq_65_pl : plainFor mq_65.1 = true := by decide +kernel
theorem mq_65_kt : kt_at 65 = kt_65 := rfl
theorem mq_65_k : ∀ r ∈ kt_65, ∀ e ∈ r, k_ok mq_65.1.cls mq_65.2.1 e := k_all_ok (c := 12) rfl kt_65_ok
def mq_66 : a_M := (⟨"LetByTheDegree$Course", "begin", "()V"⟩, prog_2_method_2_code, 1, none)
set_option maxRecDepth 100000 in
theorem mq_66_at : a_mt[66]? = some mq_66 := a_mt_nth 4 2 66 a_mt_4 mq_66 rfl a_mt_t_4 rfl rfl
theorem mq_66_pl : plainFor mq_66.1 = true := by decide +kernel
theorem mq_66_kt : kt_at 66 = kt_66 := rfl
theorem mq_66_k : ∀ r ∈ kt_66, ∀ e ∈ r, k_ok mq_66.1.cls mq_66.2.1 e := k_all_ok (c := 0) rfl kt_66_ok
def mq_67 : a_M := (⟨"LetByTheDegree$Course", "goOn", "(LLetByTheDegree$State;I)V"⟩, prog_2_method_10_code, 4, none)
set_option maxRecDepth 100000 in
theorem mq_67_at : a_mt[67]? = some mq_67 := a_mt_nth 4 3 67 a_mt_4 mq_67 rfl a_mt_t_4 rfl rfl
theorem mq_67_pl : plainFor mq_67.1 = true := by decide +kernel
theorem mq_67_kt : kt_at 67 = kt_67 := rfl
theorem mq_67_k : ∀ r ∈ kt_67, ∀ e ∈ r, k_ok mq_67.1.cls mq_67.2.1 e := k_all_ok (c := 0) rfl kt_67_ok
def mq_68 : a_M := (⟨"LetByTheDegree$Course", "pass", "(LLetByTheDegree$State;I)V"⟩, prog_2_method_13_code, 6, none)
set_option maxRecDepth 100000 in
theorem mq_68_at : a_mt[68]? = some mq_68 := a_mt_nth 4 4 68 a_mt_4 mq_68 rfl a_mt_t_4 rfl rfl
theorem mq_68_pl : plainFor mq_68.1 = true := by decide +kernel
theorem mq_68_kt : kt_at 68 = kt_68 := rfl
theorem mq_68_k : ∀ r ∈ kt_68, ∀ e ∈ r, k_ok mq_68.1.cls mq_68.2.1 e := k_all_ok (c := 0) rfl kt_68_ok
def mq_69 : a_M := (⟨"LetByTheDegree$Course", "gather", "(LLetByTheDegree$State;)V"⟩, prog_2_method_14_code, 5, none)
set_option maxRecDepth 100000 in
theorem mq_69_at : a_mt[69]? = some mq_69 := a_mt_nth 4 5 69 a_mt_4 mq_69 rfl a_mt_t_4 rfl rfl
theorem mq_69_pl : plainFor mq_69.1 = true := by decide +kernel
theorem mq_69_kt : kt_at 69 = kt_69 := rfl
theorem mq_69_k : ∀ r ∈ kt_69, ∀ e ∈ r, k_ok mq_69.1.cls mq_69.2.1 e := k_all_ok (c := 0) rfl kt_69_ok
def mq_70 : a_M := (⟨"LetByTheDegree$Course", "warmOf", "(II)I"⟩, prog_2_method_3_code, 4, (some FieldType.int))
set_option maxRecDepth 100000 in
theorem mq_70_at : a_mt[70]? = some mq_70 := a_mt_nth 4 6 70 a_mt_4 mq_70 rfl a_mt_t_4 rfl rfl
theorem mq_70_pl : plainFor mq_70.1 = true := by decide +kernel
theorem mq_70_kt : kt_at 70 = kt_70 := rfl
theorem mq_70_k : ∀ r ∈ kt_70, ∀ e ∈ r, k_ok mq_70.1.cls mq_70.2.1 e := k_all_ok (c := 0) rfl kt_70_ok
def mq_71 : a_M := (⟨"LetByTheDegree$Rule", "melts", "(IIIIIII)I"⟩, prog_6_method_4_code, 11, (some FieldType.int))
set_option maxRecDepth 100000 in
theorem mq_71_at : a_mt[71]? = some mq_71 := a_mt_nth 4 7 71 a_mt_4 mq_71 rfl a_mt_t_4 rfl rfl
theorem mq_71_pl : plainFor mq_71.1 = true := by decide +kernel
theorem mq_71_kt : kt_at 71 = kt_71 := rfl
theorem mq_71_k : ∀ r ∈ kt_71, ∀ e ∈ r, k_ok mq_71.1.cls mq_71.2.1 e := k_all_ok (c := 4) rfl kt_71_ok
def mq_72 : a_M := (⟨"LetByTheDegree$Rule", "joined", "(III)I"⟩, prog_6_method_5_code, 3, (some FieldType.int))
set_option maxRecDepth 100000 in
theorem mq_72_at : a_mt[72]? = some mq_72 := a_mt_nth 4 8 72 a_mt_4 mq_72 rfl a_mt_t_4 rfl rfl
theorem mq_72_pl : plainFor mq_72.1 = true := by decide +kernel
theorem mq_72_kt : kt_at 72 = kt_72 := rfl
theorem mq_72_k : ∀ r ∈ kt_72, ∀ e ∈ r, k_ok mq_72.1.cls mq_72.2.1 e := k_all_ok (c := 4) rfl kt_72_ok
def mq_73 : a_M := (⟨"LetByTheDegree$Course", "drip", "(LLetByTheDegree$State;II)V"⟩, prog_2_method_15_code, 5, none)
set_option maxRecDepth 100000 in
theorem mq_73_at : a_mt[73]? = some mq_73 := a_mt_nth 4 9 73 a_mt_4 mq_73 rfl a_mt_t_4 rfl rfl
theorem mq_73_pl : plainFor mq_73.1 = true := by decide +kernel
theorem mq_73_kt : kt_at 73 = kt_73 := rfl
theorem mq_73_k : ∀ r ∈ kt_73, ∀ e ∈ r, k_ok mq_73.1.cls mq_73.2.1 e := k_all_ok (c := 0) rfl kt_73_ok
def mq_74 : a_M := (⟨"LetByTheDegree$Course", "freeze", "(LLetByTheDegree$State;I)V"⟩, prog_2_method_16_code, 4, none)
set_option maxRecDepth 100000 in
theorem mq_74_at : a_mt[74]? = some mq_74 := a_mt_nth 4 10 74 a_mt_4 mq_74 rfl a_mt_t_4 rfl rfl
theorem mq_74_pl : plainFor mq_74.1 = true := by decide +kernel
theorem mq_74_kt : kt_at 74 = kt_74 := rfl
theorem mq_74_k : ∀ r ∈ kt_74, ∀ e ∈ r, k_ok mq_74.1.cls mq_74.2.1 e := k_all_ok (c := 0) rfl kt_74_ok
def mq_75 : a_M := (⟨"LetByTheDegree$Course", "drop", "(LLetByTheDegree$State;I)V"⟩, prog_2_method_17_code, 5, none)
set_option maxRecDepth 100000 in
theorem mq_75_at : a_mt[75]? = some mq_75 := a_mt_nth 4 11 75 a_mt_4 mq_75 rfl a_mt_t_4 rfl rfl
theorem mq_75_pl : plainFor mq_75.1 = true := by decide +kernel
theorem mq_75_kt : kt_at 75 = kt_75 := rfl
theorem mq_75_k : ∀ r ∈ kt_75, ∀ e ∈ r, k_ok mq_75.1.cls mq_75.2.1 e := k_all_ok (c := 0) rfl kt_75_ok
def mq_76 : a_M := (⟨"LetByTheDegree", "tell", "(JJJ)V"⟩, prog_1_method_57_code, 7, none)
set_option maxRecDepth 100000 in
theorem mq_76_at : a_mt[76]? = some mq_76 := a_mt_nth 4 12 76 a_mt_4 mq_76 rfl a_mt_t_4 rfl rfl
theorem mq_76_pl : plainFor mq_76.1 = true := by decide +kernel
theorem mq_76_kt : kt_at 76 = kt_76 := rfl
theorem mq_76_k : ∀ r ∈ kt_76, ∀ e ∈ r, k_ok mq_76.1.cls mq_76.2.1 e := k_all_ok (c := 12) rfl kt_76_ok
def mq_77 : a_M := (⟨"LetByTheDegree", "tell", "(JJ)V"⟩, prog_1_method_56_code, 5, none)
set_option maxRecDepth 100000 in
theorem mq_77_at : a_mt[77]? = some mq_77 := a_mt_nth 4 13 77 a_mt_4 mq_77 rfl a_mt_t_4 rfl rfl
theorem mq_77_pl : plainFor mq_77.1 = true := by decide +kernel
theorem mq_77_kt : kt_at 77 = kt_77 := rfl
theorem mq_77_k : ∀ r ∈ kt_77, ∀ e ∈ r, k_ok mq_77.1.cls mq_77.2.1 e := k_all_ok (c := 12) rfl kt_77_ok
def mq_78 : a_M := (⟨"LetByTheDegree", "tell", "()V"⟩, prog_1_method_55_code, 1, none)
set_option maxRecDepth 100000 in
theorem mq_78_at : a_mt[78]? = some mq_78 := a_mt_nth 4 14 78 a_mt_4 mq_78 rfl a_mt_t_4 rfl rfl
theorem mq_78_pl : plainFor mq_78.1 = true := by decide +kernel
theorem mq_78_kt : kt_at 78 = kt_78 := rfl
theorem mq_78_k : ∀ r ∈ kt_78, ∀ e ∈ r, k_ok mq_78.1.cls mq_78.2.1 e := k_all_ok (c := 12) rfl kt_78_ok
def mq_79 : a_M := (⟨"LetByTheDegree", "add", "(J)V"⟩, prog_1_method_58_code, 3, none)
set_option maxRecDepth 100000 in
theorem mq_79_at : a_mt[79]? = some mq_79 := a_mt_nth 4 15 79 a_mt_4 mq_79 rfl a_mt_t_4 rfl rfl
theorem mq_79_pl : plainFor mq_79.1 = true := by decide +kernel
theorem mq_79_kt : kt_at 79 = kt_79 := rfl
theorem mq_79_k : ∀ r ∈ kt_79, ∀ e ∈ r, k_ok mq_79.1.cls mq_79.2.1 e := k_all_ok (c := 12) rfl kt_79_ok
def mq_80 : a_M := (⟨"LetByTheDegree", "hours", "(I)I"⟩, prog_1_method_18_code, 2, (some FieldType.int))
set_option maxRecDepth 100000 in
theorem mq_80_at : a_mt[80]? = some mq_80 := a_mt_nth 5 0 80 a_mt_5 mq_80 rfl a_mt_t_5 rfl rfl
theorem mq_80_pl : plainFor mq_80.1 = true := by decide +kernel
theorem mq_80_kt : kt_at 80 = kt_80 := rfl
theorem mq_80_k : ∀ r ∈ kt_80, ∀ e ∈ r, k_ok mq_80.1.cls mq_80.2.1 e := k_all_ok (c := 12) rfl kt_80_ok
def mq_81 : a_M := (⟨"LetByTheDegree", "pay", "(II)I"⟩, prog_1_method_20_code, 3, (some FieldType.int))
set_option maxRecDepth 100000 in
theorem mq_81_at : a_mt[81]? = some mq_81 := a_mt_nth 5 1 81 a_mt_5 mq_81 rfl a_mt_t_5 rfl rfl
theorem mq_81_pl : plainFor mq_81.1 = true := by decide +kernel
theorem mq_81_kt : kt_at 81 = kt_81 := rfl
theorem mq_81_k : ∀ r ∈ kt_81, ∀ e ∈ r, k_ok mq_81.1.cls mq_81.2.1 e := k_all_ok (c := 12) rfl kt_81_ok
def mq_82 : a_M := (⟨"LetByTheDegree", "winter", "()I"⟩, prog_1_method_21_code, 3, (some FieldType.int))
set_option maxRecDepth 100000 in
theorem mq_82_at : a_mt[82]? = some mq_82 := a_mt_nth 5 2 82 a_mt_5 mq_82 rfl a_mt_t_5 rfl rfl
theorem mq_82_pl : plainFor mq_82.1 = true := by decide +kernel
theorem mq_82_kt : kt_at 82 = kt_82 := rfl
theorem mq_82_k : ∀ r ∈ kt_82, ∀ e ∈ r, k_ok mq_82.1.cls mq_82.2.1 e := k_all_ok (c := 12) rfl kt_82_ok
def mq_83 : a_M := (⟨"LetByTheDegree$Winter", "read", "()Z"⟩, prog_13_method_2_code, 2, (some FieldType.boolean))
set_option maxRecDepth 100000 in
theorem mq_83_at : a_mt[83]? = some mq_83 := a_mt_nth 5 3 83 a_mt_5 mq_83 rfl a_mt_t_5 rfl rfl
theorem mq_83_pl : plainFor mq_83.1 = true := by decide +kernel
theorem mq_83_kt : kt_at 83 = kt_83 := rfl
theorem mq_83_k : ∀ r ∈ kt_83, ∀ e ∈ r, k_ok mq_83.1.cls mq_83.2.1 e := k_all_ok (c := 11) rfl kt_83_ok
def mq_84 : a_M := (⟨"LetByTheDegree$Winter", "act", "(I)Z"⟩, prog_13_method_3_code, 3, (some FieldType.boolean))
set_option maxRecDepth 100000 in
theorem mq_84_at : a_mt[84]? = some mq_84 := a_mt_nth 5 4 84 a_mt_5 mq_84 rfl a_mt_t_5 rfl rfl
theorem mq_84_pl : plainFor mq_84.1 = true := by decide +kernel
theorem mq_84_kt : kt_at 84 = kt_84 := rfl
theorem mq_84_k : ∀ r ∈ kt_84, ∀ e ∈ r, k_ok mq_84.1.cls mq_84.2.1 e := k_all_ok (c := 11) rfl kt_84_ok
def mq_85 : a_M := (⟨"LetByTheDegree$Winter", "place", "(I)Z"⟩, prog_13_method_4_code, 4, (some FieldType.boolean))
set_option maxRecDepth 100000 in
theorem mq_85_at : a_mt[85]? = some mq_85 := a_mt_nth 5 5 85 a_mt_5 mq_85 rfl a_mt_t_5 rfl rfl
theorem mq_85_pl : plainFor mq_85.1 = true := by decide +kernel
theorem mq_85_kt : kt_at 85 = kt_85 := rfl
theorem mq_85_k : ∀ r ∈ kt_85, ∀ e ∈ r, k_ok mq_85.1.cls mq_85.2.1 e := k_all_ok (c := 11) rfl kt_85_ok
def mq_86 : a_M := (⟨"LetByTheDegree", "perform", "(I)Z"⟩, prog_1_method_22_code, 4, (some FieldType.boolean))
set_option maxRecDepth 100000 in
theorem mq_86_at : a_mt[86]? = some mq_86 := a_mt_nth 5 6 86 a_mt_5 mq_86 rfl a_mt_t_5 rfl rfl
theorem mq_86_pl : plainFor mq_86.1 = true := by decide +kernel
theorem mq_86_kt : kt_at 86 = kt_86 := rfl
theorem mq_86_k : ∀ r ∈ kt_86, ∀ e ∈ r, k_ok mq_86.1.cls mq_86.2.1 e := k_all_ok (c := 12) rfl kt_86_ok
def mq_87 : a_M := (⟨"LetByTheDegree", "undo", "()I"⟩, prog_1_method_23_code, 1, (some FieldType.int))
set_option maxRecDepth 100000 in
theorem mq_87_at : a_mt[87]? = some mq_87 := a_mt_nth 5 7 87 a_mt_5 mq_87 rfl a_mt_t_5 rfl rfl
theorem mq_87_pl : plainFor mq_87.1 = true := by decide +kernel
theorem mq_87_kt : kt_at 87 = kt_87 := rfl
theorem mq_87_k : ∀ r ∈ kt_87, ∀ e ∈ r, k_ok mq_87.1.cls mq_87.2.1 e := k_all_ok (c := 12) rfl kt_87_ok
def mq_88 : a_M := (⟨"LetByTheDegree$Past", "goBack", "(LLetByTheDegree$State;)Z"⟩, prog_5_method_3_code, 2, (some FieldType.boolean))
set_option maxRecDepth 100000 in
theorem mq_88_at : a_mt[88]? = some mq_88 := a_mt_nth 5 8 88 a_mt_5 mq_88 rfl a_mt_t_5 rfl rfl
theorem mq_88_pl : plainFor mq_88.1 = true := by decide +kernel
theorem mq_88_kt : kt_at 88 = kt_88 := rfl
theorem mq_88_k : ∀ r ∈ kt_88, ∀ e ∈ r, k_ok mq_88.1.cls mq_88.2.1 e := k_all_ok (c := 3) rfl kt_88_ok
def mq_89 : a_M := (⟨"LetByTheDegree", "thick", "(II)I"⟩, prog_1_method_24_code, 3, (some FieldType.int))
set_option maxRecDepth 100000 in
theorem mq_89_at : a_mt[89]? = some mq_89 := a_mt_nth 5 9 89 a_mt_5 mq_89 rfl a_mt_t_5 rfl rfl
theorem mq_89_pl : plainFor mq_89.1 = true := by decide +kernel
theorem mq_89_kt : kt_at 89 = kt_89 := rfl
theorem mq_89_k : ∀ r ∈ kt_89, ∀ e ∈ r, k_ok mq_89.1.cls mq_89.2.1 e := k_all_ok (c := 12) rfl kt_89_ok
def mq_90 : a_M := (⟨"LetByTheDegree", "lookAhead", "(I)V"⟩, prog_1_method_25_code, 2, none)
set_option maxRecDepth 100000 in
theorem mq_90_at : a_mt[90]? = some mq_90 := a_mt_nth 5 10 90 a_mt_5 mq_90 rfl a_mt_t_5 rfl rfl
theorem mq_90_pl : plainFor mq_90.1 = true := by decide +kernel
theorem mq_90_kt : kt_at 90 = kt_90 := rfl
theorem mq_90_k : ∀ r ∈ kt_90, ∀ e ∈ r, k_ok mq_90.1.cls mq_90.2.1 e := k_all_ok (c := 12) rfl kt_90_ok
def mq_91 : a_M := (⟨"LetByTheDegree", "gives", "()I"⟩, prog_1_method_26_code, 4, (some FieldType.int))
set_option maxRecDepth 100000 in
theorem mq_91_at : a_mt[91]? = some mq_91 := a_mt_nth 5 11 91 a_mt_5 mq_91 rfl a_mt_t_5 rfl rfl
theorem mq_91_pl : plainFor mq_91.1 = true := by decide +kernel
theorem mq_91_kt : kt_at 91 = kt_91 := rfl
theorem mq_91_k : ∀ r ∈ kt_91, ∀ e ∈ r, k_ok mq_91.1.cls mq_91.2.1 e := k_all_ok (c := 12) rfl kt_91_ok
def mq_92 : a_M := (⟨"LetByTheDegree$House", "floors", "(LLetByTheDegree$State;)I"⟩, prog_3_method_8_code, 4, (some FieldType.int))
set_option maxRecDepth 100000 in
theorem mq_92_at : a_mt[92]? = some mq_92 := a_mt_nth 5 12 92 a_mt_5 mq_92 rfl a_mt_t_5 rfl rfl
theorem mq_92_pl : plainFor mq_92.1 = true := by decide +kernel
theorem mq_92_kt : kt_at 92 = kt_92 := rfl
theorem mq_92_k : ∀ r ∈ kt_92, ∀ e ∈ r, k_ok mq_92.1.cls mq_92.2.1 e := k_all_ok (c := 1) rfl kt_92_ok
def mq_93 : a_M := (⟨"LetByTheDegree", "firstOf", "(I)I"⟩, prog_1_method_27_code, 2, (some FieldType.int))
set_option maxRecDepth 100000 in
theorem mq_93_at : a_mt[93]? = some mq_93 := a_mt_nth 5 13 93 a_mt_5 mq_93 rfl a_mt_t_5 rfl rfl
theorem mq_93_pl : plainFor mq_93.1 = true := by decide +kernel
theorem mq_93_kt : kt_at 93 = kt_93 := rfl
theorem mq_93_k : ∀ r ∈ kt_93, ∀ e ∈ r, k_ok mq_93.1.cls mq_93.2.1 e := k_all_ok (c := 12) rfl kt_93_ok
def mq_94 : a_M := (⟨"LetByTheDegree", "drips", "(I)I"⟩, prog_1_method_28_code, 4, (some FieldType.int))
set_option maxRecDepth 100000 in
theorem mq_94_at : a_mt[94]? = some mq_94 := a_mt_nth 5 14 94 a_mt_5 mq_94 rfl a_mt_t_5 rfl rfl
theorem mq_94_pl : plainFor mq_94.1 = true := by decide +kernel
theorem mq_94_kt : kt_at 94 = kt_94 := rfl
theorem mq_94_k : ∀ r ∈ kt_94, ∀ e ∈ r, k_ok mq_94.1.cls mq_94.2.1 e := k_all_ok (c := 12) rfl kt_94_ok
def mq_95 : a_M := (⟨"LetByTheDegree", "coldest", "(I)I"⟩, prog_1_method_29_code, 3, (some FieldType.int))
set_option maxRecDepth 100000 in
theorem mq_95_at : a_mt[95]? = some mq_95 := a_mt_nth 5 15 95 a_mt_5 mq_95 rfl a_mt_t_5 rfl rfl
theorem mq_95_pl : plainFor mq_95.1 = true := by decide +kernel
theorem mq_95_kt : kt_at 95 = kt_95 := rfl
theorem mq_95_k : ∀ r ∈ kt_95, ∀ e ∈ r, k_ok mq_95.1.cls mq_95.2.1 e := k_all_ok (c := 12) rfl kt_95_ok
def mq_96 : a_M := (⟨"LetByTheDegree$Course", "standing", "(LLetByTheDegree$State;I)I"⟩, prog_2_method_11_code, 3, (some FieldType.int))
set_option maxRecDepth 100000 in
theorem mq_96_at : a_mt[96]? = some mq_96 := a_mt_nth 6 0 96 a_mt_6 mq_96 rfl a_mt_t_6 rfl rfl
theorem mq_96_pl : plainFor mq_96.1 = true := by decide +kernel
theorem mq_96_kt : kt_at 96 = kt_96 := rfl
theorem mq_96_k : ∀ r ∈ kt_96, ∀ e ∈ r, k_ok mq_96.1.cls mq_96.2.1 e := k_all_ok (c := 0) rfl kt_96_ok
def mq_97 : a_M := (⟨"LetByTheDegree$Course", "standing", "(LLetByTheDegree$State;II)I"⟩, prog_2_method_12_code, 6, (some FieldType.int))
set_option maxRecDepth 100000 in
theorem mq_97_at : a_mt[97]? = some mq_97 := a_mt_nth 6 1 97 a_mt_6 mq_97 rfl a_mt_t_6 rfl rfl
theorem mq_97_pl : plainFor mq_97.1 = true := by decide +kernel
theorem mq_97_kt : kt_at 97 = kt_97 := rfl
theorem mq_97_k : ∀ r ∈ kt_97, ∀ e ∈ r, k_ok mq_97.1.cls mq_97.2.1 e := k_all_ok (c := 0) rfl kt_97_ok
def mq_98 : a_M := (⟨"LetByTheDegree", "lodge", "(I)I"⟩, prog_1_method_30_code, 2, (some FieldType.int))
set_option maxRecDepth 100000 in
theorem mq_98_at : a_mt[98]? = some mq_98 := a_mt_nth 6 2 98 a_mt_6 mq_98 rfl a_mt_t_6 rfl rfl
theorem mq_98_pl : plainFor mq_98.1 = true := by decide +kernel
theorem mq_98_kt : kt_at 98 = kt_98 := rfl
theorem mq_98_k : ∀ r ∈ kt_98, ∀ e ∈ r, k_ok mq_98.1.cls mq_98.2.1 e := k_all_ok (c := 12) rfl kt_98_ok
def mq_99 : a_M := (⟨"LetByTheDegree$House", "inRooms", "(LLetByTheDegree$State;)I"⟩, prog_3_method_6_code, 2, (some FieldType.int))
set_option maxRecDepth 100000 in
theorem mq_99_at : a_mt[99]? = some mq_99 := a_mt_nth 6 3 99 a_mt_6 mq_99 rfl a_mt_t_6 rfl rfl
theorem mq_99_pl : plainFor mq_99.1 = true := by decide +kernel
theorem mq_99_kt : kt_at 99 = kt_99 := rfl
theorem mq_99_k : ∀ r ∈ kt_99, ∀ e ∈ r, k_ok mq_99.1.cls mq_99.2.1 e := k_all_ok (c := 1) rfl kt_99_ok
def mq_100 : a_M := (⟨"LetByTheDegree$House", "bitsIn", "(LLetByTheDegree$State;I)I"⟩, prog_3_method_5_code, 5, (some FieldType.int))
set_option maxRecDepth 100000 in
theorem mq_100_at : a_mt[100]? = some mq_100 := a_mt_nth 6 4 100 a_mt_6 mq_100 rfl a_mt_t_6 rfl rfl
theorem mq_100_pl : plainFor mq_100.1 = true := by decide +kernel
theorem mq_100_kt : kt_at 100 = kt_100 := rfl
theorem mq_100_k : ∀ r ∈ kt_100, ∀ e ∈ r, k_ok mq_100.1.cls mq_100.2.1 e := k_all_ok (c := 1) rfl kt_100_ok
def mq_101 : a_M := (⟨"java/lang/Integer", "bitCount", "(I)I"⟩, prog_21_method_49_code, 1, (some FieldType.int))
set_option maxRecDepth 100000 in
theorem mq_101_at : a_mt[101]? = some mq_101 := a_mt_nth 6 5 101 a_mt_6 mq_101 rfl a_mt_t_6 rfl rfl
theorem mq_101_pl : plainFor mq_101.1 = true := by decide +kernel
theorem mq_101_kt : kt_at 101 = kt_101 := rfl
theorem mq_101_k : ∀ r ∈ kt_101, ∀ e ∈ r, k_ok mq_101.1.cls mq_101.2.1 e := k_all_ok (c := 16) rfl kt_101_ok
def mq_102 : a_M := (⟨"LetByTheDegree$Lodging", "search", "(LLetByTheDegree$State;IZ)V"⟩, prog_4_method_2_code, 5, none)
set_option maxRecDepth 100000 in
theorem mq_102_at : a_mt[102]? = some mq_102 := a_mt_nth 6 6 102 a_mt_6 mq_102 rfl a_mt_t_6 rfl rfl
theorem mq_102_pl : plainFor mq_102.1 = true := by decide +kernel
theorem mq_102_kt : kt_at 102 = kt_102 := rfl
theorem mq_102_k : ∀ r ∈ kt_102, ∀ e ∈ r, k_ok mq_102.1.cls mq_102.2.1 e := k_all_ok (c := 2) rfl kt_102_ok
def mq_103 : a_M := (⟨"LetByTheDegree$Lodging", "searchColumn", "(I)V"⟩, prog_4_method_3_code, 3, none)
set_option maxRecDepth 100000 in
theorem mq_103_at : a_mt[103]? = some mq_103 := a_mt_nth 6 7 103 a_mt_6 mq_103 rfl a_mt_t_6 rfl rfl
theorem mq_103_pl : plainFor mq_103.1 = true := by decide +kernel
theorem mq_103_kt : kt_at 103 = kt_103 := rfl
theorem mq_103_k : ∀ r ∈ kt_103, ∀ e ∈ r, k_ok mq_103.1.cls mq_103.2.1 e := k_all_ok (c := 2) rfl kt_103_ok
def mq_104 : a_M := (⟨"LetByTheDegree$Lodging", "canLive", "(II)Z"⟩, prog_4_method_4_code, 6, (some FieldType.boolean))
set_option maxRecDepth 100000 in
theorem mq_104_at : a_mt[104]? = some mq_104 := a_mt_nth 6 8 104 a_mt_6 mq_104 rfl a_mt_t_6 rfl rfl
theorem mq_104_pl : plainFor mq_104.1 = true := by decide +kernel
theorem mq_104_kt : kt_at 104 = kt_104 := rfl
theorem mq_104_k : ∀ r ∈ kt_104, ∀ e ∈ r, k_ok mq_104.1.cls mq_104.2.1 e := k_all_ok (c := 2) rfl kt_104_ok
def mq_105 : a_M := (⟨"LetByTheDegree$House", "roomsOfColumn", "(I)I"⟩, prog_3_method_7_code, 2, (some FieldType.int))
set_option maxRecDepth 100000 in
theorem mq_105_at : a_mt[105]? = some mq_105 := a_mt_nth 6 9 105 a_mt_6 mq_105 rfl a_mt_t_6 rfl rfl
theorem mq_105_pl : plainFor mq_105.1 = true := by decide +kernel
theorem mq_105_kt : kt_at 105 = kt_105 := rfl
theorem mq_105_k : ∀ r ∈ kt_105, ∀ e ∈ r, k_ok mq_105.1.cls mq_105.2.1 e := k_all_ok (c := 1) rfl kt_105_ok
def mq_106 : a_M := (⟨"LetByTheDegree$Lodging", "place", "(II)V"⟩, prog_4_method_5_code, 5, none)
set_option maxRecDepth 100000 in
theorem mq_106_at : a_mt[106]? = some mq_106 := a_mt_nth 6 10 106 a_mt_6 mq_106 rfl a_mt_t_6 rfl rfl
theorem mq_106_pl : plainFor mq_106.1 = true := by decide +kernel
theorem mq_106_kt : kt_at 106 = kt_106 := rfl
theorem mq_106_k : ∀ r ∈ kt_106, ∀ e ∈ r, k_ok mq_106.1.cls mq_106.2.1 e := k_all_ok (c := 2) rfl kt_106_ok
def mq_107 : a_M := (⟨"LetByTheDegree$Lodging", "weigh", "()V"⟩, prog_4_method_6_code, 4, none)
set_option maxRecDepth 100000 in
theorem mq_107_at : a_mt[107]? = some mq_107 := a_mt_nth 6 11 107 a_mt_6 mq_107 rfl a_mt_t_6 rfl rfl
theorem mq_107_pl : plainFor mq_107.1 = true := by decide +kernel
theorem mq_107_kt : kt_at 107 = kt_107 := rfl
theorem mq_107_k : ∀ r ∈ kt_107, ∀ e ∈ r, k_ok mq_107.1.cls mq_107.2.1 e := k_all_ok (c := 2) rfl kt_107_ok
def mq_108 : a_M := (⟨"LetByTheDegree", "tellLodging", "()V"⟩, prog_1_method_31_code, 2, none)
set_option maxRecDepth 100000 in
theorem mq_108_at : a_mt[108]? = some mq_108 := a_mt_nth 6 12 108 a_mt_6 mq_108 rfl a_mt_t_6 rfl rfl
theorem mq_108_pl : plainFor mq_108.1 = true := by decide +kernel
theorem mq_108_kt : kt_at 108 = kt_108 := rfl
theorem mq_108_k : ∀ r ∈ kt_108, ∀ e ∈ r, k_ok mq_108.1.cls mq_108.2.1 e := k_all_ok (c := 12) rfl kt_108_ok
def mq_109 : a_M := (⟨"LetByTheDegree", "longest", "()I"⟩, prog_1_method_32_code, 2, (some FieldType.int))
set_option maxRecDepth 100000 in
theorem mq_109_at : a_mt[109]? = some mq_109 := a_mt_nth 6 13 109 a_mt_6 mq_109 rfl a_mt_t_6 rfl rfl
theorem mq_109_pl : plainFor mq_109.1 = true := by decide +kernel
theorem mq_109_kt : kt_at 109 = kt_109 := rfl
theorem mq_109_k : ∀ r ∈ kt_109, ∀ e ∈ r, k_ok mq_109.1.cls mq_109.2.1 e := k_all_ok (c := 12) rfl kt_109_ok
def mq_110 : a_M := (⟨"LetByTheDegree", "quiet", "(I)I"⟩, prog_1_method_33_code, 3, (some FieldType.int))
set_option maxRecDepth 100000 in
theorem mq_110_at : a_mt[110]? = some mq_110 := a_mt_nth 6 14 110 a_mt_6 mq_110 rfl a_mt_t_6 rfl rfl
theorem mq_110_pl : plainFor mq_110.1 = true := by decide +kernel
theorem mq_110_kt : kt_at 110 = kt_110 := rfl
theorem mq_110_k : ∀ r ∈ kt_110, ∀ e ∈ r, k_ok mq_110.1.cls mq_110.2.1 e := k_all_ok (c := 12) rfl kt_110_ok
def mq_111 : a_M := (⟨"LetByTheDegree$Silence", "search", "(LLetByTheDegree$State;I)Z"⟩, prog_9_method_2_code, 7, (some FieldType.boolean))
set_option maxRecDepth 100000 in
theorem mq_111_at : a_mt[111]? = some mq_111 := a_mt_nth 6 15 111 a_mt_6 mq_111 rfl a_mt_t_6 rfl rfl
theorem mq_111_pl : plainFor mq_111.1 = true := by decide +kernel
theorem mq_111_kt : kt_at 111 = kt_111 := rfl
theorem mq_111_k : ∀ r ∈ kt_111, ∀ e ∈ r, k_ok mq_111.1.cls mq_111.2.1 e := k_all_ok (c := 7) rfl kt_111_ok
def mq_112 : a_M := (⟨"LetByTheDegree$Silence", "choose", "(III)Z"⟩, prog_9_method_3_code, 5, (some FieldType.boolean))
set_option maxRecDepth 100000 in
theorem mq_112_at : a_mt[112]? = some mq_112 := a_mt_nth 7 0 112 a_mt_7 mq_112 rfl a_mt_t_7 rfl rfl
theorem mq_112_pl : plainFor mq_112.1 = true := by decide +kernel
theorem mq_112_kt : kt_at 112 = kt_112 := rfl
theorem mq_112_k : ∀ r ∈ kt_112, ∀ e ∈ r, k_ok mq_112.1.cls mq_112.2.1 e := k_all_ok (c := 7) rfl kt_112_ok
def mq_113 : a_M := (⟨"LetByTheDegree$Silence", "matters", "(II)Z"⟩, prog_9_method_4_code, 5, (some FieldType.boolean))
set_option maxRecDepth 100000 in
theorem mq_113_at : a_mt[113]? = some mq_113 := a_mt_nth 7 1 113 a_mt_7 mq_113 rfl a_mt_t_7 rfl rfl
theorem mq_113_pl : plainFor mq_113.1 = true := by decide +kernel
theorem mq_113_kt : kt_at 113 = kt_113 := rfl
theorem mq_113_k : ∀ r ∈ kt_113, ∀ e ∈ r, k_ok mq_113.1.cls mq_113.2.1 e := k_all_ok (c := 7) rfl kt_113_ok
def mq_114 : a_M := (⟨"java/lang/Math", "floorMod", "(II)I"⟩, prog_23_method_50_code, 3, (some FieldType.int))
set_option maxRecDepth 100000 in
theorem mq_114_at : a_mt[114]? = some mq_114 := a_mt_nth 7 2 114 a_mt_7 mq_114 rfl a_mt_t_7 rfl rfl
theorem mq_114_pl : plainFor mq_114.1 = true := by decide +kernel
theorem mq_114_kt : kt_at 114 = kt_114 := rfl
theorem mq_114_k : ∀ r ∈ kt_114, ∀ e ∈ r, k_ok mq_114.1.cls mq_114.2.1 e := k_all_ok (c := 15) rfl kt_114_ok
def mq_115 : a_M := (⟨"LetByTheDegree", "burden", "()I"⟩, prog_1_method_34_code, 5, (some FieldType.int))
set_option maxRecDepth 100000 in
theorem mq_115_at : a_mt[115]? = some mq_115 := a_mt_nth 7 3 115 a_mt_7 mq_115 rfl a_mt_t_7 rfl rfl
theorem mq_115_pl : plainFor mq_115.1 = true := by decide +kernel
theorem mq_115_kt : kt_at 115 = kt_115 := rfl
theorem mq_115_k : ∀ r ∈ kt_115, ∀ e ∈ r, k_ok mq_115.1.cls mq_115.2.1 e := k_all_ok (c := 12) rfl kt_115_ok
def mq_116 : a_M := (⟨"LetByTheDegree", "share", "(I)I"⟩, prog_1_method_35_code, 4, (some FieldType.int))
set_option maxRecDepth 100000 in
theorem mq_116_at : a_mt[116]? = some mq_116 := a_mt_nth 7 4 116 a_mt_7 mq_116 rfl a_mt_t_7 rfl rfl
theorem mq_116_pl : plainFor mq_116.1 = true := by decide +kernel
theorem mq_116_kt : kt_at 116 = kt_116 := rfl
theorem mq_116_k : ∀ r ∈ kt_116, ∀ e ∈ r, k_ok mq_116.1.cls mq_116.2.1 e := k_all_ok (c := 12) rfl kt_116_ok
def mq_117 : a_M := (⟨"LetByTheDegree$Course", "meltsIn", "(LLetByTheDegree$State;I)I"⟩, prog_2_method_6_code, 3, (some FieldType.int))
set_option maxRecDepth 100000 in
theorem mq_117_at : a_mt[117]? = some mq_117 := a_mt_nth 7 5 117 a_mt_7 mq_117 rfl a_mt_t_7 rfl rfl
theorem mq_117_pl : plainFor mq_117.1 = true := by decide +kernel
theorem mq_117_kt : kt_at 117 = kt_117 := rfl
theorem mq_117_k : ∀ r ∈ kt_117, ∀ e ∈ r, k_ok mq_117.1.cls mq_117.2.1 e := k_all_ok (c := 0) rfl kt_117_ok
def mq_118 : a_M := (⟨"LetByTheDegree$Course", "meltsBySet", "(LLetByTheDegree$State;II)I"⟩, prog_2_method_7_code, 4, (some FieldType.int))
set_option maxRecDepth 100000 in
theorem mq_118_at : a_mt[118]? = some mq_118 := a_mt_nth 7 6 118 a_mt_7 mq_118 rfl a_mt_t_7 rfl rfl
theorem mq_118_pl : plainFor mq_118.1 = true := by decide +kernel
theorem mq_118_kt : kt_at 118 = kt_118 := rfl
theorem mq_118_k : ∀ r ∈ kt_118, ∀ e ∈ r, k_ok mq_118.1.cls mq_118.2.1 e := k_all_ok (c := 0) rfl kt_118_ok
def mq_119 : a_M := (⟨"LetByTheDegree$Course", "warmthOf", "(LLetByTheDegree$State;II)I"⟩, prog_2_method_5_code, 6, (some FieldType.int))
set_option maxRecDepth 100000 in
theorem mq_119_at : a_mt[119]? = some mq_119 := a_mt_nth 7 7 119 a_mt_7 mq_119 rfl a_mt_t_7 rfl rfl
theorem mq_119_pl : plainFor mq_119.1 = true := by decide +kernel
theorem mq_119_kt : kt_at 119 = kt_119 := rfl
theorem mq_119_k : ∀ r ∈ kt_119, ∀ e ∈ r, k_ok mq_119.1.cls mq_119.2.1 e := k_all_ok (c := 0) rfl kt_119_ok
def mq_120 : a_M := (⟨"LetByTheDegree$Course", "meltsBy", "(LLetByTheDegree$State;III)I"⟩, prog_2_method_8_code, 5, (some FieldType.int))
set_option maxRecDepth 100000 in
theorem mq_120_at : a_mt[120]? = some mq_120 := a_mt_nth 7 8 120 a_mt_7 mq_120 rfl a_mt_t_7 rfl rfl
theorem mq_120_pl : plainFor mq_120.1 = true := by decide +kernel
theorem mq_120_kt : kt_at 120 = kt_120 := rfl
theorem mq_120_k : ∀ r ∈ kt_120, ∀ e ∈ r, k_ok mq_120.1.cls mq_120.2.1 e := k_all_ok (c := 0) rfl kt_120_ok
def mq_121 : a_M := (⟨"LetByTheDegree$Course", "warmthIn", "(LLetByTheDegree$State;I)I"⟩, prog_2_method_4_code, 3, (some FieldType.int))
set_option maxRecDepth 100000 in
theorem mq_121_at : a_mt[121]? = some mq_121 := a_mt_nth 7 9 121 a_mt_7 mq_121 rfl a_mt_t_7 rfl rfl
theorem mq_121_pl : plainFor mq_121.1 = true := by decide +kernel
theorem mq_121_kt : kt_at 121 = kt_121 := rfl
theorem mq_121_k : ∀ r ∈ kt_121, ∀ e ∈ r, k_ok mq_121.1.cls mq_121.2.1 e := k_all_ok (c := 0) rfl kt_121_ok
def mq_122 : a_M := (⟨"LetByTheDegree", "tellFraction", "(JJ)V"⟩, prog_1_method_36_code, 12, none)
set_option maxRecDepth 100000 in
theorem mq_122_at : a_mt[122]? = some mq_122 := a_mt_nth 7 10 122 a_mt_7 mq_122 rfl a_mt_t_7 rfl rfl
theorem mq_122_pl : plainFor mq_122.1 = true := by decide +kernel
theorem mq_122_kt : kt_at 122 = kt_122 := rfl
theorem mq_122_k : ∀ r ∈ kt_122, ∀ e ∈ r, k_ok mq_122.1.cls mq_122.2.1 e := k_all_ok (c := 12) rfl kt_122_ok
def mq_123 : a_M := (⟨"LetByTheDegree", "charges", "(I)I"⟩, prog_1_method_37_code, 5, (some FieldType.int))
set_option maxRecDepth 100000 in
theorem mq_123_at : a_mt[123]? = some mq_123 := a_mt_nth 7 11 123 a_mt_7 mq_123 rfl a_mt_t_7 rfl rfl
theorem mq_123_pl : plainFor mq_123.1 = true := by decide +kernel
theorem mq_123_kt : kt_at 123 = kt_123 := rfl
theorem mq_123_k : ∀ r ∈ kt_123, ∀ e ∈ r, k_ok mq_123.1.cls mq_123.2.1 e := k_all_ok (c := 12) rfl kt_123_ok
def mq_125 : a_M := (⟨"LetByTheDegree", "warm", "(II)I"⟩, prog_1_method_38_code, 7, (some FieldType.int))
set_option maxRecDepth 100000 in
theorem mq_125_at : a_mt[125]? = some mq_125 := a_mt_nth 7 13 125 a_mt_7 mq_125 rfl a_mt_t_7 rfl rfl
theorem mq_125_pl : plainFor mq_125.1 = true := by decide +kernel
theorem mq_125_kt : kt_at 125 = kt_125 := rfl
theorem mq_125_k : ∀ r ∈ kt_125, ∀ e ∈ r, k_ok mq_125.1.cls mq_125.2.1 e := k_all_ok (c := 12) rfl kt_125_ok
def mq_126 : a_M := (⟨"LetByTheDegree", "look", "()I"⟩, prog_1_method_39_code, 5, (some FieldType.int))
set_option maxRecDepth 100000 in
theorem mq_126_at : a_mt[126]? = some mq_126 := a_mt_nth 7 14 126 a_mt_7 mq_126 rfl a_mt_t_7 rfl rfl
theorem mq_126_pl : plainFor mq_126.1 = true := by decide +kernel
theorem mq_126_kt : kt_at 126 = kt_126 := rfl
theorem mq_126_k : ∀ r ∈ kt_126, ∀ e ∈ r, k_ok mq_126.1.cls mq_126.2.1 e := k_all_ok (c := 12) rfl kt_126_ok
def mq_127 : a_M := (⟨"LetByTheDegree$Course", "countMelts", "(LLetByTheDegree$State;I)V"⟩, prog_2_method_9_code, 9, none)
set_option maxRecDepth 100000 in
theorem mq_127_at : a_mt[127]? = some mq_127 := a_mt_nth 7 15 127 a_mt_7 mq_127 rfl a_mt_t_7 rfl rfl
theorem mq_127_pl : plainFor mq_127.1 = true := by decide +kernel
theorem mq_127_kt : kt_at 127 = kt_127 := rfl
theorem mq_127_k : ∀ r ∈ kt_127, ∀ e ∈ r, k_ok mq_127.1.cls mq_127.2.1 e := k_all_ok (c := 0) rfl kt_127_ok
def mq_128 : a_M := (⟨"java/lang/Long", "bitCount", "(J)I"⟩, prog_22_method_50_code, 2, (some FieldType.int))
set_option maxRecDepth 100000 in
theorem mq_128_at : a_mt[128]? = some mq_128 := a_mt_nth 8 0 128 a_mt_8 mq_128 rfl a_mt_t_8 rfl rfl
theorem mq_128_pl : plainFor mq_128.1 = true := by decide +kernel
theorem mq_128_kt : kt_at 128 = kt_128 := rfl
theorem mq_128_k : ∀ r ∈ kt_128, ∀ e ∈ r, k_ok mq_128.1.cls mq_128.2.1 e := k_all_ok (c := 17) rfl kt_128_ok
def mq_129 : a_M := (⟨"LetByTheDegree", "carry", "(I)I"⟩, prog_1_method_40_code, 3, (some FieldType.int))
set_option maxRecDepth 100000 in
theorem mq_129_at : a_mt[129]? = some mq_129 := a_mt_nth 8 1 129 a_mt_8 mq_129 rfl a_mt_t_8 rfl rfl
theorem mq_129_pl : plainFor mq_129.1 = true := by decide +kernel
theorem mq_129_kt : kt_at 129 = kt_129 := rfl
theorem mq_129_k : ∀ r ∈ kt_129, ∀ e ∈ r, k_ok mq_129.1.cls mq_129.2.1 e := k_all_ok (c := 12) rfl kt_129_ok
def mq_130 : a_M := (⟨"LetByTheDegree$StoveWay", "search", "(LLetByTheDegree$State;I)V"⟩, prog_11_method_2_code, 3, none)
set_option maxRecDepth 100000 in
theorem mq_130_at : a_mt[130]? = some mq_130 := a_mt_nth 8 2 130 a_mt_8 mq_130 rfl a_mt_t_8 rfl rfl
theorem mq_130_pl : plainFor mq_130.1 = true := by decide +kernel
theorem mq_130_kt : kt_at 130 = kt_130 := rfl
theorem mq_130_k : ∀ r ∈ kt_130, ∀ e ∈ r, k_ok mq_130.1.cls mq_130.2.1 e := k_all_ok (c := 9) rfl kt_130_ok
def mq_131 : a_M := (⟨"LetByTheDegree$StoveWay", "goFrom", "(II)V"⟩, prog_11_method_3_code, 8, none)
set_option maxRecDepth 100000 in
theorem mq_131_at : a_mt[131]? = some mq_131 := a_mt_nth 8 3 131 a_mt_8 mq_131 rfl a_mt_t_8 rfl rfl
theorem mq_131_pl : plainFor mq_131.1 = true := by decide +kernel
theorem mq_131_kt : kt_at 131 = kt_131 := rfl
theorem mq_131_k : ∀ r ∈ kt_131, ∀ e ∈ r, k_ok mq_131.1.cls mq_131.2.1 e := k_all_ok (c := 9) rfl kt_131_ok
def mq_132 : a_M := (⟨"LetByTheDegree$StoveWay", "goTo", "(III)V"⟩, prog_11_method_4_code, 5, none)
set_option maxRecDepth 100000 in
theorem mq_132_at : a_mt[132]? = some mq_132 := a_mt_nth 8 4 132 a_mt_8 mq_132 rfl a_mt_t_8 rfl rfl
theorem mq_132_pl : plainFor mq_132.1 = true := by decide +kernel
theorem mq_132_kt : kt_at 132 = kt_132 := rfl
theorem mq_132_k : ∀ r ∈ kt_132, ∀ e ∈ r, k_ok mq_132.1.cls mq_132.2.1 e := k_all_ok (c := 9) rfl kt_132_ok
def mq_133 : a_M := (⟨"LetByTheDegree", "hearth", "(I)I"⟩, prog_1_method_41_code, 6, (some FieldType.int))
set_option maxRecDepth 100000 in
theorem mq_133_at : a_mt[133]? = some mq_133 := a_mt_nth 8 5 133 a_mt_8 mq_133 rfl a_mt_t_8 rfl rfl
theorem mq_133_pl : plainFor mq_133.1 = true := by decide +kernel
theorem mq_133_kt : kt_at 133 = kt_133 := rfl
theorem mq_133_k : ∀ r ∈ kt_133, ∀ e ∈ r, k_ok mq_133.1.cls mq_133.2.1 e := k_all_ok (c := 12) rfl kt_133_ok
def mq_134 : a_M := (⟨"LetByTheDegree", "meltedWithStove", "(II)I"⟩, prog_1_method_42_code, 3, (some FieldType.int))
set_option maxRecDepth 100000 in
theorem mq_134_at : a_mt[134]? = some mq_134 := a_mt_nth 8 6 134 a_mt_8 mq_134 rfl a_mt_t_8 rfl rfl
theorem mq_134_pl : plainFor mq_134.1 = true := by decide +kernel
theorem mq_134_kt : kt_at 134 = kt_134 := rfl
theorem mq_134_k : ∀ r ∈ kt_134, ∀ e ∈ r, k_ok mq_134.1.cls mq_134.2.1 e := k_all_ok (c := 12) rfl kt_134_ok
def mq_135 : a_M := (⟨"LetByTheDegree", "rests", "(III)I"⟩, prog_1_method_43_code, 10, (some FieldType.int))
set_option maxRecDepth 100000 in
theorem mq_135_at : a_mt[135]? = some mq_135 := a_mt_nth 8 7 135 a_mt_8 mq_135 rfl a_mt_t_8 rfl rfl
theorem mq_135_pl : plainFor mq_135.1 = true := by decide +kernel
theorem mq_135_kt : kt_at 135 = kt_135 := rfl
theorem mq_135_k : ∀ r ∈ kt_135, ∀ e ∈ r, k_ok mq_135.1.cls mq_135.2.1 e := k_all_ok (c := 12) rfl kt_135_ok
def mq_136 : a_M := (⟨"LetByTheDegree", "gain", "(IIIII)I"⟩, prog_1_method_44_code, 10, (some FieldType.int))
set_option maxRecDepth 100000 in
theorem mq_136_at : a_mt[136]? = some mq_136 := a_mt_nth 8 8 136 a_mt_8 mq_136 rfl a_mt_t_8 rfl rfl
theorem mq_136_pl : plainFor mq_136.1 = true := by decide +kernel
theorem mq_136_kt : kt_at 136 = kt_136 := rfl
theorem mq_136_k : ∀ r ∈ kt_136, ∀ e ∈ r, k_ok mq_136.1.cls mq_136.2.1 e := k_all_ok (c := 12) rfl kt_136_ok
def mq_137 : a_M := (⟨"LetByTheDegree", "water", "()I"⟩, prog_1_method_45_code, 4, (some FieldType.int))
set_option maxRecDepth 100000 in
theorem mq_137_at : a_mt[137]? = some mq_137 := a_mt_nth 8 9 137 a_mt_8 mq_137 rfl a_mt_t_8 rfl rfl
theorem mq_137_pl : plainFor mq_137.1 = true := by decide +kernel
theorem mq_137_kt : kt_at 137 = kt_137 := rfl
theorem mq_137_k : ∀ r ∈ kt_137, ∀ e ∈ r, k_ok mq_137.1.cls mq_137.2.1 e := k_all_ok (c := 12) rfl kt_137_ok
def mq_138 : a_M := (⟨"LetByTheDegree", "thaw", "(II)I"⟩, prog_1_method_46_code, 3, (some FieldType.int))
set_option maxRecDepth 100000 in
theorem mq_138_at : a_mt[138]? = some mq_138 := a_mt_nth 8 10 138 a_mt_8 mq_138 rfl a_mt_t_8 rfl rfl
theorem mq_138_pl : plainFor mq_138.1 = true := by decide +kernel
theorem mq_138_kt : kt_at 138 = kt_138 := rfl
theorem mq_138_k : ∀ r ∈ kt_138, ∀ e ∈ r, k_ok mq_138.1.cls mq_138.2.1 e := k_all_ok (c := 12) rfl kt_138_ok
def mq_139 : a_M := (⟨"LetByTheDegree$Thaws", "search", "(LLetByTheDegree$State;II)V"⟩, prog_12_method_3_code, 5, none)
set_option maxRecDepth 100000 in
theorem mq_139_at : a_mt[139]? = some mq_139 := a_mt_nth 8 11 139 a_mt_8 mq_139 rfl a_mt_t_8 rfl rfl
theorem mq_139_pl : plainFor mq_139.1 = true := by decide +kernel
theorem mq_139_kt : kt_at 139 = kt_139 := rfl
theorem mq_139_k : ∀ r ∈ kt_139, ∀ e ∈ r, k_ok mq_139.1.cls mq_139.2.1 e := k_all_ok (c := 10) rfl kt_139_ok
def mq_140 : a_M := (⟨"LetByTheDegree$Thaws", "goFrom", "(IJ)V"⟩, prog_12_method_4_code, 4, none)
set_option maxRecDepth 100000 in
theorem mq_140_at : a_mt[140]? = some mq_140 := a_mt_nth 8 12 140 a_mt_8 mq_140 rfl a_mt_t_8 rfl rfl
theorem mq_140_pl : plainFor mq_140.1 = true := by decide +kernel
theorem mq_140_kt : kt_at 140 = kt_140 := rfl
theorem mq_140_k : ∀ r ∈ kt_140, ∀ e ∈ r, k_ok mq_140.1.cls mq_140.2.1 e := k_all_ok (c := 10) rfl kt_140_ok
def mq_141 : a_M := (⟨"LetByTheDegree$Thaws", "goTo", "(IIJ)V"⟩, prog_12_method_5_code, 6, none)
set_option maxRecDepth 100000 in
theorem mq_141_at : a_mt[141]? = some mq_141 := a_mt_nth 8 13 141 a_mt_8 mq_141 rfl a_mt_t_8 rfl rfl
theorem mq_141_pl : plainFor mq_141.1 = true := by decide +kernel
theorem mq_141_kt : kt_at 141 = kt_141 := rfl
theorem mq_141_k : ∀ r ∈ kt_141, ∀ e ∈ r, k_ok mq_141.1.cls mq_141.2.1 e := k_all_ok (c := 10) rfl kt_141_ok
def mq_142 : a_M := (⟨"LetByTheDegree$Thaws", "whole", "(I)J"⟩, prog_12_method_2_code, 4, (some FieldType.long))
set_option maxRecDepth 100000 in
theorem mq_142_at : a_mt[142]? = some mq_142 := a_mt_nth 8 14 142 a_mt_8 mq_142 rfl a_mt_t_8 rfl rfl
theorem mq_142_pl : plainFor mq_142.1 = true := by decide +kernel
theorem mq_142_kt : kt_at 142 = kt_142 := rfl
theorem mq_142_k : ∀ r ∈ kt_142, ∀ e ∈ r, k_ok mq_142.1.cls mq_142.2.1 e := k_all_ok (c := 10) rfl kt_142_ok
def mq_143 : a_M := (⟨"LetByTheDegree", "leave", "(II)I"⟩, prog_1_method_47_code, 4, (some FieldType.int))
set_option maxRecDepth 100000 in
theorem mq_143_at : a_mt[143]? = some mq_143 := a_mt_nth 8 15 143 a_mt_8 mq_143 rfl a_mt_t_8 rfl rfl
theorem mq_143_pl : plainFor mq_143.1 = true := by decide +kernel
theorem mq_143_kt : kt_at 143 = kt_143 := rfl
theorem mq_143_k : ∀ r ∈ kt_143, ∀ e ∈ r, k_ok mq_143.1.cls mq_143.2.1 e := k_all_ok (c := 12) rfl kt_143_ok
def mq_144 : a_M := (⟨"LetByTheDegree", "season", "(II)I"⟩, prog_1_method_48_code, 5, (some FieldType.int))
set_option maxRecDepth 100000 in
theorem mq_144_at : a_mt[144]? = some mq_144 := a_mt_nth 9 0 144 a_mt_9 mq_144 rfl a_mt_t_9 rfl rfl
theorem mq_144_pl : plainFor mq_144.1 = true := by decide +kernel
theorem mq_144_kt : kt_at 144 = kt_144 := rfl
theorem mq_144_k : ∀ r ∈ kt_144, ∀ e ∈ r, k_ok mq_144.1.cls mq_144.2.1 e := k_all_ok (c := 12) rfl kt_144_ok
def mq_145 : a_M := (⟨"LetByTheDegree$Course", "forgetGiven", "()V"⟩, prog_2_method_18_code, 2, none)
set_option maxRecDepth 100000 in
theorem mq_145_at : a_mt[145]? = some mq_145 := a_mt_nth 9 1 145 a_mt_9 mq_145 rfl a_mt_t_9 rfl rfl
theorem mq_145_pl : plainFor mq_145.1 = true := by decide +kernel
theorem mq_145_kt : kt_at 145 = kt_145 := rfl
theorem mq_145_k : ∀ r ∈ kt_145, ∀ e ∈ r, k_ok mq_145.1.cls mq_145.2.1 e := k_all_ok (c := 0) rfl kt_145_ok
def mq_146 : a_M := (⟨"LetByTheDegree", "next", "(I)I"⟩, prog_1_method_49_code, 1, (some FieldType.int))
set_option maxRecDepth 100000 in
theorem mq_146_at : a_mt[146]? = some mq_146 := a_mt_nth 9 2 146 a_mt_9 mq_146 rfl a_mt_t_9 rfl rfl
theorem mq_146_pl : plainFor mq_146.1 = true := by decide +kernel
theorem mq_146_kt : kt_at 146 = kt_146 := rfl
theorem mq_146_k : ∀ r ∈ kt_146, ∀ e ∈ r, k_ok mq_146.1.cls mq_146.2.1 e := k_all_ok (c := 12) rfl kt_146_ok
def mq_147 : a_M := (⟨"LetByTheDegree", "draw", "(II)I"⟩, prog_1_method_50_code, 2, (some FieldType.int))
set_option maxRecDepth 100000 in
theorem mq_147_at : a_mt[147]? = some mq_147 := a_mt_nth 9 3 147 a_mt_9 mq_147 rfl a_mt_t_9 rfl rfl
theorem mq_147_pl : plainFor mq_147.1 = true := by decide +kernel
theorem mq_147_kt : kt_at 147 = kt_147 := rfl
theorem mq_147_k : ∀ r ∈ kt_147, ∀ e ∈ r, k_ok mq_147.1.cls mq_147.2.1 e := k_all_ok (c := 12) rfl kt_147_ok
def mq_148 : a_M := (⟨"LetByTheDegree$Course", "countGiven", "()V"⟩, prog_2_method_19_code, 2, none)
set_option maxRecDepth 100000 in
theorem mq_148_at : a_mt[148]? = some mq_148 := a_mt_nth 9 4 148 a_mt_9 mq_148 rfl a_mt_t_9 rfl rfl
theorem mq_148_pl : plainFor mq_148.1 = true := by decide +kernel
theorem mq_148_kt : kt_at 148 = kt_148 := rfl
theorem mq_148_k : ∀ r ∈ kt_148, ∀ e ∈ r, k_ok mq_148.1.cls mq_148.2.1 e := k_all_ok (c := 0) rfl kt_148_ok
def mq_149 : a_M := (⟨"LetByTheDegree$Course", "oftenestGiven", "()I"⟩, prog_2_method_20_code, 3, (some FieldType.int))
set_option maxRecDepth 100000 in
theorem mq_149_at : a_mt[149]? = some mq_149 := a_mt_nth 9 5 149 a_mt_9 mq_149 rfl a_mt_t_9 rfl rfl
theorem mq_149_pl : plainFor mq_149.1 = true := by decide +kernel
theorem mq_149_kt : kt_at 149 = kt_149 := rfl
theorem mq_149_k : ∀ r ∈ kt_149, ∀ e ∈ r, k_ok mq_149.1.cls mq_149.2.1 e := k_all_ok (c := 0) rfl kt_149_ok
def mq_150 : a_M := (⟨"LetByTheDegree", "keep", "(I)Z"⟩, prog_1_method_51_code, 2, (some FieldType.boolean))
set_option maxRecDepth 100000 in
theorem mq_150_at : a_mt[150]? = some mq_150 := a_mt_nth 9 6 150 a_mt_9 mq_150 rfl a_mt_t_9 rfl rfl
theorem mq_150_pl : plainFor mq_150.1 = true := by decide +kernel
theorem mq_150_kt : kt_at 150 = kt_150 := rfl
theorem mq_150_k : ∀ r ∈ kt_150, ∀ e ∈ r, k_ok mq_150.1.cls mq_150.2.1 e := k_all_ok (c := 12) rfl kt_150_ok
def mq_151 : a_M := (⟨"LetByTheDegree$Past", "keepAs", "(ILLetByTheDegree$State;I)Z"⟩, prog_5_method_6_code, 4, (some FieldType.boolean))
set_option maxRecDepth 100000 in
theorem mq_151_at : a_mt[151]? = some mq_151 := a_mt_nth 9 7 151 a_mt_9 mq_151 rfl a_mt_t_9 rfl rfl
theorem mq_151_pl : plainFor mq_151.1 = true := by decide +kernel
theorem mq_151_kt : kt_at 151 = kt_151 := rfl
theorem mq_151_k : ∀ r ∈ kt_151, ∀ e ∈ r, k_ok mq_151.1.cls mq_151.2.1 e := k_all_ok (c := 3) rfl kt_151_ok
def mq_152 : a_M := (⟨"LetByTheDegree", "again", "(I)Z"⟩, prog_1_method_52_code, 2, (some FieldType.boolean))
set_option maxRecDepth 100000 in
theorem mq_152_at : a_mt[152]? = some mq_152 := a_mt_nth 9 8 152 a_mt_9 mq_152 rfl a_mt_t_9 rfl rfl
theorem mq_152_pl : plainFor mq_152.1 = true := by decide +kernel
theorem mq_152_kt : kt_at 152 = kt_152 := rfl
theorem mq_152_k : ∀ r ∈ kt_152, ∀ e ∈ r, k_ok mq_152.1.cls mq_152.2.1 e := k_all_ok (c := 12) rfl kt_152_ok
def mq_153 : a_M := (⟨"LetByTheDegree$Past", "bringBack", "(ILLetByTheDegree$State;I)Z"⟩, prog_5_method_7_code, 4, (some FieldType.boolean))
set_option maxRecDepth 100000 in
theorem mq_153_at : a_mt[153]? = some mq_153 := a_mt_nth 9 9 153 a_mt_9 mq_153 rfl a_mt_t_9 rfl rfl
theorem mq_153_pl : plainFor mq_153.1 = true := by decide +kernel
theorem mq_153_kt : kt_at 153 = kt_153 := rfl
theorem mq_153_k : ∀ r ∈ kt_153, ∀ e ∈ r, k_ok mq_153.1.cls mq_153.2.1 e := k_all_ok (c := 3) rfl kt_153_ok
def mq_154 : a_M := (⟨"LetByTheDegree", "count", "(I)I"⟩, prog_1_method_53_code, 2, (some FieldType.int))
set_option maxRecDepth 100000 in
theorem mq_154_at : a_mt[154]? = some mq_154 := a_mt_nth 9 10 154 a_mt_9 mq_154 rfl a_mt_t_9 rfl rfl
theorem mq_154_pl : plainFor mq_154.1 = true := by decide +kernel
theorem mq_154_kt : kt_at 154 = kt_154 := rfl
theorem mq_154_k : ∀ r ∈ kt_154, ∀ e ∈ r, k_ok mq_154.1.cls mq_154.2.1 e := k_all_ok (c := 12) rfl kt_154_ok
def mq_157 : a_M := (⟨"LetByTheDegree$House", "wholeCycle", "(I)I"⟩, prog_3_method_4_code, 4, (some FieldType.int))
set_option maxRecDepth 100000 in
theorem mq_157_at : a_mt[157]? = some mq_157 := a_mt_nth 9 13 157 a_mt_9 mq_157 rfl a_mt_t_9 rfl rfl
theorem mq_157_pl : plainFor mq_157.1 = true := by decide +kernel
theorem mq_157_kt : kt_at 157 = kt_157 := rfl
theorem mq_157_k : ∀ r ∈ kt_157, ∀ e ∈ r, k_ok mq_157.1.cls mq_157.2.1 e := k_all_ok (c := 1) rfl kt_157_ok
def mq_160 : a_M := (⟨"LetByTheDegreeModel", "sign", "(I)I"⟩, prog_15_method_9_code, 3, (some FieldType.int))
set_option maxRecDepth 100000 in
theorem mq_160_at : a_mt[160]? = some mq_160 := a_mt_nth 10 0 160 a_mt_10 mq_160 rfl a_mt_t_10 rfl rfl
theorem mq_160_pl : plainFor mq_160.1 = true := by decide +kernel
theorem mq_160_kt : kt_at 160 = kt_160 := rfl
theorem mq_160_k : ∀ r ∈ kt_160, ∀ e ∈ r, k_ok mq_160.1.cls mq_160.2.1 e := k_all_ok (c := 13) rfl kt_160_ok
def mq_161 : a_M := (⟨"LetByTheDegreeModel", "end", "(I)Z"⟩, prog_15_method_10_code, 2, (some FieldType.boolean))
set_option maxRecDepth 100000 in
theorem mq_161_at : a_mt[161]? = some mq_161 := a_mt_nth 10 1 161 a_mt_10 mq_161 rfl a_mt_t_10 rfl rfl
theorem mq_161_pl : plainFor mq_161.1 = true := by decide +kernel
theorem mq_161_kt : kt_at 161 = kt_161 := rfl
theorem mq_161_k : ∀ r ∈ kt_161, ∀ e ∈ r, k_ok mq_161.1.cls mq_161.2.1 e := k_all_ok (c := 13) rfl kt_161_ok
def mq_162 : a_M := (⟨"LetByTheDegreeModel", "in", "(III)Z"⟩, prog_15_method_3_code, 3, (some FieldType.boolean))
set_option maxRecDepth 100000 in
theorem mq_162_at : a_mt[162]? = some mq_162 := a_mt_nth 10 2 162 a_mt_10 mq_162 rfl a_mt_t_10 rfl rfl
theorem mq_162_pl : plainFor mq_162.1 = true := by decide +kernel
theorem mq_162_kt : kt_at 162 = kt_162 := rfl
theorem mq_162_k : ∀ r ∈ kt_162, ∀ e ∈ r, k_ok mq_162.1.cls mq_162.2.1 e := k_all_ok (c := 13) rfl kt_162_ok
def mq_163 : a_M := (⟨"LetByTheDegreeModel", "house", "()I"⟩, prog_15_method_19_code, 6, (some FieldType.int))
set_option maxRecDepth 100000 in
theorem mq_163_at : a_mt[163]? = some mq_163 := a_mt_nth 10 3 163 a_mt_10 mq_163 rfl a_mt_t_10 rfl rfl
theorem mq_163_pl : plainFor mq_163.1 = true := by decide +kernel
theorem mq_163_kt : kt_at 163 = kt_163 := rfl
theorem mq_163_k : ∀ r ∈ kt_163, ∀ e ∈ r, k_ok mq_163.1.cls mq_163.2.1 e := k_all_ok (c := 13) rfl kt_163_ok
def mq_164 : a_M := (⟨"LetByTheDegreeModel", "begin", "([BII)V"⟩, prog_15_method_11_code, 4, none)
set_option maxRecDepth 100000 in
theorem mq_164_at : a_mt[164]? = some mq_164 := a_mt_nth 10 4 164 a_mt_10 mq_164 rfl a_mt_t_10 rfl rfl
theorem mq_164_pl : plainFor mq_164.1 = true := by decide +kernel
theorem mq_164_kt : kt_at 164 = kt_164 := rfl
theorem mq_164_k : ∀ r ∈ kt_164, ∀ e ∈ r, k_ok mq_164.1.cls mq_164.2.1 e := k_all_ok (c := 13) rfl kt_164_ok
def mq_165 : a_M := (⟨"LetByTheDegreeModel", "fine", "()Z"⟩, prog_15_method_13_code, 1, (some FieldType.boolean))
set_option maxRecDepth 100000 in
theorem mq_165_at : a_mt[165]? = some mq_165 := a_mt_nth 10 5 165 a_mt_10 mq_165 rfl a_mt_t_10 rfl rfl
theorem mq_165_pl : plainFor mq_165.1 = true := by decide +kernel
theorem mq_165_kt : kt_at 165 = kt_165 := rfl
theorem mq_165_k : ∀ r ∈ kt_165, ∀ e ∈ r, k_ok mq_165.1.cls mq_165.2.1 e := k_all_ok (c := 13) rfl kt_165_ok
def mq_166 : a_M := (⟨"LetByTheDegreeModel", "number", "(I)I"⟩, prog_15_method_18_code, 4, (some FieldType.int))
set_option maxRecDepth 100000 in
theorem mq_166_at : a_mt[166]? = some mq_166 := a_mt_nth 10 6 166 a_mt_10 mq_166 rfl a_mt_t_10 rfl rfl
theorem mq_166_pl : plainFor mq_166.1 = true := by decide +kernel
theorem mq_166_kt : kt_at 166 = kt_166 := rfl
theorem mq_166_k : ∀ r ∈ kt_166, ∀ e ∈ r, k_ok mq_166.1.cls mq_166.2.1 e := k_all_ok (c := 13) rfl kt_166_ok
def mq_168 : a_M := (⟨"LetByTheDegreeModel", "here", "()I"⟩, prog_15_method_12_code, 1, (some FieldType.int))
set_option maxRecDepth 100000 in
theorem mq_168_at : a_mt[168]? = some mq_168 := a_mt_nth 10 8 168 a_mt_10 mq_168 rfl a_mt_t_10 rfl rfl
theorem mq_168_pl : plainFor mq_168.1 = true := by decide +kernel
theorem mq_168_kt : kt_at 168 = kt_168 := rfl
theorem mq_168_k : ∀ r ∈ kt_168, ∀ e ∈ r, k_ok mq_168.1.cls mq_168.2.1 e := k_all_ok (c := 13) rfl kt_168_ok
def mq_169 : a_M := (⟨"LetByTheDegreeModel", "fault", "(I)V"⟩, prog_15_method_14_code, 2, none)
set_option maxRecDepth 100000 in
theorem mq_169_at : a_mt[169]? = some mq_169 := a_mt_nth 10 9 169 a_mt_10 mq_169 rfl a_mt_t_10 rfl rfl
theorem mq_169_pl : plainFor mq_169.1 = true := by decide +kernel
theorem mq_169_kt : kt_at 169 = kt_169 := rfl
theorem mq_169_k : ∀ r ∈ kt_169, ∀ e ∈ r, k_ok mq_169.1.cls mq_169.2.1 e := k_all_ok (c := 13) rfl kt_169_ok
def mq_170 : a_M := (⟨"LetByTheDegreeModel", "passes", "(C)Z"⟩, prog_15_method_15_code, 2, (some FieldType.boolean))
set_option maxRecDepth 100000 in
theorem mq_170_at : a_mt[170]? = some mq_170 := a_mt_nth 10 10 170 a_mt_10 mq_170 rfl a_mt_t_10 rfl rfl
theorem mq_170_pl : plainFor mq_170.1 = true := by decide +kernel
theorem mq_170_kt : kt_at 170 = kt_170 := rfl
theorem mq_170_k : ∀ r ∈ kt_170, ∀ e ∈ r, k_ok mq_170.1.cls mq_170.2.1 e := k_all_ok (c := 13) rfl kt_170_ok
def mq_171 : a_M := (⟨"LetByTheDegreeModel", "isRoom", "(I)Z"⟩, prog_15_method_7_code, 2, (some FieldType.boolean))
set_option maxRecDepth 100000 in
theorem mq_171_at : a_mt[171]? = some mq_171 := a_mt_nth 10 11 171 a_mt_10 mq_171 rfl a_mt_t_10 rfl rfl
theorem mq_171_pl : plainFor mq_171.1 = true := by decide +kernel
theorem mq_171_kt : kt_at 171 = kt_171 := rfl
theorem mq_171_k : ∀ r ∈ kt_171, ∀ e ∈ r, k_ok mq_171.1.cls mq_171.2.1 e := k_all_ok (c := 13) rfl kt_171_ok
def mq_172 : a_M := (⟨"LetByTheDegreeModel", "people", "()I"⟩, prog_15_method_21_code, 6, (some FieldType.int))
set_option maxRecDepth 100000 in
theorem mq_172_at : a_mt[172]? = some mq_172 := a_mt_nth 10 12 172 a_mt_10 mq_172 rfl a_mt_t_10 rfl rfl
theorem mq_172_pl : plainFor mq_172.1 = true := by decide +kernel
theorem mq_172_kt : kt_at 172 = kt_172 := rfl
theorem mq_172_k : ∀ r ∈ kt_172, ∀ e ∈ r, k_ok mq_172.1.cls mq_172.2.1 e := k_all_ok (c := 13) rfl kt_172_ok
def mq_173 : a_M := (⟨"LetByTheDegreeModel", "readPerson", "(I)V"⟩, prog_15_method_20_code, 4, none)
set_option maxRecDepth 100000 in
theorem mq_173_at : a_mt[173]? = some mq_173 := a_mt_nth 10 13 173 a_mt_10 mq_173 rfl a_mt_t_10 rfl rfl
theorem mq_173_pl : plainFor mq_173.1 = true := by decide +kernel
theorem mq_173_kt : kt_at 173 = kt_173 := rfl
theorem mq_173_k : ∀ r ∈ kt_173, ∀ e ∈ r, k_ok mq_173.1.cls mq_173.2.1 e := k_all_ok (c := 13) rfl kt_173_ok
def mq_174 : a_M := (⟨"LetByTheDegreeModel", "need", "(C)V"⟩, prog_15_method_16_code, 2, none)
set_option maxRecDepth 100000 in
theorem mq_174_at : a_mt[174]? = some mq_174 := a_mt_nth 10 14 174 a_mt_10 mq_174 rfl a_mt_t_10 rfl rfl
theorem mq_174_pl : plainFor mq_174.1 = true := by decide +kernel
theorem mq_174_kt : kt_at 174 = kt_174 := rfl
theorem mq_174_k : ∀ r ∈ kt_174, ∀ e ∈ r, k_ok mq_174.1.cls mq_174.2.1 e := k_all_ok (c := 13) rfl kt_174_ok
def mq_175 : a_M := (⟨"LetByTheDegreeModel", "rule", "()I"⟩, prog_15_method_27_code, 3, (some FieldType.int))
set_option maxRecDepth 100000 in
theorem mq_175_at : a_mt[175]? = some mq_175 := a_mt_nth 10 15 175 a_mt_10 mq_175 rfl a_mt_t_10 rfl rfl
theorem mq_175_pl : plainFor mq_175.1 = true := by decide +kernel
theorem mq_175_kt : kt_at 175 = kt_175 := rfl
theorem mq_175_k : ∀ r ∈ kt_175, ∀ e ∈ r, k_ok mq_175.1.cls mq_175.2.1 e := k_all_ok (c := 13) rfl kt_175_ok
def mq_176 : a_M := (⟨"LetByTheDegreeModel", "held", "(I)I"⟩, prog_15_method_22_code, 3, (some FieldType.int))
set_option maxRecDepth 100000 in
theorem mq_176_at : a_mt[176]? = some mq_176 := a_mt_nth 11 0 176 a_mt_11 mq_176 rfl a_mt_t_11 rfl rfl
theorem mq_176_pl : plainFor mq_176.1 = true := by decide +kernel
theorem mq_176_kt : kt_at 176 = kt_176 := rfl
theorem mq_176_k : ∀ r ∈ kt_176, ∀ e ∈ r, k_ok mq_176.1.cls mq_176.2.1 e := k_all_ok (c := 13) rfl kt_176_ok
def mq_177 : a_M := (⟨"LetByTheDegreeModel", "sum", "(I)I"⟩, prog_15_method_23_code, 5, (some FieldType.int))
set_option maxRecDepth 100000 in
theorem mq_177_at : a_mt[177]? = some mq_177 := a_mt_nth 11 1 177 a_mt_11 mq_177 rfl a_mt_t_11 rfl rfl
theorem mq_177_pl : plainFor mq_177.1 = true := by decide +kernel
theorem mq_177_kt : kt_at 177 = kt_177 := rfl
theorem mq_177_k : ∀ r ∈ kt_177, ∀ e ∈ r, k_ok mq_177.1.cls mq_177.2.1 e := k_all_ok (c := 13) rfl kt_177_ok
def mq_178 : a_M := (⟨"LetByTheDegreeModel", "product", "(I)I"⟩, prog_15_method_24_code, 5, (some FieldType.int))
set_option maxRecDepth 100000 in
theorem mq_178_at : a_mt[178]? = some mq_178 := a_mt_nth 11 2 178 a_mt_11 mq_178 rfl a_mt_t_11 rfl rfl
theorem mq_178_pl : plainFor mq_178.1 = true := by decide +kernel
theorem mq_178_kt : kt_at 178 = kt_178 := rfl
theorem mq_178_k : ∀ r ∈ kt_178, ∀ e ∈ r, k_ok mq_178.1.cls mq_178.2.1 e := k_all_ok (c := 13) rfl kt_178_ok
def mq_179 : a_M := (⟨"LetByTheDegreeModel", "thing", "(I)I"⟩, prog_15_method_26_code, 4, (some FieldType.int))
set_option maxRecDepth 100000 in
theorem mq_179_at : a_mt[179]? = some mq_179 := a_mt_nth 11 3 179 a_mt_11 mq_179 rfl a_mt_t_11 rfl rfl
theorem mq_179_pl : plainFor mq_179.1 = true := by decide +kernel
theorem mq_179_kt : kt_at 179 = kt_179 := rfl
theorem mq_179_k : ∀ r ∈ kt_179, ∀ e ∈ r, k_ok mq_179.1.cls mq_179.2.1 e := k_all_ok (c := 13) rfl kt_179_ok
def mq_180 : a_M := (⟨"LetByTheDegreeModel", "letterOf", "(I)I"⟩, prog_15_method_25_code, 1, (some FieldType.int))
set_option maxRecDepth 100000 in
theorem mq_180_at : a_mt[180]? = some mq_180 := a_mt_nth 11 4 180 a_mt_11 mq_180 rfl a_mt_t_11 rfl rfl
theorem mq_180_pl : plainFor mq_180.1 = true := by decide +kernel
theorem mq_180_kt : kt_at 180 = kt_180 := rfl
theorem mq_180_k : ∀ r ∈ kt_180, ∀ e ∈ r, k_ok mq_180.1.cls mq_180.2.1 e := k_all_ok (c := 13) rfl kt_180_ok
def mq_181 : a_M := (⟨"LetByTheDegreeModel", "room", "(II)I"⟩, prog_15_method_34_code, 3, (some FieldType.int))
set_option maxRecDepth 100000 in
theorem mq_181_at : a_mt[181]? = some mq_181 := a_mt_nth 11 5 181 a_mt_11 mq_181 rfl a_mt_t_11 rfl rfl
theorem mq_181_pl : plainFor mq_181.1 = true := by decide +kernel
theorem mq_181_kt : kt_at 181 = kt_181 := rfl
theorem mq_181_k : ∀ r ∈ kt_181, ∀ e ∈ r, k_ok mq_181.1.cls mq_181.2.1 e := k_all_ok (c := 13) rfl kt_181_ok
def mq_182 : a_M := (⟨"LetByTheDegreeModel", "lost", "()I"⟩, prog_15_method_5_code, 1, (some FieldType.int))
set_option maxRecDepth 100000 in
theorem mq_182_at : a_mt[182]? = some mq_182 := a_mt_nth 11 6 182 a_mt_11 mq_182 rfl a_mt_t_11 rfl rfl
theorem mq_182_pl : plainFor mq_182.1 = true := by decide +kernel
theorem mq_182_kt : kt_at 182 = kt_182 := rfl
theorem mq_182_k : ∀ r ∈ kt_182, ∀ e ∈ r, k_ok mq_182.1.cls mq_182.2.1 e := k_all_ok (c := 13) rfl kt_182_ok
def mq_183 : a_M := (⟨"LetByTheDegreeModel", "peopleIn", "([II)I"⟩, prog_15_method_30_code, 5, (some FieldType.int))
set_option maxRecDepth 100000 in
theorem mq_183_at : a_mt[183]? = some mq_183 := a_mt_nth 11 7 183 a_mt_11 mq_183 rfl a_mt_t_11 rfl rfl
theorem mq_183_pl : plainFor mq_183.1 = true := by decide +kernel
theorem mq_183_kt : kt_at 183 = kt_183 := rfl
theorem mq_183_k : ∀ r ∈ kt_183, ∀ e ∈ r, k_ok mq_183.1.cls mq_183.2.1 e := k_all_ok (c := 13) rfl kt_183_ok
def mq_184 : a_M := (⟨"LetByTheDegreeModel", "warmthBy", "([III)I"⟩, prog_15_method_31_code, 6, (some FieldType.int))
set_option maxRecDepth 100000 in
theorem mq_184_at : a_mt[184]? = some mq_184 := a_mt_nth 11 8 184 a_mt_11 mq_184 rfl a_mt_t_11 rfl rfl
theorem mq_184_pl : plainFor mq_184.1 = true := by decide +kernel
theorem mq_184_kt : kt_at 184 = kt_184 := rfl
theorem mq_184_k : ∀ r ∈ kt_184, ∀ e ∈ r, k_ok mq_184.1.cls mq_184.2.1 e := k_all_ok (c := 13) rfl kt_184_ok
def mq_185 : a_M := (⟨"LetByTheDegreeModel", "has", "(II)Z"⟩, prog_15_method_4_code, 2, (some FieldType.boolean))
set_option maxRecDepth 100000 in
theorem mq_185_at : a_mt[185]? = some mq_185 := a_mt_nth 11 9 185 a_mt_11 mq_185 rfl a_mt_t_11 rfl rfl
theorem mq_185_pl : plainFor mq_185.1 = true := by decide +kernel
theorem mq_185_kt : kt_at 185 = kt_185 := rfl
theorem mq_185_k : ∀ r ∈ kt_185, ∀ e ∈ r, k_ok mq_185.1.cls mq_185.2.1 e := k_all_ok (c := 13) rfl kt_185_ok
def mq_186 : a_M := (⟨"LetByTheDegreeModel", "warmOf", "([II)I"⟩, prog_15_method_29_code, 3, (some FieldType.int))
set_option maxRecDepth 100000 in
theorem mq_186_at : a_mt[186]? = some mq_186 := a_mt_nth 11 10 186 a_mt_11 mq_186 rfl a_mt_t_11 rfl rfl
theorem mq_186_pl : plainFor mq_186.1 = true := by decide +kernel
theorem mq_186_kt : kt_at 186 = kt_186 := rfl
theorem mq_186_k : ∀ r ∈ kt_186, ∀ e ∈ r, k_ok mq_186.1.cls mq_186.2.1 e := k_all_ok (c := 13) rfl kt_186_ok
def mq_187 : a_M := (⟨"LetByTheDegreeModel", "meltsNow", "([II)I"⟩, prog_15_method_33_code, 3, (some FieldType.int))
set_option maxRecDepth 100000 in
theorem mq_187_at : a_mt[187]? = some mq_187 := a_mt_nth 11 11 187 a_mt_11 mq_187 rfl a_mt_t_11 rfl rfl
theorem mq_187_pl : plainFor mq_187.1 = true := by decide +kernel
theorem mq_187_kt : kt_at 187 = kt_187 := rfl
theorem mq_187_k : ∀ r ∈ kt_187, ∀ e ∈ r, k_ok mq_187.1.cls mq_187.2.1 e := k_all_ok (c := 13) rfl kt_187_ok
def mq_188 : a_M := (⟨"LetByTheDegreeModel", "meltsBy", "([III)I"⟩, prog_15_method_32_code, 4, (some FieldType.int))
set_option maxRecDepth 100000 in
theorem mq_188_at : a_mt[188]? = some mq_188 := a_mt_nth 11 12 188 a_mt_11 mq_188 rfl a_mt_t_11 rfl rfl
theorem mq_188_pl : plainFor mq_188.1 = true := by decide +kernel
theorem mq_188_kt : kt_at 188 = kt_188 := rfl
theorem mq_188_k : ∀ r ∈ kt_188, ∀ e ∈ r, k_ok mq_188.1.cls mq_188.2.1 e := k_all_ok (c := 13) rfl kt_188_ok
def mq_189 : a_M := (⟨"LetByTheDegreeModel", "melts", "([IIII)I"⟩, prog_15_method_28_code, 6, (some FieldType.int))
set_option maxRecDepth 100000 in
theorem mq_189_at : a_mt[189]? = some mq_189 := a_mt_nth 11 13 189 a_mt_11 mq_189 rfl a_mt_t_11 rfl rfl
theorem mq_189_pl : plainFor mq_189.1 = true := by decide +kernel
theorem mq_189_kt : kt_at 189 = kt_189 := rfl
theorem mq_189_k : ∀ r ∈ kt_189, ∀ e ∈ r, k_ok mq_189.1.cls mq_189.2.1 e := k_all_ok (c := 13) rfl kt_189_ok
def mq_190 : a_M := (⟨"LetByTheDegreeModel", "person", "(II)I"⟩, prog_15_method_35_code, 5, (some FieldType.int))
set_option maxRecDepth 100000 in
theorem mq_190_at : a_mt[190]? = some mq_190 := a_mt_nth 11 14 190 a_mt_11 mq_190 rfl a_mt_t_11 rfl rfl
theorem mq_190_pl : plainFor mq_190.1 = true := by decide +kernel
theorem mq_190_kt : kt_at 190 = kt_190 := rfl
theorem mq_190_k : ∀ r ∈ kt_190, ∀ e ∈ r, k_ok mq_190.1.cls mq_190.2.1 e := k_all_ok (c := 13) rfl kt_190_ok
def mq_191 : a_M := (⟨"LetByTheDegreeModel", "isPerson", "(I)Z"⟩, prog_15_method_8_code, 2, (some FieldType.boolean))
set_option maxRecDepth 100000 in
theorem mq_191_at : a_mt[191]? = some mq_191 := a_mt_nth 11 15 191 a_mt_11 mq_191 rfl a_mt_t_11 rfl rfl
theorem mq_191_pl : plainFor mq_191.1 = true := by decide +kernel
theorem mq_191_kt : kt_at 191 = kt_191 := rfl
theorem mq_191_k : ∀ r ∈ kt_191, ∀ e ∈ r, k_ok mq_191.1.cls mq_191.2.1 e := k_all_ok (c := 13) rfl kt_191_ok
def mq_192 : a_M := (⟨"LetByTheDegreeModel", "set", "(II)I"⟩, prog_15_method_36_code, 4, (some FieldType.int))
set_option maxRecDepth 100000 in
theorem mq_192_at : a_mt[192]? = some mq_192 := a_mt_nth 12 0 192 a_mt_12 mq_192 rfl a_mt_t_12 rfl rfl
theorem mq_192_pl : plainFor mq_192.1 = true := by decide +kernel
theorem mq_192_kt : kt_at 192 = kt_192 := rfl
theorem mq_192_k : ∀ r ∈ kt_192, ∀ e ∈ r, k_ok mq_192.1.cls mq_192.2.1 e := k_all_ok (c := 13) rfl kt_192_ok
def mq_193 : a_M := (⟨"LetByTheDegreeModel", "doing", "(III)I"⟩, prog_15_method_37_code, 5, (some FieldType.int))
set_option maxRecDepth 100000 in
theorem mq_193_at : a_mt[193]? = some mq_193 := a_mt_nth 12 1 193 a_mt_12 mq_193 rfl a_mt_t_12 rfl rfl
theorem mq_193_pl : plainFor mq_193.1 = true := by decide +kernel
theorem mq_193_kt : kt_at 193 = kt_193 := rfl
theorem mq_193_k : ∀ r ∈ kt_193, ∀ e ∈ r, k_ok mq_193.1.cls mq_193.2.1 e := k_all_ok (c := 13) rfl kt_193_ok
def mq_194 : a_M := (⟨"LetByTheDegreeModel", "sheet", "(IIII)I"⟩, prog_15_method_38_code, 10, (some FieldType.int))
set_option maxRecDepth 100000 in
theorem mq_194_at : a_mt[194]? = some mq_194 := a_mt_nth 12 2 194 a_mt_12 mq_194 rfl a_mt_t_12 rfl rfl
theorem mq_194_pl : plainFor mq_194.1 = true := by decide +kernel
theorem mq_194_kt : kt_at 194 = kt_194 := rfl
theorem mq_194_k : ∀ r ∈ kt_194, ∀ e ∈ r, k_ok mq_194.1.cls mq_194.2.1 e := k_all_ok (c := 13) rfl kt_194_ok
def mq_195 : a_M := (⟨"LetByTheDegreeModel", "move", "(II)I"⟩, prog_15_method_44_code, 4, (some FieldType.int))
set_option maxRecDepth 100000 in
theorem mq_195_at : a_mt[195]? = some mq_195 := a_mt_nth 12 3 195 a_mt_12 mq_195 rfl a_mt_t_12 rfl rfl
theorem mq_195_pl : plainFor mq_195.1 = true := by decide +kernel
theorem mq_195_kt : kt_at 195 = kt_195 := rfl
theorem mq_195_k : ∀ r ∈ kt_195, ∀ e ∈ r, k_ok mq_195.1.cls mq_195.2.1 e := k_all_ok (c := 13) rfl kt_195_ok
def mq_196 : a_M := (⟨"LetByTheDegreeModel", "refusesMove", "(II)I"⟩, prog_15_method_42_code, 3, (some FieldType.int))
set_option maxRecDepth 100000 in
theorem mq_196_at : a_mt[196]? = some mq_196 := a_mt_nth 12 4 196 a_mt_12 mq_196 rfl a_mt_t_12 rfl rfl
theorem mq_196_pl : plainFor mq_196.1 = true := by decide +kernel
theorem mq_196_kt : kt_at 196 = kt_196 := rfl
theorem mq_196_k : ∀ r ∈ kt_196, ∀ e ∈ r, k_ok mq_196.1.cls mq_196.2.1 e := k_all_ok (c := 13) rfl kt_196_ok
def mq_197 : a_M := (⟨"LetByTheDegreeModel", "remember", "([I)V"⟩, prog_15_method_40_code, 3, none)
set_option maxRecDepth 100000 in
theorem mq_197_at : a_mt[197]? = some mq_197 := a_mt_nth 12 5 197 a_mt_12 mq_197 rfl a_mt_t_12 rfl rfl
theorem mq_197_pl : plainFor mq_197.1 = true := by decide +kernel
theorem mq_197_kt : kt_at 197 = kt_197 := rfl
theorem mq_197_k : ∀ r ∈ kt_197, ∀ e ∈ r, k_ok mq_197.1.cls mq_197.2.1 e := k_all_ok (c := 13) rfl kt_197_ok
def mq_198 : a_M := (⟨"LetByTheDegreeModel", "lay", "([I[II)V"⟩, prog_15_method_39_code, 4, none)
set_option maxRecDepth 100000 in
theorem mq_198_at : a_mt[198]? = some mq_198 := a_mt_nth 12 6 198 a_mt_12 mq_198 rfl a_mt_t_12 rfl rfl
theorem mq_198_pl : plainFor mq_198.1 = true := by decide +kernel
theorem mq_198_kt : kt_at 198 = kt_198 := rfl
theorem mq_198_k : ∀ r ∈ kt_198, ∀ e ∈ r, k_ok mq_198.1.cls mq_198.2.1 e := k_all_ok (c := 13) rfl kt_198_ok
def mq_199 : a_M := (⟨"LetByTheDegreeModel", "goMove", "(II)I"⟩, prog_15_method_43_code, 4, (some FieldType.int))
set_option maxRecDepth 100000 in
theorem mq_199_at : a_mt[199]? = some mq_199 := a_mt_nth 12 7 199 a_mt_12 mq_199 rfl a_mt_t_12 rfl rfl
theorem mq_199_pl : plainFor mq_199.1 = true := by decide +kernel
theorem mq_199_kt : kt_at 199 = kt_199 := rfl
theorem mq_199_k : ∀ r ∈ kt_199, ∀ e ∈ r, k_ok mq_199.1.cls mq_199.2.1 e := k_all_ok (c := 13) rfl kt_199_ok
def mq_200 : a_M := (⟨"LetByTheDegreeModel", "told", "(I)I"⟩, prog_15_method_41_code, 1, (some FieldType.int))
set_option maxRecDepth 100000 in
theorem mq_200_at : a_mt[200]? = some mq_200 := a_mt_nth 12 8 200 a_mt_12 mq_200 rfl a_mt_t_12 rfl rfl
theorem mq_200_pl : plainFor mq_200.1 = true := by decide +kernel
theorem mq_200_kt : kt_at 200 = kt_200 := rfl
theorem mq_200_k : ∀ r ∈ kt_200, ∀ e ∈ r, k_ok mq_200.1.cls mq_200.2.1 e := k_all_ok (c := 13) rfl kt_200_ok
def mq_201 : a_M := (⟨"LetByTheDegreeModel", "stove", "(I)I"⟩, prog_15_method_47_code, 3, (some FieldType.int))
set_option maxRecDepth 100000 in
theorem mq_201_at : a_mt[201]? = some mq_201 := a_mt_nth 12 9 201 a_mt_12 mq_201 rfl a_mt_t_12 rfl rfl
theorem mq_201_pl : plainFor mq_201.1 = true := by decide +kernel
theorem mq_201_kt : kt_at 201 = kt_201 := rfl
theorem mq_201_k : ∀ r ∈ kt_201, ∀ e ∈ r, k_ok mq_201.1.cls mq_201.2.1 e := k_all_ok (c := 13) rfl kt_201_ok
def mq_202 : a_M := (⟨"LetByTheDegreeModel", "refusesStove", "(I)I"⟩, prog_15_method_45_code, 2, (some FieldType.int))
set_option maxRecDepth 100000 in
theorem mq_202_at : a_mt[202]? = some mq_202 := a_mt_nth 12 10 202 a_mt_12 mq_202 rfl a_mt_t_12 rfl rfl
theorem mq_202_pl : plainFor mq_202.1 = true := by decide +kernel
theorem mq_202_kt : kt_at 202 = kt_202 := rfl
theorem mq_202_k : ∀ r ∈ kt_202, ∀ e ∈ r, k_ok mq_202.1.cls mq_202.2.1 e := k_all_ok (c := 13) rfl kt_202_ok
def mq_203 : a_M := (⟨"LetByTheDegreeModel", "goStove", "(I)I"⟩, prog_15_method_46_code, 3, (some FieldType.int))
set_option maxRecDepth 100000 in
theorem mq_203_at : a_mt[203]? = some mq_203 := a_mt_nth 12 11 203 a_mt_12 mq_203 rfl a_mt_t_12 rfl rfl
theorem mq_203_pl : plainFor mq_203.1 = true := by decide +kernel
theorem mq_203_kt : kt_at 203 = kt_203 := rfl
theorem mq_203_k : ∀ r ∈ kt_203, ∀ e ∈ r, k_ok mq_203.1.cls mq_203.2.1 e := k_all_ok (c := 13) rfl kt_203_ok
def mq_204 : a_M := (⟨"LetByTheDegreeModel", "hour", "()I"⟩, prog_15_method_52_code, 1, (some FieldType.int))
set_option maxRecDepth 100000 in
theorem mq_204_at : a_mt[204]? = some mq_204 := a_mt_nth 12 12 204 a_mt_12 mq_204 rfl a_mt_t_12 rfl rfl
theorem mq_204_pl : plainFor mq_204.1 = true := by decide +kernel
theorem mq_204_kt : kt_at 204 = kt_204 := rfl
theorem mq_204_k : ∀ r ∈ kt_204, ∀ e ∈ r, k_ok mq_204.1.cls mq_204.2.1 e := k_all_ok (c := 13) rfl kt_204_ok
def mq_205 : a_M := (⟨"LetByTheDegreeModel", "hours", "(I)I"⟩, prog_15_method_53_code, 2, (some FieldType.int))
set_option maxRecDepth 100000 in
theorem mq_205_at : a_mt[205]? = some mq_205 := a_mt_nth 12 13 205 a_mt_12 mq_205 rfl a_mt_t_12 rfl rfl
theorem mq_205_pl : plainFor mq_205.1 = true := by decide +kernel
theorem mq_205_kt : kt_at 205 = kt_205 := rfl
theorem mq_205_k : ∀ r ∈ kt_205, ∀ e ∈ r, k_ok mq_205.1.cls mq_205.2.1 e := k_all_ok (c := 13) rfl kt_205_ok
def mq_206 : a_M := (⟨"LetByTheDegreeModel", "beginHours", "()V"⟩, prog_15_method_50_code, 1, none)
set_option maxRecDepth 100000 in
theorem mq_206_at : a_mt[206]? = some mq_206 := a_mt_nth 12 14 206 a_mt_12 mq_206 rfl a_mt_t_12 rfl rfl
theorem mq_206_pl : plainFor mq_206.1 = true := by decide +kernel
theorem mq_206_kt : kt_at 206 = kt_206 := rfl
theorem mq_206_k : ∀ r ∈ kt_206, ∀ e ∈ r, k_ok mq_206.1.cls mq_206.2.1 e := k_all_ok (c := 13) rfl kt_206_ok
def mq_207 : a_M := (⟨"LetByTheDegreeModel", "goHours", "([II)V"⟩, prog_15_method_51_code, 4, none)
set_option maxRecDepth 100000 in
theorem mq_207_at : a_mt[207]? = some mq_207 := a_mt_nth 12 15 207 a_mt_12 mq_207 rfl a_mt_t_12 rfl rfl
theorem mq_207_pl : plainFor mq_207.1 = true := by decide +kernel
theorem mq_207_kt : kt_at 207 = kt_207 := rfl
theorem mq_207_k : ∀ r ∈ kt_207, ∀ e ∈ r, k_ok mq_207.1.cls mq_207.2.1 e := k_all_ok (c := 13) rfl kt_207_ok
def mq_208 : a_M := (⟨"LetByTheDegreeModel", "goHour", "([I)V"⟩, prog_15_method_48_code, 5, none)
set_option maxRecDepth 100000 in
theorem mq_208_at : a_mt[208]? = some mq_208 := a_mt_nth 13 0 208 a_mt_13 mq_208 rfl a_mt_t_13 rfl rfl
theorem mq_208_pl : plainFor mq_208.1 = true := by decide +kernel
theorem mq_208_kt : kt_at 208 = kt_208 := rfl
theorem mq_208_k : ∀ r ∈ kt_208, ∀ e ∈ r, k_ok mq_208.1.cls mq_208.2.1 e := k_all_ok (c := 13) rfl kt_208_ok
def mq_209 : a_M := (⟨"LetByTheDegreeModel", "giveWay", "([II)V"⟩, prog_15_method_49_code, 5, none)
set_option maxRecDepth 100000 in
theorem mq_209_at : a_mt[209]? = some mq_209 := a_mt_nth 13 1 209 a_mt_13 mq_209 rfl a_mt_t_13 rfl rfl
theorem mq_209_pl : plainFor mq_209.1 = true := by decide +kernel
theorem mq_209_kt : kt_at 209 = kt_209 := rfl
theorem mq_209_k : ∀ r ∈ kt_209, ∀ e ∈ r, k_ok mq_209.1.cls mq_209.2.1 e := k_all_ok (c := 13) rfl kt_209_ok
def mq_210 : a_M := (⟨"LetByTheDegreeModel", "tell", "(J)V"⟩, prog_15_method_6_code, 3, none)
set_option maxRecDepth 100000 in
theorem mq_210_at : a_mt[210]? = some mq_210 := a_mt_nth 13 2 210 a_mt_13 mq_210 rfl a_mt_t_13 rfl rfl
theorem mq_210_pl : plainFor mq_210.1 = true := by decide +kernel
theorem mq_210_kt : kt_at 210 = kt_210 := rfl
theorem mq_210_k : ∀ r ∈ kt_210, ∀ e ∈ r, k_ok mq_210.1.cls mq_210.2.1 e := k_all_ok (c := 13) rfl kt_210_ok
def mq_211 : a_M := (⟨"LetByTheDegreeModel", "pay", "(II)I"⟩, prog_15_method_54_code, 3, (some FieldType.int))
set_option maxRecDepth 100000 in
theorem mq_211_at : a_mt[211]? = some mq_211 := a_mt_nth 13 3 211 a_mt_13 mq_211 rfl a_mt_t_13 rfl rfl
theorem mq_211_pl : plainFor mq_211.1 = true := by decide +kernel
theorem mq_211_kt : kt_at 211 = kt_211 := rfl
theorem mq_211_k : ∀ r ∈ kt_211, ∀ e ∈ r, k_ok mq_211.1.cls mq_211.2.1 e := k_all_ok (c := 13) rfl kt_211_ok
def mq_213 : a_M := (⟨"LetByTheDegreeModel", "readAct", "(I)V"⟩, prog_15_method_57_code, 3, none)
set_option maxRecDepth 100000 in
theorem mq_213_at : a_mt[213]? = some mq_213 := a_mt_nth 13 5 213 a_mt_13 mq_213 rfl a_mt_t_13 rfl rfl
theorem mq_213_pl : plainFor mq_213.1 = true := by decide +kernel
theorem mq_213_kt : kt_at 213 = kt_213 := rfl
theorem mq_213_k : ∀ r ∈ kt_213, ∀ e ∈ r, k_ok mq_213.1.cls mq_213.2.1 e := k_all_ok (c := 13) rfl kt_213_ok
def mq_214 : a_M := (⟨"LetByTheDegreeModel", "readRoom", "()I"⟩, prog_15_method_56_code, 2, (some FieldType.int))
set_option maxRecDepth 100000 in
theorem mq_214_at : a_mt[214]? = some mq_214 := a_mt_nth 13 6 214 a_mt_13 mq_214 rfl a_mt_t_13 rfl rfl
theorem mq_214_pl : plainFor mq_214.1 = true := by decide +kernel
theorem mq_214_kt : kt_at 214 = kt_214 := rfl
theorem mq_214_k : ∀ r ∈ kt_214, ∀ e ∈ r, k_ok mq_214.1.cls mq_214.2.1 e := k_all_ok (c := 13) rfl kt_214_ok
def mq_215 : a_M := (⟨"LetByTheDegreeModel", "act", "(III)Z"⟩, prog_15_method_58_code, 4, (some FieldType.boolean))
set_option maxRecDepth 100000 in
theorem mq_215_at : a_mt[215]? = some mq_215 := a_mt_nth 13 7 215 a_mt_13 mq_215 rfl a_mt_t_13 rfl rfl
theorem mq_215_pl : plainFor mq_215.1 = true := by decide +kernel
theorem mq_215_kt : kt_at 215 = kt_215 := rfl
theorem mq_215_k : ∀ r ∈ kt_215, ∀ e ∈ r, k_ok mq_215.1.cls mq_215.2.1 e := k_all_ok (c := 13) rfl kt_215_ok
def mq_216 : a_M := (⟨"LetByTheDegreeModel", "undo", "()I"⟩, prog_15_method_59_code, 2, (some FieldType.int))
set_option maxRecDepth 100000 in
theorem mq_216_at : a_mt[216]? = some mq_216 := a_mt_nth 13 8 216 a_mt_13 mq_216 rfl a_mt_t_13 rfl rfl
theorem mq_216_pl : plainFor mq_216.1 = true := by decide +kernel
theorem mq_216_kt : kt_at 216 = kt_216 := rfl
theorem mq_216_k : ∀ r ∈ kt_216, ∀ e ∈ r, k_ok mq_216.1.cls mq_216.2.1 e := k_all_ok (c := 13) rfl kt_216_ok
def mq_217 : a_M := (⟨"LetByTheDegreeModel", "thick", "(II)I"⟩, prog_15_method_62_code, 3, (some FieldType.int))
set_option maxRecDepth 100000 in
theorem mq_217_at : a_mt[217]? = some mq_217 := a_mt_nth 13 9 217 a_mt_13 mq_217 rfl a_mt_t_13 rfl rfl
theorem mq_217_pl : plainFor mq_217.1 = true := by decide +kernel
theorem mq_217_kt : kt_at 217 = kt_217 := rfl
theorem mq_217_k : ∀ r ∈ kt_217, ∀ e ∈ r, k_ok mq_217.1.cls mq_217.2.1 e := k_all_ok (c := 13) rfl kt_217_ok
def mq_218 : a_M := (⟨"LetByTheDegreeModel", "isLook", "(I)Z"⟩, prog_15_method_60_code, 1, (some FieldType.boolean))
set_option maxRecDepth 100000 in
theorem mq_218_at : a_mt[218]? = some mq_218 := a_mt_nth 13 10 218 a_mt_13 mq_218 rfl a_mt_t_13 rfl rfl
theorem mq_218_pl : plainFor mq_218.1 = true := by decide +kernel
theorem mq_218_kt : kt_at 218 = kt_218 := rfl
theorem mq_218_k : ∀ r ∈ kt_218, ∀ e ∈ r, k_ok mq_218.1.cls mq_218.2.1 e := k_all_ok (c := 13) rfl kt_218_ok
def mq_219 : a_M := (⟨"LetByTheDegreeModel", "layThen", "()V"⟩, prog_15_method_61_code, 1, none)
set_option maxRecDepth 100000 in
theorem mq_219_at : a_mt[219]? = some mq_219 := a_mt_nth 13 11 219 a_mt_13 mq_219 rfl a_mt_t_13 rfl rfl
theorem mq_219_pl : plainFor mq_219.1 = true := by decide +kernel
theorem mq_219_kt : kt_at 219 = kt_219 := rfl
theorem mq_219_k : ∀ r ∈ kt_219, ∀ e ∈ r, k_ok mq_219.1.cls mq_219.2.1 e := k_all_ok (c := 13) rfl kt_219_ok
def mq_220 : a_M := (⟨"LetByTheDegreeModel", "gives", "()I"⟩, prog_15_method_66_code, 2, (some FieldType.int))
set_option maxRecDepth 100000 in
theorem mq_220_at : a_mt[220]? = some mq_220 := a_mt_nth 13 12 220 a_mt_13 mq_220 rfl a_mt_t_13 rfl rfl
theorem mq_220_pl : plainFor mq_220.1 = true := by decide +kernel
theorem mq_220_kt : kt_at 220 = kt_220 := rfl
theorem mq_220_k : ∀ r ∈ kt_220, ∀ e ∈ r, k_ok mq_220.1.cls mq_220.2.1 e := k_all_ok (c := 13) rfl kt_220_ok
def mq_221 : a_M := (⟨"LetByTheDegreeModel", "stands", "(I)I"⟩, prog_15_method_65_code, 4, (some FieldType.int))
set_option maxRecDepth 100000 in
theorem mq_221_at : a_mt[221]? = some mq_221 := a_mt_nth 13 13 221 a_mt_13 mq_221 rfl a_mt_t_13 rfl rfl
theorem mq_221_pl : plainFor mq_221.1 = true := by decide +kernel
theorem mq_221_kt : kt_at 221 = kt_221 := rfl
theorem mq_221_k : ∀ r ∈ kt_221, ∀ e ∈ r, k_ok mq_221.1.cls mq_221.2.1 e := k_all_ok (c := 13) rfl kt_221_ok
def mq_222 : a_M := (⟨"LetByTheDegreeModel", "iced", "()I"⟩, prog_15_method_63_code, 3, (some FieldType.int))
set_option maxRecDepth 100000 in
theorem mq_222_at : a_mt[222]? = some mq_222 := a_mt_nth 13 14 222 a_mt_13 mq_222 rfl a_mt_t_13 rfl rfl
theorem mq_222_pl : plainFor mq_222.1 = true := by decide +kernel
theorem mq_222_kt : kt_at 222 = kt_222 := rfl
theorem mq_222_k : ∀ r ∈ kt_222, ∀ e ∈ r, k_ok mq_222.1.cls mq_222.2.1 e := k_all_ok (c := 13) rfl kt_222_ok
def mq_223 : a_M := (⟨"LetByTheDegreeModel", "thawed", "([I)I"⟩, prog_15_method_64_code, 4, (some FieldType.int))
set_option maxRecDepth 100000 in
theorem mq_223_at : a_mt[223]? = some mq_223 := a_mt_nth 13 15 223 a_mt_13 mq_223 rfl a_mt_t_13 rfl rfl
theorem mq_223_pl : plainFor mq_223.1 = true := by decide +kernel
theorem mq_223_kt : kt_at 223 = kt_223 := rfl
theorem mq_223_k : ∀ r ∈ kt_223, ∀ e ∈ r, k_ok mq_223.1.cls mq_223.2.1 e := k_all_ok (c := 13) rfl kt_223_ok
def mq_224 : a_M := (⟨"java/lang/Integer", "numberOfTrailingZeros", "(I)I"⟩, prog_21_method_48_code, 2, (some FieldType.int))
set_option maxRecDepth 100000 in
theorem mq_224_at : a_mt[224]? = some mq_224 := a_mt_nth 14 0 224 a_mt_14 mq_224 rfl a_mt_t_14 rfl rfl
theorem mq_224_pl : plainFor mq_224.1 = true := by decide +kernel
theorem mq_224_kt : kt_at 224 = kt_224 := rfl
theorem mq_224_k : ∀ r ∈ kt_224, ∀ e ∈ r, k_ok mq_224.1.cls mq_224.2.1 e := k_all_ok (c := 16) rfl kt_224_ok
def mq_225 : a_M := (⟨"LetByTheDegreeModel", "drips", "(I)I"⟩, prog_15_method_67_code, 4, (some FieldType.int))
set_option maxRecDepth 100000 in
theorem mq_225_at : a_mt[225]? = some mq_225 := a_mt_nth 14 1 225 a_mt_14 mq_225 rfl a_mt_t_14 rfl rfl
theorem mq_225_pl : plainFor mq_225.1 = true := by decide +kernel
theorem mq_225_kt : kt_at 225 = kt_225 := rfl
theorem mq_225_k : ∀ r ∈ kt_225, ∀ e ∈ r, k_ok mq_225.1.cls mq_225.2.1 e := k_all_ok (c := 13) rfl kt_225_ok
def mq_226 : a_M := (⟨"LetByTheDegreeModel", "coldest", "(I)I"⟩, prog_15_method_68_code, 3, (some FieldType.int))
set_option maxRecDepth 100000 in
theorem mq_226_at : a_mt[226]? = some mq_226 := a_mt_nth 14 2 226 a_mt_14 mq_226 rfl a_mt_t_14 rfl rfl
theorem mq_226_pl : plainFor mq_226.1 = true := by decide +kernel
theorem mq_226_kt : kt_at 226 = kt_226 := rfl
theorem mq_226_k : ∀ r ∈ kt_226, ∀ e ∈ r, k_ok mq_226.1.cls mq_226.2.1 e := k_all_ok (c := 13) rfl kt_226_ok
def mq_227 : a_M := (⟨"LetByTheDegreeModel", "lodge", "(I)I"⟩, prog_15_method_73_code, 2, (some FieldType.int))
set_option maxRecDepth 100000 in
theorem mq_227_at : a_mt[227]? = some mq_227 := a_mt_nth 14 3 227 a_mt_14 mq_227 rfl a_mt_t_14 rfl rfl
theorem mq_227_pl : plainFor mq_227.1 = true := by decide +kernel
theorem mq_227_kt : kt_at 227 = kt_227 := rfl
theorem mq_227_k : ∀ r ∈ kt_227, ∀ e ∈ r, k_ok mq_227.1.cls mq_227.2.1 e := k_all_ok (c := 13) rfl kt_227_ok
def mq_228 : a_M := (⟨"LetByTheDegreeModel", "findLodgers", "()V"⟩, prog_15_method_69_code, 2, none)
set_option maxRecDepth 100000 in
theorem mq_228_at : a_mt[228]? = some mq_228 := a_mt_nth 14 4 228 a_mt_14 mq_228 rfl a_mt_t_14 rfl rfl
theorem mq_228_pl : plainFor mq_228.1 = true := by decide +kernel
theorem mq_228_kt : kt_at 228 = kt_228 := rfl
theorem mq_228_k : ∀ r ∈ kt_228, ∀ e ∈ r, k_ok mq_228.1.cls mq_228.2.1 e := k_all_ok (c := 13) rfl kt_228_ok
def mq_229 : a_M := (⟨"LetByTheDegreeModel", "lodgeAll", "(I)V"⟩, prog_15_method_71_code, 2, none)
set_option maxRecDepth 100000 in
theorem mq_229_at : a_mt[229]? = some mq_229 := a_mt_nth 14 5 229 a_mt_14 mq_229 rfl a_mt_t_14 rfl rfl
theorem mq_229_pl : plainFor mq_229.1 = true := by decide +kernel
theorem mq_229_kt : kt_at 229 = kt_229 := rfl
theorem mq_229_k : ∀ r ∈ kt_229, ∀ e ∈ r, k_ok mq_229.1.cls mq_229.2.1 e := k_all_ok (c := 13) rfl kt_229_ok
def mq_230 : a_M := (⟨"LetByTheDegreeModel", "goLodge", "(III)V"⟩, prog_15_method_70_code, 6, none)
set_option maxRecDepth 100000 in
theorem mq_230_at : a_mt[230]? = some mq_230 := a_mt_nth 14 6 230 a_mt_14 mq_230 rfl a_mt_t_14 rfl rfl
theorem mq_230_pl : plainFor mq_230.1 = true := by decide +kernel
theorem mq_230_kt : kt_at 230 = kt_230 := rfl
theorem mq_230_k : ∀ r ∈ kt_230, ∀ e ∈ r, k_ok mq_230.1.cls mq_230.2.1 e := k_all_ok (c := 13) rfl kt_230_ok
def mq_231 : a_M := (⟨"LetByTheDegreeModel", "tellRooms", "()V"⟩, prog_15_method_72_code, 2, none)
set_option maxRecDepth 100000 in
theorem mq_231_at : a_mt[231]? = some mq_231 := a_mt_nth 14 7 231 a_mt_14 mq_231 rfl a_mt_t_14 rfl rfl
theorem mq_231_pl : plainFor mq_231.1 = true := by decide +kernel
theorem mq_231_kt : kt_at 231 = kt_231 := rfl
theorem mq_231_k : ∀ r ∈ kt_231, ∀ e ∈ r, k_ok mq_231.1.cls mq_231.2.1 e := k_all_ok (c := 13) rfl kt_231_ok
def mq_232 : a_M := (⟨"LetByTheDegreeModel", "longest", "()I"⟩, prog_15_method_74_code, 1, (some FieldType.int))
set_option maxRecDepth 100000 in
theorem mq_232_at : a_mt[232]? = some mq_232 := a_mt_nth 14 8 232 a_mt_14 mq_232 rfl a_mt_t_14 rfl rfl
theorem mq_232_pl : plainFor mq_232.1 = true := by decide +kernel
theorem mq_232_kt : kt_at 232 = kt_232 := rfl
theorem mq_232_k : ∀ r ∈ kt_232, ∀ e ∈ r, k_ok mq_232.1.cls mq_232.2.1 e := k_all_ok (c := 13) rfl kt_232_ok
def mq_233 : a_M := (⟨"LetByTheDegreeModel", "quiet", "(I)I"⟩, prog_15_method_79_code, 6, (some FieldType.int))
set_option maxRecDepth 100000 in
theorem mq_233_at : a_mt[233]? = some mq_233 := a_mt_nth 14 9 233 a_mt_14 mq_233 rfl a_mt_t_14 rfl rfl
theorem mq_233_pl : plainFor mq_233.1 = true := by decide +kernel
theorem mq_233_kt : kt_at 233 = kt_233 := rfl
theorem mq_233_k : ∀ r ∈ kt_233, ∀ e ∈ r, k_ok mq_233.1.cls mq_233.2.1 e := k_all_ok (c := 13) rfl kt_233_ok
def mq_234 : a_M := (⟨"LetByTheDegreeModel", "isQuiet", "(IIII)Z"⟩, prog_15_method_75_code, 9, (some FieldType.boolean))
set_option maxRecDepth 100000 in
theorem mq_234_at : a_mt[234]? = some mq_234 := a_mt_nth 14 10 234 a_mt_14 mq_234 rfl a_mt_t_14 rfl rfl
theorem mq_234_pl : plainFor mq_234.1 = true := by decide +kernel
theorem mq_234_kt : kt_at 234 = kt_234 := rfl
theorem mq_234_k : ∀ r ∈ kt_234, ∀ e ∈ r, k_ok mq_234.1.cls mq_234.2.1 e := k_all_ok (c := 13) rfl kt_234_ok
def mq_235 : a_M := (⟨"LetByTheDegreeModel", "leaveOff", "(I)I"⟩, prog_15_method_76_code, 3, (some FieldType.int))
set_option maxRecDepth 100000 in
theorem mq_235_at : a_mt[235]? = some mq_235 := a_mt_nth 14 11 235 a_mt_14 mq_235 rfl a_mt_t_14 rfl rfl
theorem mq_235_pl : plainFor mq_235.1 = true := by decide +kernel
theorem mq_235_kt : kt_at 235 = kt_235 := rfl
theorem mq_235_k : ∀ r ∈ kt_235, ∀ e ∈ r, k_ok mq_235.1.cls mq_235.2.1 e := k_all_ok (c := 13) rfl kt_235_ok
def mq_236 : a_M := (⟨"LetByTheDegreeModel", "takeUp", "(II)V"⟩, prog_15_method_77_code, 3, none)
set_option maxRecDepth 100000 in
theorem mq_236_at : a_mt[236]? = some mq_236 := a_mt_nth 14 12 236 a_mt_14 mq_236 rfl a_mt_t_14 rfl rfl
theorem mq_236_pl : plainFor mq_236.1 = true := by decide +kernel
theorem mq_236_kt : kt_at 236 = kt_236 := rfl
theorem mq_236_k : ∀ r ∈ kt_236, ∀ e ∈ r, k_ok mq_236.1.cls mq_236.2.1 e := k_all_ok (c := 13) rfl kt_236_ok
def mq_237 : a_M := (⟨"LetByTheDegreeModel", "tellQuiet", "(IIII)I"⟩, prog_15_method_78_code, 5, (some FieldType.int))
set_option maxRecDepth 100000 in
theorem mq_237_at : a_mt[237]? = some mq_237 := a_mt_nth 14 13 237 a_mt_14 mq_237 rfl a_mt_t_14 rfl rfl
theorem mq_237_pl : plainFor mq_237.1 = true := by decide +kernel
theorem mq_237_kt : kt_at 237 = kt_237 := rfl
theorem mq_237_k : ∀ r ∈ kt_237, ∀ e ∈ r, k_ok mq_237.1.cls mq_237.2.1 e := k_all_ok (c := 13) rfl kt_237_ok
def mq_238 : a_M := (⟨"LetByTheDegreeModel", "burden", "()I"⟩, prog_15_method_80_code, 6, (some FieldType.int))
set_option maxRecDepth 100000 in
theorem mq_238_at : a_mt[238]? = some mq_238 := a_mt_nth 14 14 238 a_mt_14 mq_238 rfl a_mt_t_14 rfl rfl
theorem mq_238_pl : plainFor mq_238.1 = true := by decide +kernel
theorem mq_238_kt : kt_at 238 = kt_238 := rfl
theorem mq_238_k : ∀ r ∈ kt_238, ∀ e ∈ r, k_ok mq_238.1.cls mq_238.2.1 e := k_all_ok (c := 13) rfl kt_238_ok
def mq_239 : a_M := (⟨"LetByTheDegreeModel", "share", "(I)I"⟩, prog_15_method_83_code, 4, (some FieldType.int))
set_option maxRecDepth 100000 in
theorem mq_239_at : a_mt[239]? = some mq_239 := a_mt_nth 14 15 239 a_mt_14 mq_239 rfl a_mt_t_14 rfl rfl
theorem mq_239_pl : plainFor mq_239.1 = true := by decide +kernel
theorem mq_239_kt : kt_at 239 = kt_239 := rfl
theorem mq_239_k : ∀ r ∈ kt_239, ∀ e ∈ r, k_ok mq_239.1.cls mq_239.2.1 e := k_all_ok (c := 13) rfl kt_239_ok
def mq_240 : a_M := (⟨"LetByTheDegreeModel", "tellPart", "(JJ)V"⟩, prog_15_method_82_code, 7, none)
set_option maxRecDepth 100000 in
theorem mq_240_at : a_mt[240]? = some mq_240 := a_mt_nth 15 0 240 a_mt_15 mq_240 rfl a_mt_t_15 rfl rfl
theorem mq_240_pl : plainFor mq_240.1 = true := by decide +kernel
theorem mq_240_kt : kt_at 240 = kt_240 := rfl
theorem mq_240_k : ∀ r ∈ kt_240, ∀ e ∈ r, k_ok mq_240.1.cls mq_240.2.1 e := k_all_ok (c := 13) rfl kt_240_ok
def mq_242 : a_M := (⟨"LetByTheDegreeModel", "charges", "(I)I"⟩, prog_15_method_84_code, 4, (some FieldType.int))
set_option maxRecDepth 100000 in
theorem mq_242_at : a_mt[242]? = some mq_242 := a_mt_nth 15 2 242 a_mt_15 mq_242 rfl a_mt_t_15 rfl rfl
theorem mq_242_pl : plainFor mq_242.1 = true := by decide +kernel
theorem mq_242_kt : kt_at 242 = kt_242 := rfl
theorem mq_242_k : ∀ r ∈ kt_242, ∀ e ∈ r, k_ok mq_242.1.cls mq_242.2.1 e := k_all_ok (c := 13) rfl kt_242_ok
def mq_243 : a_M := (⟨"LetByTheDegreeModel", "warm", "(II)I"⟩, prog_15_method_85_code, 7, (some FieldType.int))
set_option maxRecDepth 100000 in
theorem mq_243_at : a_mt[243]? = some mq_243 := a_mt_nth 15 3 243 a_mt_15 mq_243 rfl a_mt_t_15 rfl rfl
theorem mq_243_pl : plainFor mq_243.1 = true := by decide +kernel
theorem mq_243_kt : kt_at 243 = kt_243 := rfl
theorem mq_243_k : ∀ r ∈ kt_243, ∀ e ∈ r, k_ok mq_243.1.cls mq_243.2.1 e := k_all_ok (c := 13) rfl kt_243_ok
def mq_244 : a_M := (⟨"LetByTheDegreeModel", "look", "()I"⟩, prog_15_method_86_code, 9, (some FieldType.int))
set_option maxRecDepth 100000 in
theorem mq_244_at : a_mt[244]? = some mq_244 := a_mt_nth 15 4 244 a_mt_15 mq_244 rfl a_mt_t_15 rfl rfl
theorem mq_244_pl : plainFor mq_244.1 = true := by decide +kernel
theorem mq_244_kt : kt_at 244 = kt_244 := rfl
theorem mq_244_k : ∀ r ∈ kt_244, ∀ e ∈ r, k_ok mq_244.1.cls mq_244.2.1 e := k_all_ok (c := 13) rfl kt_244_ok
def mq_245 : a_M := (⟨"LetByTheDegreeModel", "carry", "(I)I"⟩, prog_15_method_89_code, 3, (some FieldType.int))
set_option maxRecDepth 100000 in
theorem mq_245_at : a_mt[245]? = some mq_245 := a_mt_nth 15 5 245 a_mt_15 mq_245 rfl a_mt_t_15 rfl rfl
theorem mq_245_pl : plainFor mq_245.1 = true := by decide +kernel
theorem mq_245_kt : kt_at 245 = kt_245 := rfl
theorem mq_245_k : ∀ r ∈ kt_245, ∀ e ∈ r, k_ok mq_245.1.cls mq_245.2.1 e := k_all_ok (c := 13) rfl kt_245_ok
def mq_246 : a_M := (⟨"LetByTheDegreeModel", "goCarry", "(III)V"⟩, prog_15_method_88_code, 8, none)
set_option maxRecDepth 100000 in
theorem mq_246_at : a_mt[246]? = some mq_246 := a_mt_nth 15 6 246 a_mt_15 mq_246 rfl a_mt_t_15 rfl rfl
theorem mq_246_pl : plainFor mq_246.1 = true := by decide +kernel
theorem mq_246_kt : kt_at 246 = kt_246 := rfl
theorem mq_246_k : ∀ r ∈ kt_246, ∀ e ∈ r, k_ok mq_246.1.cls mq_246.2.1 e := k_all_ok (c := 13) rfl kt_246_ok
def mq_247 : a_M := (⟨"LetByTheDegreeModel", "isBeside", "(II)Z"⟩, prog_15_method_87_code, 3, (some FieldType.boolean))
set_option maxRecDepth 100000 in
theorem mq_247_at : a_mt[247]? = some mq_247 := a_mt_nth 15 7 247 a_mt_15 mq_247 rfl a_mt_t_15 rfl rfl
theorem mq_247_pl : plainFor mq_247.1 = true := by decide +kernel
theorem mq_247_kt : kt_at 247 = kt_247 := rfl
theorem mq_247_k : ∀ r ∈ kt_247, ∀ e ∈ r, k_ok mq_247.1.cls mq_247.2.1 e := k_all_ok (c := 13) rfl kt_247_ok
def mq_249 : a_M := (⟨"LetByTheDegreeModel", "hearth", "(I)I"⟩, prog_15_method_91_code, 6, (some FieldType.int))
set_option maxRecDepth 100000 in
theorem mq_249_at : a_mt[249]? = some mq_249 := a_mt_nth 15 9 249 a_mt_15 mq_249 rfl a_mt_t_15 rfl rfl
theorem mq_249_pl : plainFor mq_249.1 = true := by decide +kernel
theorem mq_249_kt : kt_at 249 = kt_249 := rfl
theorem mq_249_k : ∀ r ∈ kt_249, ∀ e ∈ r, k_ok mq_249.1.cls mq_249.2.1 e := k_all_ok (c := 13) rfl kt_249_ok
def mq_250 : a_M := (⟨"LetByTheDegreeModel", "meltsWith", "(II)I"⟩, prog_15_method_90_code, 3, (some FieldType.int))
set_option maxRecDepth 100000 in
theorem mq_250_at : a_mt[250]? = some mq_250 := a_mt_nth 15 10 250 a_mt_15 mq_250 rfl a_mt_t_15 rfl rfl
theorem mq_250_pl : plainFor mq_250.1 = true := by decide +kernel
theorem mq_250_kt : kt_at 250 = kt_250 := rfl
theorem mq_250_k : ∀ r ∈ kt_250, ∀ e ∈ r, k_ok mq_250.1.cls mq_250.2.1 e := k_all_ok (c := 13) rfl kt_250_ok
def mq_251 : a_M := (⟨"LetByTheDegreeModel", "rests", "(III)I"⟩, prog_15_method_92_code, 10, (some FieldType.int))
set_option maxRecDepth 100000 in
theorem mq_251_at : a_mt[251]? = some mq_251 := a_mt_nth 15 11 251 a_mt_15 mq_251 rfl a_mt_t_15 rfl rfl
theorem mq_251_pl : plainFor mq_251.1 = true := by decide +kernel
theorem mq_251_kt : kt_at 251 = kt_251 := rfl
theorem mq_251_k : ∀ r ∈ kt_251, ∀ e ∈ r, k_ok mq_251.1.cls mq_251.2.1 e := k_all_ok (c := 13) rfl kt_251_ok
def mq_252 : a_M := (⟨"LetByTheDegreeModel", "water", "()I"⟩, prog_15_method_93_code, 4, (some FieldType.int))
set_option maxRecDepth 100000 in
theorem mq_252_at : a_mt[252]? = some mq_252 := a_mt_nth 15 12 252 a_mt_15 mq_252 rfl a_mt_t_15 rfl rfl
theorem mq_252_pl : plainFor mq_252.1 = true := by decide +kernel
theorem mq_252_kt : kt_at 252 = kt_252 := rfl
theorem mq_252_k : ∀ r ∈ kt_252, ∀ e ∈ r, k_ok mq_252.1.cls mq_252.2.1 e := k_all_ok (c := 13) rfl kt_252_ok
def mq_253 : a_M := (⟨"LetByTheDegreeModel", "thaw", "(II)I"⟩, prog_15_method_96_code, 3, (some FieldType.int))
set_option maxRecDepth 100000 in
theorem mq_253_at : a_mt[253]? = some mq_253 := a_mt_nth 15 13 253 a_mt_15 mq_253 rfl a_mt_t_15 rfl rfl
theorem mq_253_pl : plainFor mq_253.1 = true := by decide +kernel
theorem mq_253_kt : kt_at 253 = kt_253 := rfl
theorem mq_253_k : ∀ r ∈ kt_253, ∀ e ∈ r, k_ok mq_253.1.cls mq_253.2.1 e := k_all_ok (c := 13) rfl kt_253_ok
def mq_254 : a_M := (⟨"LetByTheDegreeModel", "thaws", "(II)J"⟩, prog_15_method_95_code, 9, (some FieldType.long))
set_option maxRecDepth 100000 in
theorem mq_254_at : a_mt[254]? = some mq_254 := a_mt_nth 15 14 254 a_mt_15 mq_254 rfl a_mt_t_15 rfl rfl
theorem mq_254_pl : plainFor mq_254.1 = true := by decide +kernel
theorem mq_254_kt : kt_at 254 = kt_254 := rfl
theorem mq_254_k : ∀ r ∈ kt_254, ∀ e ∈ r, k_ok mq_254.1.cls mq_254.2.1 e := k_all_ok (c := 13) rfl kt_254_ok
def mq_255 : a_M := (⟨"LetByTheDegreeModel", "power", "(JI)J"⟩, prog_15_method_94_code, 6, (some FieldType.long))
set_option maxRecDepth 100000 in
theorem mq_255_at : a_mt[255]? = some mq_255 := a_mt_nth 15 15 255 a_mt_15 mq_255 rfl a_mt_t_15 rfl rfl
theorem mq_255_pl : plainFor mq_255.1 = true := by decide +kernel
theorem mq_255_kt : kt_at 255 = kt_255 := rfl
theorem mq_255_k : ∀ r ∈ kt_255, ∀ e ∈ r, k_ok mq_255.1.cls mq_255.2.1 e := k_all_ok (c := 13) rfl kt_255_ok
def mq_256 : a_M := (⟨"LetByTheDegreeModel", "leave", "(II)I"⟩, prog_15_method_97_code, 4, (some FieldType.int))
set_option maxRecDepth 100000 in
theorem mq_256_at : a_mt[256]? = some mq_256 := a_mt_nth 16 0 256 a_mt_16 mq_256 rfl a_mt_t_16 rfl rfl
theorem mq_256_pl : plainFor mq_256.1 = true := by decide +kernel
theorem mq_256_kt : kt_at 256 = kt_256 := rfl
theorem mq_256_k : ∀ r ∈ kt_256, ∀ e ∈ r, k_ok mq_256.1.cls mq_256.2.1 e := k_all_ok (c := 13) rfl kt_256_ok
def mq_257 : a_M := (⟨"LetByTheDegreeModel", "season", "(II)I"⟩, prog_15_method_98_code, 7, (some FieldType.int))
set_option maxRecDepth 100000 in
theorem mq_257_at : a_mt[257]? = some mq_257 := a_mt_nth 16 1 257 a_mt_16 mq_257 rfl a_mt_t_16 rfl rfl
theorem mq_257_pl : plainFor mq_257.1 = true := by decide +kernel
theorem mq_257_kt : kt_at 257 = kt_257 := rfl
theorem mq_257_k : ∀ r ∈ kt_257, ∀ e ∈ r, k_ok mq_257.1.cls mq_257.2.1 e := k_all_ok (c := 13) rfl kt_257_ok
def mq_258 : a_M := (⟨"LetByTheDegreeModel", "keep", "(I)Z"⟩, prog_15_method_99_code, 2, (some FieldType.boolean))
set_option maxRecDepth 100000 in
theorem mq_258_at : a_mt[258]? = some mq_258 := a_mt_nth 16 2 258 a_mt_16 mq_258 rfl a_mt_t_16 rfl rfl
theorem mq_258_pl : plainFor mq_258.1 = true := by decide +kernel
theorem mq_258_kt : kt_at 258 = kt_258 := rfl
theorem mq_258_k : ∀ r ∈ kt_258, ∀ e ∈ r, k_ok mq_258.1.cls mq_258.2.1 e := k_all_ok (c := 13) rfl kt_258_ok
def mq_259 : a_M := (⟨"LetByTheDegreeModel", "again", "(I)Z"⟩, prog_15_method_100_code, 3, (some FieldType.boolean))
set_option maxRecDepth 100000 in
theorem mq_259_at : a_mt[259]? = some mq_259 := a_mt_nth 16 3 259 a_mt_16 mq_259 rfl a_mt_t_16 rfl rfl
theorem mq_259_pl : plainFor mq_259.1 = true := by decide +kernel
theorem mq_259_kt : kt_at 259 = kt_259 := rfl
theorem mq_259_k : ∀ r ∈ kt_259, ∀ e ∈ r, k_ok mq_259.1.cls mq_259.2.1 e := k_all_ok (c := 13) rfl kt_259_ok
def mq_260 : a_M := (⟨"LetByTheDegreeModel", "count", "(I)I"⟩, prog_15_method_101_code, 2, (some FieldType.int))
set_option maxRecDepth 100000 in
theorem mq_260_at : a_mt[260]? = some mq_260 := a_mt_nth 16 4 260 a_mt_16 mq_260 rfl a_mt_t_16 rfl rfl
theorem mq_260_pl : plainFor mq_260.1 = true := by decide +kernel
theorem mq_260_kt : kt_at 260 = kt_260 := rfl
theorem mq_260_k : ∀ r ∈ kt_260, ∀ e ∈ r, k_ok mq_260.1.cls mq_260.2.1 e := k_all_ok (c := 13) rfl kt_260_ok
def mq_261 : a_M := (⟨"LetByTheDegreeModel", "row", "(I)J"⟩, prog_15_method_102_code, 2, (some FieldType.long))
set_option maxRecDepth 100000 in
theorem mq_261_at : a_mt[261]? = some mq_261 := a_mt_nth 16 5 261 a_mt_16 mq_261 rfl a_mt_t_16 rfl rfl
theorem mq_261_pl : plainFor mq_261.1 = true := by decide +kernel
theorem mq_261_kt : kt_at 261 = kt_261 := rfl
theorem mq_261_k : ∀ r ∈ kt_261, ∀ e ∈ r, k_ok mq_261.1.cls mq_261.2.1 e := k_all_ok (c := 13) rfl kt_261_ok
end
section
/-! the table, its numbers -/
def cs_c1 : List (List A_C) → Nat → Bool
  | [], _ => true
  | r :: t, y => r.all (fun C => Nat.beq C.1 y) && cs_c1 t (y + 1)
def cs_c2 : List (List (List A_C)) → Nat → Bool
  | [], _ => true
  | t :: l, h => cs_c1 t (32 * h) && cs_c2 l (h + 1)
theorem cs_c1_ok : ∀ (t : List (List A_C)) (y k : Nat) (r : List A_C), cs_c1 t y = true → t[k]? = some r → ∀ C ∈ r, C.1 = y + k
  | [], _, _, _, _, h => by simp at h
  | r0 :: t, y, k, r, hc, h => by
    obtain ⟨h1, h2⟩ := Bool.and_eq_true _ _ |>.mp hc
    cases k with
    | zero =>
      obtain rfl : r0 = r := by simpa using h
      exact fun C hC => Nat.eq_of_beq_eq_true (List.all_eq_true.mp h1 C hC)
    | succ k =>
      intro C hC
      have := cs_c1_ok t (y + 1) k r h2 (by simpa using h) C hC
      omega
theorem cs_c2_ok : ∀ (l : List (List (List A_C))) (h i : Nat) (t : List (List A_C)), cs_c2 l h = true → l[i]? = some t → cs_c1 t (32 * (h + i)) = true
  | [], _, _, _, _, h => by simp at h
  | t0 :: l, h, i, t, hc, hi => by
    obtain ⟨h1, h2⟩ := Bool.and_eq_true _ _ |>.mp hc
    cases i with
    | zero =>
      obtain rfl : t0 = t := by simpa using hi
      exact h1
    | succ i =>
      have := cs_c2_ok l (h + 1) i t h2 (by simpa using hi)
      rw [show h + (i + 1) = h + 1 + i by omega]
      exact this
set_option maxRecDepth 100000 in
theorem cs_tabs_ok : cs_c2 cs_tabs 0 = true := by decide +kernel
theorem cs_cy : ∀ y, ∀ C ∈ cs_at y, C.1 = y := by
  intro y C hC
  unfold cs_at at hC
  split at hC
  · rename_i t ht
    split at hC
    · rename_i r hr
      replace ht := (g_nth_eq _ _).symm.trans ht
      replace hr := (g_nth_eq _ _).symm.trans hr
      have h1 := cs_c2_ok _ _ _ _ cs_tabs_ok ht
      have h2 := cs_c1_ok _ _ _ _ h1 hr C hC
      have h3 := Nat.div_add_mod y 32
      omega
    · cases hC
  · cases hC
theorem cs_all {P : A_C → Prop} (h : ∀ t ∈ cs_tabs, ∀ r ∈ t, ∀ C ∈ r, P C) : ∀ y, ∀ C ∈ cs_at y, P C := by
  intro y C hC
  unfold cs_at at hC
  split at hC
  · rename_i t ht
    split at hC
    · rename_i r hr
      replace ht := (g_nth_eq _ _).symm.trans ht
      replace hr := (g_nth_eq _ _).symm.trans hr
      exact h t (List.mem_of_getElem? ht) r (List.mem_of_getElem? hr) C hC
    · cases hC
  · cases hC
theorem ra_all : ra_list.all (c_chk cs_at 3 none kt_213 4000) = true := all_chunks 8 4 (by decide) (fun j hj => match j, hj with
  | 0, _ => ra_ok_0
  | 1, _ => ra_ok_1
  | 2, _ => ra_ok_2
  | 3, _ => ra_ok_3
  | j + 4, h => absurd h (by omega)) (by decide +kernel)
end
section
/-! ALL CONTRACTS TOGETHER, 0 -/
section AS
variable {l : Launch} {X : Nat → Option (List Int32)} {xa : Nat → Nat} {d : Nat}
theorem sm_4 (hX : ∀ i, i < 2 → X i = some ((x_tab i).map Int32.ofInt)) (hcs : ∀ d', d = d' + 1 → ∀ y, ∀ C ∈ cs_at y, c_sem l X (yY xa) xa d' C) : ∀ C ∈ [cn_20], c_sem l X (yY xa) xa d C := by
  have hY := yY_ok xa
  have hYS := yY_str xa
  have hIx := ix_K_ok (l := l) (X := X) hY hYS
  intro C hC
  obtain rfl := List.mem_singleton.mp hC
  exact c_meth mq_4_kt hY hYS hIx hX (q := mq_4) mq_4_at mq_4_pl mq_4_k cs_cy hcs cn_20_ok
theorem sm_14 (hX : ∀ i, i < 2 → X i = some ((x_tab i).map Int32.ofInt)) (hcs : ∀ d', d = d' + 1 → ∀ y, ∀ C ∈ cs_at y, c_sem l X (yY xa) xa d' C) : ∀ C ∈ [cn_122], c_sem l X (yY xa) xa d C := by
  have hY := yY_ok xa
  have hYS := yY_str xa
  have hIx := ix_K_ok (l := l) (X := X) hY hYS
  intro C hC
  obtain rfl := List.mem_singleton.mp hC
  exact c_meth mq_14_kt hY hYS hIx hX (q := mq_14) mq_14_at mq_14_pl mq_14_k cs_cy hcs cn_122_ok
theorem sm_15 (hX : ∀ i, i < 2 → X i = some ((x_tab i).map Int32.ofInt)) (hcs : ∀ d', d = d' + 1 → ∀ y, ∀ C ∈ cs_at y, c_sem l X (yY xa) xa d' C) : ∀ C ∈ [cn_24], c_sem l X (yY xa) xa d C := by
  have hY := yY_ok xa
  have hYS := yY_str xa
  have hIx := ix_K_ok (l := l) (X := X) hY hYS
  intro C hC
  obtain rfl := List.mem_singleton.mp hC
  exact c_meth mq_15_kt hY hYS hIx hX (q := mq_15) mq_15_at mq_15_pl mq_15_k cs_cy hcs cn_24_ok
theorem sm_16 (hX : ∀ i, i < 2 → X i = some ((x_tab i).map Int32.ofInt)) (hcs : ∀ d', d = d' + 1 → ∀ y, ∀ C ∈ cs_at y, c_sem l X (yY xa) xa d' C) : ∀ C ∈ [cn_119], c_sem l X (yY xa) xa d C := by
  have hY := yY_ok xa
  have hYS := yY_str xa
  have hIx := ix_K_ok (l := l) (X := X) hY hYS
  intro C hC
  obtain rfl := List.mem_singleton.mp hC
  exact c_meth mq_16_kt hY hYS hIx hX (q := mq_16) mq_16_at mq_16_pl mq_16_k cs_cy hcs cn_119_ok
theorem sm_17 (hX : ∀ i, i < 2 → X i = some ((x_tab i).map Int32.ofInt)) (hcs : ∀ d', d = d' + 1 → ∀ y, ∀ C ∈ cs_at y, c_sem l X (yY xa) xa d' C) : ∀ C ∈ [cn_26], c_sem l X (yY xa) xa d C := by
  have hY := yY_ok xa
  have hYS := yY_str xa
  have hIx := ix_K_ok (l := l) (X := X) hY hYS
  intro C hC
  obtain rfl := List.mem_singleton.mp hC
  exact c_meth mq_17_kt hY hYS hIx hX (q := mq_17) mq_17_at mq_17_pl mq_17_k cs_cy hcs cn_26_ok
theorem sm_18 (hX : ∀ i, i < 2 → X i = some ((x_tab i).map Int32.ofInt)) (hcs : ∀ d', d = d' + 1 → ∀ y, ∀ C ∈ cs_at y, c_sem l X (yY xa) xa d' C) : ∀ C ∈ [cn_407], c_sem l X (yY xa) xa d C := by
  have hY := yY_ok xa
  have hYS := yY_str xa
  have hIx := ix_K_ok (l := l) (X := X) hY hYS
  intro C hC
  obtain rfl := List.mem_singleton.mp hC
  exact c_meth mq_18_kt hY hYS hIx hX (q := mq_18) mq_18_at mq_18_pl mq_18_k cs_cy hcs cn_407_ok
theorem sm_19 (hX : ∀ i, i < 2 → X i = some ((x_tab i).map Int32.ofInt)) (hcs : ∀ d', d = d' + 1 → ∀ y, ∀ C ∈ cs_at y, c_sem l X (yY xa) xa d' C) : ∀ C ∈ [cn_389], c_sem l X (yY xa) xa d C := by
  have hY := yY_ok xa
  have hYS := yY_str xa
  have hIx := ix_K_ok (l := l) (X := X) hY hYS
  intro C hC
  obtain rfl := List.mem_singleton.mp hC
  exact c_meth mq_19_kt hY hYS hIx hX (q := mq_19) mq_19_at mq_19_pl mq_19_k cs_cy hcs cn_389_ok
theorem sm_20 (hX : ∀ i, i < 2 → X i = some ((x_tab i).map Int32.ofInt)) (hcs : ∀ d', d = d' + 1 → ∀ y, ∀ C ∈ cs_at y, c_sem l X (yY xa) xa d' C) : ∀ C ∈ [cn_25], c_sem l X (yY xa) xa d C := by
  have hY := yY_ok xa
  have hYS := yY_str xa
  have hIx := ix_K_ok (l := l) (X := X) hY hYS
  intro C hC
  obtain rfl := List.mem_singleton.mp hC
  exact c_meth mq_20_kt hY hYS hIx hX (q := mq_20) mq_20_at mq_20_pl mq_20_k cs_cy hcs cn_25_ok
theorem sm_21 (hX : ∀ i, i < 2 → X i = some ((x_tab i).map Int32.ofInt)) (hcs : ∀ d', d = d' + 1 → ∀ y, ∀ C ∈ cs_at y, c_sem l X (yY xa) xa d' C) : ∀ C ∈ [cn_367, cn_368, cn_369], c_sem l X (yY xa) xa d C := by
  have hY := yY_ok xa
  have hYS := yY_str xa
  have hIx := ix_K_ok (l := l) (X := X) hY hYS
  refine List.forall_mem_cons.mpr ⟨c_meth mq_21_kt hY hYS hIx hX (q := mq_21) mq_21_at mq_21_pl mq_21_k cs_cy hcs cn_367_ok, ?_⟩
  refine List.forall_mem_cons.mpr ⟨c_meth mq_21_kt hY hYS hIx hX (q := mq_21) mq_21_at mq_21_pl mq_21_k cs_cy hcs cn_368_ok, ?_⟩
  refine List.forall_mem_cons.mpr ⟨c_meth mq_21_kt hY hYS hIx hX (q := mq_21) mq_21_at mq_21_pl mq_21_k cs_cy hcs cn_369_ok, ?_⟩
  exact fun _ h => absurd h List.not_mem_nil
theorem sm_22 (hX : ∀ i, i < 2 → X i = some ((x_tab i).map Int32.ofInt)) (hcs : ∀ d', d = d' + 1 → ∀ y, ∀ C ∈ cs_at y, c_sem l X (yY xa) xa d' C) : ∀ C ∈ [cn_315], c_sem l X (yY xa) xa d C := by
  have hY := yY_ok xa
  have hYS := yY_str xa
  have hIx := ix_K_ok (l := l) (X := X) hY hYS
  intro C hC
  obtain rfl := List.mem_singleton.mp hC
  exact c_meth mq_22_kt hY hYS hIx hX (q := mq_22) mq_22_at mq_22_pl mq_22_k cs_cy hcs cn_315_ok
theorem sm_23 (hX : ∀ i, i < 2 → X i = some ((x_tab i).map Int32.ofInt)) (hcs : ∀ d', d = d' + 1 → ∀ y, ∀ C ∈ cs_at y, c_sem l X (yY xa) xa d' C) : ∀ C ∈ [cn_206], c_sem l X (yY xa) xa d C := by
  have hY := yY_ok xa
  have hYS := yY_str xa
  have hIx := ix_K_ok (l := l) (X := X) hY hYS
  intro C hC
  obtain rfl := List.mem_singleton.mp hC
  exact c_meth mq_23_kt hY hYS hIx hX (q := mq_23) mq_23_at mq_23_pl mq_23_k cs_cy hcs cn_206_ok
theorem sm_24 (hX : ∀ i, i < 2 → X i = some ((x_tab i).map Int32.ofInt)) (hcs : ∀ d', d = d' + 1 → ∀ y, ∀ C ∈ cs_at y, c_sem l X (yY xa) xa d' C) : ∀ C ∈ [cn_29], c_sem l X (yY xa) xa d C := by
  have hY := yY_ok xa
  have hYS := yY_str xa
  have hIx := ix_K_ok (l := l) (X := X) hY hYS
  intro C hC
  obtain rfl := List.mem_singleton.mp hC
  exact c_meth mq_24_kt hY hYS hIx hX (q := mq_24) mq_24_at mq_24_pl mq_24_k cs_cy hcs cn_29_ok
theorem sm_25 (hX : ∀ i, i < 2 → X i = some ((x_tab i).map Int32.ofInt)) (hcs : ∀ d', d = d' + 1 → ∀ y, ∀ C ∈ cs_at y, c_sem l X (yY xa) xa d' C) : ∀ C ∈ [cn_2], c_sem l X (yY xa) xa d C := by
  have hY := yY_ok xa
  have hYS := yY_str xa
  have hIx := ix_K_ok (l := l) (X := X) hY hYS
  intro C hC
  obtain rfl := List.mem_singleton.mp hC
  exact c_meth mq_25_kt hY hYS hIx hX (q := mq_25) mq_25_at mq_25_pl mq_25_k cs_cy hcs cn_2_ok
theorem sm_26 (hX : ∀ i, i < 2 → X i = some ((x_tab i).map Int32.ofInt)) (hcs : ∀ d', d = d' + 1 → ∀ y, ∀ C ∈ cs_at y, c_sem l X (yY xa) xa d' C) : ∀ C ∈ [cn_30], c_sem l X (yY xa) xa d C := by
  have hY := yY_ok xa
  have hYS := yY_str xa
  have hIx := ix_K_ok (l := l) (X := X) hY hYS
  intro C hC
  obtain rfl := List.mem_singleton.mp hC
  exact c_meth mq_26_kt hY hYS hIx hX (q := mq_26) mq_26_at mq_26_pl mq_26_k cs_cy hcs cn_30_ok
theorem sm_27 (hX : ∀ i, i < 2 → X i = some ((x_tab i).map Int32.ofInt)) (hcs : ∀ d', d = d' + 1 → ∀ y, ∀ C ∈ cs_at y, c_sem l X (yY xa) xa d' C) : ∀ C ∈ [cn_207], c_sem l X (yY xa) xa d C := by
  have hY := yY_ok xa
  have hYS := yY_str xa
  have hIx := ix_K_ok (l := l) (X := X) hY hYS
  intro C hC
  obtain rfl := List.mem_singleton.mp hC
  exact c_meth mq_27_kt hY hYS hIx hX (q := mq_27) mq_27_at mq_27_pl mq_27_k cs_cy hcs cn_207_ok
theorem sm_28 (hX : ∀ i, i < 2 → X i = some ((x_tab i).map Int32.ofInt)) (hcs : ∀ d', d = d' + 1 → ∀ y, ∀ C ∈ cs_at y, c_sem l X (yY xa) xa d' C) : ∀ C ∈ [cn_28], c_sem l X (yY xa) xa d C := by
  have hY := yY_ok xa
  have hYS := yY_str xa
  have hIx := ix_K_ok (l := l) (X := X) hY hYS
  intro C hC
  obtain rfl := List.mem_singleton.mp hC
  exact c_meth mq_28_kt hY hYS hIx hX (q := mq_28) mq_28_at mq_28_pl mq_28_k cs_cy hcs cn_28_ok
theorem sm_29 (hX : ∀ i, i < 2 → X i = some ((x_tab i).map Int32.ofInt)) (hcs : ∀ d', d = d' + 1 → ∀ y, ∀ C ∈ cs_at y, c_sem l X (yY xa) xa d' C) : ∀ C ∈ [cn_27], c_sem l X (yY xa) xa d C := by
  have hY := yY_ok xa
  have hYS := yY_str xa
  have hIx := ix_K_ok (l := l) (X := X) hY hYS
  intro C hC
  obtain rfl := List.mem_singleton.mp hC
  exact c_meth mq_29_kt hY hYS hIx hX (q := mq_29) mq_29_at mq_29_pl mq_29_k cs_cy hcs cn_27_ok
theorem sm_30 (hX : ∀ i, i < 2 → X i = some ((x_tab i).map Int32.ofInt)) (hcs : ∀ d', d = d' + 1 → ∀ y, ∀ C ∈ cs_at y, c_sem l X (yY xa) xa d' C) : ∀ C ∈ [cn_196], c_sem l X (yY xa) xa d C := by
  have hY := yY_ok xa
  have hYS := yY_str xa
  have hIx := ix_K_ok (l := l) (X := X) hY hYS
  intro C hC
  obtain rfl := List.mem_singleton.mp hC
  exact c_meth mq_30_kt hY hYS hIx hX (q := mq_30) mq_30_at mq_30_pl mq_30_k cs_cy hcs cn_196_ok
theorem sm_31 (hX : ∀ i, i < 2 → X i = some ((x_tab i).map Int32.ofInt)) (hcs : ∀ d', d = d' + 1 → ∀ y, ∀ C ∈ cs_at y, c_sem l X (yY xa) xa d' C) : ∀ C ∈ [cn_31], c_sem l X (yY xa) xa d C := by
  have hY := yY_ok xa
  have hYS := yY_str xa
  have hIx := ix_K_ok (l := l) (X := X) hY hYS
  intro C hC
  obtain rfl := List.mem_singleton.mp hC
  exact c_meth mq_31_kt hY hYS hIx hX (q := mq_31) mq_31_at mq_31_pl mq_31_k cs_cy hcs cn_31_ok
theorem sc_0 (hX : ∀ i, i < 2 → X i = some ((x_tab i).map Int32.ofInt)) (hcs : ∀ d', d = d' + 1 → ∀ y, ∀ C ∈ cs_at y, c_sem l X (yY xa) xa d' C) : ∀ r ∈ cs_tab_0, ∀ C ∈ r, c_sem l X (yY xa) xa d C := by
  unfold cs_tab_0
  refine List.forall_mem_cons.mpr ⟨(fun _ h => absurd h List.not_mem_nil), ?_⟩
  refine List.forall_mem_cons.mpr ⟨(fun _ h => absurd h List.not_mem_nil), ?_⟩
  refine List.forall_mem_cons.mpr ⟨(fun _ h => absurd h List.not_mem_nil), ?_⟩
  refine List.forall_mem_cons.mpr ⟨(fun _ h => absurd h List.not_mem_nil), ?_⟩
  refine List.forall_mem_cons.mpr ⟨sm_4 hX hcs, ?_⟩
  refine List.forall_mem_cons.mpr ⟨(fun _ h => absurd h List.not_mem_nil), ?_⟩
  refine List.forall_mem_cons.mpr ⟨(fun _ h => absurd h List.not_mem_nil), ?_⟩
  refine List.forall_mem_cons.mpr ⟨(fun _ h => absurd h List.not_mem_nil), ?_⟩
  refine List.forall_mem_cons.mpr ⟨(fun _ h => absurd h List.not_mem_nil), ?_⟩
  refine List.forall_mem_cons.mpr ⟨(fun _ h => absurd h List.not_mem_nil), ?_⟩
  refine List.forall_mem_cons.mpr ⟨(fun _ h => absurd h List.not_mem_nil), ?_⟩
  refine List.forall_mem_cons.mpr ⟨(fun _ h => absurd h List.not_mem_nil), ?_⟩
  refine List.forall_mem_cons.mpr ⟨(fun _ h => absurd h List.not_mem_nil), ?_⟩
  refine List.forall_mem_cons.mpr ⟨(fun _ h => absurd h List.not_mem_nil), ?_⟩
  refine List.forall_mem_cons.mpr ⟨sm_14 hX hcs, ?_⟩
  refine List.forall_mem_cons.mpr ⟨sm_15 hX hcs, ?_⟩
  refine List.forall_mem_cons.mpr ⟨sm_16 hX hcs, ?_⟩
  refine List.forall_mem_cons.mpr ⟨sm_17 hX hcs, ?_⟩
  refine List.forall_mem_cons.mpr ⟨sm_18 hX hcs, ?_⟩
  refine List.forall_mem_cons.mpr ⟨sm_19 hX hcs, ?_⟩
  refine List.forall_mem_cons.mpr ⟨sm_20 hX hcs, ?_⟩
  refine List.forall_mem_cons.mpr ⟨sm_21 hX hcs, ?_⟩
  refine List.forall_mem_cons.mpr ⟨sm_22 hX hcs, ?_⟩
  refine List.forall_mem_cons.mpr ⟨sm_23 hX hcs, ?_⟩
  refine List.forall_mem_cons.mpr ⟨sm_24 hX hcs, ?_⟩
  refine List.forall_mem_cons.mpr ⟨sm_25 hX hcs, ?_⟩
  refine List.forall_mem_cons.mpr ⟨sm_26 hX hcs, ?_⟩
  refine List.forall_mem_cons.mpr ⟨sm_27 hX hcs, ?_⟩
  refine List.forall_mem_cons.mpr ⟨sm_28 hX hcs, ?_⟩
  refine List.forall_mem_cons.mpr ⟨sm_29 hX hcs, ?_⟩
  refine List.forall_mem_cons.mpr ⟨sm_30 hX hcs, ?_⟩
  refine List.forall_mem_cons.mpr ⟨sm_31 hX hcs, ?_⟩
  exact fun _ h => absurd h List.not_mem_nil
end AS
end
section
/-! ALL CONTRACTS TOGETHER, 1 -/
section AS
variable {l : Launch} {X : Nat → Option (List Int32)} {xa : Nat → Nat} {d : Nat}
theorem sm_32 (hX : ∀ i, i < 2 → X i = some ((x_tab i).map Int32.ofInt)) (hcs : ∀ d', d = d' + 1 → ∀ y, ∀ C ∈ cs_at y, c_sem l X (yY xa) xa d' C) : ∀ C ∈ [cn_14], c_sem l X (yY xa) xa d C := by
  have hY := yY_ok xa
  have hYS := yY_str xa
  have hIx := ix_K_ok (l := l) (X := X) hY hYS
  intro C hC
  obtain rfl := List.mem_singleton.mp hC
  exact c_meth mq_32_kt hY hYS hIx hX (q := mq_32) mq_32_at mq_32_pl mq_32_k cs_cy hcs cn_14_ok
theorem sm_33 (hX : ∀ i, i < 2 → X i = some ((x_tab i).map Int32.ofInt)) (hcs : ∀ d', d = d' + 1 → ∀ y, ∀ C ∈ cs_at y, c_sem l X (yY xa) xa d' C) : ∀ C ∈ [cn_18], c_sem l X (yY xa) xa d C := by
  have hY := yY_ok xa
  have hYS := yY_str xa
  have hIx := ix_K_ok (l := l) (X := X) hY hYS
  intro C hC
  obtain rfl := List.mem_singleton.mp hC
  exact c_meth mq_33_kt hY hYS hIx hX (q := mq_33) mq_33_at mq_33_pl mq_33_k cs_cy hcs cn_18_ok
theorem sm_34 (hX : ∀ i, i < 2 → X i = some ((x_tab i).map Int32.ofInt)) (hcs : ∀ d', d = d' + 1 → ∀ y, ∀ C ∈ cs_at y, c_sem l X (yY xa) xa d' C) : ∀ C ∈ [cn_19], c_sem l X (yY xa) xa d C := by
  have hY := yY_ok xa
  have hYS := yY_str xa
  have hIx := ix_K_ok (l := l) (X := X) hY hYS
  intro C hC
  obtain rfl := List.mem_singleton.mp hC
  exact c_meth mq_34_kt hY hYS hIx hX (q := mq_34) mq_34_at mq_34_pl mq_34_k cs_cy hcs cn_19_ok
theorem sm_35 (hX : ∀ i, i < 2 → X i = some ((x_tab i).map Int32.ofInt)) (hcs : ∀ d', d = d' + 1 → ∀ y, ∀ C ∈ cs_at y, c_sem l X (yY xa) xa d' C) : ∀ C ∈ [cn_381], c_sem l X (yY xa) xa d C := by
  have hY := yY_ok xa
  have hYS := yY_str xa
  have hIx := ix_K_ok (l := l) (X := X) hY hYS
  intro C hC
  obtain rfl := List.mem_singleton.mp hC
  exact c_meth mq_35_kt hY hYS hIx hX (q := mq_35) mq_35_at mq_35_pl mq_35_k cs_cy hcs cn_381_ok
theorem sm_36 (hX : ∀ i, i < 2 → X i = some ((x_tab i).map Int32.ofInt)) (hcs : ∀ d', d = d' + 1 → ∀ y, ∀ C ∈ cs_at y, c_sem l X (yY xa) xa d' C) : ∀ C ∈ [cn_366], c_sem l X (yY xa) xa d C := by
  have hY := yY_ok xa
  have hYS := yY_str xa
  have hIx := ix_K_ok (l := l) (X := X) hY hYS
  intro C hC
  obtain rfl := List.mem_singleton.mp hC
  exact c_meth mq_36_kt hY hYS hIx hX (q := mq_36) mq_36_at mq_36_pl mq_36_k cs_cy hcs cn_366_ok
theorem sm_37 (hX : ∀ i, i < 2 → X i = some ((x_tab i).map Int32.ofInt)) (hcs : ∀ d', d = d' + 1 → ∀ y, ∀ C ∈ cs_at y, c_sem l X (yY xa) xa d' C) : ∀ C ∈ [cn_316], c_sem l X (yY xa) xa d C := by
  have hY := yY_ok xa
  have hYS := yY_str xa
  have hIx := ix_K_ok (l := l) (X := X) hY hYS
  intro C hC
  obtain rfl := List.mem_singleton.mp hC
  exact c_meth mq_37_kt hY hYS hIx hX (q := mq_37) mq_37_at mq_37_pl mq_37_k cs_cy hcs cn_316_ok
theorem sm_38 (hX : ∀ i, i < 2 → X i = some ((x_tab i).map Int32.ofInt)) (hcs : ∀ d', d = d' + 1 → ∀ y, ∀ C ∈ cs_at y, c_sem l X (yY xa) xa d' C) : ∀ C ∈ [cn_195], c_sem l X (yY xa) xa d C := by
  have hY := yY_ok xa
  have hYS := yY_str xa
  have hIx := ix_K_ok (l := l) (X := X) hY hYS
  intro C hC
  obtain rfl := List.mem_singleton.mp hC
  exact c_meth mq_38_kt hY hYS hIx hX (q := mq_38) mq_38_at mq_38_pl mq_38_k cs_cy hcs cn_195_ok
theorem sm_39 (hX : ∀ i, i < 2 → X i = some ((x_tab i).map Int32.ofInt)) (hcs : ∀ d', d = d' + 1 → ∀ y, ∀ C ∈ cs_at y, c_sem l X (yY xa) xa d' C) : ∀ C ∈ [cn_502], c_sem l X (yY xa) xa d C := by
  have hY := yY_ok xa
  have hYS := yY_str xa
  have hIx := ix_K_ok (l := l) (X := X) hY hYS
  intro C hC
  obtain rfl := List.mem_singleton.mp hC
  exact c_meth mq_39_kt hY hYS hIx hX (q := mq_39) mq_39_at mq_39_pl mq_39_k cs_cy hcs cn_502_ok
theorem sm_40 (hX : ∀ i, i < 2 → X i = some ((x_tab i).map Int32.ofInt)) (hcs : ∀ d', d = d' + 1 → ∀ y, ∀ C ∈ cs_at y, c_sem l X (yY xa) xa d' C) : ∀ C ∈ [cn_501], c_sem l X (yY xa) xa d C := by
  have hY := yY_ok xa
  have hYS := yY_str xa
  have hIx := ix_K_ok (l := l) (X := X) hY hYS
  intro C hC
  obtain rfl := List.mem_singleton.mp hC
  exact c_meth mq_40_kt hY hYS hIx hX (q := mq_40) mq_40_at mq_40_pl mq_40_k cs_cy hcs cn_501_ok
theorem sm_41 (hX : ∀ i, i < 2 → X i = some ((x_tab i).map Int32.ofInt)) (hcs : ∀ d', d = d' + 1 → ∀ y, ∀ C ∈ cs_at y, c_sem l X (yY xa) xa d' C) : ∀ C ∈ [cn_457, cn_476, cn_484, cn_492, cn_500], c_sem l X (yY xa) xa d C := by
  have hY := yY_ok xa
  have hYS := yY_str xa
  have hIx := ix_K_ok (l := l) (X := X) hY hYS
  refine List.forall_mem_cons.mpr ⟨c_meth mq_41_kt hY hYS hIx hX (q := mq_41) mq_41_at mq_41_pl mq_41_k cs_cy hcs cn_457_ok, ?_⟩
  refine List.forall_mem_cons.mpr ⟨c_meth mq_41_kt hY hYS hIx hX (q := mq_41) mq_41_at mq_41_pl mq_41_k cs_cy hcs cn_476_ok, ?_⟩
  refine List.forall_mem_cons.mpr ⟨c_meth mq_41_kt hY hYS hIx hX (q := mq_41) mq_41_at mq_41_pl mq_41_k cs_cy hcs cn_484_ok, ?_⟩
  refine List.forall_mem_cons.mpr ⟨c_meth mq_41_kt hY hYS hIx hX (q := mq_41) mq_41_at mq_41_pl mq_41_k cs_cy hcs cn_492_ok, ?_⟩
  refine List.forall_mem_cons.mpr ⟨c_meth mq_41_kt hY hYS hIx hX (q := mq_41) mq_41_at mq_41_pl mq_41_k cs_cy hcs cn_500_ok, ?_⟩
  exact fun _ h => absurd h List.not_mem_nil
theorem sm_42 (hX : ∀ i, i < 2 → X i = some ((x_tab i).map Int32.ofInt)) (hcs : ∀ d', d = d' + 1 → ∀ y, ∀ C ∈ cs_at y, c_sem l X (yY xa) xa d' C) : ∀ C ∈ [cn_448, cn_454, cn_469, cn_475, cn_481, cn_483, cn_489, cn_491, cn_497, cn_499], c_sem l X (yY xa) xa d C := by
  have hY := yY_ok xa
  have hYS := yY_str xa
  have hIx := ix_K_ok (l := l) (X := X) hY hYS
  refine List.forall_mem_cons.mpr ⟨c_meth mq_42_kt hY hYS hIx hX (q := mq_42) mq_42_at mq_42_pl mq_42_k cs_cy hcs cn_448_ok, ?_⟩
  refine List.forall_mem_cons.mpr ⟨c_meth mq_42_kt hY hYS hIx hX (q := mq_42) mq_42_at mq_42_pl mq_42_k cs_cy hcs cn_454_ok, ?_⟩
  refine List.forall_mem_cons.mpr ⟨c_meth mq_42_kt hY hYS hIx hX (q := mq_42) mq_42_at mq_42_pl mq_42_k cs_cy hcs cn_469_ok, ?_⟩
  refine List.forall_mem_cons.mpr ⟨c_meth mq_42_kt hY hYS hIx hX (q := mq_42) mq_42_at mq_42_pl mq_42_k cs_cy hcs cn_475_ok, ?_⟩
  refine List.forall_mem_cons.mpr ⟨c_meth mq_42_kt hY hYS hIx hX (q := mq_42) mq_42_at mq_42_pl mq_42_k cs_cy hcs cn_481_ok, ?_⟩
  refine List.forall_mem_cons.mpr ⟨c_meth mq_42_kt hY hYS hIx hX (q := mq_42) mq_42_at mq_42_pl mq_42_k cs_cy hcs cn_483_ok, ?_⟩
  refine List.forall_mem_cons.mpr ⟨c_meth mq_42_kt hY hYS hIx hX (q := mq_42) mq_42_at mq_42_pl mq_42_k cs_cy hcs cn_489_ok, ?_⟩
  refine List.forall_mem_cons.mpr ⟨c_meth mq_42_kt hY hYS hIx hX (q := mq_42) mq_42_at mq_42_pl mq_42_k cs_cy hcs cn_491_ok, ?_⟩
  refine List.forall_mem_cons.mpr ⟨c_meth mq_42_kt hY hYS hIx hX (q := mq_42) mq_42_at mq_42_pl mq_42_k cs_cy hcs cn_497_ok, ?_⟩
  refine List.forall_mem_cons.mpr ⟨c_meth mq_42_kt hY hYS hIx hX (q := mq_42) mq_42_at mq_42_pl mq_42_k cs_cy hcs cn_499_ok, ?_⟩
  exact fun _ h => absurd h List.not_mem_nil
theorem sm_43 (hX : ∀ i, i < 2 → X i = some ((x_tab i).map Int32.ofInt)) (hcs : ∀ d', d = d' + 1 → ∀ y, ∀ C ∈ cs_at y, c_sem l X (yY xa) xa d' C) : ∀ C ∈ [cn_445, cn_451, cn_467, cn_471, cn_480, cn_482, cn_488, cn_490, cn_496, cn_498], c_sem l X (yY xa) xa d C := by
  have hY := yY_ok xa
  have hYS := yY_str xa
  have hIx := ix_K_ok (l := l) (X := X) hY hYS
  refine List.forall_mem_cons.mpr ⟨c_meth mq_43_kt hY hYS hIx hX (q := mq_43) mq_43_at mq_43_pl mq_43_k cs_cy hcs cn_445_ok, ?_⟩
  refine List.forall_mem_cons.mpr ⟨c_meth mq_43_kt hY hYS hIx hX (q := mq_43) mq_43_at mq_43_pl mq_43_k cs_cy hcs cn_451_ok, ?_⟩
  refine List.forall_mem_cons.mpr ⟨c_meth mq_43_kt hY hYS hIx hX (q := mq_43) mq_43_at mq_43_pl mq_43_k cs_cy hcs cn_467_ok, ?_⟩
  refine List.forall_mem_cons.mpr ⟨c_meth mq_43_kt hY hYS hIx hX (q := mq_43) mq_43_at mq_43_pl mq_43_k cs_cy hcs cn_471_ok, ?_⟩
  refine List.forall_mem_cons.mpr ⟨c_meth mq_43_kt hY hYS hIx hX (q := mq_43) mq_43_at mq_43_pl mq_43_k cs_cy hcs cn_480_ok, ?_⟩
  refine List.forall_mem_cons.mpr ⟨c_meth mq_43_kt hY hYS hIx hX (q := mq_43) mq_43_at mq_43_pl mq_43_k cs_cy hcs cn_482_ok, ?_⟩
  refine List.forall_mem_cons.mpr ⟨c_meth mq_43_kt hY hYS hIx hX (q := mq_43) mq_43_at mq_43_pl mq_43_k cs_cy hcs cn_488_ok, ?_⟩
  refine List.forall_mem_cons.mpr ⟨c_meth mq_43_kt hY hYS hIx hX (q := mq_43) mq_43_at mq_43_pl mq_43_k cs_cy hcs cn_490_ok, ?_⟩
  refine List.forall_mem_cons.mpr ⟨c_meth mq_43_kt hY hYS hIx hX (q := mq_43) mq_43_at mq_43_pl mq_43_k cs_cy hcs cn_496_ok, ?_⟩
  refine List.forall_mem_cons.mpr ⟨c_meth mq_43_kt hY hYS hIx hX (q := mq_43) mq_43_at mq_43_pl mq_43_k cs_cy hcs cn_498_ok, ?_⟩
  exact fun _ h => absurd h List.not_mem_nil
theorem sm_44 (hX : ∀ i, i < 2 → X i = some ((x_tab i).map Int32.ofInt)) (hcs : ∀ d', d = d' + 1 → ∀ y, ∀ C ∈ cs_at y, c_sem l X (yY xa) xa d' C) : ∀ C ∈ [cn_442, cn_465, cn_479, cn_487, cn_495], c_sem l X (yY xa) xa d C := by
  have hY := yY_ok xa
  have hYS := yY_str xa
  have hIx := ix_K_ok (l := l) (X := X) hY hYS
  refine List.forall_mem_cons.mpr ⟨c_meth mq_44_kt hY hYS hIx hX (q := mq_44) mq_44_at mq_44_pl mq_44_k cs_cy hcs cn_442_ok, ?_⟩
  refine List.forall_mem_cons.mpr ⟨c_meth mq_44_kt hY hYS hIx hX (q := mq_44) mq_44_at mq_44_pl mq_44_k cs_cy hcs cn_465_ok, ?_⟩
  refine List.forall_mem_cons.mpr ⟨c_meth mq_44_kt hY hYS hIx hX (q := mq_44) mq_44_at mq_44_pl mq_44_k cs_cy hcs cn_479_ok, ?_⟩
  refine List.forall_mem_cons.mpr ⟨c_meth mq_44_kt hY hYS hIx hX (q := mq_44) mq_44_at mq_44_pl mq_44_k cs_cy hcs cn_487_ok, ?_⟩
  refine List.forall_mem_cons.mpr ⟨c_meth mq_44_kt hY hYS hIx hX (q := mq_44) mq_44_at mq_44_pl mq_44_k cs_cy hcs cn_495_ok, ?_⟩
  exact fun _ h => absurd h List.not_mem_nil
theorem sm_45 (hX : ∀ i, i < 2 → X i = some ((x_tab i).map Int32.ofInt)) (hcs : ∀ d', d = d' + 1 → ∀ y, ∀ C ∈ cs_at y, c_sem l X (yY xa) xa d' C) : ∀ C ∈ [cn_437, cn_463, cn_478, cn_486, cn_494], c_sem l X (yY xa) xa d C := by
  have hY := yY_ok xa
  have hYS := yY_str xa
  have hIx := ix_K_ok (l := l) (X := X) hY hYS
  refine List.forall_mem_cons.mpr ⟨c_meth mq_45_kt hY hYS hIx hX (q := mq_45) mq_45_at mq_45_pl mq_45_k cs_cy hcs cn_437_ok, ?_⟩
  refine List.forall_mem_cons.mpr ⟨c_meth mq_45_kt hY hYS hIx hX (q := mq_45) mq_45_at mq_45_pl mq_45_k cs_cy hcs cn_463_ok, ?_⟩
  refine List.forall_mem_cons.mpr ⟨c_meth mq_45_kt hY hYS hIx hX (q := mq_45) mq_45_at mq_45_pl mq_45_k cs_cy hcs cn_478_ok, ?_⟩
  refine List.forall_mem_cons.mpr ⟨c_meth mq_45_kt hY hYS hIx hX (q := mq_45) mq_45_at mq_45_pl mq_45_k cs_cy hcs cn_486_ok, ?_⟩
  refine List.forall_mem_cons.mpr ⟨c_meth mq_45_kt hY hYS hIx hX (q := mq_45) mq_45_at mq_45_pl mq_45_k cs_cy hcs cn_494_ok, ?_⟩
  exact fun _ h => absurd h List.not_mem_nil
theorem sm_46 (hX : ∀ i, i < 2 → X i = some ((x_tab i).map Int32.ofInt)) (hcs : ∀ d', d = d' + 1 → ∀ y, ∀ C ∈ cs_at y, c_sem l X (yY xa) xa d' C) : ∀ C ∈ [cn_205, cn_461, cn_477, cn_485, cn_493], c_sem l X (yY xa) xa d C := by
  have hY := yY_ok xa
  have hYS := yY_str xa
  have hIx := ix_K_ok (l := l) (X := X) hY hYS
  refine List.forall_mem_cons.mpr ⟨c_meth mq_46_kt hY hYS hIx hX (q := mq_46) mq_46_at mq_46_pl mq_46_k cs_cy hcs cn_205_ok, ?_⟩
  refine List.forall_mem_cons.mpr ⟨c_meth mq_46_kt hY hYS hIx hX (q := mq_46) mq_46_at mq_46_pl mq_46_k cs_cy hcs cn_461_ok, ?_⟩
  refine List.forall_mem_cons.mpr ⟨c_meth mq_46_kt hY hYS hIx hX (q := mq_46) mq_46_at mq_46_pl mq_46_k cs_cy hcs cn_477_ok, ?_⟩
  refine List.forall_mem_cons.mpr ⟨c_meth mq_46_kt hY hYS hIx hX (q := mq_46) mq_46_at mq_46_pl mq_46_k cs_cy hcs cn_485_ok, ?_⟩
  refine List.forall_mem_cons.mpr ⟨c_meth mq_46_kt hY hYS hIx hX (q := mq_46) mq_46_at mq_46_pl mq_46_k cs_cy hcs cn_493_ok, ?_⟩
  exact fun _ h => absurd h List.not_mem_nil
theorem sm_47 (hX : ∀ i, i < 2 → X i = some ((x_tab i).map Int32.ofInt)) (hcs : ∀ d', d = d' + 1 → ∀ y, ∀ C ∈ cs_at y, c_sem l X (yY xa) xa d' C) : ∀ C ∈ [cn_324], c_sem l X (yY xa) xa d C := by
  have hY := yY_ok xa
  have hYS := yY_str xa
  have hIx := ix_K_ok (l := l) (X := X) hY hYS
  intro C hC
  obtain rfl := List.mem_singleton.mp hC
  exact c_meth mq_47_kt hY hYS hIx hX (q := mq_47) mq_47_at mq_47_pl mq_47_k cs_cy hcs cn_324_ok
theorem sm_48 (hX : ∀ i, i < 2 → X i = some ((x_tab i).map Int32.ofInt)) (hcs : ∀ d', d = d' + 1 → ∀ y, ∀ C ∈ cs_at y, c_sem l X (yY xa) xa d' C) : ∀ C ∈ [cn_22], c_sem l X (yY xa) xa d C := by
  have hY := yY_ok xa
  have hYS := yY_str xa
  have hIx := ix_K_ok (l := l) (X := X) hY hYS
  intro C hC
  obtain rfl := List.mem_singleton.mp hC
  exact c_meth mq_48_kt hY hYS hIx hX (q := mq_48) mq_48_at mq_48_pl mq_48_k cs_cy hcs cn_22_ok
theorem sm_51 (hX : ∀ i, i < 2 → X i = some ((x_tab i).map Int32.ofInt)) (hcs : ∀ d', d = d' + 1 → ∀ y, ∀ C ∈ cs_at y, c_sem l X (yY xa) xa d' C) : ∀ C ∈ [cn_23], c_sem l X (yY xa) xa d C := by
  have hY := yY_ok xa
  have hYS := yY_str xa
  have hIx := ix_K_ok (l := l) (X := X) hY hYS
  intro C hC
  obtain rfl := List.mem_singleton.mp hC
  exact c_meth mq_51_kt hY hYS hIx hX (q := mq_51) mq_51_at mq_51_pl mq_51_k cs_cy hcs cn_23_ok
theorem sm_52 (hX : ∀ i, i < 2 → X i = some ((x_tab i).map Int32.ofInt)) (hcs : ∀ d', d = d' + 1 → ∀ y, ∀ C ∈ cs_at y, c_sem l X (yY xa) xa d' C) : ∀ C ∈ [cn_203], c_sem l X (yY xa) xa d C := by
  have hY := yY_ok xa
  have hYS := yY_str xa
  have hIx := ix_K_ok (l := l) (X := X) hY hYS
  intro C hC
  obtain rfl := List.mem_singleton.mp hC
  exact c_meth mq_52_kt hY hYS hIx hX (q := mq_52) mq_52_at mq_52_pl mq_52_k cs_cy hcs cn_203_ok
theorem sm_53 (hX : ∀ i, i < 2 → X i = some ((x_tab i).map Int32.ofInt)) (hcs : ∀ d', d = d' + 1 → ∀ y, ∀ C ∈ cs_at y, c_sem l X (yY xa) xa d' C) : ∀ C ∈ [cn_6], c_sem l X (yY xa) xa d C := by
  have hY := yY_ok xa
  have hYS := yY_str xa
  have hIx := ix_K_ok (l := l) (X := X) hY hYS
  intro C hC
  obtain rfl := List.mem_singleton.mp hC
  exact c_meth mq_53_kt hY hYS hIx hX (q := mq_53) mq_53_at mq_53_pl mq_53_k cs_cy hcs cn_6_ok
theorem sm_54 (hX : ∀ i, i < 2 → X i = some ((x_tab i).map Int32.ofInt)) (hcs : ∀ d', d = d' + 1 → ∀ y, ∀ C ∈ cs_at y, c_sem l X (yY xa) xa d' C) : ∀ C ∈ [cn_118], c_sem l X (yY xa) xa d C := by
  have hY := yY_ok xa
  have hYS := yY_str xa
  have hIx := ix_K_ok (l := l) (X := X) hY hYS
  intro C hC
  obtain rfl := List.mem_singleton.mp hC
  exact c_meth mq_54_kt hY hYS hIx hX (q := mq_54) mq_54_at mq_54_pl mq_54_k cs_cy hcs cn_118_ok
theorem sm_55 (hX : ∀ i, i < 2 → X i = some ((x_tab i).map Int32.ofInt)) (hcs : ∀ d', d = d' + 1 → ∀ y, ∀ C ∈ cs_at y, c_sem l X (yY xa) xa d' C) : ∀ C ∈ [cn_15], c_sem l X (yY xa) xa d C := by
  have hY := yY_ok xa
  have hYS := yY_str xa
  have hIx := ix_K_ok (l := l) (X := X) hY hYS
  intro C hC
  obtain rfl := List.mem_singleton.mp hC
  exact c_meth mq_55_kt hY hYS hIx hX (q := mq_55) mq_55_at mq_55_pl mq_55_k cs_cy hcs cn_15_ok
theorem sm_56 (hX : ∀ i, i < 2 → X i = some ((x_tab i).map Int32.ofInt)) (hcs : ∀ d', d = d' + 1 → ∀ y, ∀ C ∈ cs_at y, c_sem l X (yY xa) xa d' C) : ∀ C ∈ [cn_293], c_sem l X (yY xa) xa d C := by
  have hY := yY_ok xa
  have hYS := yY_str xa
  have hIx := ix_K_ok (l := l) (X := X) hY hYS
  intro C hC
  obtain rfl := List.mem_singleton.mp hC
  exact c_meth mq_56_kt hY hYS hIx hX (q := mq_56) mq_56_at mq_56_pl mq_56_k cs_cy hcs cn_293_ok
theorem sm_57 (hX : ∀ i, i < 2 → X i = some ((x_tab i).map Int32.ofInt)) (hcs : ∀ d', d = d' + 1 → ∀ y, ∀ C ∈ cs_at y, c_sem l X (yY xa) xa d' C) : ∀ C ∈ [cn_120], c_sem l X (yY xa) xa d C := by
  have hY := yY_ok xa
  have hYS := yY_str xa
  have hIx := ix_K_ok (l := l) (X := X) hY hYS
  intro C hC
  obtain rfl := List.mem_singleton.mp hC
  exact c_meth mq_57_kt hY hYS hIx hX (q := mq_57) mq_57_at mq_57_pl mq_57_k cs_cy hcs cn_120_ok
theorem sm_58 (hX : ∀ i, i < 2 → X i = some ((x_tab i).map Int32.ofInt)) (hcs : ∀ d', d = d' + 1 → ∀ y, ∀ C ∈ cs_at y, c_sem l X (yY xa) xa d' C) : ∀ C ∈ [cn_342], c_sem l X (yY xa) xa d C := by
  have hY := yY_ok xa
  have hYS := yY_str xa
  have hIx := ix_K_ok (l := l) (X := X) hY hYS
  intro C hC
  obtain rfl := List.mem_singleton.mp hC
  exact c_meth mq_58_kt hY hYS hIx hX (q := mq_58) mq_58_at mq_58_pl mq_58_k cs_cy hcs cn_342_ok
theorem sm_59 (hX : ∀ i, i < 2 → X i = some ((x_tab i).map Int32.ofInt)) (hcs : ∀ d', d = d' + 1 → ∀ y, ∀ C ∈ cs_at y, c_sem l X (yY xa) xa d' C) : ∀ C ∈ [cn_121], c_sem l X (yY xa) xa d C := by
  have hY := yY_ok xa
  have hYS := yY_str xa
  have hIx := ix_K_ok (l := l) (X := X) hY hYS
  intro C hC
  obtain rfl := List.mem_singleton.mp hC
  exact c_meth mq_59_kt hY hYS hIx hX (q := mq_59) mq_59_at mq_59_pl mq_59_k cs_cy hcs cn_121_ok
theorem sm_60 (hX : ∀ i, i < 2 → X i = some ((x_tab i).map Int32.ofInt)) (hcs : ∀ d', d = d' + 1 → ∀ y, ∀ C ∈ cs_at y, c_sem l X (yY xa) xa d' C) : ∀ C ∈ [cn_322, cn_323], c_sem l X (yY xa) xa d C := by
  have hY := yY_ok xa
  have hYS := yY_str xa
  have hIx := ix_K_ok (l := l) (X := X) hY hYS
  refine List.forall_mem_cons.mpr ⟨c_meth mq_60_kt hY hYS hIx hX (q := mq_60) mq_60_at mq_60_pl mq_60_k cs_cy hcs cn_322_ok, ?_⟩
  refine List.forall_mem_cons.mpr ⟨c_meth mq_60_kt hY hYS hIx hX (q := mq_60) mq_60_at mq_60_pl mq_60_k cs_cy hcs cn_323_ok, ?_⟩
  exact fun _ h => absurd h List.not_mem_nil
theorem sm_61 (hX : ∀ i, i < 2 → X i = some ((x_tab i).map Int32.ofInt)) (hcs : ∀ d', d = d' + 1 → ∀ y, ∀ C ∈ cs_at y, c_sem l X (yY xa) xa d' C) : ∀ C ∈ [cn_209, cn_210, cn_211, cn_212, cn_213, cn_214, cn_215, cn_216, cn_217, cn_218, cn_219, cn_220, cn_221, cn_222, cn_223, cn_224, cn_225, cn_226, cn_227, cn_228, cn_229, cn_230, cn_231, cn_232, cn_233, cn_234, cn_235, cn_236, cn_237, cn_238, cn_239, cn_240, cn_241, cn_242, cn_243, cn_244, cn_245, cn_246, cn_247, cn_248, cn_249, cn_250, cn_251, cn_252, cn_253, cn_254, cn_255, cn_256, cn_257, cn_258, cn_259, cn_260, cn_261, cn_262, cn_263, cn_264, cn_265, cn_266, cn_267, cn_268], c_sem l X (yY xa) xa d C := by
  have hY := yY_ok xa
  have hYS := yY_str xa
  have hIx := ix_K_ok (l := l) (X := X) hY hYS
  refine List.forall_mem_cons.mpr ⟨c_meth mq_61_kt hY hYS hIx hX (q := mq_61) mq_61_at mq_61_pl mq_61_k cs_cy hcs cn_209_ok, ?_⟩
  refine List.forall_mem_cons.mpr ⟨c_meth mq_61_kt hY hYS hIx hX (q := mq_61) mq_61_at mq_61_pl mq_61_k cs_cy hcs cn_210_ok, ?_⟩
  refine List.forall_mem_cons.mpr ⟨c_meth mq_61_kt hY hYS hIx hX (q := mq_61) mq_61_at mq_61_pl mq_61_k cs_cy hcs cn_211_ok, ?_⟩
  refine List.forall_mem_cons.mpr ⟨c_meth mq_61_kt hY hYS hIx hX (q := mq_61) mq_61_at mq_61_pl mq_61_k cs_cy hcs cn_212_ok, ?_⟩
  refine List.forall_mem_cons.mpr ⟨c_meth mq_61_kt hY hYS hIx hX (q := mq_61) mq_61_at mq_61_pl mq_61_k cs_cy hcs cn_213_ok, ?_⟩
  refine List.forall_mem_cons.mpr ⟨c_meth mq_61_kt hY hYS hIx hX (q := mq_61) mq_61_at mq_61_pl mq_61_k cs_cy hcs cn_214_ok, ?_⟩
  refine List.forall_mem_cons.mpr ⟨c_meth mq_61_kt hY hYS hIx hX (q := mq_61) mq_61_at mq_61_pl mq_61_k cs_cy hcs cn_215_ok, ?_⟩
  refine List.forall_mem_cons.mpr ⟨c_meth mq_61_kt hY hYS hIx hX (q := mq_61) mq_61_at mq_61_pl mq_61_k cs_cy hcs cn_216_ok, ?_⟩
  refine List.forall_mem_cons.mpr ⟨c_meth mq_61_kt hY hYS hIx hX (q := mq_61) mq_61_at mq_61_pl mq_61_k cs_cy hcs cn_217_ok, ?_⟩
  refine List.forall_mem_cons.mpr ⟨c_meth mq_61_kt hY hYS hIx hX (q := mq_61) mq_61_at mq_61_pl mq_61_k cs_cy hcs cn_218_ok, ?_⟩
  refine List.forall_mem_cons.mpr ⟨c_meth mq_61_kt hY hYS hIx hX (q := mq_61) mq_61_at mq_61_pl mq_61_k cs_cy hcs cn_219_ok, ?_⟩
  refine List.forall_mem_cons.mpr ⟨c_meth mq_61_kt hY hYS hIx hX (q := mq_61) mq_61_at mq_61_pl mq_61_k cs_cy hcs cn_220_ok, ?_⟩
  refine List.forall_mem_cons.mpr ⟨c_meth mq_61_kt hY hYS hIx hX (q := mq_61) mq_61_at mq_61_pl mq_61_k cs_cy hcs cn_221_ok, ?_⟩
  refine List.forall_mem_cons.mpr ⟨c_meth mq_61_kt hY hYS hIx hX (q := mq_61) mq_61_at mq_61_pl mq_61_k cs_cy hcs cn_222_ok, ?_⟩
  refine List.forall_mem_cons.mpr ⟨c_meth mq_61_kt hY hYS hIx hX (q := mq_61) mq_61_at mq_61_pl mq_61_k cs_cy hcs cn_223_ok, ?_⟩
  refine List.forall_mem_cons.mpr ⟨c_meth mq_61_kt hY hYS hIx hX (q := mq_61) mq_61_at mq_61_pl mq_61_k cs_cy hcs cn_224_ok, ?_⟩
  refine List.forall_mem_cons.mpr ⟨c_meth mq_61_kt hY hYS hIx hX (q := mq_61) mq_61_at mq_61_pl mq_61_k cs_cy hcs cn_225_ok, ?_⟩
  refine List.forall_mem_cons.mpr ⟨c_meth mq_61_kt hY hYS hIx hX (q := mq_61) mq_61_at mq_61_pl mq_61_k cs_cy hcs cn_226_ok, ?_⟩
  refine List.forall_mem_cons.mpr ⟨c_meth mq_61_kt hY hYS hIx hX (q := mq_61) mq_61_at mq_61_pl mq_61_k cs_cy hcs cn_227_ok, ?_⟩
  refine List.forall_mem_cons.mpr ⟨c_meth mq_61_kt hY hYS hIx hX (q := mq_61) mq_61_at mq_61_pl mq_61_k cs_cy hcs cn_228_ok, ?_⟩
  refine List.forall_mem_cons.mpr ⟨c_meth mq_61_kt hY hYS hIx hX (q := mq_61) mq_61_at mq_61_pl mq_61_k cs_cy hcs cn_229_ok, ?_⟩
  refine List.forall_mem_cons.mpr ⟨c_meth mq_61_kt hY hYS hIx hX (q := mq_61) mq_61_at mq_61_pl mq_61_k cs_cy hcs cn_230_ok, ?_⟩
  refine List.forall_mem_cons.mpr ⟨c_meth mq_61_kt hY hYS hIx hX (q := mq_61) mq_61_at mq_61_pl mq_61_k cs_cy hcs cn_231_ok, ?_⟩
  refine List.forall_mem_cons.mpr ⟨c_meth mq_61_kt hY hYS hIx hX (q := mq_61) mq_61_at mq_61_pl mq_61_k cs_cy hcs cn_232_ok, ?_⟩
  refine List.forall_mem_cons.mpr ⟨c_meth mq_61_kt hY hYS hIx hX (q := mq_61) mq_61_at mq_61_pl mq_61_k cs_cy hcs cn_233_ok, ?_⟩
  refine List.forall_mem_cons.mpr ⟨c_meth mq_61_kt hY hYS hIx hX (q := mq_61) mq_61_at mq_61_pl mq_61_k cs_cy hcs cn_234_ok, ?_⟩
  refine List.forall_mem_cons.mpr ⟨c_meth mq_61_kt hY hYS hIx hX (q := mq_61) mq_61_at mq_61_pl mq_61_k cs_cy hcs cn_235_ok, ?_⟩
  refine List.forall_mem_cons.mpr ⟨c_meth mq_61_kt hY hYS hIx hX (q := mq_61) mq_61_at mq_61_pl mq_61_k cs_cy hcs cn_236_ok, ?_⟩
  refine List.forall_mem_cons.mpr ⟨c_meth mq_61_kt hY hYS hIx hX (q := mq_61) mq_61_at mq_61_pl mq_61_k cs_cy hcs cn_237_ok, ?_⟩
  refine List.forall_mem_cons.mpr ⟨c_meth mq_61_kt hY hYS hIx hX (q := mq_61) mq_61_at mq_61_pl mq_61_k cs_cy hcs cn_238_ok, ?_⟩
  refine List.forall_mem_cons.mpr ⟨c_meth mq_61_kt hY hYS hIx hX (q := mq_61) mq_61_at mq_61_pl mq_61_k cs_cy hcs cn_239_ok, ?_⟩
  refine List.forall_mem_cons.mpr ⟨c_meth mq_61_kt hY hYS hIx hX (q := mq_61) mq_61_at mq_61_pl mq_61_k cs_cy hcs cn_240_ok, ?_⟩
  refine List.forall_mem_cons.mpr ⟨c_meth mq_61_kt hY hYS hIx hX (q := mq_61) mq_61_at mq_61_pl mq_61_k cs_cy hcs cn_241_ok, ?_⟩
  refine List.forall_mem_cons.mpr ⟨c_meth mq_61_kt hY hYS hIx hX (q := mq_61) mq_61_at mq_61_pl mq_61_k cs_cy hcs cn_242_ok, ?_⟩
  refine List.forall_mem_cons.mpr ⟨c_meth mq_61_kt hY hYS hIx hX (q := mq_61) mq_61_at mq_61_pl mq_61_k cs_cy hcs cn_243_ok, ?_⟩
  refine List.forall_mem_cons.mpr ⟨c_meth mq_61_kt hY hYS hIx hX (q := mq_61) mq_61_at mq_61_pl mq_61_k cs_cy hcs cn_244_ok, ?_⟩
  refine List.forall_mem_cons.mpr ⟨c_meth mq_61_kt hY hYS hIx hX (q := mq_61) mq_61_at mq_61_pl mq_61_k cs_cy hcs cn_245_ok, ?_⟩
  refine List.forall_mem_cons.mpr ⟨c_meth mq_61_kt hY hYS hIx hX (q := mq_61) mq_61_at mq_61_pl mq_61_k cs_cy hcs cn_246_ok, ?_⟩
  refine List.forall_mem_cons.mpr ⟨c_meth mq_61_kt hY hYS hIx hX (q := mq_61) mq_61_at mq_61_pl mq_61_k cs_cy hcs cn_247_ok, ?_⟩
  refine List.forall_mem_cons.mpr ⟨c_meth mq_61_kt hY hYS hIx hX (q := mq_61) mq_61_at mq_61_pl mq_61_k cs_cy hcs cn_248_ok, ?_⟩
  refine List.forall_mem_cons.mpr ⟨c_meth mq_61_kt hY hYS hIx hX (q := mq_61) mq_61_at mq_61_pl mq_61_k cs_cy hcs cn_249_ok, ?_⟩
  refine List.forall_mem_cons.mpr ⟨c_meth mq_61_kt hY hYS hIx hX (q := mq_61) mq_61_at mq_61_pl mq_61_k cs_cy hcs cn_250_ok, ?_⟩
  refine List.forall_mem_cons.mpr ⟨c_meth mq_61_kt hY hYS hIx hX (q := mq_61) mq_61_at mq_61_pl mq_61_k cs_cy hcs cn_251_ok, ?_⟩
  refine List.forall_mem_cons.mpr ⟨c_meth mq_61_kt hY hYS hIx hX (q := mq_61) mq_61_at mq_61_pl mq_61_k cs_cy hcs cn_252_ok, ?_⟩
  refine List.forall_mem_cons.mpr ⟨c_meth mq_61_kt hY hYS hIx hX (q := mq_61) mq_61_at mq_61_pl mq_61_k cs_cy hcs cn_253_ok, ?_⟩
  refine List.forall_mem_cons.mpr ⟨c_meth mq_61_kt hY hYS hIx hX (q := mq_61) mq_61_at mq_61_pl mq_61_k cs_cy hcs cn_254_ok, ?_⟩
  refine List.forall_mem_cons.mpr ⟨c_meth mq_61_kt hY hYS hIx hX (q := mq_61) mq_61_at mq_61_pl mq_61_k cs_cy hcs cn_255_ok, ?_⟩
  refine List.forall_mem_cons.mpr ⟨c_meth mq_61_kt hY hYS hIx hX (q := mq_61) mq_61_at mq_61_pl mq_61_k cs_cy hcs cn_256_ok, ?_⟩
  refine List.forall_mem_cons.mpr ⟨c_meth mq_61_kt hY hYS hIx hX (q := mq_61) mq_61_at mq_61_pl mq_61_k cs_cy hcs cn_257_ok, ?_⟩
  refine List.forall_mem_cons.mpr ⟨c_meth mq_61_kt hY hYS hIx hX (q := mq_61) mq_61_at mq_61_pl mq_61_k cs_cy hcs cn_258_ok, ?_⟩
  refine List.forall_mem_cons.mpr ⟨c_meth mq_61_kt hY hYS hIx hX (q := mq_61) mq_61_at mq_61_pl mq_61_k cs_cy hcs cn_259_ok, ?_⟩
  refine List.forall_mem_cons.mpr ⟨c_meth mq_61_kt hY hYS hIx hX (q := mq_61) mq_61_at mq_61_pl mq_61_k cs_cy hcs cn_260_ok, ?_⟩
  refine List.forall_mem_cons.mpr ⟨c_meth mq_61_kt hY hYS hIx hX (q := mq_61) mq_61_at mq_61_pl mq_61_k cs_cy hcs cn_261_ok, ?_⟩
  refine List.forall_mem_cons.mpr ⟨c_meth mq_61_kt hY hYS hIx hX (q := mq_61) mq_61_at mq_61_pl mq_61_k cs_cy hcs cn_262_ok, ?_⟩
  refine List.forall_mem_cons.mpr ⟨c_meth mq_61_kt hY hYS hIx hX (q := mq_61) mq_61_at mq_61_pl mq_61_k cs_cy hcs cn_263_ok, ?_⟩
  refine List.forall_mem_cons.mpr ⟨c_meth mq_61_kt hY hYS hIx hX (q := mq_61) mq_61_at mq_61_pl mq_61_k cs_cy hcs cn_264_ok, ?_⟩
  refine List.forall_mem_cons.mpr ⟨c_meth mq_61_kt hY hYS hIx hX (q := mq_61) mq_61_at mq_61_pl mq_61_k cs_cy hcs cn_265_ok, ?_⟩
  refine List.forall_mem_cons.mpr ⟨c_meth mq_61_kt hY hYS hIx hX (q := mq_61) mq_61_at mq_61_pl mq_61_k cs_cy hcs cn_266_ok, ?_⟩
  refine List.forall_mem_cons.mpr ⟨c_meth mq_61_kt hY hYS hIx hX (q := mq_61) mq_61_at mq_61_pl mq_61_k cs_cy hcs cn_267_ok, ?_⟩
  refine List.forall_mem_cons.mpr ⟨c_meth mq_61_kt hY hYS hIx hX (q := mq_61) mq_61_at mq_61_pl mq_61_k cs_cy hcs cn_268_ok, ?_⟩
  exact fun _ h => absurd h List.not_mem_nil
theorem sm_62 (hX : ∀ i, i < 2 → X i = some ((x_tab i).map Int32.ofInt)) (hcs : ∀ d', d = d' + 1 → ∀ y, ∀ C ∈ cs_at y, c_sem l X (yY xa) xa d' C) : ∀ C ∈ [cn_344], c_sem l X (yY xa) xa d C := by
  have hY := yY_ok xa
  have hYS := yY_str xa
  have hIx := ix_K_ok (l := l) (X := X) hY hYS
  intro C hC
  obtain rfl := List.mem_singleton.mp hC
  exact c_meth mq_62_kt hY hYS hIx hX (q := mq_62) mq_62_at mq_62_pl mq_62_k cs_cy hcs cn_344_ok
theorem sm_63 (hX : ∀ i, i < 2 → X i = some ((x_tab i).map Int32.ofInt)) (hcs : ∀ d', d = d' + 1 → ∀ y, ∀ C ∈ cs_at y, c_sem l X (yY xa) xa d' C) : ∀ C ∈ [cn_123], c_sem l X (yY xa) xa d C := by
  have hY := yY_ok xa
  have hYS := yY_str xa
  have hIx := ix_K_ok (l := l) (X := X) hY hYS
  intro C hC
  obtain rfl := List.mem_singleton.mp hC
  exact c_meth mq_63_kt hY hYS hIx hX (q := mq_63) mq_63_at mq_63_pl mq_63_k cs_cy hcs cn_123_ok
theorem sc_1 (hX : ∀ i, i < 2 → X i = some ((x_tab i).map Int32.ofInt)) (hcs : ∀ d', d = d' + 1 → ∀ y, ∀ C ∈ cs_at y, c_sem l X (yY xa) xa d' C) : ∀ r ∈ cs_tab_1, ∀ C ∈ r, c_sem l X (yY xa) xa d C := by
  unfold cs_tab_1
  refine List.forall_mem_cons.mpr ⟨sm_32 hX hcs, ?_⟩
  refine List.forall_mem_cons.mpr ⟨sm_33 hX hcs, ?_⟩
  refine List.forall_mem_cons.mpr ⟨sm_34 hX hcs, ?_⟩
  refine List.forall_mem_cons.mpr ⟨sm_35 hX hcs, ?_⟩
  refine List.forall_mem_cons.mpr ⟨sm_36 hX hcs, ?_⟩
  refine List.forall_mem_cons.mpr ⟨sm_37 hX hcs, ?_⟩
  refine List.forall_mem_cons.mpr ⟨sm_38 hX hcs, ?_⟩
  refine List.forall_mem_cons.mpr ⟨sm_39 hX hcs, ?_⟩
  refine List.forall_mem_cons.mpr ⟨sm_40 hX hcs, ?_⟩
  refine List.forall_mem_cons.mpr ⟨sm_41 hX hcs, ?_⟩
  refine List.forall_mem_cons.mpr ⟨sm_42 hX hcs, ?_⟩
  refine List.forall_mem_cons.mpr ⟨sm_43 hX hcs, ?_⟩
  refine List.forall_mem_cons.mpr ⟨sm_44 hX hcs, ?_⟩
  refine List.forall_mem_cons.mpr ⟨sm_45 hX hcs, ?_⟩
  refine List.forall_mem_cons.mpr ⟨sm_46 hX hcs, ?_⟩
  refine List.forall_mem_cons.mpr ⟨sm_47 hX hcs, ?_⟩
  refine List.forall_mem_cons.mpr ⟨sm_48 hX hcs, ?_⟩
  refine List.forall_mem_cons.mpr ⟨(fun _ h => absurd h List.not_mem_nil), ?_⟩
  refine List.forall_mem_cons.mpr ⟨(fun _ h => absurd h List.not_mem_nil), ?_⟩
  refine List.forall_mem_cons.mpr ⟨sm_51 hX hcs, ?_⟩
  refine List.forall_mem_cons.mpr ⟨sm_52 hX hcs, ?_⟩
  refine List.forall_mem_cons.mpr ⟨sm_53 hX hcs, ?_⟩
  refine List.forall_mem_cons.mpr ⟨sm_54 hX hcs, ?_⟩
  refine List.forall_mem_cons.mpr ⟨sm_55 hX hcs, ?_⟩
  refine List.forall_mem_cons.mpr ⟨sm_56 hX hcs, ?_⟩
  refine List.forall_mem_cons.mpr ⟨sm_57 hX hcs, ?_⟩
  refine List.forall_mem_cons.mpr ⟨sm_58 hX hcs, ?_⟩
  refine List.forall_mem_cons.mpr ⟨sm_59 hX hcs, ?_⟩
  refine List.forall_mem_cons.mpr ⟨sm_60 hX hcs, ?_⟩
  refine List.forall_mem_cons.mpr ⟨sm_61 hX hcs, ?_⟩
  refine List.forall_mem_cons.mpr ⟨sm_62 hX hcs, ?_⟩
  refine List.forall_mem_cons.mpr ⟨sm_63 hX hcs, ?_⟩
  exact fun _ h => absurd h List.not_mem_nil
end AS
end
section
/-! ALL CONTRACTS TOGETHER, 2 -/
section AS
variable {l : Launch} {X : Nat → Option (List Int32)} {xa : Nat → Nat} {d : Nat}
theorem sm_64 (hX : ∀ i, i < 2 → X i = some ((x_tab i).map Int32.ofInt)) (hcs : ∀ d', d = d' + 1 → ∀ y, ∀ C ∈ cs_at y, c_sem l X (yY xa) xa d' C) : ∀ C ∈ [cn_405], c_sem l X (yY xa) xa d C := by
  have hY := yY_ok xa
  have hYS := yY_str xa
  have hIx := ix_K_ok (l := l) (X := X) hY hYS
  intro C hC
  obtain rfl := List.mem_singleton.mp hC
  exact c_meth mq_64_kt hY hYS hIx hX (q := mq_64) mq_64_at mq_64_pl mq_64_k cs_cy hcs cn_405_ok
theorem sm_65 (hX : ∀ i, i < 2 → X i = some ((x_tab i).map Int32.ofInt)) (hcs : ∀ d', d = d' + 1 → ∀ y, ∀ C ∈ cs_at y, c_sem l X (yY xa) xa d' C) : ∀ C ∈ [cn_378], c_sem l X (yY xa) xa d C := by
  have hY := yY_ok xa
  have hYS := yY_str xa
  have hIx := ix_K_ok (l := l) (X := X) hY hYS
  intro C hC
  obtain rfl := List.mem_singleton.mp hC
  exact c_meth mq_65_kt hY hYS hIx hX (q := mq_65) mq_65_at mq_65_pl mq_65_k cs_cy hcs cn_378_ok
theorem sm_66 (hX : ∀ i, i < 2 → X i = some ((x_tab i).map Int32.ofInt)) (hcs : ∀ d', d = d' + 1 → ∀ y, ∀ C ∈ cs_at y, c_sem l X (yY xa) xa d' C) : ∀ C ∈ [cn_8], c_sem l X (yY xa) xa d C := by
  have hY := yY_ok xa
  have hYS := yY_str xa
  have hIx := ix_K_ok (l := l) (X := X) hY hYS
  intro C hC
  obtain rfl := List.mem_singleton.mp hC
  exact c_meth mq_66_kt hY hYS hIx hX (q := mq_66) mq_66_at mq_66_pl mq_66_k cs_cy hcs cn_8_ok
theorem sm_67 (hX : ∀ i, i < 2 → X i = some ((x_tab i).map Int32.ofInt)) (hcs : ∀ d', d = d' + 1 → ∀ y, ∀ C ∈ cs_at y, c_sem l X (yY xa) xa d' C) : ∀ C ∈ [cn_347, cn_348, cn_349, cn_350, cn_351, cn_352, cn_353, cn_354, cn_355, cn_356, cn_357, cn_358, cn_359, cn_360, cn_361], c_sem l X (yY xa) xa d C := by
  have hY := yY_ok xa
  have hYS := yY_str xa
  have hIx := ix_K_ok (l := l) (X := X) hY hYS
  refine List.forall_mem_cons.mpr ⟨c_meth mq_67_kt hY hYS hIx hX (q := mq_67) mq_67_at mq_67_pl mq_67_k cs_cy hcs cn_347_ok, ?_⟩
  refine List.forall_mem_cons.mpr ⟨c_meth mq_67_kt hY hYS hIx hX (q := mq_67) mq_67_at mq_67_pl mq_67_k cs_cy hcs cn_348_ok, ?_⟩
  refine List.forall_mem_cons.mpr ⟨c_meth mq_67_kt hY hYS hIx hX (q := mq_67) mq_67_at mq_67_pl mq_67_k cs_cy hcs cn_349_ok, ?_⟩
  refine List.forall_mem_cons.mpr ⟨c_meth mq_67_kt hY hYS hIx hX (q := mq_67) mq_67_at mq_67_pl mq_67_k cs_cy hcs cn_350_ok, ?_⟩
  refine List.forall_mem_cons.mpr ⟨c_meth mq_67_kt hY hYS hIx hX (q := mq_67) mq_67_at mq_67_pl mq_67_k cs_cy hcs cn_351_ok, ?_⟩
  refine List.forall_mem_cons.mpr ⟨c_meth mq_67_kt hY hYS hIx hX (q := mq_67) mq_67_at mq_67_pl mq_67_k cs_cy hcs cn_352_ok, ?_⟩
  refine List.forall_mem_cons.mpr ⟨c_meth mq_67_kt hY hYS hIx hX (q := mq_67) mq_67_at mq_67_pl mq_67_k cs_cy hcs cn_353_ok, ?_⟩
  refine List.forall_mem_cons.mpr ⟨c_meth mq_67_kt hY hYS hIx hX (q := mq_67) mq_67_at mq_67_pl mq_67_k cs_cy hcs cn_354_ok, ?_⟩
  refine List.forall_mem_cons.mpr ⟨c_meth mq_67_kt hY hYS hIx hX (q := mq_67) mq_67_at mq_67_pl mq_67_k cs_cy hcs cn_355_ok, ?_⟩
  refine List.forall_mem_cons.mpr ⟨c_meth mq_67_kt hY hYS hIx hX (q := mq_67) mq_67_at mq_67_pl mq_67_k cs_cy hcs cn_356_ok, ?_⟩
  refine List.forall_mem_cons.mpr ⟨c_meth mq_67_kt hY hYS hIx hX (q := mq_67) mq_67_at mq_67_pl mq_67_k cs_cy hcs cn_357_ok, ?_⟩
  refine List.forall_mem_cons.mpr ⟨c_meth mq_67_kt hY hYS hIx hX (q := mq_67) mq_67_at mq_67_pl mq_67_k cs_cy hcs cn_358_ok, ?_⟩
  refine List.forall_mem_cons.mpr ⟨c_meth mq_67_kt hY hYS hIx hX (q := mq_67) mq_67_at mq_67_pl mq_67_k cs_cy hcs cn_359_ok, ?_⟩
  refine List.forall_mem_cons.mpr ⟨c_meth mq_67_kt hY hYS hIx hX (q := mq_67) mq_67_at mq_67_pl mq_67_k cs_cy hcs cn_360_ok, ?_⟩
  refine List.forall_mem_cons.mpr ⟨c_meth mq_67_kt hY hYS hIx hX (q := mq_67) mq_67_at mq_67_pl mq_67_k cs_cy hcs cn_361_ok, ?_⟩
  exact fun _ h => absurd h List.not_mem_nil
theorem sm_68 (hX : ∀ i, i < 2 → X i = some ((x_tab i).map Int32.ofInt)) (hcs : ∀ d', d = d' + 1 → ∀ y, ∀ C ∈ cs_at y, c_sem l X (yY xa) xa d' C) : ∀ C ∈ [cn_297, cn_298, cn_299, cn_300, cn_301, cn_302, cn_303, cn_304, cn_305, cn_306, cn_307, cn_308, cn_309, cn_310, cn_311, cn_312, cn_313], c_sem l X (yY xa) xa d C := by
  have hY := yY_ok xa
  have hYS := yY_str xa
  have hIx := ix_K_ok (l := l) (X := X) hY hYS
  refine List.forall_mem_cons.mpr ⟨c_meth mq_68_kt hY hYS hIx hX (q := mq_68) mq_68_at mq_68_pl mq_68_k cs_cy hcs cn_297_ok, ?_⟩
  refine List.forall_mem_cons.mpr ⟨c_meth mq_68_kt hY hYS hIx hX (q := mq_68) mq_68_at mq_68_pl mq_68_k cs_cy hcs cn_298_ok, ?_⟩
  refine List.forall_mem_cons.mpr ⟨c_meth mq_68_kt hY hYS hIx hX (q := mq_68) mq_68_at mq_68_pl mq_68_k cs_cy hcs cn_299_ok, ?_⟩
  refine List.forall_mem_cons.mpr ⟨c_meth mq_68_kt hY hYS hIx hX (q := mq_68) mq_68_at mq_68_pl mq_68_k cs_cy hcs cn_300_ok, ?_⟩
  refine List.forall_mem_cons.mpr ⟨c_meth mq_68_kt hY hYS hIx hX (q := mq_68) mq_68_at mq_68_pl mq_68_k cs_cy hcs cn_301_ok, ?_⟩
  refine List.forall_mem_cons.mpr ⟨c_meth mq_68_kt hY hYS hIx hX (q := mq_68) mq_68_at mq_68_pl mq_68_k cs_cy hcs cn_302_ok, ?_⟩
  refine List.forall_mem_cons.mpr ⟨c_meth mq_68_kt hY hYS hIx hX (q := mq_68) mq_68_at mq_68_pl mq_68_k cs_cy hcs cn_303_ok, ?_⟩
  refine List.forall_mem_cons.mpr ⟨c_meth mq_68_kt hY hYS hIx hX (q := mq_68) mq_68_at mq_68_pl mq_68_k cs_cy hcs cn_304_ok, ?_⟩
  refine List.forall_mem_cons.mpr ⟨c_meth mq_68_kt hY hYS hIx hX (q := mq_68) mq_68_at mq_68_pl mq_68_k cs_cy hcs cn_305_ok, ?_⟩
  refine List.forall_mem_cons.mpr ⟨c_meth mq_68_kt hY hYS hIx hX (q := mq_68) mq_68_at mq_68_pl mq_68_k cs_cy hcs cn_306_ok, ?_⟩
  refine List.forall_mem_cons.mpr ⟨c_meth mq_68_kt hY hYS hIx hX (q := mq_68) mq_68_at mq_68_pl mq_68_k cs_cy hcs cn_307_ok, ?_⟩
  refine List.forall_mem_cons.mpr ⟨c_meth mq_68_kt hY hYS hIx hX (q := mq_68) mq_68_at mq_68_pl mq_68_k cs_cy hcs cn_308_ok, ?_⟩
  refine List.forall_mem_cons.mpr ⟨c_meth mq_68_kt hY hYS hIx hX (q := mq_68) mq_68_at mq_68_pl mq_68_k cs_cy hcs cn_309_ok, ?_⟩
  refine List.forall_mem_cons.mpr ⟨c_meth mq_68_kt hY hYS hIx hX (q := mq_68) mq_68_at mq_68_pl mq_68_k cs_cy hcs cn_310_ok, ?_⟩
  refine List.forall_mem_cons.mpr ⟨c_meth mq_68_kt hY hYS hIx hX (q := mq_68) mq_68_at mq_68_pl mq_68_k cs_cy hcs cn_311_ok, ?_⟩
  refine List.forall_mem_cons.mpr ⟨c_meth mq_68_kt hY hYS hIx hX (q := mq_68) mq_68_at mq_68_pl mq_68_k cs_cy hcs cn_312_ok, ?_⟩
  refine List.forall_mem_cons.mpr ⟨c_meth mq_68_kt hY hYS hIx hX (q := mq_68) mq_68_at mq_68_pl mq_68_k cs_cy hcs cn_313_ok, ?_⟩
  exact fun _ h => absurd h List.not_mem_nil
theorem sm_69 (hX : ∀ i, i < 2 → X i = some ((x_tab i).map Int32.ofInt)) (hcs : ∀ d', d = d' + 1 → ∀ y, ∀ C ∈ cs_at y, c_sem l X (yY xa) xa d' C) : ∀ C ∈ [cn_177, cn_178, cn_179, cn_180, cn_181, cn_182, cn_183, cn_184, cn_185, cn_186, cn_187, cn_188, cn_189, cn_190, cn_191, cn_192, cn_193], c_sem l X (yY xa) xa d C := by
  have hY := yY_ok xa
  have hYS := yY_str xa
  have hIx := ix_K_ok (l := l) (X := X) hY hYS
  refine List.forall_mem_cons.mpr ⟨c_meth mq_69_kt hY hYS hIx hX (q := mq_69) mq_69_at mq_69_pl mq_69_k cs_cy hcs cn_177_ok, ?_⟩
  refine List.forall_mem_cons.mpr ⟨c_meth mq_69_kt hY hYS hIx hX (q := mq_69) mq_69_at mq_69_pl mq_69_k cs_cy hcs cn_178_ok, ?_⟩
  refine List.forall_mem_cons.mpr ⟨c_meth mq_69_kt hY hYS hIx hX (q := mq_69) mq_69_at mq_69_pl mq_69_k cs_cy hcs cn_179_ok, ?_⟩
  refine List.forall_mem_cons.mpr ⟨c_meth mq_69_kt hY hYS hIx hX (q := mq_69) mq_69_at mq_69_pl mq_69_k cs_cy hcs cn_180_ok, ?_⟩
  refine List.forall_mem_cons.mpr ⟨c_meth mq_69_kt hY hYS hIx hX (q := mq_69) mq_69_at mq_69_pl mq_69_k cs_cy hcs cn_181_ok, ?_⟩
  refine List.forall_mem_cons.mpr ⟨c_meth mq_69_kt hY hYS hIx hX (q := mq_69) mq_69_at mq_69_pl mq_69_k cs_cy hcs cn_182_ok, ?_⟩
  refine List.forall_mem_cons.mpr ⟨c_meth mq_69_kt hY hYS hIx hX (q := mq_69) mq_69_at mq_69_pl mq_69_k cs_cy hcs cn_183_ok, ?_⟩
  refine List.forall_mem_cons.mpr ⟨c_meth mq_69_kt hY hYS hIx hX (q := mq_69) mq_69_at mq_69_pl mq_69_k cs_cy hcs cn_184_ok, ?_⟩
  refine List.forall_mem_cons.mpr ⟨c_meth mq_69_kt hY hYS hIx hX (q := mq_69) mq_69_at mq_69_pl mq_69_k cs_cy hcs cn_185_ok, ?_⟩
  refine List.forall_mem_cons.mpr ⟨c_meth mq_69_kt hY hYS hIx hX (q := mq_69) mq_69_at mq_69_pl mq_69_k cs_cy hcs cn_186_ok, ?_⟩
  refine List.forall_mem_cons.mpr ⟨c_meth mq_69_kt hY hYS hIx hX (q := mq_69) mq_69_at mq_69_pl mq_69_k cs_cy hcs cn_187_ok, ?_⟩
  refine List.forall_mem_cons.mpr ⟨c_meth mq_69_kt hY hYS hIx hX (q := mq_69) mq_69_at mq_69_pl mq_69_k cs_cy hcs cn_188_ok, ?_⟩
  refine List.forall_mem_cons.mpr ⟨c_meth mq_69_kt hY hYS hIx hX (q := mq_69) mq_69_at mq_69_pl mq_69_k cs_cy hcs cn_189_ok, ?_⟩
  refine List.forall_mem_cons.mpr ⟨c_meth mq_69_kt hY hYS hIx hX (q := mq_69) mq_69_at mq_69_pl mq_69_k cs_cy hcs cn_190_ok, ?_⟩
  refine List.forall_mem_cons.mpr ⟨c_meth mq_69_kt hY hYS hIx hX (q := mq_69) mq_69_at mq_69_pl mq_69_k cs_cy hcs cn_191_ok, ?_⟩
  refine List.forall_mem_cons.mpr ⟨c_meth mq_69_kt hY hYS hIx hX (q := mq_69) mq_69_at mq_69_pl mq_69_k cs_cy hcs cn_192_ok, ?_⟩
  refine List.forall_mem_cons.mpr ⟨c_meth mq_69_kt hY hYS hIx hX (q := mq_69) mq_69_at mq_69_pl mq_69_k cs_cy hcs cn_193_ok, ?_⟩
  exact fun _ h => absurd h List.not_mem_nil
theorem sm_70 (hX : ∀ i, i < 2 → X i = some ((x_tab i).map Int32.ofInt)) (hcs : ∀ d', d = d' + 1 → ∀ y, ∀ C ∈ cs_at y, c_sem l X (yY xa) xa d' C) : ∀ C ∈ [cn_12], c_sem l X (yY xa) xa d C := by
  have hY := yY_ok xa
  have hYS := yY_str xa
  have hIx := ix_K_ok (l := l) (X := X) hY hYS
  intro C hC
  obtain rfl := List.mem_singleton.mp hC
  exact c_meth mq_70_kt hY hYS hIx hX (q := mq_70) mq_70_at mq_70_pl mq_70_k cs_cy hcs cn_12_ok
theorem sm_71 (hX : ∀ i, i < 2 → X i = some ((x_tab i).map Int32.ofInt)) (hcs : ∀ d', d = d' + 1 → ∀ y, ∀ C ∈ cs_at y, c_sem l X (yY xa) xa d' C) : ∀ C ∈ [cn_204], c_sem l X (yY xa) xa d C := by
  have hY := yY_ok xa
  have hYS := yY_str xa
  have hIx := ix_K_ok (l := l) (X := X) hY hYS
  intro C hC
  obtain rfl := List.mem_singleton.mp hC
  exact c_meth mq_71_kt hY hYS hIx hX (q := mq_71) mq_71_at mq_71_pl mq_71_k cs_cy hcs cn_204_ok
theorem sm_72 (hX : ∀ i, i < 2 → X i = some ((x_tab i).map Int32.ofInt)) (hcs : ∀ d', d = d' + 1 → ∀ y, ∀ C ∈ cs_at y, c_sem l X (yY xa) xa d' C) : ∀ C ∈ [cn_21], c_sem l X (yY xa) xa d C := by
  have hY := yY_ok xa
  have hYS := yY_str xa
  have hIx := ix_K_ok (l := l) (X := X) hY hYS
  intro C hC
  obtain rfl := List.mem_singleton.mp hC
  exact c_meth mq_72_kt hY hYS hIx hX (q := mq_72) mq_72_at mq_72_pl mq_72_k cs_cy hcs cn_21_ok
theorem sm_73 (hX : ∀ i, i < 2 → X i = some ((x_tab i).map Int32.ofInt)) (hcs : ∀ d', d = d' + 1 → ∀ y, ∀ C ∈ cs_at y, c_sem l X (yY xa) xa d' C) : ∀ C ∈ [cn_126, cn_127, cn_128, cn_129, cn_130, cn_131, cn_132, cn_133, cn_134, cn_135, cn_136, cn_137, cn_138, cn_139, cn_140, cn_141, cn_142], c_sem l X (yY xa) xa d C := by
  have hY := yY_ok xa
  have hYS := yY_str xa
  have hIx := ix_K_ok (l := l) (X := X) hY hYS
  refine List.forall_mem_cons.mpr ⟨c_meth mq_73_kt hY hYS hIx hX (q := mq_73) mq_73_at mq_73_pl mq_73_k cs_cy hcs cn_126_ok, ?_⟩
  refine List.forall_mem_cons.mpr ⟨c_meth mq_73_kt hY hYS hIx hX (q := mq_73) mq_73_at mq_73_pl mq_73_k cs_cy hcs cn_127_ok, ?_⟩
  refine List.forall_mem_cons.mpr ⟨c_meth mq_73_kt hY hYS hIx hX (q := mq_73) mq_73_at mq_73_pl mq_73_k cs_cy hcs cn_128_ok, ?_⟩
  refine List.forall_mem_cons.mpr ⟨c_meth mq_73_kt hY hYS hIx hX (q := mq_73) mq_73_at mq_73_pl mq_73_k cs_cy hcs cn_129_ok, ?_⟩
  refine List.forall_mem_cons.mpr ⟨c_meth mq_73_kt hY hYS hIx hX (q := mq_73) mq_73_at mq_73_pl mq_73_k cs_cy hcs cn_130_ok, ?_⟩
  refine List.forall_mem_cons.mpr ⟨c_meth mq_73_kt hY hYS hIx hX (q := mq_73) mq_73_at mq_73_pl mq_73_k cs_cy hcs cn_131_ok, ?_⟩
  refine List.forall_mem_cons.mpr ⟨c_meth mq_73_kt hY hYS hIx hX (q := mq_73) mq_73_at mq_73_pl mq_73_k cs_cy hcs cn_132_ok, ?_⟩
  refine List.forall_mem_cons.mpr ⟨c_meth mq_73_kt hY hYS hIx hX (q := mq_73) mq_73_at mq_73_pl mq_73_k cs_cy hcs cn_133_ok, ?_⟩
  refine List.forall_mem_cons.mpr ⟨c_meth mq_73_kt hY hYS hIx hX (q := mq_73) mq_73_at mq_73_pl mq_73_k cs_cy hcs cn_134_ok, ?_⟩
  refine List.forall_mem_cons.mpr ⟨c_meth mq_73_kt hY hYS hIx hX (q := mq_73) mq_73_at mq_73_pl mq_73_k cs_cy hcs cn_135_ok, ?_⟩
  refine List.forall_mem_cons.mpr ⟨c_meth mq_73_kt hY hYS hIx hX (q := mq_73) mq_73_at mq_73_pl mq_73_k cs_cy hcs cn_136_ok, ?_⟩
  refine List.forall_mem_cons.mpr ⟨c_meth mq_73_kt hY hYS hIx hX (q := mq_73) mq_73_at mq_73_pl mq_73_k cs_cy hcs cn_137_ok, ?_⟩
  refine List.forall_mem_cons.mpr ⟨c_meth mq_73_kt hY hYS hIx hX (q := mq_73) mq_73_at mq_73_pl mq_73_k cs_cy hcs cn_138_ok, ?_⟩
  refine List.forall_mem_cons.mpr ⟨c_meth mq_73_kt hY hYS hIx hX (q := mq_73) mq_73_at mq_73_pl mq_73_k cs_cy hcs cn_139_ok, ?_⟩
  refine List.forall_mem_cons.mpr ⟨c_meth mq_73_kt hY hYS hIx hX (q := mq_73) mq_73_at mq_73_pl mq_73_k cs_cy hcs cn_140_ok, ?_⟩
  refine List.forall_mem_cons.mpr ⟨c_meth mq_73_kt hY hYS hIx hX (q := mq_73) mq_73_at mq_73_pl mq_73_k cs_cy hcs cn_141_ok, ?_⟩
  refine List.forall_mem_cons.mpr ⟨c_meth mq_73_kt hY hYS hIx hX (q := mq_73) mq_73_at mq_73_pl mq_73_k cs_cy hcs cn_142_ok, ?_⟩
  exact fun _ h => absurd h List.not_mem_nil
theorem sm_74 (hX : ∀ i, i < 2 → X i = some ((x_tab i).map Int32.ofInt)) (hcs : ∀ d', d = d' + 1 → ∀ y, ∀ C ∈ cs_at y, c_sem l X (yY xa) xa d' C) : ∀ C ∈ [cn_160, cn_161, cn_162, cn_163, cn_164, cn_165, cn_166, cn_167, cn_168, cn_169, cn_170, cn_171, cn_172, cn_173, cn_174, cn_175, cn_176], c_sem l X (yY xa) xa d C := by
  have hY := yY_ok xa
  have hYS := yY_str xa
  have hIx := ix_K_ok (l := l) (X := X) hY hYS
  refine List.forall_mem_cons.mpr ⟨c_meth mq_74_kt hY hYS hIx hX (q := mq_74) mq_74_at mq_74_pl mq_74_k cs_cy hcs cn_160_ok, ?_⟩
  refine List.forall_mem_cons.mpr ⟨c_meth mq_74_kt hY hYS hIx hX (q := mq_74) mq_74_at mq_74_pl mq_74_k cs_cy hcs cn_161_ok, ?_⟩
  refine List.forall_mem_cons.mpr ⟨c_meth mq_74_kt hY hYS hIx hX (q := mq_74) mq_74_at mq_74_pl mq_74_k cs_cy hcs cn_162_ok, ?_⟩
  refine List.forall_mem_cons.mpr ⟨c_meth mq_74_kt hY hYS hIx hX (q := mq_74) mq_74_at mq_74_pl mq_74_k cs_cy hcs cn_163_ok, ?_⟩
  refine List.forall_mem_cons.mpr ⟨c_meth mq_74_kt hY hYS hIx hX (q := mq_74) mq_74_at mq_74_pl mq_74_k cs_cy hcs cn_164_ok, ?_⟩
  refine List.forall_mem_cons.mpr ⟨c_meth mq_74_kt hY hYS hIx hX (q := mq_74) mq_74_at mq_74_pl mq_74_k cs_cy hcs cn_165_ok, ?_⟩
  refine List.forall_mem_cons.mpr ⟨c_meth mq_74_kt hY hYS hIx hX (q := mq_74) mq_74_at mq_74_pl mq_74_k cs_cy hcs cn_166_ok, ?_⟩
  refine List.forall_mem_cons.mpr ⟨c_meth mq_74_kt hY hYS hIx hX (q := mq_74) mq_74_at mq_74_pl mq_74_k cs_cy hcs cn_167_ok, ?_⟩
  refine List.forall_mem_cons.mpr ⟨c_meth mq_74_kt hY hYS hIx hX (q := mq_74) mq_74_at mq_74_pl mq_74_k cs_cy hcs cn_168_ok, ?_⟩
  refine List.forall_mem_cons.mpr ⟨c_meth mq_74_kt hY hYS hIx hX (q := mq_74) mq_74_at mq_74_pl mq_74_k cs_cy hcs cn_169_ok, ?_⟩
  refine List.forall_mem_cons.mpr ⟨c_meth mq_74_kt hY hYS hIx hX (q := mq_74) mq_74_at mq_74_pl mq_74_k cs_cy hcs cn_170_ok, ?_⟩
  refine List.forall_mem_cons.mpr ⟨c_meth mq_74_kt hY hYS hIx hX (q := mq_74) mq_74_at mq_74_pl mq_74_k cs_cy hcs cn_171_ok, ?_⟩
  refine List.forall_mem_cons.mpr ⟨c_meth mq_74_kt hY hYS hIx hX (q := mq_74) mq_74_at mq_74_pl mq_74_k cs_cy hcs cn_172_ok, ?_⟩
  refine List.forall_mem_cons.mpr ⟨c_meth mq_74_kt hY hYS hIx hX (q := mq_74) mq_74_at mq_74_pl mq_74_k cs_cy hcs cn_173_ok, ?_⟩
  refine List.forall_mem_cons.mpr ⟨c_meth mq_74_kt hY hYS hIx hX (q := mq_74) mq_74_at mq_74_pl mq_74_k cs_cy hcs cn_174_ok, ?_⟩
  refine List.forall_mem_cons.mpr ⟨c_meth mq_74_kt hY hYS hIx hX (q := mq_74) mq_74_at mq_74_pl mq_74_k cs_cy hcs cn_175_ok, ?_⟩
  refine List.forall_mem_cons.mpr ⟨c_meth mq_74_kt hY hYS hIx hX (q := mq_74) mq_74_at mq_74_pl mq_74_k cs_cy hcs cn_176_ok, ?_⟩
  exact fun _ h => absurd h List.not_mem_nil
theorem sm_75 (hX : ∀ i, i < 2 → X i = some ((x_tab i).map Int32.ofInt)) (hcs : ∀ d', d = d' + 1 → ∀ y, ∀ C ∈ cs_at y, c_sem l X (yY xa) xa d' C) : ∀ C ∈ [cn_143, cn_144, cn_145, cn_146, cn_147, cn_148, cn_149, cn_150, cn_151, cn_152, cn_153, cn_154, cn_155, cn_156, cn_157, cn_158, cn_159], c_sem l X (yY xa) xa d C := by
  have hY := yY_ok xa
  have hYS := yY_str xa
  have hIx := ix_K_ok (l := l) (X := X) hY hYS
  refine List.forall_mem_cons.mpr ⟨c_meth mq_75_kt hY hYS hIx hX (q := mq_75) mq_75_at mq_75_pl mq_75_k cs_cy hcs cn_143_ok, ?_⟩
  refine List.forall_mem_cons.mpr ⟨c_meth mq_75_kt hY hYS hIx hX (q := mq_75) mq_75_at mq_75_pl mq_75_k cs_cy hcs cn_144_ok, ?_⟩
  refine List.forall_mem_cons.mpr ⟨c_meth mq_75_kt hY hYS hIx hX (q := mq_75) mq_75_at mq_75_pl mq_75_k cs_cy hcs cn_145_ok, ?_⟩
  refine List.forall_mem_cons.mpr ⟨c_meth mq_75_kt hY hYS hIx hX (q := mq_75) mq_75_at mq_75_pl mq_75_k cs_cy hcs cn_146_ok, ?_⟩
  refine List.forall_mem_cons.mpr ⟨c_meth mq_75_kt hY hYS hIx hX (q := mq_75) mq_75_at mq_75_pl mq_75_k cs_cy hcs cn_147_ok, ?_⟩
  refine List.forall_mem_cons.mpr ⟨c_meth mq_75_kt hY hYS hIx hX (q := mq_75) mq_75_at mq_75_pl mq_75_k cs_cy hcs cn_148_ok, ?_⟩
  refine List.forall_mem_cons.mpr ⟨c_meth mq_75_kt hY hYS hIx hX (q := mq_75) mq_75_at mq_75_pl mq_75_k cs_cy hcs cn_149_ok, ?_⟩
  refine List.forall_mem_cons.mpr ⟨c_meth mq_75_kt hY hYS hIx hX (q := mq_75) mq_75_at mq_75_pl mq_75_k cs_cy hcs cn_150_ok, ?_⟩
  refine List.forall_mem_cons.mpr ⟨c_meth mq_75_kt hY hYS hIx hX (q := mq_75) mq_75_at mq_75_pl mq_75_k cs_cy hcs cn_151_ok, ?_⟩
  refine List.forall_mem_cons.mpr ⟨c_meth mq_75_kt hY hYS hIx hX (q := mq_75) mq_75_at mq_75_pl mq_75_k cs_cy hcs cn_152_ok, ?_⟩
  refine List.forall_mem_cons.mpr ⟨c_meth mq_75_kt hY hYS hIx hX (q := mq_75) mq_75_at mq_75_pl mq_75_k cs_cy hcs cn_153_ok, ?_⟩
  refine List.forall_mem_cons.mpr ⟨c_meth mq_75_kt hY hYS hIx hX (q := mq_75) mq_75_at mq_75_pl mq_75_k cs_cy hcs cn_154_ok, ?_⟩
  refine List.forall_mem_cons.mpr ⟨c_meth mq_75_kt hY hYS hIx hX (q := mq_75) mq_75_at mq_75_pl mq_75_k cs_cy hcs cn_155_ok, ?_⟩
  refine List.forall_mem_cons.mpr ⟨c_meth mq_75_kt hY hYS hIx hX (q := mq_75) mq_75_at mq_75_pl mq_75_k cs_cy hcs cn_156_ok, ?_⟩
  refine List.forall_mem_cons.mpr ⟨c_meth mq_75_kt hY hYS hIx hX (q := mq_75) mq_75_at mq_75_pl mq_75_k cs_cy hcs cn_157_ok, ?_⟩
  refine List.forall_mem_cons.mpr ⟨c_meth mq_75_kt hY hYS hIx hX (q := mq_75) mq_75_at mq_75_pl mq_75_k cs_cy hcs cn_158_ok, ?_⟩
  refine List.forall_mem_cons.mpr ⟨c_meth mq_75_kt hY hYS hIx hX (q := mq_75) mq_75_at mq_75_pl mq_75_k cs_cy hcs cn_159_ok, ?_⟩
  exact fun _ h => absurd h List.not_mem_nil
theorem sm_76 (hX : ∀ i, i < 2 → X i = some ((x_tab i).map Int32.ofInt)) (hcs : ∀ d', d = d' + 1 → ∀ y, ∀ C ∈ cs_at y, c_sem l X (yY xa) xa d' C) : ∀ C ∈ [cn_294], c_sem l X (yY xa) xa d C := by
  have hY := yY_ok xa
  have hYS := yY_str xa
  have hIx := ix_K_ok (l := l) (X := X) hY hYS
  intro C hC
  obtain rfl := List.mem_singleton.mp hC
  exact c_meth mq_76_kt hY hYS hIx hX (q := mq_76) mq_76_at mq_76_pl mq_76_k cs_cy hcs cn_294_ok
theorem sm_77 (hX : ∀ i, i < 2 → X i = some ((x_tab i).map Int32.ofInt)) (hcs : ∀ d', d = d' + 1 → ∀ y, ∀ C ∈ cs_at y, c_sem l X (yY xa) xa d' C) : ∀ C ∈ [cn_124], c_sem l X (yY xa) xa d C := by
  have hY := yY_ok xa
  have hYS := yY_str xa
  have hIx := ix_K_ok (l := l) (X := X) hY hYS
  intro C hC
  obtain rfl := List.mem_singleton.mp hC
  exact c_meth mq_77_kt hY hYS hIx hX (q := mq_77) mq_77_at mq_77_pl mq_77_k cs_cy hcs cn_124_ok
theorem sm_78 (hX : ∀ i, i < 2 → X i = some ((x_tab i).map Int32.ofInt)) (hcs : ∀ d', d = d' + 1 → ∀ y, ∀ C ∈ cs_at y, c_sem l X (yY xa) xa d' C) : ∀ C ∈ [cn_7], c_sem l X (yY xa) xa d C := by
  have hY := yY_ok xa
  have hYS := yY_str xa
  have hIx := ix_K_ok (l := l) (X := X) hY hYS
  intro C hC
  obtain rfl := List.mem_singleton.mp hC
  exact c_meth mq_78_kt hY hYS hIx hX (q := mq_78) mq_78_at mq_78_pl mq_78_k cs_cy hcs cn_7_ok
theorem sm_79 (hX : ∀ i, i < 2 → X i = some ((x_tab i).map Int32.ofInt)) (hcs : ∀ d', d = d' + 1 → ∀ y, ∀ C ∈ cs_at y, c_sem l X (yY xa) xa d' C) : ∀ C ∈ [cn_1], c_sem l X (yY xa) xa d C := by
  have hY := yY_ok xa
  have hYS := yY_str xa
  have hIx := ix_K_ok (l := l) (X := X) hY hYS
  intro C hC
  obtain rfl := List.mem_singleton.mp hC
  exact c_meth mq_79_kt hY hYS hIx hX (q := mq_79) mq_79_at mq_79_pl mq_79_k cs_cy hcs cn_1_ok
theorem sm_80 (hX : ∀ i, i < 2 → X i = some ((x_tab i).map Int32.ofInt)) (hcs : ∀ d', d = d' + 1 → ∀ y, ∀ C ∈ cs_at y, c_sem l X (yY xa) xa d' C) : ∀ C ∈ [cn_406], c_sem l X (yY xa) xa d C := by
  have hY := yY_ok xa
  have hYS := yY_str xa
  have hIx := ix_K_ok (l := l) (X := X) hY hYS
  intro C hC
  obtain rfl := List.mem_singleton.mp hC
  exact c_meth mq_80_kt hY hYS hIx hX (q := mq_80) mq_80_at mq_80_pl mq_80_k cs_cy hcs cn_406_ok
theorem sm_81 (hX : ∀ i, i < 2 → X i = some ((x_tab i).map Int32.ofInt)) (hcs : ∀ d', d = d' + 1 → ∀ y, ∀ C ∈ cs_at y, c_sem l X (yY xa) xa d' C) : ∀ C ∈ [cn_343], c_sem l X (yY xa) xa d C := by
  have hY := yY_ok xa
  have hYS := yY_str xa
  have hIx := ix_K_ok (l := l) (X := X) hY hYS
  intro C hC
  obtain rfl := List.mem_singleton.mp hC
  exact c_meth mq_81_kt hY hYS hIx hX (q := mq_81) mq_81_at mq_81_pl mq_81_k cs_cy hcs cn_343_ok
theorem sm_82 (hX : ∀ i, i < 2 → X i = some ((x_tab i).map Int32.ofInt)) (hcs : ∀ d', d = d' + 1 → ∀ y, ∀ C ∈ cs_at y, c_sem l X (yY xa) xa d' C) : ∀ C ∈ [cn_411], c_sem l X (yY xa) xa d C := by
  have hY := yY_ok xa
  have hYS := yY_str xa
  have hIx := ix_K_ok (l := l) (X := X) hY hYS
  intro C hC
  obtain rfl := List.mem_singleton.mp hC
  exact c_meth mq_82_kt hY hYS hIx hX (q := mq_82) mq_82_at mq_82_pl mq_82_k cs_cy hcs cn_411_ok
theorem sm_83 (hX : ∀ i, i < 2 → X i = some ((x_tab i).map Int32.ofInt)) (hcs : ∀ d', d = d' + 1 → ∀ y, ∀ C ∈ cs_at y, c_sem l X (yY xa) xa d' C) : ∀ C ∈ [cn_395], c_sem l X (yY xa) xa d C := by
  have hY := yY_ok xa
  have hYS := yY_str xa
  have hIx := ix_K_ok (l := l) (X := X) hY hYS
  intro C hC
  obtain rfl := List.mem_singleton.mp hC
  exact c_meth mq_83_kt hY hYS hIx hX (q := mq_83) mq_83_at mq_83_pl mq_83_k cs_cy hcs cn_395_ok
theorem sm_84 (hX : ∀ i, i < 2 → X i = some ((x_tab i).map Int32.ofInt)) (hcs : ∀ d', d = d' + 1 → ∀ y, ∀ C ∈ cs_at y, c_sem l X (yY xa) xa d' C) : ∀ C ∈ [cn_371], c_sem l X (yY xa) xa d C := by
  have hY := yY_ok xa
  have hYS := yY_str xa
  have hIx := ix_K_ok (l := l) (X := X) hY hYS
  intro C hC
  obtain rfl := List.mem_singleton.mp hC
  exact c_meth mq_84_kt hY hYS hIx hX (q := mq_84) mq_84_at mq_84_pl mq_84_k cs_cy hcs cn_371_ok
theorem sm_85 (hX : ∀ i, i < 2 → X i = some ((x_tab i).map Int32.ofInt)) (hcs : ∀ d', d = d' + 1 → ∀ y, ∀ C ∈ cs_at y, c_sem l X (yY xa) xa d' C) : ∀ C ∈ [cn_325], c_sem l X (yY xa) xa d C := by
  have hY := yY_ok xa
  have hYS := yY_str xa
  have hIx := ix_K_ok (l := l) (X := X) hY hYS
  intro C hC
  obtain rfl := List.mem_singleton.mp hC
  exact c_meth mq_85_kt hY hYS hIx hX (q := mq_85) mq_85_at mq_85_pl mq_85_k cs_cy hcs cn_325_ok
theorem sm_86 (hX : ∀ i, i < 2 → X i = some ((x_tab i).map Int32.ofInt)) (hcs : ∀ d', d = d' + 1 → ∀ y, ∀ C ∈ cs_at y, c_sem l X (yY xa) xa d' C) : ∀ C ∈ [cn_382], c_sem l X (yY xa) xa d C := by
  have hY := yY_ok xa
  have hYS := yY_str xa
  have hIx := ix_K_ok (l := l) (X := X) hY hYS
  intro C hC
  obtain rfl := List.mem_singleton.mp hC
  exact c_meth mq_86_kt hY hYS hIx hX (q := mq_86) mq_86_at mq_86_pl mq_86_k cs_cy hcs cn_382_ok
theorem sm_87 (hX : ∀ i, i < 2 → X i = some ((x_tab i).map Int32.ofInt)) (hcs : ∀ d', d = d' + 1 → ∀ y, ∀ C ∈ cs_at y, c_sem l X (yY xa) xa d' C) : ∀ C ∈ [cn_345], c_sem l X (yY xa) xa d C := by
  have hY := yY_ok xa
  have hYS := yY_str xa
  have hIx := ix_K_ok (l := l) (X := X) hY hYS
  intro C hC
  obtain rfl := List.mem_singleton.mp hC
  exact c_meth mq_87_kt hY hYS hIx hX (q := mq_87) mq_87_at mq_87_pl mq_87_k cs_cy hcs cn_345_ok
theorem sm_88 (hX : ∀ i, i < 2 → X i = some ((x_tab i).map Int32.ofInt)) (hcs : ∀ d', d = d' + 1 → ∀ y, ∀ C ∈ cs_at y, c_sem l X (yY xa) xa d' C) : ∀ C ∈ [cn_320], c_sem l X (yY xa) xa d C := by
  have hY := yY_ok xa
  have hYS := yY_str xa
  have hIx := ix_K_ok (l := l) (X := X) hY hYS
  intro C hC
  obtain rfl := List.mem_singleton.mp hC
  exact c_meth mq_88_kt hY hYS hIx hX (q := mq_88) mq_88_at mq_88_pl mq_88_k cs_cy hcs cn_320_ok
theorem sm_89 (hX : ∀ i, i < 2 → X i = some ((x_tab i).map Int32.ofInt)) (hcs : ∀ d', d = d' + 1 → ∀ y, ∀ C ∈ cs_at y, c_sem l X (yY xa) xa d' C) : ∀ C ∈ [cn_410], c_sem l X (yY xa) xa d C := by
  have hY := yY_ok xa
  have hYS := yY_str xa
  have hIx := ix_K_ok (l := l) (X := X) hY hYS
  intro C hC
  obtain rfl := List.mem_singleton.mp hC
  exact c_meth mq_89_kt hY hYS hIx hX (q := mq_89) mq_89_at mq_89_pl mq_89_k cs_cy hcs cn_410_ok
theorem sm_90 (hX : ∀ i, i < 2 → X i = some ((x_tab i).map Int32.ofInt)) (hcs : ∀ d', d = d' + 1 → ∀ y, ∀ C ∈ cs_at y, c_sem l X (yY xa) xa d' C) : ∀ C ∈ [cn_379], c_sem l X (yY xa) xa d C := by
  have hY := yY_ok xa
  have hYS := yY_str xa
  have hIx := ix_K_ok (l := l) (X := X) hY hYS
  intro C hC
  obtain rfl := List.mem_singleton.mp hC
  exact c_meth mq_90_kt hY hYS hIx hX (q := mq_90) mq_90_at mq_90_pl mq_90_k cs_cy hcs cn_379_ok
theorem sm_91 (hX : ∀ i, i < 2 → X i = some ((x_tab i).map Int32.ofInt)) (hcs : ∀ d', d = d' + 1 → ∀ y, ∀ C ∈ cs_at y, c_sem l X (yY xa) xa d' C) : ∀ C ∈ [cn_377], c_sem l X (yY xa) xa d C := by
  have hY := yY_ok xa
  have hYS := yY_str xa
  have hIx := ix_K_ok (l := l) (X := X) hY hYS
  intro C hC
  obtain rfl := List.mem_singleton.mp hC
  exact c_meth mq_91_kt hY hYS hIx hX (q := mq_91) mq_91_at mq_91_pl mq_91_k cs_cy hcs cn_377_ok
theorem sm_92 (hX : ∀ i, i < 2 → X i = some ((x_tab i).map Int32.ofInt)) (hcs : ∀ d', d = d' + 1 → ∀ y, ∀ C ∈ cs_at y, c_sem l X (yY xa) xa d' C) : ∀ C ∈ [cn_197, cn_198, cn_199, cn_200], c_sem l X (yY xa) xa d C := by
  have hY := yY_ok xa
  have hYS := yY_str xa
  have hIx := ix_K_ok (l := l) (X := X) hY hYS
  refine List.forall_mem_cons.mpr ⟨c_meth mq_92_kt hY hYS hIx hX (q := mq_92) mq_92_at mq_92_pl mq_92_k cs_cy hcs cn_197_ok, ?_⟩
  refine List.forall_mem_cons.mpr ⟨c_meth mq_92_kt hY hYS hIx hX (q := mq_92) mq_92_at mq_92_pl mq_92_k cs_cy hcs cn_198_ok, ?_⟩
  refine List.forall_mem_cons.mpr ⟨c_meth mq_92_kt hY hYS hIx hX (q := mq_92) mq_92_at mq_92_pl mq_92_k cs_cy hcs cn_199_ok, ?_⟩
  refine List.forall_mem_cons.mpr ⟨c_meth mq_92_kt hY hYS hIx hX (q := mq_92) mq_92_at mq_92_pl mq_92_k cs_cy hcs cn_200_ok, ?_⟩
  exact fun _ h => absurd h List.not_mem_nil
theorem sm_93 (hX : ∀ i, i < 2 → X i = some ((x_tab i).map Int32.ofInt)) (hcs : ∀ d', d = d' + 1 → ∀ y, ∀ C ∈ cs_at y, c_sem l X (yY xa) xa d' C) : ∀ C ∈ [cn_4], c_sem l X (yY xa) xa d C := by
  have hY := yY_ok xa
  have hYS := yY_str xa
  have hIx := ix_K_ok (l := l) (X := X) hY hYS
  intro C hC
  obtain rfl := List.mem_singleton.mp hC
  exact c_meth mq_93_kt hY hYS hIx hX (q := mq_93) mq_93_at mq_93_pl mq_93_k cs_cy hcs cn_4_ok
theorem sm_94 (hX : ∀ i, i < 2 → X i = some ((x_tab i).map Int32.ofInt)) (hcs : ∀ d', d = d' + 1 → ∀ y, ∀ C ∈ cs_at y, c_sem l X (yY xa) xa d' C) : ∀ C ∈ [cn_403], c_sem l X (yY xa) xa d C := by
  have hY := yY_ok xa
  have hYS := yY_str xa
  have hIx := ix_K_ok (l := l) (X := X) hY hYS
  intro C hC
  obtain rfl := List.mem_singleton.mp hC
  exact c_meth mq_94_kt hY hYS hIx hX (q := mq_94) mq_94_at mq_94_pl mq_94_k cs_cy hcs cn_403_ok
theorem sm_95 (hX : ∀ i, i < 2 → X i = some ((x_tab i).map Int32.ofInt)) (hcs : ∀ d', d = d' + 1 → ∀ y, ∀ C ∈ cs_at y, c_sem l X (yY xa) xa d' C) : ∀ C ∈ [cn_402], c_sem l X (yY xa) xa d C := by
  have hY := yY_ok xa
  have hYS := yY_str xa
  have hIx := ix_K_ok (l := l) (X := X) hY hYS
  intro C hC
  obtain rfl := List.mem_singleton.mp hC
  exact c_meth mq_95_kt hY hYS hIx hX (q := mq_95) mq_95_at mq_95_pl mq_95_k cs_cy hcs cn_402_ok
theorem sc_2 (hX : ∀ i, i < 2 → X i = some ((x_tab i).map Int32.ofInt)) (hcs : ∀ d', d = d' + 1 → ∀ y, ∀ C ∈ cs_at y, c_sem l X (yY xa) xa d' C) : ∀ r ∈ cs_tab_2, ∀ C ∈ r, c_sem l X (yY xa) xa d C := by
  unfold cs_tab_2
  refine List.forall_mem_cons.mpr ⟨sm_64 hX hcs, ?_⟩
  refine List.forall_mem_cons.mpr ⟨sm_65 hX hcs, ?_⟩
  refine List.forall_mem_cons.mpr ⟨sm_66 hX hcs, ?_⟩
  refine List.forall_mem_cons.mpr ⟨sm_67 hX hcs, ?_⟩
  refine List.forall_mem_cons.mpr ⟨sm_68 hX hcs, ?_⟩
  refine List.forall_mem_cons.mpr ⟨sm_69 hX hcs, ?_⟩
  refine List.forall_mem_cons.mpr ⟨sm_70 hX hcs, ?_⟩
  refine List.forall_mem_cons.mpr ⟨sm_71 hX hcs, ?_⟩
  refine List.forall_mem_cons.mpr ⟨sm_72 hX hcs, ?_⟩
  refine List.forall_mem_cons.mpr ⟨sm_73 hX hcs, ?_⟩
  refine List.forall_mem_cons.mpr ⟨sm_74 hX hcs, ?_⟩
  refine List.forall_mem_cons.mpr ⟨sm_75 hX hcs, ?_⟩
  refine List.forall_mem_cons.mpr ⟨sm_76 hX hcs, ?_⟩
  refine List.forall_mem_cons.mpr ⟨sm_77 hX hcs, ?_⟩
  refine List.forall_mem_cons.mpr ⟨sm_78 hX hcs, ?_⟩
  refine List.forall_mem_cons.mpr ⟨sm_79 hX hcs, ?_⟩
  refine List.forall_mem_cons.mpr ⟨sm_80 hX hcs, ?_⟩
  refine List.forall_mem_cons.mpr ⟨sm_81 hX hcs, ?_⟩
  refine List.forall_mem_cons.mpr ⟨sm_82 hX hcs, ?_⟩
  refine List.forall_mem_cons.mpr ⟨sm_83 hX hcs, ?_⟩
  refine List.forall_mem_cons.mpr ⟨sm_84 hX hcs, ?_⟩
  refine List.forall_mem_cons.mpr ⟨sm_85 hX hcs, ?_⟩
  refine List.forall_mem_cons.mpr ⟨sm_86 hX hcs, ?_⟩
  refine List.forall_mem_cons.mpr ⟨sm_87 hX hcs, ?_⟩
  refine List.forall_mem_cons.mpr ⟨sm_88 hX hcs, ?_⟩
  refine List.forall_mem_cons.mpr ⟨sm_89 hX hcs, ?_⟩
  refine List.forall_mem_cons.mpr ⟨sm_90 hX hcs, ?_⟩
  refine List.forall_mem_cons.mpr ⟨sm_91 hX hcs, ?_⟩
  refine List.forall_mem_cons.mpr ⟨sm_92 hX hcs, ?_⟩
  refine List.forall_mem_cons.mpr ⟨sm_93 hX hcs, ?_⟩
  refine List.forall_mem_cons.mpr ⟨sm_94 hX hcs, ?_⟩
  refine List.forall_mem_cons.mpr ⟨sm_95 hX hcs, ?_⟩
  exact fun _ h => absurd h List.not_mem_nil
end AS
end
