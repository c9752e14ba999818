/-! CONTRACTS over the small machine, and calls by them -/
def m_ws (y : MethodName) (b : ByteArray) (n : Nat) (r : Option FieldType) : List Cond := .code y b n r :: a_tb
def m_rm (d mc ms : Nat) : Room := { frames := d, cells := mc, slots := ms, locals := 40 * d }
def m_Pc (dC : Nat → ClassId) (dI : Nat → Nat → Nat) (aC : Nat → ClassId) (X : Nat → Option (List Int32)) (Y : (Nat → Prop) → State → Heap → Prop) (xa ad : Nat → Nat) (sz : Nat) (σ : m_H) (as : List Value) : Array Value → State → Prop :=
  va_Pc (as.map (m_re ad)) (fun U => U.heap.size = sz ∧ va_P (dC, dI) vwCl (m_W ad aC σ) U.heap ∧ va_K (dC, dI) vwCl (m_tys aC) U ∧ va_D (fun _ => True) (m_W ad aC σ) ∧ m_Ext X Y xa (va_A (m_W ad aC σ) sz) U U.heap)
def m_Qc (dC : Nat → ClassId) (dI : Nat → Nat → Nat) (aC : Nat → ClassId) (xa ad : Nat → Nat) (sz : Nat) (σ : m_H) (Q : Option Value → m_H → Prop) : Array Value → State → Outcome → State → Prop := fun _ st oc t =>
  (∃ (r : Option Value) (σ' : m_H) (ad' : Nat → Nat), oc = .returned (r.map (m_re ad')) ∧ Q r σ' ∧ (∀ k, k < σ.length → ad' k = ad k) ∧ (∀ k, ad' (m_X0 + k) = xa k) ∧ va_P (dC, dI) vwCl (m_W ad' aC σ') t.heap ∧ va_K (dC, dI) vwCl (m_tys aC) t ∧ va_D (va_A (m_W ad aC σ) sz) (m_W ad' aC σ')) ∧ va_F (va_A (m_W ad aC σ) sz) st t
/-- from the cells σ and these arguments the method comes back, within d frames, mc cells and ms slots, and what it gives and leaves is Q's -/
def v_K (l : Launch) (X : Nat → Option (List Int32)) (Y : (Nat → Prop) → State → Heap → Prop) (xa : Nat → Nat) (d : Nat) (y : MethodName) (b : ByteArray) (n : Nat) (r : Option FieldType) (σ : m_H) (as : List Value) (Q : Option Value → m_H → Prop) (mc ms : Nat) : Prop :=
  ∀ (dC : Nat → ClassId) (dI : Nat → Nat → Nat) (aC : Nat → ClassId) (ad : Nat → Nat) (sz : Nat), (∀ k, ad (m_X0 + k) = xa k) → Met l y (m_ws y b n r) (m_rm d mc ms) (m_Pc dC dI aC X Y xa ad sz σ as) (m_Qc dC dI aC xa ad sz σ Q) mc ms (va_A (m_W ad aC σ) sz)
theorem m_sl_len (ad : Nat → Nat) (vs : List Value) : (lg_sl (vs.map (m_re ad))).length = (lg_sl vs).length := by
  induction vs with
  | nil => rfl
  | cons v l ih =>
    simp only [lg_sl, List.map_cons, List.flatMap_cons, List.length_append] at ih ⊢
    rw [ih, m_re_cat]
    split <;> rfl
theorem v_K_of {l : Launch} {X : Nat → Option (List Int32)} {Y : (Nat → Prop) → State → Heap → Prop} {xa : Nat → Nat} {d : Nat} {y : MethodName} {b : ByteArray} {n : Nat} {r : Option FieldType} {σ : m_H} {as : List Value} {Q : Option Value → m_H → Prop} {mc ms : Nat} (hy : plainFor y = true) (hlen : (lg_sl as).length ≤ n)
    (body : ∀ (p : Program) (e : Env) (s : State) (m : MethodId) (args : Array Value) (below : List Frame) (meth : Method) (c : Code) (dC : Nat → ClassId) (dI : Nat → Nat → Nat) (aC : Nat → ClassId) (ad : Nat → Nat) (sz : Nat), m_Ctx p s m args meth c b n y.cls dC dI aC (va_A (m_W ad aC σ) sz) xa X Y → meth.name = y.name → meth.sig.returnType = r →
      mV p l e (m_rm d mc ms) s m args below meth c (MQ below (m_Qc dC dI aC xa ad sz σ Q) args s mc ms (va_A (m_W ad aC σ) sz)) dC dI aC (va_A (m_W ad aC σ) sz) σ.length ad xa n (σ, 0, 0, 0, lv_args 0 as, [])) : v_K l X Y xa d y b n r σ as Q mc ms := by
  intro dC dI aC ad sz hX
  refine va_MetF (cc := b) (maxL := n) (ret := r) hy rfl ?_
  intro p e s m args below meth c s₁ B hml hv
  obtain ⟨ha, hsz, hP, hK, hD0, hE⟩ := hv
  have hts := atoms_spec (ws := m_ws y b n r) B.pre
  have hown : s.vm.findClass y.cls = some m.cls := findClass_of_methodNamed B.named
  have hC : m_Ctx p s m args meth c b n y.cls dC dI aC (va_A (m_W ad aC σ) sz) xa X Y := ⟨B.exec, B.bytes, hml, hown, fun w hw => hts w (List.mem_cons_of_mem _ hw), hK, fun q h => Or.inr (by rw [← hsz]; exact h), hE, B.notSynchronized⟩
  have hD := hD0.self (sz := sz)
  have hl := lv_entry (as.map (m_re ad)) (n := n) (by rw [m_sl_len]; exact hlen)
  rw [ha, lg_entry_eq]
  generalize (lg_sl (as.map (m_re ad)) ++ List.replicate (n - (lg_sl (as.map (m_re ad))).length) Slot.unset).toArray = lsC at hl ⊢
  rw [m_lv_args] at hl
  have hb := body p e s m args below meth c dC dI aC ad sz hC (name_of_methodNamed B.named B.method).1 B.returns ad s.heap [] lsC (fun _ _ => rfl) hX hP hD va_S.rf hl
  rw [← ha]
  exact hb
theorem mV_mono {p : Program} {l : Launch} {e : Env} {R : Room} {s : State} {m : MethodId} {args : Array Value} {below : List Frame} {meth : Method} {c : Code} {QQ QR : State → Prop} {dC : Nat → ClassId} {dI : Nat → Nat → Nat} {aC : Nat → ClassId} {A : Nat → Prop} {n0 : Nat} {ad0 xa : Nat → Nat} {nL : Nat} {g : m_G} (h : ∀ t, QQ t → QR t) (k : mV p l e R s m args below meth c QQ dC dI aC A n0 ad0 xa nL g) : mV p l e R s m args below meth c QR dC dI aC A n0 ad0 xa nL g := fun ad H locs lsC h1 h2 h3 h4 h5 h6 T hT X => by
  obtain ⟨t, a, b⟩ := k ad H locs lsC h1 h2 h3 h4 h5 h6 T hT X
  exact ⟨t, a, h t b⟩
theorem v_K.mono {l : Launch} {X : Nat → Option (List Int32)} {Y : (Nat → Prop) → State → Heap → Prop} {xa : Nat → Nat} {d : Nat} {y : MethodName} {b : ByteArray} {n : Nat} {r : Option FieldType} {σ : m_H} {as : List Value} {Q Q' : Option Value → m_H → Prop} {mc ms : Nat} (k : v_K l X Y xa d y b n r σ as Q mc ms) (h : ∀ r σ', Q r σ' → Q' r σ') : v_K l X Y xa d y b n r σ as Q' mc ms := fun dC dI aC ad sz hX => by
  have hM := k dC dI aC ad sz hX
  intro p e ha hf hc s m args below hfr hap hP hK
  obtain ⟨n', o, h1, h2, h3, h4, hL⟩ := hM p e ha hf hc s m args below hfr hap hP hK
  obtain ⟨⟨r, σ', ad', q1, q2, q3⟩, q4⟩ := h4
  exact ⟨n', o, h1, h2, h3, ⟨⟨r, σ', ad', q1, h r σ' q2, q3⟩, q4⟩, hL⟩
section MCR
variable {p : Program} {l : Launch} {e : Env} {R : Room} {s : State} {m : MethodId} {args : Array Value} {below : List Frame} {meth : Method} {c : Code} {dC : Nat → ClassId} {dI : Nat → Nat → Nat} {aC : Nat → ClassId} {ad0 xa : Nat → Nat} {nL : Nat} {cc : ByteArray} {own : String} {X : Nat → Option (List Int32)} {Y : (Nat → Prop) → State → Heap → Prop}
variable {σ σ0 : m_H} {ce sl pc sz mc ms : Nat} {ls : List (Nat × Value)} {st : List Value} {Q : Option Value → m_H → Prop}
theorem mV_vret (hC : m_Ctx p s m args meth c cc nL own dC dI aC (va_A (m_W ad0 aC σ0) sz) xa X Y) (hd : decode cc pc = .ok (.return_, 1)) (hr : meth.sig.returnType = none) (hQ : Q none σ) (hce : ce ≤ mc) (hsl : sl ≤ ms) :
    mV p l e R s m args below meth c (MQ below (m_Qc dC dI aC xa ad0 sz σ0 Q) args s mc ms (va_A (m_W ad0 aC σ0) sz)) dC dI aC (va_A (m_W ad0 aC σ0) sz) σ0.length ad0 xa nL (σ, ce, sl, pc, ls, []) := by
  intro ad H locs lsC h1 h2 h3 h4 h5 h6
  refine W.widen (k := mc) (n := ms) hce hsl ?_
  exact W.vret hC.1 hC.2.1 hr (fun t ht hW => ⟨⟨none, σ, ad, rfl, hQ, h1, h2, by rw [ht]; exact h3, va_K.moved hW.alike hC.2.2.2.2.2.1, h4⟩, h5.F ht⟩) h5.2.2 hd hC.2.2.2.2.2.2.2.2
theorem mV_iret (hC : m_Ctx p s m args meth c cc nL own dC dI aC (va_A (m_W ad0 aC σ0) sz) xa X Y) {x : Int32} {ty : FieldType} (hd : decode cc pc = .ok (.ireturn, 1)) (hr : meth.sig.returnType = some ty) (hn : narrow ty (.int x) = .int x) (hQ : Q (some (.int x)) σ) (hce : ce ≤ mc) (hsl : sl ≤ ms) :
    mV p l e R s m args below meth c (MQ below (m_Qc dC dI aC xa ad0 sz σ0 Q) args s mc ms (va_A (m_W ad0 aC σ0) sz)) dC dI aC (va_A (m_W ad0 aC σ0) sz) σ0.length ad0 xa nL (σ, ce, sl, pc, ls, [.int x]) := by
  intro ad H locs lsC h1 h2 h3 h4 h5 h6
  refine W.widen (k := mc) (n := ms) hce hsl ?_
  exact W.zret hC.1 hC.2.1 hr hn (fun t ht hW => ⟨⟨some (.int x), σ, ad, rfl, hQ, h1, h2, by rw [ht]; exact h3, va_K.moved hW.alike hC.2.2.2.2.2.1, h4⟩, h5.F ht⟩) h5.2.2 hd hC.2.2.2.2.2.2.2.2
theorem mV_lret (hC : m_Ctx p s m args meth c cc nL own dC dI aC (va_A (m_W ad0 aC σ0) sz) xa X Y) {x : Int64} (hd : decode cc pc = .ok (.lreturn, 1)) (hr : meth.sig.returnType = some .long) (hQ : Q (some (.long x)) σ) (hce : ce ≤ mc) (hsl : sl ≤ ms) :
    mV p l e R s m args below meth c (MQ below (m_Qc dC dI aC xa ad0 sz σ0 Q) args s mc ms (va_A (m_W ad0 aC σ0) sz)) dC dI aC (va_A (m_W ad0 aC σ0) sz) σ0.length ad0 xa nL (σ, ce, sl, pc, ls, [.long x]) := by
  intro ad H locs lsC h1 h2 h3 h4 h5 h6
  refine W.widen (k := mc) (n := ms) hce hsl ?_
  exact W.lret hC.1 hC.2.1 hr (fun t ht hW => ⟨⟨some (.long x), σ, ad, rfl, hQ, h1, h2, by rw [ht]; exact h3, va_K.moved hW.alike hC.2.2.2.2.2.1, h4⟩, h5.F ht⟩) h5.2.2 hd hC.2.2.2.2.2.2.2.2
end MCR
theorem a_good {ws : List Cond} (h : ∀ w ∈ ws, w ∈ a_tb) : GoodIn a_tb ws := fun w hw => ⟨h w hw, good_of_word (List.mem_filter.mp (h w hw)).2⟩
section MCL
variable {p : Program} {l : Launch} {e : Env} {R : Room} {s : State} {m : MethodId} {args : Array Value} {below : List Frame} {meth : Method} {c : Code} {QQ : State → Prop} {dC : Nat → ClassId} {dI : Nat → Nat → Nat} {aC : Nat → ClassId} {A : Nat → Prop} {n0 : Nat} {ad0 xa : Nat → Nat} {nL : Nat} {cc : ByteArray} {own : String} {X : Nat → Option (List Int32)} {Y : (Nat → Prop) → State → Heap → Prop}
variable {σ : m_H} {ce sl pc mc ms : Nat} {ls : List (Nat × Value)} {st as : List Value} {Q : Option Value → m_H → Prop}
theorem m_wfree {ad : Nat → Nat} {H : Heap} {locs : List Loc} (hA : ∀ q, s.heap.size ≤ q → A q) (h4 : va_D A (m_W ad aC σ)) (h5 : va_S A s.heap H locs) : ∀ q, va_A (m_W ad aC σ) H.size q → A q := by
  intro q h
  rcases h with ⟨k, e, h⟩ | h
  · exact h4.2 k (q, e) h
  · exact hA q (Nat.le_trans h5.1 h)
theorem m_pre {ad : Nat → Nat} {H : Heap} {locs : List Loc} (hY : m_Yok Y) (hC : m_Ctx p s m args meth c cc nL own dC dI aC A xa X Y) (h3 : va_P (dC, dI) vwCl (m_W ad aC σ) H) (h4 : va_D A (m_W ad aC σ)) (h5 : va_S A s.heap H locs) :
    ∀ U : State, U.heap = H → s.WarmedH U.vm → m_Pc dC dI aC X Y xa ad H.size σ as (as.map (m_re ad)).toArray U := by
  intro U hU hW
  have hE : m_Ext X Y xa A s H := m_Ext.kept hY h5.2.1 hC.2.2.2.2.2.2.2.1
  have hE2 : m_Ext X Y xa (va_A (m_W ad aC σ) H.size) U H := (hE.warm hY hW).narrow hY (m_wfree hC.2.2.2.2.2.2.1 h4 h5)
  subst hU
  exact ⟨rfl, rfl, h3, va_K.moved hW.alike hC.2.2.2.2.2.1, h4.weaken (fun _ _ _ _ => trivial), hE2⟩
theorem m_blind {ad : Nat → Nat} {sz : Nat} (hY : m_Yok Y) : FrameBlind (m_Pc dC dI aC X Y xa ad sz σ as) := fun a U g mk q => by
  obtain ⟨q0, q1, qP, qK, qD, qE⟩ := q
  exact ⟨q0, q1, qP, va_K.moved (u := U) (U := U.calling g mk a) (Vm.Alike.refl U.vm) qK, qD, m_Ext.same (u := U) (U := U.calling g mk a) hY rfl qE⟩
theorem m_goOn {ad : Nat → Nat} {H : Heap} {locs : List Loc} {lsC : Array Slot} {st0 : List Value} {a : Array Value} (hC : m_Ctx p s m args meth c cc nL own dC dI aC A xa X Y)
    (hr : va_Run p l e R s m args below meth c H locs ce sl mc ms (F0 m pc lsC st0) (st.map (m_re ad)) (m_Qc dC dI aC xa ad H.size σ Q a) (va_A (m_W ad aC σ) H.size))
    (h1 : ∀ k, k < n0 → ad k = ad0 k) (h2 : ∀ k, ad (m_X0 + k) = xa k) (hn0 : n0 ≤ σ.length) (h4 : va_D A (m_W ad aC σ)) (h5 : va_S A s.heap H locs) (h6 : lv_has lsC nL (m_lv ad ls)) (ho : ∀ v ∈ st, m_vOk σ.length v) (hol : ∀ q ∈ ls, m_vOk σ.length q.2)
    (kk : ∀ (r : Option Value) (σ' : m_H), Q r σ' → mV p l e R s m args below meth c QQ dC dI aC A n0 ad0 xa nL (σ', ce + mc, sl + ms, pc + 3, ls, r.toList ++ st)) :
    W p l e R s m args below meth c H locs ce sl QQ (F0 m pc lsC st0) := by
  have hfree := m_wfree (aC := aC) hC.2.2.2.2.2.2.1 h4 h5
  intro T hT Xs
  obtain ⟨v, st₀, t, T', L, e0, X', hL, e1, e2, ⟨⟨r, σ', ad', hv, hQ, g1, g2, g3, g4, g5⟩, hz, hk⟩, stp⟩ := hr T hT Xs
  obtain rfl : v = r.map (m_re ad') := by injection hv
  rw [e0] at hz hk
  have hag : ∀ k, (k < σ.length ∨ m_X0 ≤ k) → ad k = ad' k := by
    intro k hk2
    rcases hk2 with hk2 | hk2
    · exact (g1 k hk2).symm
    · obtain ⟨j, rfl⟩ := Nat.exists_eq_add_of_le hk2
      rw [h2, g2]
  have est : st.map (m_re ad) = st.map (m_re ad') := List.map_congr_left fun v hv => m_re_congr hag (ho v hv)
  have els : m_lv ad ls = m_lv ad' ls := List.map_congr_left fun q hq => by rw [m_re_congr hag (hol q hq)]
  have kk2 := kk r σ' hQ ad' T'.heap (locs ++ L) lsC (fun k h => (g1 k (Nat.lt_of_lt_of_le h hn0)).trans (h1 k h)) g2 (by rw [e1]; exact g3) (g5.weaken fun _ q _ h => hfree _ h)
    ⟨Nat.le_trans h5.1 (by rw [e1]; exact hz), fun q q1 q2 => by rw [e1, hk q (Nat.lt_of_lt_of_le q1 h5.1) (fun z => q2 (hfree q z))]; exact h5.2.1 q q1 q2, fun q hq => by
      rcases List.mem_append.mp hq with h | h
      · exact h5.2.2 q h
      · exact hfree _ (hL q h)⟩ (by rw [← els]; exact h6)
  obtain ⟨t2, a1, b1⟩ := kk2 T' rfl X'
  refine ⟨t2, stp t2 ?_, b1⟩
  have ex : (r.toList ++ st).map (m_re ad') = (r.map (m_re ad')).toList ++ st.map (m_re ad) := by
    rw [List.map_append, est]
    cases r <;> rfl
  have a2 : Steps p.tables e below (T'.setTop (F0 m (pc + 3) lsC ((r.toList ++ st).map (m_re ad')))) t2 := a1
  rw [ex] at a2
  exact a2
theorem m_cats8 {ad : Nat → Nat} {lsC : Array Slot} (h : (st.map fun v => v.category).sum ≤ 8) (st0 : List Value) : 2 * (F0 m pc lsC st0).monitorRoom + ((st.map (m_re ad)).map fun v => v.category).sum ≤ 8 := by
  rw [m_cats]
  show 2 * 0 + _ ≤ 8
  omega
theorem m_Ctx.fix (hC : m_Ctx p s m args meth c cc nL own dC dI aC A xa X Y) : CallFix p m c cc nL s args a_tb own := ⟨hC.1, hC.2.1, hC.2.2.1, hC.2.2.2.1, hC.2.2.2.2.1⟩
theorem m_wsIn {y : MethodName} {b : ByteArray} {n : Nat} {rt : Option FieldType} (h : Cond.code y b n rt ∈ a_tb) : ∀ w ∈ m_ws y b n rt, w ∈ a_tb := fun w hw => by
  rcases List.mem_cons.mp hw with h1 | h1
  · rw [h1]; exact h
  · exact h1
theorem m_room {d n : Nat} (hR : d + 1 ≤ R.frames ∧ 40 * d + 40 ≤ R.locals) (h20 : n ≤ 20) : (m_rm d mc ms).frames + 1 ≤ R.frames ∧ 8 + (n + 11) + (m_rm d mc ms).locals ≤ R.locals := ⟨hR.1, by show 8 + (n + 11) + 40 * d ≤ R.locals; omega⟩
/-- a call of an object's method -/
theorem mV_callV (hY : m_Yok Y) (hC : m_Ctx p s m args meth c cc nL own dC dI aC A xa X Y) {q ci idx d n : Nat} {r0 : vw_C} {fs : List Value} {y : MethodName} {b : ByteArray} {rt : Option FieldType} (hd : decode cc pc = .ok (.invokevirtual idx, 3)) (hM : v_K l X Y xa d y b n rt σ (.ref q :: as) Q mc ms) (hσ : σ[q]? = some (.inr ci, fs)) (hc : vwCl[ci]? = some r0) (hyc : y.cls = r0.1)
    (w1 : Cond.methodLink own idx y ∈ a_tb) (w2 : Cond.instanceMethod y ∈ a_tb) (w3 : Cond.selects r0.1 y y ∈ a_tb) (w4 : Cond.initialized r0.1 ∈ a_tb) (w5 : Cond.code y b n rt ∈ a_tb) (hy : y.cls ≠ "java/lang/invoke/MethodHandle" ∧ y.cls ≠ "java/lang/invoke/VarHandle") (hlen : (parseMethodDescriptor y.desc).map (fun d => d.parameters.length) = some as.length)
    (hR : d + 1 ≤ R.frames ∧ 40 * d + 40 ≤ R.locals) (h20 : n ≤ 20) (hce : ce + mc ≤ R.cells) (hsl : sl + ms ≤ R.slots) (h8 : (st.map fun v => v.category).sum ≤ 8) (hn0 : n0 ≤ σ.length) (ho : ∀ v ∈ st, m_vOk σ.length v) (hol : ∀ q ∈ ls, m_vOk σ.length q.2)
    (kk : ∀ (r : Option Value) (σ' : m_H), Q r σ' → mV p l e R s m args below meth c QQ dC dI aC A n0 ad0 xa nL (σ', ce + mc, sl + ms, pc + 3, ls, r.toList ++ st)) : mV p l e R s m args below meth c QQ dC dI aC A n0 ad0 xa nL (σ, ce, sl, pc, ls, as.reverse ++ .ref q :: st) := by
  intro ad H locs lsC h1 h2 h3 h4 h5 h6
  have hG : GoodIn a_tb (wsV own idx r0.1 y (m_ws y b n rt)) := a_good fun w hw => by
    rcases List.mem_append.mp hw with h | h
    · simp only [List.mem_cons, List.not_mem_nil, or_false] at h
      rcases h with rfl | rfl | rfl | rfl <;> assumption
    · exact m_wsIn w5 w h
  refine m_goOn hC (ad := ad) (σ := σ) (H := H) (locs := locs) (va_runV (As := as.map (m_re ad)) (rest := st.map (m_re ad)) (g := F0 m pc lsC ((as.reverse ++ .ref q :: st).map (m_re ad))) hC.fix (hM dC dI aC ad H.size h2)
    (cwV as.length hC.2.2.2.2.1 hG rfl rfl rfl ⟨hyc, hy.1, hy.2, hlen⟩ (m_room hR h20)) ⟨m_blind hY, va_recv hC.2.2.2.2.2.1 h3 hc (m_W_at hσ), m_pre (as := .ref q :: as) hY hC h3 h4 h5⟩ rfl (by simp) h6.1 (by simp [m_re]) (m_cats8 h8 _) hd ⟨hce, hsl⟩) h1 h2 hn0 h4 h5 h6 ho hol kk
theorem mV_callS (hY : m_Yok Y) (hC : m_Ctx p s m args meth c cc nL own dC dI aC A xa X Y) {idx d n : Nat} {y : MethodName} {b : ByteArray} {rt : Option FieldType} (hd : decode cc pc = .ok (.invokestatic idx, 3)) (hM : v_K l X Y xa d y b n rt σ as Q mc ms)
    (w1 : Cond.methodLink own idx y ∈ a_tb) (w2 : Cond.static y ∈ a_tb) (w4 : Cond.initialized y.cls ∈ a_tb) (w5 : Cond.code y b n rt ∈ a_tb) (hy : y.cls ≠ "java/lang/invoke/MethodHandle" ∧ y.cls ≠ "java/lang/invoke/VarHandle") (hlen : (parseMethodDescriptor y.desc).map (fun d => d.parameters.length) = some as.length)
    (hR : d + 1 ≤ R.frames ∧ 40 * d + 40 ≤ R.locals) (h20 : n ≤ 20) (hce : ce + mc ≤ R.cells) (hsl : sl + ms ≤ R.slots) (h8 : (st.map fun v => v.category).sum ≤ 8) (hn0 : n0 ≤ σ.length) (ho : ∀ v ∈ st, m_vOk σ.length v) (hol : ∀ q ∈ ls, m_vOk σ.length q.2)
    (kk : ∀ (r : Option Value) (σ' : m_H), Q r σ' → mV p l e R s m args below meth c QQ dC dI aC A n0 ad0 xa nL (σ', ce + mc, sl + ms, pc + 3, ls, r.toList ++ st)) : mV p l e R s m args below meth c QQ dC dI aC A n0 ad0 xa nL (σ, ce, sl, pc, ls, as.reverse ++ st) := by
  intro ad H locs lsC h1 h2 h3 h4 h5 h6
  have hG : GoodIn a_tb (va_wsS own idx y (m_ws y b n rt)) := a_good fun w hw => by
    rcases List.mem_append.mp hw with h | h
    · simp only [List.mem_cons, List.not_mem_nil, or_false] at h
      rcases h with rfl | rfl | rfl <;> assumption
    · exact m_wsIn w5 w h
  refine m_goOn hC (ad := ad) (σ := σ) (H := H) (locs := locs) (va_runS (As := as.map (m_re ad)) (rest := st.map (m_re ad)) (g := F0 m pc lsC ((as.reverse ++ st).map (m_re ad))) hC.fix (hM dC dI aC ad H.size h2)
    (va_cwS as.length hC.2.2.2.2.1 hG rfl rfl rfl ⟨hy.1, hy.2, hlen⟩ (m_room hR h20)) ⟨m_blind hY, m_pre (as := as) hY hC h3 h4 h5⟩ rfl (by simp) h6.1 (by simp) (m_cats8 h8 _) hd ⟨hce, hsl⟩) h1 h2 hn0 h4 h5 h6 ho hol kk
theorem mV_callSN (hY : m_Yok Y) (hC : m_Ctx p s m args meth c cc nL own dC dI aC A xa X Y) {idx d n : Nat} {host : String} {y : MethodName} {b : ByteArray} {rt : Option FieldType} (hd : decode cc pc = .ok (.invokestatic idx, 3)) (hM : v_K l X Y xa d y b n rt σ as Q mc ms)
    (w1 : Cond.methodLinkNest own idx y host ∈ a_nb) (w2 : Cond.static y ∈ a_tb) (w4 : Cond.initialized y.cls ∈ a_tb) (w5 : Cond.code y b n rt ∈ a_tb) (hy : y.cls ≠ "java/lang/invoke/MethodHandle" ∧ y.cls ≠ "java/lang/invoke/VarHandle") (hlen : (parseMethodDescriptor y.desc).map (fun d => d.parameters.length) = some as.length)
    (hR : d + 1 ≤ R.frames ∧ 40 * d + 40 ≤ R.locals) (h20 : n ≤ 20) (hce : ce + mc ≤ R.cells) (hsl : sl + ms ≤ R.slots) (h8 : (st.map fun v => v.category).sum ≤ 8) (hn0 : n0 ≤ σ.length) (ho : ∀ v ∈ st, m_vOk σ.length v) (hol : ∀ q ∈ ls, m_vOk σ.length q.2)
    (kk : ∀ (r : Option Value) (σ' : m_H), Q r σ' → mV p l e R s m args below meth c QQ dC dI aC A n0 ad0 xa nL (σ', ce + mc, sl + ms, pc + 3, ls, r.toList ++ st)) : mV p l e R s m args below meth c QQ dC dI aC A n0 ad0 xa nL (σ, ce, sl, pc, ls, as.reverse ++ st) := by
  intro ad H locs lsC h1 h2 h3 h4 h5 h6
  refine m_goOn hC (ad := ad) (σ := σ) (H := H) (locs := locs) (va_runSN (As := as.map (m_re ad)) (rest := st.map (m_re ad)) (g := F0 m pc lsC ((as.reverse ++ st).map (m_re ad))) hC.fix (hM dC dI aC ad H.size h2)
    ⟨va_cnB as.length hC.2.2.2.2.1 (a_good (m_wsIn w5)) rfl rfl rfl (hC.2.2.2.2.2.2.2.1.2.2.2.1 _ w1) (hC.2.2.2.2.1 _ w4) ⟨hy.1, hy.2, hlen⟩ (m_room hR h20), hC.2.2.2.2.1 _ w2, trivial⟩ ⟨m_blind hY, m_pre (as := as) hY hC h3 h4 h5⟩ rfl (by simp) h6.1 (by simp) (m_cats8 h8 _) hd ⟨hce, hsl⟩) h1 h2 hn0 h4 h5 h6 ho hol kk
/-- a call of a constructor -/
theorem mV_callI (hY : m_Yok Y) (hC : m_Ctx p s m args meth c cc nL own dC dI aC A xa X Y) {q idx d n : Nat} {y : MethodName} {b : ByteArray} (hd : decode cc pc = .ok (.invokespecial idx, 3)) (hM : v_K l X Y xa d y b n none σ (.ref q :: as) Q mc ms) (hyn : y.name = "<init>")
    (w1 : Cond.methodLink own idx y ∈ a_tb) (w2 : Cond.instanceMethod y ∈ a_tb) (w4 : Cond.initialized y.cls ∈ a_tb) (w5 : Cond.code y b n none ∈ a_tb) (hy : y.cls ≠ "java/lang/invoke/MethodHandle" ∧ y.cls ≠ "java/lang/invoke/VarHandle") (hlen : (parseMethodDescriptor y.desc).map (fun d => d.parameters.length) = some as.length)
    (hR : d + 1 ≤ R.frames ∧ 40 * d + 40 ≤ R.locals) (h20 : n ≤ 20) (hce : ce + mc ≤ R.cells) (hsl : sl + ms ≤ R.slots) (h8 : (st.map fun v => v.category).sum ≤ 8) (hn0 : n0 ≤ σ.length) (ho : ∀ v ∈ st, m_vOk σ.length v) (hol : ∀ q ∈ ls, m_vOk σ.length q.2)
    (kk : ∀ (r : Option Value) (σ' : m_H), Q r σ' → mV p l e R s m args below meth c QQ dC dI aC A n0 ad0 xa nL (σ', ce + mc, sl + ms, pc + 3, ls, r.toList ++ st)) : mV p l e R s m args below meth c QQ dC dI aC A n0 ad0 xa nL (σ, ce, sl, pc, ls, as.reverse ++ .ref q :: st) := by
  intro ad H locs lsC h1 h2 h3 h4 h5 h6
  refine m_goOn hC (ad := ad) (σ := σ) (H := H) (locs := locs) (va_runI (As := as.map (m_re ad)) (rest := st.map (m_re ad)) (g := F0 m pc lsC ((as.reverse ++ .ref q :: st).map (m_re ad))) (b := ad q) hC.fix (hM dC dI aC ad H.size h2)
    (cwI as.length hC.2.2.2.2.1 (a_good (m_wsIn w5)) rfl rfl rfl (hC.2.2.2.2.1 _ w4) (hC.2.2.2.2.1 _ w1) (hC.2.2.2.2.1 _ w2) hyn ⟨hy.1, hy.2, hlen⟩ (m_room hR h20)) ⟨m_blind hY, m_pre (as := .ref q :: as) hY hC h3 h4 h5⟩ rfl (by simp) h6.1 (by simp [m_re]) (m_cats8 h8 _) hd ⟨hce, hsl⟩) h1 h2 hn0 h4 h5 h6 ho hol kk
theorem mV_callIN (hY : m_Yok Y) (hC : m_Ctx p s m args meth c cc nL own dC dI aC A xa X Y) {q idx d n : Nat} {host : String} {y : MethodName} {b : ByteArray} (hd : decode cc pc = .ok (.invokespecial idx, 3)) (hM : v_K l X Y xa d y b n none σ (.ref q :: as) Q mc ms) (hyn : y.name = "<init>")
    (w1 : Cond.methodLinkNest own idx y host ∈ a_nb) (w2 : Cond.instanceMethod y ∈ a_tb) (w4 : Cond.initialized y.cls ∈ a_tb) (w5 : Cond.code y b n none ∈ a_tb) (hy : y.cls ≠ "java/lang/invoke/MethodHandle" ∧ y.cls ≠ "java/lang/invoke/VarHandle") (hlen : (parseMethodDescriptor y.desc).map (fun d => d.parameters.length) = some as.length)
    (hR : d + 1 ≤ R.frames ∧ 40 * d + 40 ≤ R.locals) (h20 : n ≤ 20) (hce : ce + mc ≤ R.cells) (hsl : sl + ms ≤ R.slots) (h8 : (st.map fun v => v.category).sum ≤ 8) (hn0 : n0 ≤ σ.length) (ho : ∀ v ∈ st, m_vOk σ.length v) (hol : ∀ q ∈ ls, m_vOk σ.length q.2)
    (kk : ∀ (r : Option Value) (σ' : m_H), Q r σ' → mV p l e R s m args below meth c QQ dC dI aC A n0 ad0 xa nL (σ', ce + mc, sl + ms, pc + 3, ls, r.toList ++ st)) : mV p l e R s m args below meth c QQ dC dI aC A n0 ad0 xa nL (σ, ce, sl, pc, ls, as.reverse ++ .ref q :: st) := by
  intro ad H locs lsC h1 h2 h3 h4 h5 h6
  refine m_goOn hC (ad := ad) (σ := σ) (H := H) (locs := locs) (va_runIN (As := as.map (m_re ad)) (rest := st.map (m_re ad)) (g := F0 m pc lsC ((as.reverse ++ .ref q :: st).map (m_re ad))) (b := ad q) hC.fix (hM dC dI aC ad H.size h2)
    ⟨va_cnB as.length hC.2.2.2.2.1 (a_good (m_wsIn w5)) rfl rfl rfl (hC.2.2.2.2.2.2.2.1.2.2.2.1 _ w1) (hC.2.2.2.2.1 _ w4) ⟨hy.1, hy.2, hlen⟩ (m_room hR h20), hyn, hC.2.2.2.2.1 _ w2⟩ ⟨m_blind hY, m_pre (as := .ref q :: as) hY hC h3 h4 h5⟩ rfl (by simp) h6.1 (by simp [m_re]) (m_cats8 h8 _) hd ⟨hce, hsl⟩) h1 h2 hn0 h4 h5 h6 ho hol kk
/-- Object's own constructor -/
theorem mV_objInit (hC : m_Ctx p s m args meth c cc nL own dC dI aC A xa X Y) {q idx : Nat} (hd : decode cc pc = .ok (.invokespecial idx, 3)) (w1 : Cond.methodLink own idx Lib.objectInit ∈ a_tb) (w2 : Cond.instanceMethod Lib.objectInit ∈ a_tb) (w3 : Cond.code Lib.objectInit ⟨#[0xb1]⟩ 1 none ∈ a_tb) (hR : 1 ≤ R.frames ∧ 20 ≤ R.locals) (h8 : (st.map fun v => v.category).sum ≤ 8) (k : mV p l e R s m args below meth c QQ dC dI aC A n0 ad0 xa nL (σ, ce, sl, pc + 3, ls, st)) : mV p l e R s m args below meth c QQ dC dI aC A n0 ad0 xa nL (σ, ce, sl, pc, ls, .ref q :: st) := by
  intro ad H locs lsC h1 h2 h3 h4 h5 h6
  refine W.objInit hC.1 hC.2.1 hC.2.2.2.1 (m_ctb hC w1) (m_ctb hC w2) (m_ctb hC w3) (g := F0 m pc lsC ((.ref q :: st).map (m_re ad))) rfl (h6.1.trans hC.2.2.1.symm) (a := ad q) (rest := st.map (m_re ad)) rfl hd hR.1 ?_ (k ad H locs lsC h1 h2 h3 h4 h5 h6)
  rw [m_cats]
  show 2 * 0 + _ + 12 ≤ _
  omega
/-- System.arraycopy of int rows -/
theorem m_fI_cpy {fs gs : List Value} {sp dp n : Nat} (h : sp + n ≤ fs.length) (h2 : dp + n ≤ gs.length) : m_fI (gs.take dp ++ (fs.drop sp).take n ++ gs.drop (dp + n)) = va_cpy (m_fI fs) (m_fI gs) sp dp n := by
  funext j
  unfold va_cpy m_fI
  simp only [List.getD_eq_getElem?_getD]
  have e1 : (gs.take dp).length = dp := by simp; omega
  have e2 : ((fs.drop sp).take n).length = n := by simp; omega
  by_cases hj : dp ≤ j ∧ j < dp + n
  · rw [if_pos hj, List.getElem?_append_left (by simp; omega), List.getElem?_append_right (by omega), e1, List.getElem?_take, if_pos (by omega), List.getElem?_drop]
  · rw [if_neg hj]
    by_cases hj2 : j < dp
    · rw [List.getElem?_append_left (by simp; omega), List.getElem?_append_left (by omega), List.getElem?_take, if_pos hj2]
    · rw [List.getElem?_append_right (by simp; omega)]
      simp only [List.length_append, e1, e2, List.getElem?_drop]
      congr 2
      congr 1
      omega
theorem mV_copyi (hC : m_Ctx p s m args meth c cc nL own dC dI aC A xa X Y) {q0 q1 idx : Nat} {fs gs : List Value} {sp dp n : Int32} (hd : decode cc pc = .ok (.invokestatic idx, 3)) (w1 : Cond.methodLink own idx arraycopyName ∈ a_tb) (w2 : Cond.native arraycopyName ∈ a_tb) (w3 : Cond.static arraycopyName ∈ a_tb) (w4 : Cond.initialized "java/lang/System" ∈ a_tb)
    (hσ0 : σ[q0]? = some (.inl 0, fs)) (hσ1 : σ[q1]? = some (.inl 0, gs)) (g1 : ¬ sp < 0) (g2 : ¬ dp < 0) (g3 : ¬ n < 0) (g4 : sp.toNatClampNeg + n.toNatClampNeg ≤ fs.length) (g5 : dp.toNatClampNeg + n.toNatClampNeg ≤ gs.length) (hR : 1 ≤ R.frames ∧ 40 ≤ R.locals) (h8 : (st.map fun v => v.category).sum ≤ 8)
    (k : mV p l e R s m args below meth c QQ dC dI aC A n0 ad0 xa nL (σ.set q1 (.inl 0, gs.take dp.toNatClampNeg ++ (fs.drop sp.toNatClampNeg).take n.toNatClampNeg ++ gs.drop (dp.toNatClampNeg + n.toNatClampNeg)), ce, sl, pc + 3, ls, st)) : mV p l e R s m args below meth c QQ dC dI aC A n0 ad0 xa nL (σ, ce, sl, pc, ls, .int n :: .int dp :: .ref q1 :: .int sp :: .ref q0 :: st) := by
  intro ad H locs lsC h1 h2 h3 h4 h5 h6
  have ew : nativeFrameWords "java/lang/System" "arraycopy" 5 + 11 + 8 ≤ 40 := by decide +kernel
  refine va_copyi hC.1 hC.2.1 (hC.2.2.1.trans h6.1.symm) hC.2.2.2.1 (m_ctb hC w1) (m_ctb hC w2) (m_ctb hC w3) (m_ctb hC w4) hC.2.2.2.2.2.1 h3 h4 h5 q0 q1 0 0 (f := m_fI fs) (g := m_fI gs) (m_W_at hσ0) (m_W_at hσ1) (m_tys_at aC (t := 0) (by decide)) (m_tys_at aC (t := 0) (by decide)) rfl g1 g2 g3 g4 g5 (fun i _ => rfl) hR.1 ?_ hd (fun H1 locs1 k3 k4 k5 => ?_)
  · rw [m_cats]
    omega
  · rw [m_set_a (vs := gs) (vs' := gs.take dp.toNatClampNeg ++ (fs.drop sp.toNatClampNeg).take n.toNatClampNeg ++ gs.drop (dp.toNatClampNeg + n.toNatClampNeg)) (by
      have el : (gs.take dp.toNatClampNeg ++ (fs.drop sp.toNatClampNeg).take n.toNatClampNeg ++ gs.drop (dp.toNatClampNeg + n.toNatClampNeg)).length = gs.length := by simp; omega
      show (_, ite _ _ _) = _
      rw [el, m_fI_cpy g4 g5]; rfl)] at k3 k4
    exact k ad H1 locs1 lsC h1 h2 k3 k4 k5 h6
end MCL
