section
/-! CONTRACTS over the small machine, and calls by them -/
def m_ws (y : MethodName) (b : ByteArray) (n : Nat) (r : Option FieldType) : List Cond := .code y b n r :: a_tb
def m_rm (d mc ms : Nat) : Room := { frames := d, cells := mc, slots := ms, locals := 40 * d }
def m_Pc (dC : Nat → ClassId) (dI : Nat → Nat → Nat) (aC : Nat → ClassId) (X : Nat → Option (List Int32)) (Y : (Nat → Prop) → State → Heap → Prop) (xa ad : Nat → Nat) (sz : Nat) (σ : m_H) (as : List Value) : Array Value → State → Prop :=
  va_Pc (as.map (m_re ad)) (fun U => U.heap.size = sz ∧ va_P (dC, dI) vwCl (m_W ad aC σ) U.heap ∧ va_K (dC, dI) vwCl (m_tys aC) U ∧ va_D (fun _ => True) (m_W ad aC σ) ∧ m_Ext X Y xa (va_A (m_W ad aC σ) sz) U U.heap)
def m_Qc (dC : Nat → ClassId) (dI : Nat → Nat → Nat) (aC : Nat → ClassId) (xa ad : Nat → Nat) (sz : Nat) (σ : m_H) (Q : Option Value → m_H → Prop) : Array Value → State → Outcome → State → Prop := fun _ st oc t =>
  (∃ (r : Option Value) (σ' : m_H) (ad' : Nat → Nat), oc = .returned (r.map (m_re ad')) ∧ Q r σ' ∧ (∀ k, k < σ.length → ad' k = ad k) ∧ (∀ k, ad' (m_X0 + k) = xa k) ∧ va_P (dC, dI) vwCl (m_W ad' aC σ') t.heap ∧ va_K (dC, dI) vwCl (m_tys aC) t ∧ va_D (va_A (m_W ad aC σ) sz) (m_W ad' aC σ')) ∧ va_F (va_A (m_W ad aC σ) sz) st t
/-- from the cells σ and these arguments the method comes back, within d frames, mc cells and ms slots, and what it gives and leaves is Q's -/
def v_K (l : Launch) (X : Nat → Option (List Int32)) (Y : (Nat → Prop) → State → Heap → Prop) (xa : Nat → Nat) (d : Nat) (y : MethodName) (b : ByteArray) (n : Nat) (r : Option FieldType) (σ : m_H) (as : List Value) (Q : Option Value → m_H → Prop) (mc ms : Nat) : Prop :=
  ∀ (dC : Nat → ClassId) (dI : Nat → Nat → Nat) (aC : Nat → ClassId) (ad : Nat → Nat) (sz : Nat), (∀ k, ad (m_X0 + k) = xa k) → Met l y (m_ws y b n r) (m_rm d mc ms) (m_Pc dC dI aC X Y xa ad sz σ as) (m_Qc dC dI aC xa ad sz σ Q) mc ms (va_A (m_W ad aC σ) sz)
theorem m_sl_len (ad : Nat → Nat) (vs : List Value) : (lg_sl (vs.map (m_re ad))).length = (lg_sl vs).length := by
  induction vs with
  | nil => rfl
  | cons v l ih =>
    simp only [lg_sl, List.map_cons, List.flatMap_cons, List.length_append] at ih ⊢
    rw [ih, m_re_cat]
    split <;> rfl
theorem v_K_of {l : Launch} {X : Nat → Option (List Int32)} {Y : (Nat → Prop) → State → Heap → Prop} {xa : Nat → Nat} {d : Nat} {y : MethodName} {b : ByteArray} {n : Nat} {r : Option FieldType} {σ : m_H} {as : List Value} {Q : Option Value → m_H → Prop} {mc ms : Nat} (hy : plainFor y = true) (hlen : (lg_sl as).length ≤ n)
    (body : ∀ (p : Program) (e : Env) (s : State) (m : MethodId) (args : Array Value) (below : List Frame) (meth : Method) (c : Code) (dC : Nat → ClassId) (dI : Nat → Nat → Nat) (aC : Nat → ClassId) (ad : Nat → Nat) (sz : Nat), m_Ctx p s m args meth c b n y.cls dC dI aC (va_A (m_W ad aC σ) sz) xa X Y → meth.name = y.name → meth.sig.returnType = r →
      mV p l e (m_rm d mc ms) s m args below meth c (MQ below (m_Qc dC dI aC xa ad sz σ Q) args s mc ms (va_A (m_W ad aC σ) sz)) dC dI aC (va_A (m_W ad aC σ) sz) σ.length ad xa n (σ, 0, 0, 0, lv_args 0 as, [])) : v_K l X Y xa d y b n r σ as Q mc ms := by
  intro dC dI aC ad sz hX
  refine va_MetF (cc := b) (maxL := n) (ret := r) hy rfl ?_
  intro p e s m args below meth c s₁ B hml hv
  obtain ⟨ha, hsz, hP, hK, hD0, hE⟩ := hv
  have hts := atoms_spec (ws := m_ws y b n r) B.pre
  have hown : s.vm.findClass y.cls = some m.cls := findClass_of_methodNamed B.named
  have hC : m_Ctx p s m args meth c b n y.cls dC dI aC (va_A (m_W ad aC σ) sz) xa X Y := ⟨B.exec, B.bytes, hml, hown, fun w hw => hts w (List.mem_cons_of_mem _ hw), hK, fun q h => Or.inr (by rw [← hsz]; exact h), hE, B.notSynchronized⟩
  have hD := hD0.self (sz := sz)
  have hl := lv_entry (as.map (m_re ad)) (n := n) (by rw [m_sl_len]; exact hlen)
  rw [ha, lg_entry_eq]
  generalize (lg_sl (as.map (m_re ad)) ++ List.replicate (n - (lg_sl (as.map (m_re ad))).length) Slot.unset).toArray = lsC at hl ⊢
  rw [m_lv_args] at hl
  have hb := body p e s m args below meth c dC dI aC ad sz hC (name_of_methodNamed B.named B.method).1 B.returns ad s.heap [] lsC (fun _ _ => rfl) hX hP hD va_S.rf hl
  rw [← ha]
  exact hb
theorem mV_mono {p : Program} {l : Launch} {e : Env} {R : Room} {s : State} {m : MethodId} {args : Array Value} {below : List Frame} {meth : Method} {c : Code} {QQ QR : State → Prop} {dC : Nat → ClassId} {dI : Nat → Nat → Nat} {aC : Nat → ClassId} {A : Nat → Prop} {n0 : Nat} {ad0 xa : Nat → Nat} {nL : Nat} {g : m_G} (h : ∀ t, QQ t → QR t) (k : mV p l e R s m args below meth c QQ dC dI aC A n0 ad0 xa nL g) : mV p l e R s m args below meth c QR dC dI aC A n0 ad0 xa nL g := fun ad H locs lsC h1 h2 h3 h4 h5 h6 T hT X => by
  obtain ⟨t, a, b⟩ := k ad H locs lsC h1 h2 h3 h4 h5 h6 T hT X
  exact ⟨t, a, h t b⟩
theorem v_K.mono {l : Launch} {X : Nat → Option (List Int32)} {Y : (Nat → Prop) → State → Heap → Prop} {xa : Nat → Nat} {d : Nat} {y : MethodName} {b : ByteArray} {n : Nat} {r : Option FieldType} {σ : m_H} {as : List Value} {Q Q' : Option Value → m_H → Prop} {mc ms : Nat} (k : v_K l X Y xa d y b n r σ as Q mc ms) (h : ∀ r σ', Q r σ' → Q' r σ') : v_K l X Y xa d y b n r σ as Q' mc ms := fun dC dI aC ad sz hX => by
  have hM := k dC dI aC ad sz hX
  intro p e ha hf hc s m args below hfr hap hP hK
  obtain ⟨n', o, h1, h2, h3, h4, hL⟩ := hM p e ha hf hc s m args below hfr hap hP hK
  obtain ⟨⟨r, σ', ad', q1, q2, q3⟩, q4⟩ := h4
  exact ⟨n', o, h1, h2, h3, ⟨⟨r, σ', ad', q1, h r σ' q2, q3⟩, q4⟩, hL⟩
section MCR
variable {p : Program} {l : Launch} {e : Env} {R : Room} {s : State} {m : MethodId} {args : Array Value} {below : List Frame} {meth : Method} {c : Code} {dC : Nat → ClassId} {dI : Nat → Nat → Nat} {aC : Nat → ClassId} {ad0 xa : Nat → Nat} {nL : Nat} {cc : ByteArray} {own : String} {X : Nat → Option (List Int32)} {Y : (Nat → Prop) → State → Heap → Prop}
variable {σ σ0 : m_H} {ce sl pc sz mc ms : Nat} {ls : List (Nat × Value)} {st : List Value} {Q : Option Value → m_H → Prop}
theorem mV_vret (hC : m_Ctx p s m args meth c cc nL own dC dI aC (va_A (m_W ad0 aC σ0) sz) xa X Y) (hd : decode cc pc = .ok (.return_, 1)) (hr : meth.sig.returnType = none) (hQ : Q none σ) (hce : ce ≤ mc) (hsl : sl ≤ ms) :
    mV p l e R s m args below meth c (MQ below (m_Qc dC dI aC xa ad0 sz σ0 Q) args s mc ms (va_A (m_W ad0 aC σ0) sz)) dC dI aC (va_A (m_W ad0 aC σ0) sz) σ0.length ad0 xa nL (σ, ce, sl, pc, ls, []) := by
  intro ad H locs lsC h1 h2 h3 h4 h5 h6
  refine W.widen (k := mc) (n := ms) hce hsl ?_
  exact W.vret hC.1 hC.2.1 hr (fun t ht hW => ⟨⟨none, σ, ad, rfl, hQ, h1, h2, by rw [ht]; exact h3, va_K.moved hW.alike hC.2.2.2.2.2.1, h4⟩, h5.F ht⟩) h5.2.2 hd hC.2.2.2.2.2.2.2.2
theorem mV_iret (hC : m_Ctx p s m args meth c cc nL own dC dI aC (va_A (m_W ad0 aC σ0) sz) xa X Y) {x : Int32} {ty : FieldType} (hd : decode cc pc = .ok (.ireturn, 1)) (hr : meth.sig.returnType = some ty) (hn : narrow ty (.int x) = .int x) (hQ : Q (some (.int x)) σ) (hce : ce ≤ mc) (hsl : sl ≤ ms) :
    mV p l e R s m args below meth c (MQ below (m_Qc dC dI aC xa ad0 sz σ0 Q) args s mc ms (va_A (m_W ad0 aC σ0) sz)) dC dI aC (va_A (m_W ad0 aC σ0) sz) σ0.length ad0 xa nL (σ, ce, sl, pc, ls, [.int x]) := by
  intro ad H locs lsC h1 h2 h3 h4 h5 h6
  refine W.widen (k := mc) (n := ms) hce hsl ?_
  exact W.zret hC.1 hC.2.1 hr hn (fun t ht hW => ⟨⟨some (.int x), σ, ad, rfl, hQ, h1, h2, by rw [ht]; exact h3, va_K.moved hW.alike hC.2.2.2.2.2.1, h4⟩, h5.F ht⟩) h5.2.2 hd hC.2.2.2.2.2.2.2.2
theorem mV_lret (hC : m_Ctx p s m args meth c cc nL own dC dI aC (va_A (m_W ad0 aC σ0) sz) xa X Y) {x : Int64} (hd : decode cc pc = .ok (.lreturn, 1)) (hr : meth.sig.returnType = some .long) (hQ : Q (some (.long x)) σ) (hce : ce ≤ mc) (hsl : sl ≤ ms) :
    mV p l e R s m args below meth c (MQ below (m_Qc dC dI aC xa ad0 sz σ0 Q) args s mc ms (va_A (m_W ad0 aC σ0) sz)) dC dI aC (va_A (m_W ad0 aC σ0) sz) σ0.length ad0 xa nL (σ, ce, sl, pc, ls, [.long x]) := by
  intro ad H locs lsC h1 h2 h3 h4 h5 h6
  refine W.widen (k := mc) (n := ms) hce hsl ?_
  exact W.lret hC.1 hC.2.1 hr (fun t ht hW => ⟨⟨some (.long x), σ, ad, rfl, hQ, h1, h2, by rw [ht]; exact h3, va_K.moved hW.alike hC.2.2.2.2.2.1, h4⟩, h5.F ht⟩) h5.2.2 hd hC.2.2.2.2.2.2.2.2
end MCR
theorem a_good {ws : List Cond} (h : ∀ w ∈ ws, w ∈ a_tb) : GoodIn a_tb ws := fun w hw => ⟨h w hw, good_of_word (List.mem_filter.mp (h w hw)).2⟩
section MCL
variable {p : Program} {l : Launch} {e : Env} {R : Room} {s : State} {m : MethodId} {args : Array Value} {below : List Frame} {meth : Method} {c : Code} {QQ : State → Prop} {dC : Nat → ClassId} {dI : Nat → Nat → Nat} {aC : Nat → ClassId} {A : Nat → Prop} {n0 : Nat} {ad0 xa : Nat → Nat} {nL : Nat} {cc : ByteArray} {own : String} {X : Nat → Option (List Int32)} {Y : (Nat → Prop) → State → Heap → Prop}
variable {σ : m_H} {ce sl pc mc ms : Nat} {ls : List (Nat × Value)} {st as : List Value} {Q : Option Value → m_H → Prop}
theorem m_wfree {ad : Nat → Nat} {H : Heap} {locs : List Loc} (hA : ∀ q, s.heap.size ≤ q → A q) (h4 : va_D A (m_W ad aC σ)) (h5 : va_S A s.heap H locs) : ∀ q, va_A (m_W ad aC σ) H.size q → A q := by
  intro q h
  rcases h with ⟨k, e, h⟩ | h
  · exact h4.2 k (q, e) h
  · exact hA q (Nat.le_trans h5.1 h)
theorem m_pre {ad : Nat → Nat} {H : Heap} {locs : List Loc} (hY : m_Yok Y) (hC : m_Ctx p s m args meth c cc nL own dC dI aC A xa X Y) (h3 : va_P (dC, dI) vwCl (m_W ad aC σ) H) (h4 : va_D A (m_W ad aC σ)) (h5 : va_S A s.heap H locs) :
    ∀ U : State, U.heap = H → s.WarmedH U.vm → m_Pc dC dI aC X Y xa ad H.size σ as (as.map (m_re ad)).toArray U := by
  intro U hU hW
  have hE : m_Ext X Y xa A s H := m_Ext.kept hY h5.2.1 hC.2.2.2.2.2.2.2.1
  have hE2 : m_Ext X Y xa (va_A (m_W ad aC σ) H.size) U H := (hE.warm hY hW).narrow hY (m_wfree hC.2.2.2.2.2.2.1 h4 h5)
  subst hU
  exact ⟨rfl, rfl, h3, va_K.moved hW.alike hC.2.2.2.2.2.1, h4.weaken (fun _ _ _ _ => trivial), hE2⟩
theorem m_blind {ad : Nat → Nat} {sz : Nat} (hY : m_Yok Y) : FrameBlind (m_Pc dC dI aC X Y xa ad sz σ as) := fun a U g mk q => by
  obtain ⟨q0, q1, qP, qK, qD, qE⟩ := q
  exact ⟨q0, q1, qP, va_K.moved (u := U) (U := U.calling g mk a) (Vm.Alike.refl U.vm) qK, qD, m_Ext.same (u := U) (U := U.calling g mk a) hY rfl qE⟩
theorem m_goOn {ad : Nat → Nat} {H : Heap} {locs : List Loc} {lsC : Array Slot} {st0 : List Value} {a : Array Value} (hC : m_Ctx p s m args meth c cc nL own dC dI aC A xa X Y)
    (hr : va_Run p l e R s m args below meth c H locs ce sl mc ms (F0 m pc lsC st0) (st.map (m_re ad)) (m_Qc dC dI aC xa ad H.size σ Q a) (va_A (m_W ad aC σ) H.size))
    (h1 : ∀ k, k < n0 → ad k = ad0 k) (h2 : ∀ k, ad (m_X0 + k) = xa k) (hn0 : n0 ≤ σ.length) (h4 : va_D A (m_W ad aC σ)) (h5 : va_S A s.heap H locs) (h6 : lv_has lsC nL (m_lv ad ls)) (ho : ∀ v ∈ st, m_vOk σ.length v) (hol : ∀ q ∈ ls, m_vOk σ.length q.2)
    (kk : ∀ (r : Option Value) (σ' : m_H), Q r σ' → mV p l e R s m args below meth c QQ dC dI aC A n0 ad0 xa nL (σ', ce + mc, sl + ms, pc + 3, ls, r.toList ++ st)) :
    W p l e R s m args below meth c H locs ce sl QQ (F0 m pc lsC st0) := by
  have hfree := m_wfree (aC := aC) hC.2.2.2.2.2.2.1 h4 h5
  intro T hT Xs
  obtain ⟨v, st₀, t, T', L, e0, X', hL, e1, e2, ⟨⟨r, σ', ad', hv, hQ, g1, g2, g3, g4, g5⟩, hz, hk⟩, stp⟩ := hr T hT Xs
  obtain rfl : v = r.map (m_re ad') := by injection hv
  rw [e0] at hz hk
  have hag : ∀ k, (k < σ.length ∨ m_X0 ≤ k) → ad k = ad' k := by
    intro k hk2
    rcases hk2 with hk2 | hk2
    · exact (g1 k hk2).symm
    · obtain ⟨j, rfl⟩ := Nat.exists_eq_add_of_le hk2
      rw [h2, g2]
  have est : st.map (m_re ad) = st.map (m_re ad') := List.map_congr_left fun v hv => m_re_congr hag (ho v hv)
  have els : m_lv ad ls = m_lv ad' ls := List.map_congr_left fun q hq => by rw [m_re_congr hag (hol q hq)]
  have kk2 := kk r σ' hQ ad' T'.heap (locs ++ L) lsC (fun k h => (g1 k (Nat.lt_of_lt_of_le h hn0)).trans (h1 k h)) g2 (by rw [e1]; exact g3) (g5.weaken fun _ q _ h => hfree _ h)
    ⟨Nat.le_trans h5.1 (by rw [e1]; exact hz), fun q q1 q2 => by rw [e1, hk q (Nat.lt_of_lt_of_le q1 h5.1) (fun z => q2 (hfree q z))]; exact h5.2.1 q q1 q2, fun q hq => by
      rcases List.mem_append.mp hq with h | h
      · exact h5.2.2 q h
      · exact hfree _ (hL q h)⟩ (by rw [← els]; exact h6)
  obtain ⟨t2, a1, b1⟩ := kk2 T' rfl X'
  refine ⟨t2, stp t2 ?_, b1⟩
  have ex : (r.toList ++ st).map (m_re ad') = (r.map (m_re ad')).toList ++ st.map (m_re ad) := by
    rw [List.map_append, est]
    cases r <;> rfl
  have a2 : Steps p.tables e below (T'.setTop (F0 m (pc + 3) lsC ((r.toList ++ st).map (m_re ad')))) t2 := a1
  rw [ex] at a2
  exact a2
theorem m_cats8 {ad : Nat → Nat} {lsC : Array Slot} (h : (st.map fun v => v.category).sum ≤ 8) (st0 : List Value) : 2 * (F0 m pc lsC st0).monitorRoom + ((st.map (m_re ad)).map fun v => v.category).sum ≤ 8 := by
  rw [m_cats]
  show 2 * 0 + _ ≤ 8
  omega
theorem m_Ctx.fix (hC : m_Ctx p s m args meth c cc nL own dC dI aC A xa X Y) : CallFix p m c cc nL s args a_tb own := ⟨hC.1, hC.2.1, hC.2.2.1, hC.2.2.2.1, hC.2.2.2.2.1⟩
theorem m_wsIn {y : MethodName} {b : ByteArray} {n : Nat} {rt : Option FieldType} (h : Cond.code y b n rt ∈ a_tb) : ∀ w ∈ m_ws y b n rt, w ∈ a_tb := fun w hw => by
  rcases List.mem_cons.mp hw with h1 | h1
  · rw [h1]; exact h
  · exact h1
theorem m_room {d n : Nat} (hR : d + 1 ≤ R.frames ∧ 40 * d + 40 ≤ R.locals) (h20 : n ≤ 20) : (m_rm d mc ms).frames + 1 ≤ R.frames ∧ 8 + (n + 11) + (m_rm d mc ms).locals ≤ R.locals := ⟨hR.1, by show 8 + (n + 11) + 40 * d ≤ R.locals; omega⟩
/-- a call of an object's method -/
theorem mV_callV (hY : m_Yok Y) (hC : m_Ctx p s m args meth c cc nL own dC dI aC A xa X Y) {q ci idx d n : Nat} {r0 : vw_C} {fs : List Value} {y : MethodName} {b : ByteArray} {rt : Option FieldType} (hd : decode cc pc = .ok (.invokevirtual idx, 3)) (hM : v_K l X Y xa d y b n rt σ (.ref q :: as) Q mc ms) (hσ : σ[q]? = some (.inr ci, fs)) (hc : vwCl[ci]? = some r0) (hyc : y.cls = r0.1)
    (w1 : Cond.methodLink own idx y ∈ a_tb) (w2 : Cond.instanceMethod y ∈ a_tb) (w3 : Cond.selects r0.1 y y ∈ a_tb) (w4 : Cond.initialized r0.1 ∈ a_tb) (w5 : Cond.code y b n rt ∈ a_tb) (hy : y.cls ≠ "java/lang/invoke/MethodHandle" ∧ y.cls ≠ "java/lang/invoke/VarHandle") (hlen : (parseMethodDescriptor y.desc).map (fun d => d.parameters.length) = some as.length)
    (hR : d + 1 ≤ R.frames ∧ 40 * d + 40 ≤ R.locals) (h20 : n ≤ 20) (hce : ce + mc ≤ R.cells) (hsl : sl + ms ≤ R.slots) (h8 : (st.map fun v => v.category).sum ≤ 8) (hn0 : n0 ≤ σ.length) (ho : ∀ v ∈ st, m_vOk σ.length v) (hol : ∀ q ∈ ls, m_vOk σ.length q.2)
    (kk : ∀ (r : Option Value) (σ' : m_H), Q r σ' → mV p l e R s m args below meth c QQ dC dI aC A n0 ad0 xa nL (σ', ce + mc, sl + ms, pc + 3, ls, r.toList ++ st)) : mV p l e R s m args below meth c QQ dC dI aC A n0 ad0 xa nL (σ, ce, sl, pc, ls, as.reverse ++ .ref q :: st) := by
  intro ad H locs lsC h1 h2 h3 h4 h5 h6
  have hG : GoodIn a_tb (wsV own idx r0.1 y (m_ws y b n rt)) := a_good fun w hw => by
    rcases List.mem_append.mp hw with h | h
    · simp only [List.mem_cons, List.not_mem_nil, or_false] at h
      rcases h with rfl | rfl | rfl | rfl <;> assumption
    · exact m_wsIn w5 w h
  refine m_goOn hC (ad := ad) (σ := σ) (H := H) (locs := locs) (va_runV (As := as.map (m_re ad)) (rest := st.map (m_re ad)) (g := F0 m pc lsC ((as.reverse ++ .ref q :: st).map (m_re ad))) hC.fix (hM dC dI aC ad H.size h2)
    (cwV as.length hC.2.2.2.2.1 hG rfl rfl rfl ⟨hyc, hy.1, hy.2, hlen⟩ (m_room hR h20)) ⟨m_blind hY, va_recv hC.2.2.2.2.2.1 h3 hc (m_W_at hσ), m_pre (as := .ref q :: as) hY hC h3 h4 h5⟩ rfl (by simp) h6.1 (by simp [m_re]) (m_cats8 h8 _) hd ⟨hce, hsl⟩) h1 h2 hn0 h4 h5 h6 ho hol kk
theorem mV_callS (hY : m_Yok Y) (hC : m_Ctx p s m args meth c cc nL own dC dI aC A xa X Y) {idx d n : Nat} {y : MethodName} {b : ByteArray} {rt : Option FieldType} (hd : decode cc pc = .ok (.invokestatic idx, 3)) (hM : v_K l X Y xa d y b n rt σ as Q mc ms)
    (w1 : Cond.methodLink own idx y ∈ a_tb) (w2 : Cond.static y ∈ a_tb) (w4 : Cond.initialized y.cls ∈ a_tb) (w5 : Cond.code y b n rt ∈ a_tb) (hy : y.cls ≠ "java/lang/invoke/MethodHandle" ∧ y.cls ≠ "java/lang/invoke/VarHandle") (hlen : (parseMethodDescriptor y.desc).map (fun d => d.parameters.length) = some as.length)
    (hR : d + 1 ≤ R.frames ∧ 40 * d + 40 ≤ R.locals) (h20 : n ≤ 20) (hce : ce + mc ≤ R.cells) (hsl : sl + ms ≤ R.slots) (h8 : (st.map fun v => v.category).sum ≤ 8) (hn0 : n0 ≤ σ.length) (ho : ∀ v ∈ st, m_vOk σ.length v) (hol : ∀ q ∈ ls, m_vOk σ.length q.2)
    (kk : ∀ (r : Option Value) (σ' : m_H), Q r σ' → mV p l e R s m args below meth c QQ dC dI aC A n0 ad0 xa nL (σ', ce + mc, sl + ms, pc + 3, ls, r.toList ++ st)) : mV p l e R s m args below meth c QQ dC dI aC A n0 ad0 xa nL (σ, ce, sl, pc, ls, as.reverse ++ st) := by
  intro ad H locs lsC h1 h2 h3 h4 h5 h6
  have hG : GoodIn a_tb (va_wsS own idx y (m_ws y b n rt)) := a_good fun w hw => by
    rcases List.mem_append.mp hw with h | h
    · simp only [List.mem_cons, List.not_mem_nil, or_false] at h
      rcases h with rfl | rfl | rfl <;> assumption
    · exact m_wsIn w5 w h
  refine m_goOn hC (ad := ad) (σ := σ) (H := H) (locs := locs) (va_runS (As := as.map (m_re ad)) (rest := st.map (m_re ad)) (g := F0 m pc lsC ((as.reverse ++ st).map (m_re ad))) hC.fix (hM dC dI aC ad H.size h2)
    (va_cwS as.length hC.2.2.2.2.1 hG rfl rfl rfl ⟨hy.1, hy.2, hlen⟩ (m_room hR h20)) ⟨m_blind hY, m_pre (as := as) hY hC h3 h4 h5⟩ rfl (by simp) h6.1 (by simp) (m_cats8 h8 _) hd ⟨hce, hsl⟩) h1 h2 hn0 h4 h5 h6 ho hol kk
theorem mV_callSN (hY : m_Yok Y) (hC : m_Ctx p s m args meth c cc nL own dC dI aC A xa X Y) {idx d n : Nat} {host : String} {y : MethodName} {b : ByteArray} {rt : Option FieldType} (hd : decode cc pc = .ok (.invokestatic idx, 3)) (hM : v_K l X Y xa d y b n rt σ as Q mc ms)
    (w1 : Cond.methodLinkNest own idx y host ∈ a_nb) (w2 : Cond.static y ∈ a_tb) (w4 : Cond.initialized y.cls ∈ a_tb) (w5 : Cond.code y b n rt ∈ a_tb) (hy : y.cls ≠ "java/lang/invoke/MethodHandle" ∧ y.cls ≠ "java/lang/invoke/VarHandle") (hlen : (parseMethodDescriptor y.desc).map (fun d => d.parameters.length) = some as.length)
    (hR : d + 1 ≤ R.frames ∧ 40 * d + 40 ≤ R.locals) (h20 : n ≤ 20) (hce : ce + mc ≤ R.cells) (hsl : sl + ms ≤ R.slots) (h8 : (st.map fun v => v.category).sum ≤ 8) (hn0 : n0 ≤ σ.length) (ho : ∀ v ∈ st, m_vOk σ.length v) (hol : ∀ q ∈ ls, m_vOk σ.length q.2)
    (kk : ∀ (r : Option Value) (σ' : m_H), Q r σ' → mV p l e R s m args below meth c QQ dC dI aC A n0 ad0 xa nL (σ', ce + mc, sl + ms, pc + 3, ls, r.toList ++ st)) : mV p l e R s m args below meth c QQ dC dI aC A n0 ad0 xa nL (σ, ce, sl, pc, ls, as.reverse ++ st) := by
  intro ad H locs lsC h1 h2 h3 h4 h5 h6
  refine m_goOn hC (ad := ad) (σ := σ) (H := H) (locs := locs) (va_runSN (As := as.map (m_re ad)) (rest := st.map (m_re ad)) (g := F0 m pc lsC ((as.reverse ++ st).map (m_re ad))) hC.fix (hM dC dI aC ad H.size h2)
    ⟨va_cnB as.length hC.2.2.2.2.1 (a_good (m_wsIn w5)) rfl rfl rfl (hC.2.2.2.2.2.2.2.1.2.2.2.1 _ w1) (hC.2.2.2.2.1 _ w4) ⟨hy.1, hy.2, hlen⟩ (m_room hR h20), hC.2.2.2.2.1 _ w2, trivial⟩ ⟨m_blind hY, m_pre (as := as) hY hC h3 h4 h5⟩ rfl (by simp) h6.1 (by simp) (m_cats8 h8 _) hd ⟨hce, hsl⟩) h1 h2 hn0 h4 h5 h6 ho hol kk
/-- a call of a constructor -/
theorem mV_callI (hY : m_Yok Y) (hC : m_Ctx p s m args meth c cc nL own dC dI aC A xa X Y) {q idx d n : Nat} {y : MethodName} {b : ByteArray} (hd : decode cc pc = .ok (.invokespecial idx, 3)) (hM : v_K l X Y xa d y b n none σ (.ref q :: as) Q mc ms) (hyn : y.name = "<init>")
    (w1 : Cond.methodLink own idx y ∈ a_tb) (w2 : Cond.instanceMethod y ∈ a_tb) (w4 : Cond.initialized y.cls ∈ a_tb) (w5 : Cond.code y b n none ∈ a_tb) (hy : y.cls ≠ "java/lang/invoke/MethodHandle" ∧ y.cls ≠ "java/lang/invoke/VarHandle") (hlen : (parseMethodDescriptor y.desc).map (fun d => d.parameters.length) = some as.length)
    (hR : d + 1 ≤ R.frames ∧ 40 * d + 40 ≤ R.locals) (h20 : n ≤ 20) (hce : ce + mc ≤ R.cells) (hsl : sl + ms ≤ R.slots) (h8 : (st.map fun v => v.category).sum ≤ 8) (hn0 : n0 ≤ σ.length) (ho : ∀ v ∈ st, m_vOk σ.length v) (hol : ∀ q ∈ ls, m_vOk σ.length q.2)
    (kk : ∀ (r : Option Value) (σ' : m_H), Q r σ' → mV p l e R s m args below meth c QQ dC dI aC A n0 ad0 xa nL (σ', ce + mc, sl + ms, pc + 3, ls, r.toList ++ st)) : mV p l e R s m args below meth c QQ dC dI aC A n0 ad0 xa nL (σ, ce, sl, pc, ls, as.reverse ++ .ref q :: st) := by
  intro ad H locs lsC h1 h2 h3 h4 h5 h6
  refine m_goOn hC (ad := ad) (σ := σ) (H := H) (locs := locs) (va_runI (As := as.map (m_re ad)) (rest := st.map (m_re ad)) (g := F0 m pc lsC ((as.reverse ++ .ref q :: st).map (m_re ad))) (b := ad q) hC.fix (hM dC dI aC ad H.size h2)
    (cwI as.length hC.2.2.2.2.1 (a_good (m_wsIn w5)) rfl rfl rfl (hC.2.2.2.2.1 _ w4) (hC.2.2.2.2.1 _ w1) (hC.2.2.2.2.1 _ w2) hyn ⟨hy.1, hy.2, hlen⟩ (m_room hR h20)) ⟨m_blind hY, m_pre (as := .ref q :: as) hY hC h3 h4 h5⟩ rfl (by simp) h6.1 (by simp [m_re]) (m_cats8 h8 _) hd ⟨hce, hsl⟩) h1 h2 hn0 h4 h5 h6 ho hol kk
theorem mV_callIN (hY : m_Yok Y) (hC : m_Ctx p s m args meth c cc nL own dC dI aC A xa X Y) {q idx d n : Nat} {host : String} {y : MethodName} {b : ByteArray} (hd : decode cc pc = .ok (.invokespecial idx, 3)) (hM : v_K l X Y xa d y b n none σ (.ref q :: as) Q mc ms) (hyn : y.name = "<init>")
    (w1 : Cond.methodLinkNest own idx y host ∈ a_nb) (w2 : Cond.instanceMethod y ∈ a_tb) (w4 : Cond.initialized y.cls ∈ a_tb) (w5 : Cond.code y b n none ∈ a_tb) (hy : y.cls ≠ "java/lang/invoke/MethodHandle" ∧ y.cls ≠ "java/lang/invoke/VarHandle") (hlen : (parseMethodDescriptor y.desc).map (fun d => d.parameters.length) = some as.length)
    (hR : d + 1 ≤ R.frames ∧ 40 * d + 40 ≤ R.locals) (h20 : n ≤ 20) (hce : ce + mc ≤ R.cells) (hsl : sl + ms ≤ R.slots) (h8 : (st.map fun v => v.category).sum ≤ 8) (hn0 : n0 ≤ σ.length) (ho : ∀ v ∈ st, m_vOk σ.length v) (hol : ∀ q ∈ ls, m_vOk σ.length q.2)
    (kk : ∀ (r : Option Value) (σ' : m_H), Q r σ' → mV p l e R s m args below meth c QQ dC dI aC A n0 ad0 xa nL (σ', ce + mc, sl + ms, pc + 3, ls, r.toList ++ st)) : mV p l e R s m args below meth c QQ dC dI aC A n0 ad0 xa nL (σ, ce, sl, pc, ls, as.reverse ++ .ref q :: st) := by
  intro ad H locs lsC h1 h2 h3 h4 h5 h6
  refine m_goOn hC (ad := ad) (σ := σ) (H := H) (locs := locs) (va_runIN (As := as.map (m_re ad)) (rest := st.map (m_re ad)) (g := F0 m pc lsC ((as.reverse ++ .ref q :: st).map (m_re ad))) (b := ad q) hC.fix (hM dC dI aC ad H.size h2)
    ⟨va_cnB as.length hC.2.2.2.2.1 (a_good (m_wsIn w5)) rfl rfl rfl (hC.2.2.2.2.2.2.2.1.2.2.2.1 _ w1) (hC.2.2.2.2.1 _ w4) ⟨hy.1, hy.2, hlen⟩ (m_room hR h20), hyn, hC.2.2.2.2.1 _ w2⟩ ⟨m_blind hY, m_pre (as := .ref q :: as) hY hC h3 h4 h5⟩ rfl (by simp) h6.1 (by simp [m_re]) (m_cats8 h8 _) hd ⟨hce, hsl⟩) h1 h2 hn0 h4 h5 h6 ho hol kk
/-- Object's own constructor -/
theorem mV_objInit (hC : m_Ctx p s m args meth c cc nL own dC dI aC A xa X Y) {q idx : Nat} (hd : decode cc pc = .ok (.invokespecial idx, 3)) (w1 : Cond.methodLink own idx Lib.objectInit ∈ a_tb) (w2 : Cond.instanceMethod Lib.objectInit ∈ a_tb) (w3 : Cond.code Lib.objectInit ⟨#[0xb1]⟩ 1 none ∈ a_tb) (hR : 1 ≤ R.frames ∧ 20 ≤ R.locals) (h8 : (st.map fun v => v.category).sum ≤ 8) (k : mV p l e R s m args below meth c QQ dC dI aC A n0 ad0 xa nL (σ, ce, sl, pc + 3, ls, st)) : mV p l e R s m args below meth c QQ dC dI aC A n0 ad0 xa nL (σ, ce, sl, pc, ls, .ref q :: st) := by
  intro ad H locs lsC h1 h2 h3 h4 h5 h6
  refine W.objInit hC.1 hC.2.1 hC.2.2.2.1 (m_ctb hC w1) (m_ctb hC w2) (m_ctb hC w3) (g := F0 m pc lsC ((.ref q :: st).map (m_re ad))) rfl (h6.1.trans hC.2.2.1.symm) (a := ad q) (rest := st.map (m_re ad)) rfl hd hR.1 ?_ (k ad H locs lsC h1 h2 h3 h4 h5 h6)
  rw [m_cats]
  show 2 * 0 + _ + 12 ≤ _
  omega
/-- System.arraycopy of int rows -/
theorem m_fI_cpy {fs gs : List Value} {sp dp n : Nat} (h : sp + n ≤ fs.length) (h2 : dp + n ≤ gs.length) : m_fI (gs.take dp ++ (fs.drop sp).take n ++ gs.drop (dp + n)) = va_cpy (m_fI fs) (m_fI gs) sp dp n := by
  funext j
  unfold va_cpy m_fI
  simp only [List.getD_eq_getElem?_getD]
  have e1 : (gs.take dp).length = dp := by simp; omega
  have e2 : ((fs.drop sp).take n).length = n := by simp; omega
  by_cases hj : dp ≤ j ∧ j < dp + n
  · rw [if_pos hj, List.getElem?_append_left (by simp; omega), List.getElem?_append_right (by omega), e1, List.getElem?_take, if_pos (by omega), List.getElem?_drop]
  · rw [if_neg hj]
    by_cases hj2 : j < dp
    · rw [List.getElem?_append_left (by simp; omega), List.getElem?_append_left (by omega), List.getElem?_take, if_pos hj2]
    · rw [List.getElem?_append_right (by simp; omega)]
      simp only [List.length_append, e1, e2, List.getElem?_drop]
      congr 2
      congr 1
      omega
theorem mV_copyi (hC : m_Ctx p s m args meth c cc nL own dC dI aC A xa X Y) {q0 q1 idx : Nat} {fs gs : List Value} {sp dp n : Int32} (hd : decode cc pc = .ok (.invokestatic idx, 3)) (w1 : Cond.methodLink own idx arraycopyName ∈ a_tb) (w2 : Cond.native arraycopyName ∈ a_tb) (w3 : Cond.static arraycopyName ∈ a_tb) (w4 : Cond.initialized "java/lang/System" ∈ a_tb)
    (hσ0 : σ[q0]? = some (.inl 0, fs)) (hσ1 : σ[q1]? = some (.inl 0, gs)) (g1 : ¬ sp < 0) (g2 : ¬ dp < 0) (g3 : ¬ n < 0) (g4 : sp.toNatClampNeg + n.toNatClampNeg ≤ fs.length) (g5 : dp.toNatClampNeg + n.toNatClampNeg ≤ gs.length) (hR : 1 ≤ R.frames ∧ 40 ≤ R.locals) (h8 : (st.map fun v => v.category).sum ≤ 8)
    (k : mV p l e R s m args below meth c QQ dC dI aC A n0 ad0 xa nL (σ.set q1 (.inl 0, gs.take dp.toNatClampNeg ++ (fs.drop sp.toNatClampNeg).take n.toNatClampNeg ++ gs.drop (dp.toNatClampNeg + n.toNatClampNeg)), ce, sl, pc + 3, ls, st)) : mV p l e R s m args below meth c QQ dC dI aC A n0 ad0 xa nL (σ, ce, sl, pc, ls, .int n :: .int dp :: .ref q1 :: .int sp :: .ref q0 :: st) := by
  intro ad H locs lsC h1 h2 h3 h4 h5 h6
  have ew : nativeFrameWords "java/lang/System" "arraycopy" 5 + 11 + 8 ≤ 40 := by decide +kernel
  refine va_copyi hC.1 hC.2.1 (hC.2.2.1.trans h6.1.symm) hC.2.2.2.1 (m_ctb hC w1) (m_ctb hC w2) (m_ctb hC w3) (m_ctb hC w4) hC.2.2.2.2.2.1 h3 h4 h5 q0 q1 0 0 (f := m_fI fs) (g := m_fI gs) (m_W_at hσ0) (m_W_at hσ1) (m_tys_at aC (t := 0) (by decide)) (m_tys_at aC (t := 0) (by decide)) rfl g1 g2 g3 g4 g5 (fun i _ => rfl) hR.1 ?_ hd (fun H1 locs1 k3 k4 k5 => ?_)
  · rw [m_cats]
    omega
  · rw [m_set_a (vs := gs) (vs' := gs.take dp.toNatClampNeg ++ (fs.drop sp.toNatClampNeg).take n.toNatClampNeg ++ gs.drop (dp.toNatClampNeg + n.toNatClampNeg)) (by
      have el : (gs.take dp.toNatClampNeg ++ (fs.drop sp.toNatClampNeg).take n.toNatClampNeg ++ gs.drop (dp.toNatClampNeg + n.toNatClampNeg)).length = gs.length := by simp; omega
      show (_, ite _ _ _) = _
      rw [el, m_fI_cpy g4 g5]; rfl)] at k3 k4
    exact k ad H1 locs1 lsC h1 h2 k3 k4 k5 h6
end MCL
end
section
/-! BOUNDS: values by variables, what is known of them, and what follows -/
abbrev A_V : Type := Nat × Nat × Int
abbrev A_E : Type := List (Int × Int × Bool)
abbrev A_F : Type := List (Nat × Bool × Nat × Int)
noncomputable def i_le (a b : Int) : Bool := @Int.rec (fun _ => Bool) (fun m => @Int.rec (fun _ => Bool) (fun n => Nat.ble m n) (fun _ => false) b) (fun m => @Int.rec (fun _ => Bool) (fun _ => true) (fun n => Nat.ble n m) b) a
theorem i_le_iff {a b : Int} : i_le a b = true ↔ a ≤ b := by
  cases a with
  | ofNat m =>
    cases b with
    | ofNat n =>
      have e : i_le (Int.ofNat m) (Int.ofNat n) = Nat.ble m n := rfl
      rw [e]
      exact ⟨fun h => Int.ofNat_le.mpr (Nat.le_of_ble_eq_true h), fun h => Nat.ble_eq_true_of_le (Int.ofNat_le.mp h)⟩
    | negSucc n =>
      have e : i_le (Int.ofNat m) (Int.negSucc n) = false := rfl
      rw [e]
      exact ⟨fun h => absurd h Bool.false_ne_true, fun h => absurd (Int.lt_of_le_of_lt (Int.le_trans (Int.natCast_nonneg m) h) (Int.negSucc_lt_zero n)) (Int.lt_irrefl 0)⟩
  | negSucc m =>
    cases b with
    | ofNat n =>
      have e : i_le (Int.negSucc m) (Int.ofNat n) = true := rfl
      rw [e]
      exact ⟨fun _ => Int.le_trans (Int.le_of_lt (Int.negSucc_lt_zero m)) (Int.natCast_nonneg n), fun _ => rfl⟩
    | negSucc n =>
      have e : i_le (Int.negSucc m) (Int.negSucc n) = Nat.ble n m := rfl
      rw [e, Int.negSucc_eq, Int.negSucc_eq]
      constructor
      · intro h
        have := Nat.le_of_ble_eq_true h
        omega
      · intro h
        exact Nat.ble_eq_true_of_le (by omega)
theorem i_le_f {a b : Int} : i_le a b = false ↔ b < a := by
  cases h : i_le a b
  · simp only [true_iff]
    have : ¬ a ≤ b := fun q => by rw [i_le_iff.mpr q] at h; cases h
    omega
  · have := i_le_iff.mp h
    constructor
    · intro q; cases q
    · intro q; omega
noncomputable def i_min (a b : Int) : Int := bif i_le a b then a else b
noncomputable def i_max (a b : Int) : Int := bif i_le a b then b else a
theorem i_min_le {a b c : Int} (h : c ≤ a) (h2 : c ≤ b) : c ≤ i_min a b := by unfold i_min; cases i_le a b <;> assumption
theorem i_max_le {a b c : Int} (h : a ≤ c) (h2 : b ≤ c) : i_max a b ≤ c := by unfold i_max; cases i_le a b <;> assumption
/-- a value's number under the variables' values -/
def a_ev (ρ : List Int) (a : A_V) : Option Int := match a.1 with
  | 0 => some a.2.2
  | 3 => some a.2.2
  | 1 => (ρ[a.2.1]?).map (fun r => r + a.2.2)
  | 4 => (ρ[a.2.1]?).map (fun r => r + a.2.2)
  | _ => none
def v_ok (ρ : List Int) (a : A_V) (v : Value) : Prop := match a.1 with
  | 0 => ∃ x : Int32, v = .int x ∧ x.toInt = a.2.2
  | 1 => ∃ (x : Int32) (r : Int), v = .int x ∧ ρ[a.2.1]? = some r ∧ x.toInt = r + a.2.2
  | 2 => v = .ref a.2.1
  | 3 => ∃ x : Int64, v = .long x ∧ x.toInt = a.2.2
  | 4 => ∃ (x : Int64) (r : Int), v = .long x ∧ ρ[a.2.1]? = some r ∧ x.toInt = r + a.2.2
  | _ => True
/-- an int's value, a long's value -/
def a_isI (a : A_V) : Bool := Nat.ble a.1 1
def a_isL (a : A_V) : Bool := Nat.beq a.1 3 || Nat.beq a.1 4
theorem a_isI_cases {a : A_V} (h : a_isI a = true) : a.1 = 0 ∨ a.1 = 1 := by
  have := Nat.le_of_ble_eq_true h
  omega
theorem a_isL_cases {a : A_V} (h : a_isL a = true) : a.1 = 3 ∨ a.1 = 4 := by
  unfold a_isL at h
  rcases Bool.or_eq_true _ _ |>.mp h with h | h
  · exact Or.inl (Nat.eq_of_beq_eq_true h)
  · exact Or.inr (Nat.eq_of_beq_eq_true h)
theorem v_int {ρ : List Int} {a : A_V} {v : Value} (h : v_ok ρ a v) (hi : a_isI a = true) : ∃ x : Int32, v = .int x ∧ a_ev ρ a = some x.toInt := by
  obtain ⟨t, n, c⟩ := a
  rcases a_isI_cases hi with e | e
  · simp only at e; subst e
    obtain ⟨x, h1, h2⟩ := h
    exact ⟨x, h1, congrArg some h2.symm⟩
  · simp only at e; subst e
    obtain ⟨x, r, h1, h2, h3⟩ := h
    exact ⟨x, h1, by simp only [a_ev] at *; simp [h2, h3]⟩
theorem v_long {ρ : List Int} {a : A_V} {v : Value} (h : v_ok ρ a v) (hi : a_isL a = true) : ∃ x : Int64, v = .long x ∧ a_ev ρ a = some x.toInt := by
  obtain ⟨t, n, c⟩ := a
  rcases a_isL_cases hi with e | e
  · simp only at e; subst e
    obtain ⟨x, h1, h2⟩ := h
    exact ⟨x, h1, congrArg some h2.symm⟩
  · simp only at e; subst e
    obtain ⟨x, r, h1, h2, h3⟩ := h
    exact ⟨x, h1, by simp only [a_ev] at *; simp [h2, h3]⟩
theorem v_of_int {ρ : List Int} {a : A_V} {x : Int32} (hi : a_isI a = true) (h : a_ev ρ a = some x.toInt) : v_ok ρ a (.int x) := by
  obtain ⟨t, n, c⟩ := a
  rcases a_isI_cases hi with e | e
  · simp only at e; subst e
    simp only [a_ev, Option.some.injEq] at h
    exact ⟨x, rfl, h.symm⟩
  · simp only at e; subst e
    simp only [a_ev] at h
    obtain ⟨r, h1, h2⟩ := Option.map_eq_some_iff.mp h
    exact ⟨x, r, rfl, h1, h2.symm⟩
theorem v_of_long {ρ : List Int} {a : A_V} {x : Int64} (hi : a_isL a = true) (h : a_ev ρ a = some x.toInt) : v_ok ρ a (.long x) := by
  obtain ⟨t, n, c⟩ := a
  rcases a_isL_cases hi with e | e
  · simp only at e; subst e
    simp only [a_ev, Option.some.injEq] at h
    exact ⟨x, rfl, h.symm⟩
  · simp only at e; subst e
    simp only [a_ev] at h
    obtain ⟨r, h1, h2⟩ := Option.map_eq_some_iff.mp h
    exact ⟨x, r, rfl, h1, h2.symm⟩
/-- more variables -/
def r_ext (ρ ρ' : List Int) : Prop := ∀ (i : Nat) (r : Int), ρ[i]? = some r → ρ'[i]? = some r
theorem r_ext.rf {ρ : List Int} : r_ext ρ ρ := fun _ _ h => h
theorem r_ext.tr {a b c : List Int} (h : r_ext a b) (h2 : r_ext b c) : r_ext a c := fun i r q => h2 i r (h i r q)
theorem r_ext.push {ρ : List Int} (x : Int) : r_ext ρ (ρ ++ [x]) := fun i r h => by
  have hl := (List.getElem?_eq_some_iff.mp h).1
  rw [List.getElem?_append_left hl]; exact h
theorem a_ev_ext {ρ ρ' : List Int} (h : r_ext ρ ρ') {a : A_V} {x : Int} (e : a_ev ρ a = some x) : a_ev ρ' a = some x := by
  obtain ⟨t, n, c⟩ := a
  unfold a_ev at e ⊢
  split at e
  · exact e
  · exact e
  · obtain ⟨r, h1, h2⟩ := Option.map_eq_some_iff.mp e
    simp only at h1 ⊢
    rw [h _ _ h1]; simp [h2]
  · obtain ⟨r, h1, h2⟩ := Option.map_eq_some_iff.mp e
    simp only at h1 ⊢
    rw [h _ _ h1]; simp [h2]
  · cases e
theorem v_ok_ext {ρ ρ' : List Int} (h : r_ext ρ ρ') {a : A_V} {v : Value} (e : v_ok ρ a v) : v_ok ρ' a v := by
  obtain ⟨t, n, c⟩ := a
  unfold v_ok at e ⊢
  split at e
  · exact e
  · obtain ⟨x, r, h1, h2, h3⟩ := e
    exact ⟨x, r, h1, h _ _ h2, h3⟩
  · exact e
  · exact e
  · obtain ⟨x, r, h1, h2, h3⟩ := e
    exact ⟨x, r, h1, h _ _ h2, h3⟩
  · trivial
/-- what is known of the variables holds; B bounds those of the third kind -/
def e_ok (B : Int) (E : A_E) (ρ : List Int) : Prop := ρ.length = E.length ∧ ∀ (i : Nat) (q : Int × Int × Bool) (r : Int), E[i]? = some q → ρ[i]? = some r → q.1 ≤ r ∧ r ≤ q.2.1 ∧ (q.2.2 = true → 0 ≤ r ∧ r ≤ B)
def f_ok (F : A_F) (ρ : List Int) : Prop := ∀ q ∈ F, ∃ x y : Int, ρ[q.1]? = some x ∧ ρ[q.2.2.1]? = some y ∧ (q.2.1 = true → x ≤ y + q.2.2.2) ∧ (q.2.1 = false → x + y ≤ q.2.2.2)
theorem f_ok_ext {F : A_F} {ρ ρ' : List Int} (h : r_ext ρ ρ') (e : f_ok F ρ) : f_ok F ρ' := fun q hq => by
  obtain ⟨x, y, h1, h2, h3⟩ := e q hq
  exact ⟨x, y, h _ _ h1, h _ _ h2, h3⟩
theorem e_ok_mono {B B' : Int} {E : A_E} {ρ : List Int} (h : B ≤ B') (e : e_ok B E ρ) : e_ok B' E ρ := ⟨e.1, fun i q r h1 h2 => by
  obtain ⟨g1, g2, g3⟩ := e.2 i q r h1 h2
  exact ⟨g1, g2, fun b => ⟨(g3 b).1, Int.le_trans (g3 b).2 h⟩⟩⟩
theorem e_ok_push {B : Int} {E : A_E} {ρ : List Int} {x : Int} {q : Int × Int × Bool} (e : e_ok B E ρ) (h : q.1 ≤ x ∧ x ≤ q.2.1 ∧ (q.2.2 = true → 0 ≤ x ∧ x ≤ B)) : e_ok B (E ++ [q]) (ρ ++ [x]) := by
  refine ⟨by simp [e.1], fun i p r h1 h2 => ?_⟩
  by_cases hi : i < E.length
  · rw [List.getElem?_append_left hi] at h1
    rw [List.getElem?_append_left (by rw [e.1]; exact hi)] at h2
    exact e.2 i p r h1 h2
  · have hz : i < (E ++ [q]).length := (List.getElem?_eq_some_iff.mp h1).1
    have : i = E.length := by simp at hz; omega
    subst this
    rw [List.getElem?_append_right (Nat.le_refl _), Nat.sub_self] at h1
    rw [← e.1, List.getElem?_append_right (Nat.le_refl _), Nat.sub_self] at h2
    cases h1; cases h2
    exact h
noncomputable def g_app {α : Type} (l r : List α) : List α := @List.rec α (fun _ => List α) r (fun a _ ih => a :: ih) l
theorem g_app_eq {α : Type} : ∀ l r : List α, g_app l r = l ++ r
  | [], _ => rfl
  | a :: l, r => by
    have e : g_app (a :: l) r = a :: g_app l r := rfl
    rw [e, g_app_eq l r, List.cons_append]
noncomputable def g_len {α : Type} (l : List α) : Nat := @List.rec α (fun _ => Nat) 0 (fun _ _ ih => Nat.add ih 1) l
theorem g_len_eq {α : Type} : ∀ l : List α, g_len l = l.length
  | [] => rfl
  | a :: l => by
    have e : g_len (a :: l) = Nat.add (g_len l) 1 := rfl
    rw [e, g_len_eq l]
    rfl
noncomputable def g_set {α : Type} (l : List α) (n : Nat) (q : α) : List α := @List.rec α (fun _ => Nat → List α) (fun _ => []) (fun a l ih n => @Nat.rec (fun _ => List α) (q :: l) (fun k _ => a :: ih k) n) l n
theorem g_set_eq {α : Type} : ∀ (l : List α) (n : Nat) (q : α), g_set l n q = l.set n q
  | [], _, _ => rfl
  | _ :: _, 0, _ => rfl
  | a :: l, n + 1, q => by
    have e : g_set (a :: l) (n + 1) q = a :: g_set l n q := rfl
    rw [e, g_set_eq l n q, List.set_cons_succ]
noncomputable def g_push (E : A_E) (q : Int × Int × Bool) : A_E := g_app E [q]
theorem e_ok_pushG {B : Int} {E : A_E} {ρ : List Int} {x : Int} {q : Int × Int × Bool} (e : e_ok B E ρ) (h : q.1 ≤ x ∧ x ≤ q.2.1 ∧ (q.2.2 = true → 0 ≤ x ∧ x ≤ B)) : e_ok B (g_push E q) (ρ ++ [x]) := by
  unfold g_push
  rw [g_app_eq]
  exact e_ok_push e h
theorem r_at_push {B : Int} {E : A_E} {ρ : List Int} (x : Int) (e : e_ok B E ρ) : (ρ ++ [x])[E.length]? = some x := by
  rw [← e.1, List.getElem?_append_right (Nat.le_refl _), Nat.sub_self]; rfl
noncomputable def e_at (E : A_E) (v : Nat) : Int × Int × Bool := @List.rec (Int × Int × Bool) (fun _ => Nat → Int × Int × Bool) (fun _ => (0, 0, false)) (fun q _ ih n => @Nat.rec (fun _ => Int × Int × Bool) q (fun k _ => ih k) n) E v
theorem e_at_eq : ∀ (E : A_E) (v : Nat), e_at E v = match E[v]? with
    | some q => q
    | none => (0, 0, false)
  | [], _ => rfl
  | _ :: _, 0 => rfl
  | q :: E, v + 1 => by
    have e : e_at (q :: E) (v + 1) = e_at E v := rfl
    rw [e, e_at_eq E v, List.getElem?_cons_succ]
theorem e_at_ok {B : Int} {E : A_E} {ρ : List Int} (e : e_ok B E ρ) {v : Nat} {r : Int} (h : ρ[v]? = some r) : (e_at E v).1 ≤ r ∧ r ≤ (e_at E v).2.1 ∧ ((e_at E v).2.2 = true → 0 ≤ r ∧ r ≤ B) := by
  have hl := (List.getElem?_eq_some_iff.mp h).1
  rw [e.1] at hl
  have he : E[v]? = some E[v] := List.getElem?_eq_getElem hl
  have := e.2 v E[v] r he h
  rw [e_at_eq, he]
  exact this
noncomputable def f_hiO (E : A_E) (v : Nat) : A_F → Int → Int
  | [], h => h
  | (x, sg, y, c) :: F, h => f_hiO E v F (bif sg then (bif Nat.beq x v then i_min h ((e_at E y).2.1 + c) else h) else (bif Nat.beq x v then i_min h (c - (e_at E y).1) else bif Nat.beq y v then i_min h (c - (e_at E x).1) else h))
noncomputable def f_loO (E : A_E) (v : Nat) : A_F → Int → Int
  | [], h => h
  | (x, sg, y, c) :: F, h => f_loO E v F (bif sg && Nat.beq y v then i_max h ((e_at E x).1 - c) else h)
theorem f_hiO_ok {B : Int} {E : A_E} {ρ : List Int} (e : e_ok B E ρ) {v : Nat} {r : Int} (hr : ρ[v]? = some r) : ∀ (F : A_F) (h : Int), f_ok F ρ → r ≤ h → r ≤ f_hiO E v F h
  | [], h, _, q => q
  | (x, sg, y, c) :: F, h, f, q => by
    refine f_hiO_ok e hr F _ (fun z hz => f z (List.mem_cons_of_mem _ hz)) ?_
    obtain ⟨rx, ry, h1, h2, h3, h4⟩ := f _ List.mem_cons_self
    simp only at h1 h2 h3 h4
    have e1 := e_at_ok e h1
    have e2 := e_at_ok e h2
    cases sg
    · have h4 := h4 rfl
      simp only [cond_false]
      cases hx : Nat.beq x v
      · cases hy : Nat.beq y v
        · exact q
        · have := Nat.eq_of_beq_eq_true hy; subst this
          have : r = ry := Option.some.inj (hr.symm.trans h2)
          exact i_min_le q (by omega)
      · have := Nat.eq_of_beq_eq_true hx; subst this
        have : r = rx := Option.some.inj (hr.symm.trans h1)
        exact i_min_le q (by omega)
    · have h3 := h3 rfl
      simp only [cond_true]
      cases hx : Nat.beq x v
      · exact q
      · have := Nat.eq_of_beq_eq_true hx; subst this
        have : r = rx := Option.some.inj (hr.symm.trans h1)
        exact i_min_le q (by omega)
theorem f_loO_ok {B : Int} {E : A_E} {ρ : List Int} (e : e_ok B E ρ) {v : Nat} {r : Int} (hr : ρ[v]? = some r) : ∀ (F : A_F) (h : Int), f_ok F ρ → h ≤ r → f_loO E v F h ≤ r
  | [], h, _, q => q
  | (x, sg, y, c) :: F, h, f, q => by
    refine f_loO_ok e hr F _ (fun z hz => f z (List.mem_cons_of_mem _ hz)) ?_
    obtain ⟨rx, ry, h1, h2, h3, h4⟩ := f _ List.mem_cons_self
    simp only at h1 h2 h3 h4
    have e1 := e_at_ok e h1
    cases hb : sg && Nat.beq y v
    · exact q
    · obtain ⟨b1, b2⟩ := Bool.and_eq_true _ _ |>.mp hb
      have h3 := h3 b1
      have := Nat.eq_of_beq_eq_true b2; subst this
      have : r = ry := Option.some.inj (hr.symm.trans h2)
      exact i_max_le q (by omega)
noncomputable def f_hi (E : A_E) (v : Nat) (F : A_F) (h : Int) : Int := @List.rec (Nat × Bool × Nat × Int) (fun _ => Int → Int) (fun h => h) (fun q _ r h => @Bool.rec (fun _ => Int) (@Bool.rec (fun _ => Int) (@Bool.rec (fun _ => Int) (r h) (r (i_min h (q.2.2.2 - (e_at E q.1).1))) (Nat.beq q.2.2.1 v)) (r (i_min h (q.2.2.2 - (e_at E q.2.2.1).1))) (Nat.beq q.1 v)) (@Bool.rec (fun _ => Int) (r h) (r (i_min h ((e_at E q.2.2.1).2.1 + q.2.2.2))) (Nat.beq q.1 v)) q.2.1) F h
theorem f_hi_eq (E : A_E) (v : Nat) : ∀ (F : A_F) (h : Int), f_hi E v F h = f_hiO E v F h
  | [], _ => rfl
  | (x, sg, y, c) :: F, h => by
    have ih := f_hi_eq E v F
    have e : f_hi E v ((x, sg, y, c) :: F) h = @Bool.rec (fun _ => Int) (@Bool.rec (fun _ => Int) (@Bool.rec (fun _ => Int) (f_hi E v F h) (f_hi E v F (i_min h (c - (e_at E x).1))) (Nat.beq y v)) (f_hi E v F (i_min h (c - (e_at E y).1))) (Nat.beq x v)) (@Bool.rec (fun _ => Int) (f_hi E v F h) (f_hi E v F (i_min h ((e_at E y).2.1 + c))) (Nat.beq x v)) sg := rfl
    have e2 : f_hiO E v ((x, sg, y, c) :: F) h = f_hiO E v F (bif sg then (bif Nat.beq x v then i_min h ((e_at E y).2.1 + c) else h) else (bif Nat.beq x v then i_min h (c - (e_at E y).1) else bif Nat.beq y v then i_min h (c - (e_at E x).1) else h)) := rfl
    rw [e, e2]
    cases sg <;> cases Nat.beq x v <;> cases Nat.beq y v <;> exact ih _
noncomputable def f_lo (E : A_E) (v : Nat) (F : A_F) (h : Int) : Int := @List.rec (Nat × Bool × Nat × Int) (fun _ => Int → Int) (fun h => h) (fun q _ r h => @Bool.rec (fun _ => Int) (r h) (@Bool.rec (fun _ => Int) (r h) (r (i_max h ((e_at E q.1).1 - q.2.2.2))) (Nat.beq q.2.2.1 v)) q.2.1) F h
theorem f_lo_eq (E : A_E) (v : Nat) : ∀ (F : A_F) (h : Int), f_lo E v F h = f_loO E v F h
  | [], _ => rfl
  | (x, sg, y, c) :: F, h => by
    have ih := f_lo_eq E v F
    have e : f_lo E v ((x, sg, y, c) :: F) h = @Bool.rec (fun _ => Int) (f_lo E v F h) (@Bool.rec (fun _ => Int) (f_lo E v F h) (f_lo E v F (i_max h ((e_at E x).1 - c))) (Nat.beq y v)) sg := rfl
    have e2 : f_loO E v ((x, sg, y, c) :: F) h = f_loO E v F (bif sg && Nat.beq y v then i_max h ((e_at E x).1 - c) else h) := rfl
    rw [e, e2]
    cases sg <;> cases Nat.beq y v <;> exact ih _
theorem f_hi_ok {B : Int} {E : A_E} {ρ : List Int} (e : e_ok B E ρ) {v : Nat} {r : Int} (hr : ρ[v]? = some r) (F : A_F) (h : Int) (hf : f_ok F ρ) (hh : r ≤ h) : r ≤ f_hi E v F h := by
  rw [f_hi_eq]
  exact f_hiO_ok e hr F h hf hh
theorem f_lo_ok {B : Int} {E : A_E} {ρ : List Int} (e : e_ok B E ρ) {v : Nat} {r : Int} (hr : ρ[v]? = some r) (F : A_F) (h : Int) (hf : f_ok F ρ) (hh : h ≤ r) : f_lo E v F h ≤ r := by
  rw [f_lo_eq]
  exact f_loO_ok e hr F h hf hh
/-- the greatest and the least that a value may be -/
def a_cst (a : A_V) : Bool := Nat.beq a.1 0 || Nat.beq a.1 3
noncomputable def a_hi (E : A_E) (F : A_F) (a : A_V) : Int := bif a_cst a then a.2.2 else f_hi E a.2.1 F (e_at E a.2.1).2.1 + a.2.2
noncomputable def a_lo (E : A_E) (F : A_F) (a : A_V) : Int := bif a_cst a then a.2.2 else f_lo E a.2.1 F (e_at E a.2.1).1 + a.2.2
theorem a_ev_cst {ρ : List Int} {a : A_V} {x : Int} (h : a_ev ρ a = some x) (hc : a_cst a = true) : x = a.2.2 := by
  obtain ⟨t, n, c⟩ := a
  unfold a_cst at hc
  rcases Bool.or_eq_true _ _ |>.mp hc with q | q <;> (have := Nat.eq_of_beq_eq_true q; simp only at this; subst this; simp only [a_ev, Option.some.injEq] at h; exact h.symm)
theorem a_ev_var {ρ : List Int} {a : A_V} {x : Int} (h : a_ev ρ a = some x) (hc : a_cst a = false) : ∃ r, ρ[a.2.1]? = some r ∧ x = r + a.2.2 := by
  obtain ⟨t, n, c⟩ := a
  unfold a_ev at h
  split at h
  · rename_i e; simp only at e; subst e; cases hc
  · rename_i e; simp only at e; subst e; cases hc
  · obtain ⟨r, h1, h2⟩ := Option.map_eq_some_iff.mp h; exact ⟨r, h1, h2.symm⟩
  · obtain ⟨r, h1, h2⟩ := Option.map_eq_some_iff.mp h; exact ⟨r, h1, h2.symm⟩
  · cases h
theorem a_hi_ok {B : Int} {E : A_E} {F : A_F} {ρ : List Int} (e : e_ok B E ρ) (f : f_ok F ρ) {a : A_V} {x : Int} (h : a_ev ρ a = some x) : x ≤ a_hi E F a := by
  unfold a_hi
  cases hc : a_cst a
  · obtain ⟨r, h1, rfl⟩ := a_ev_var h hc
    have := f_hi_ok e h1 F _ f (e_at_ok e h1).2.1
    simp only [cond_false]; omega
  · rw [a_ev_cst h hc]; exact Int.le_refl _
theorem a_lo_ok {B : Int} {E : A_E} {F : A_F} {ρ : List Int} (e : e_ok B E ρ) (f : f_ok F ρ) {a : A_V} {x : Int} (h : a_ev ρ a = some x) : a_lo E F a ≤ x := by
  unfold a_lo
  cases hc : a_cst a
  · obtain ⟨r, h1, rfl⟩ := a_ev_var h hc
    have := f_lo_ok e h1 F _ f (e_at_ok e h1).1
    simp only [cond_false]; omega
  · rw [a_ev_cst h hc]; exact Int.le_refl _
/-- x ≤ y + this -/
noncomputable def f_ubO (E : A_E) (F : A_F) : Nat → Nat → Nat → Int
  | 0, x, y => bif Nat.beq x y then 0 else (e_at E x).2.1 - (e_at E y).1
  | n + 1, x, y => bif Nat.beq x y then 0 else F.foldl (fun b q => bif q.2.1 && Nat.beq q.1 x then i_min b (q.2.2.2 + f_ubO E F n q.2.2.1 y) else b) ((e_at E x).2.1 - (e_at E y).1)
theorem foldl_inv {α β : Type} {P : β → Prop} {f : β → α → β} : ∀ (l : List α) (b : β), P b → (∀ b a, a ∈ l → P b → P (f b a)) → P (l.foldl f b)
  | [], b, h, _ => h
  | a :: l, b, h, hs => foldl_inv l (f b a) (hs b a List.mem_cons_self h) (fun b a ha hb => hs b a (List.mem_cons_of_mem _ ha) hb)
theorem f_ubO_ok {B : Int} {E : A_E} {F : A_F} {ρ : List Int} (e : e_ok B E ρ) (f : f_ok F ρ) : ∀ (n x y : Nat) (rx ry : Int), ρ[x]? = some rx → ρ[y]? = some ry → rx ≤ ry + f_ubO E F n x y
  | 0, x, y, rx, ry, h1, h2 => by
    unfold f_ubO
    have e1 := e_at_ok e h1
    have e2 := e_at_ok e h2
    cases hb : Nat.beq x y
    · simp only [cond_false]; omega
    · have := Nat.eq_of_beq_eq_true hb; subst this
      have : rx = ry := Option.some.inj (h1.symm.trans h2)
      simp only [cond_true]; omega
  | n + 1, x, y, rx, ry, h1, h2 => by
    unfold f_ubO
    have e1 := e_at_ok e h1
    have e2 := e_at_ok e h2
    cases hb : Nat.beq x y
    · simp only [cond_false]
      refine foldl_inv (P := fun b => rx ≤ ry + b) F _ (by omega) (fun b q hq hb2 => ?_)
      cases hc : q.2.1 && Nat.beq q.1 x
      · exact hb2
      · obtain ⟨c1, c2⟩ := Bool.and_eq_true _ _ |>.mp hc
        obtain ⟨qx, qy, g1, g2, g3, -⟩ := f q hq
        have := Nat.eq_of_beq_eq_true c2; subst this
        have hx : rx = qx := Option.some.inj (h1.symm.trans g1)
        have := f_ubO_ok e f n q.2.2.1 y qy ry g2 h2
        have := g3 c1
        have h3 : rx - ry ≤ i_min b (q.2.2.2 + f_ubO E F n q.2.2.1 y) := i_min_le (by omega) (by omega)
        simp only [cond_true]; omega
    · have := Nat.eq_of_beq_eq_true hb; subst this
      have : rx = ry := Option.some.inj (h1.symm.trans h2)
      simp only [cond_true]; omega
noncomputable def g_fold {α : Type} (c1 c2 : α → Bool) (g : α → Int → Int) (l : List α) (b : Int) : Int := @List.rec α (fun _ => Int → Int) (fun b => b) (fun q _ r b => @Bool.rec (fun _ => Int) (r b) (@Bool.rec (fun _ => Int) (r b) (r (g q b)) (c2 q)) (c1 q)) l b
theorem g_fold_eq {α : Type} (c1 c2 : α → Bool) (g : α → Int → Int) : ∀ (l : List α) (b : Int), g_fold c1 c2 g l b = l.foldl (fun b q => bif c1 q && c2 q then g q b else b) b
  | [], _ => rfl
  | q :: l, b => by
    have ih := g_fold_eq c1 c2 g l
    have e : g_fold c1 c2 g (q :: l) b = @Bool.rec (fun _ => Int) (g_fold c1 c2 g l b) (@Bool.rec (fun _ => Int) (g_fold c1 c2 g l b) (g_fold c1 c2 g l (g q b)) (c2 q)) (c1 q) := rfl
    rw [e, List.foldl_cons]
    cases c1 q <;> cases c2 q <;> exact ih _
noncomputable def f_ub (E : A_E) (F : A_F) (n x y : Nat) : Int := @Nat.rec (fun _ => Nat → Nat → Int) (fun x y => @Bool.rec (fun _ => Int) ((e_at E x).2.1 - (e_at E y).1) 0 (Nat.beq x y)) (fun _ ih x y => @Bool.rec (fun _ => Int) (g_fold (fun q : Nat × Bool × Nat × Int => q.2.1) (fun q => Nat.beq q.1 x) (fun q b => i_min b (q.2.2.2 + ih q.2.2.1 y)) F ((e_at E x).2.1 - (e_at E y).1)) 0 (Nat.beq x y)) n x y
theorem f_ub_eq (E : A_E) (F : A_F) : ∀ n x y : Nat, f_ub E F n x y = f_ubO E F n x y
  | 0, x, y => by
    have e : f_ub E F 0 x y = @Bool.rec (fun _ => Int) ((e_at E x).2.1 - (e_at E y).1) 0 (Nat.beq x y) := rfl
    have e2 : f_ubO E F 0 x y = bif Nat.beq x y then 0 else (e_at E x).2.1 - (e_at E y).1 := rfl
    rw [e, e2]
    cases Nat.beq x y <;> rfl
  | n + 1, x, y => by
    have e : f_ub E F (n + 1) x y = @Bool.rec (fun _ => Int) (g_fold (fun q : Nat × Bool × Nat × Int => q.2.1) (fun q => Nat.beq q.1 x) (fun q b => i_min b (q.2.2.2 + f_ub E F n q.2.2.1 y)) F ((e_at E x).2.1 - (e_at E y).1)) 0 (Nat.beq x y) := rfl
    have e2 : f_ubO E F (n + 1) x y = bif Nat.beq x y then 0 else F.foldl (fun b q => bif q.2.1 && Nat.beq q.1 x then i_min b (q.2.2.2 + f_ubO E F n q.2.2.1 y) else b) ((e_at E x).2.1 - (e_at E y).1) := rfl
    have e3 : (fun (q : Nat × Bool × Nat × Int) (b : Int) => i_min b (q.2.2.2 + f_ub E F n q.2.2.1 y)) = fun q b => i_min b (q.2.2.2 + f_ubO E F n q.2.2.1 y) := by
      funext q b
      rw [f_ub_eq E F n]
    rw [e, e2, e3, g_fold_eq]
    cases Nat.beq x y <;> rfl
theorem f_ub_ok {B : Int} {E : A_E} {F : A_F} {ρ : List Int} (e : e_ok B E ρ) (f : f_ok F ρ) (n x y : Nat) (rx ry : Int) (h1 : ρ[x]? = some rx) (h2 : ρ[y]? = some ry) : rx ≤ ry + f_ub E F n x y := by
  rw [f_ub_eq]
  exact f_ubO_ok e f n x y rx ry h1 h2
/-- x + y ≤ this -/
noncomputable def f_us (E : A_E) (F : A_F) : Nat → Nat → Nat → Int
  | 0, x, y => (e_at E x).2.1 + (e_at E y).2.1
  | n + 1, x, y => F.foldl (fun b q => bif q.2.1 then (bif Nat.beq q.1 x then i_min b (q.2.2.2 + f_us E F n q.2.2.1 y) else bif Nat.beq q.1 y then i_min b (q.2.2.2 + f_us E F n x q.2.2.1) else b)
      else (bif Nat.beq q.1 x && Nat.beq q.2.2.1 y || Nat.beq q.1 y && Nat.beq q.2.2.1 x then i_min b q.2.2.2 else b)) ((e_at E x).2.1 + (e_at E y).2.1)
theorem f_us_ok {B : Int} {E : A_E} {F : A_F} {ρ : List Int} (e : e_ok B E ρ) (f : f_ok F ρ) : ∀ (n x y : Nat) (rx ry : Int), ρ[x]? = some rx → ρ[y]? = some ry → rx + ry ≤ f_us E F n x y
  | 0, x, y, rx, ry, h1, h2 => by
    unfold f_us
    have e1 := e_at_ok e h1
    have e2 := e_at_ok e h2
    omega
  | n + 1, x, y, rx, ry, h1, h2 => by
    unfold f_us
    have e1 := e_at_ok e h1
    have e2 := e_at_ok e h2
    refine foldl_inv (P := fun b => rx + ry ≤ b) F _ (by omega) (fun b q hq hb2 => ?_)
    obtain ⟨qx, qy, g1, g2, g3, g4⟩ := f q hq
    cases hs : q.2.1
    · simp only [cond_false]
      cases hc : Nat.beq q.1 x && Nat.beq q.2.2.1 y || Nat.beq q.1 y && Nat.beq q.2.2.1 x
      · exact hb2
      · have g4 := g4 hs
        rcases Bool.or_eq_true _ _ |>.mp hc with c | c
        · obtain ⟨c1, c2⟩ := Bool.and_eq_true _ _ |>.mp c
          have a1 := Nat.eq_of_beq_eq_true c1
          have a2 := Nat.eq_of_beq_eq_true c2
          rw [a1] at g1; rw [a2] at g2
          have hx : rx = qx := Option.some.inj (h1.symm.trans g1)
          have hy : ry = qy := Option.some.inj (h2.symm.trans g2)
          exact i_min_le hb2 (by omega)
        · obtain ⟨c1, c2⟩ := Bool.and_eq_true _ _ |>.mp c
          have a1 := Nat.eq_of_beq_eq_true c1
          have a2 := Nat.eq_of_beq_eq_true c2
          rw [a1] at g1; rw [a2] at g2
          have hx : ry = qx := Option.some.inj (h2.symm.trans g1)
          have hy : rx = qy := Option.some.inj (h1.symm.trans g2)
          exact i_min_le hb2 (by omega)
    · simp only [cond_true]
      have g3 := g3 hs
      cases hx : Nat.beq q.1 x
      · cases hy : Nat.beq q.1 y
        · exact hb2
        · have a1 := Nat.eq_of_beq_eq_true hy
          rw [a1] at g1
          have hx : ry = qx := Option.some.inj (h2.symm.trans g1)
          have := f_us_ok e f n x q.2.2.1 rx qy h1 g2
          exact i_min_le hb2 (by omega)
      · have a1 := Nat.eq_of_beq_eq_true hx
        rw [a1] at g1
        have hx : rx = qx := Option.some.inj (h1.symm.trans g1)
        have := f_us_ok e f n q.2.2.1 y qy ry g2 h2
        exact i_min_le hb2 (by omega)
/-- surely a ≤ b + k -/
noncomputable def a_leq (E : A_E) (F : A_F) (a b : A_V) (k : Int) : Bool := i_le (a_hi E F a) (a_lo E F b + k) || (!a_cst a && !a_cst b && i_le (f_ub E F 3 a.2.1 b.2.1 + a.2.2) (b.2.2 + k))
theorem a_leq_ok {B : Int} {E : A_E} {F : A_F} {ρ : List Int} (e : e_ok B E ρ) (f : f_ok F ρ) {a b : A_V} {x y k : Int} (ha : a_ev ρ a = some x) (hb : a_ev ρ b = some y) (h : a_leq E F a b k = true) : x ≤ y + k := by
  unfold a_leq at h
  rcases Bool.or_eq_true _ _ |>.mp h with h | h
  · have := i_le_iff.mp h
    have := a_hi_ok e f ha
    have := a_lo_ok e f hb
    omega
  · obtain ⟨h1, h2⟩ := Bool.and_eq_true _ _ |>.mp h
    obtain ⟨c1, c2⟩ := Bool.and_eq_true _ _ |>.mp h1
    obtain ⟨r, r1, rfl⟩ := a_ev_var ha (by simpa using c1)
    obtain ⟨r', r2, rfl⟩ := a_ev_var hb (by simpa using c2)
    have := f_ub_ok e f 3 _ _ r r' r1 r2
    have := i_le_iff.mp h2
    omega
/-- surely a + b ≤ k -/
noncomputable def a_leqS (E : A_E) (F : A_F) (a b : A_V) (k : Int) : Bool := i_le (a_hi E F a + a_hi E F b) k || (!a_cst a && !a_cst b && i_le (f_us E F 3 a.2.1 b.2.1 + a.2.2 + b.2.2) k)
theorem a_leqS_ok {B : Int} {E : A_E} {F : A_F} {ρ : List Int} (e : e_ok B E ρ) (f : f_ok F ρ) {a b : A_V} {x y k : Int} (ha : a_ev ρ a = some x) (hb : a_ev ρ b = some y) (h : a_leqS E F a b k = true) : x + y ≤ k := by
  unfold a_leqS at h
  rcases Bool.or_eq_true _ _ |>.mp h with h | h
  · have := i_le_iff.mp h
    have := a_hi_ok e f ha
    have := a_hi_ok e f hb
    omega
  · obtain ⟨h1, h2⟩ := Bool.and_eq_true _ _ |>.mp h
    obtain ⟨c1, c2⟩ := Bool.and_eq_true _ _ |>.mp h1
    obtain ⟨r, r1, rfl⟩ := a_ev_var ha (by simpa using c1)
    obtain ⟨r', r2, rfl⟩ := a_ev_var hb (by simpa using c2)
    have := f_us_ok e f 3 _ _ r r' r1 r2
    have := i_le_iff.mp h2
    omega
/-- bounds of a value made narrower; none: it can't be -/
noncomputable def e_cut (E : A_E) (v : Nat) (lo hi : Int) : Option A_E := match e_at E v with
  | (l, h, b) => bif i_le lo l && i_le h hi then some E else bif i_le (i_max l lo) (i_min h hi) then some (g_set E v (i_max l lo, i_min h hi, b)) else none
theorem le_max {a b : Int} : a ≤ i_max a b ∧ b ≤ i_max a b := by
  unfold i_max
  cases h : i_le a b
  · have := i_le_f.mp h; simp only [cond_false]; omega
  · have := i_le_iff.mp h; simp only [cond_true]; omega
theorem min_le {a b : Int} : i_min a b ≤ a ∧ i_min a b ≤ b := by
  unfold i_min
  cases h : i_le a b
  · have := i_le_f.mp h; simp only [cond_false]; omega
  · have := i_le_iff.mp h; simp only [cond_true]; omega
theorem e_cut_ok {B : Int} {E : A_E} {ρ : List Int} (e : e_ok B E ρ) {v : Nat} {r lo hi : Int} (hr : ρ[v]? = some r) (h1 : lo ≤ r) (h2 : r ≤ hi) : ∃ E', e_cut E v lo hi = some E' ∧ e_ok B E' ρ := by
  have q := e_at_ok e hr
  unfold e_cut
  generalize e_at E v = z at q
  obtain ⟨l, h, b⟩ := z
  simp only at q ⊢
  have a1 : i_max l lo ≤ r := i_max_le q.1 h1
  have a2 : r ≤ i_min h hi := i_min_le q.2.1 h2
  cases hz : i_le lo l && i_le h hi with
  | true => exact ⟨E, rfl, e⟩
  | false =>
  have a3 : i_le (i_max l lo) (i_min h hi) = true := i_le_iff.mpr (by omega)
  rw [a3]
  refine ⟨E.set v (i_max l lo, i_min h hi, b), congrArg some (g_set_eq E v (i_max l lo, i_min h hi, b)), by simp [e.1], fun i p s g1 g2 => ?_⟩
  by_cases hi : v = i
  · subst hi
    have hl : v < E.length := by rw [← e.1]; exact (List.getElem?_eq_some_iff.mp hr).1
    rw [List.getElem?_set_self hl] at g1
    cases g1
    have : s = r := Option.some.inj (g2.symm.trans hr)
    subst this
    exact ⟨a1, a2, q.2.2⟩
  · rw [List.getElem?_set_ne hi] at g1
    exact e.2 i p s g1 g2
/-- let a ≤ b + k be so -/
noncomputable def a_asm (E : A_E) (F : A_F) (a b : A_V) (k : Int) : Option (A_E × A_F) :=
  bif a_cst a then (bif a_cst b then (bif i_le a.2.2 (b.2.2 + k) then some (E, F) else none) else match e_cut E b.2.1 (a.2.2 - k - b.2.2) (e_at E b.2.1).2.1 with | some E' => some (E', F) | none => none)
  else bif a_cst b then (match e_cut E a.2.1 (e_at E a.2.1).1 (b.2.2 + k - a.2.2) with | some E' => some (E', F) | none => none)
  else bif Nat.beq a.2.1 b.2.1 then (bif i_le a.2.2 (b.2.2 + k) then some (E, F) else none)
  else match e_cut E a.2.1 (e_at E a.2.1).1 (a_hi E F b + k - a.2.2) with
    | none => none
    | some E' => match e_cut E' b.2.1 (a_lo E F a - k - b.2.2) (e_at E' b.2.1).2.1 with
      | none => none
      | some E2 => bif i_le (f_ub E F 3 b.2.1 a.2.1 + (b.2.2 + k - a.2.2) + 1) 0 then none
        else bif i_le ((e_at E2 a.2.1).2.1 - (e_at E2 b.2.1).1) (b.2.2 + k - a.2.2) then some (E2, F) else some (E2, (a.2.1, true, b.2.1, b.2.2 + k - a.2.2) :: F)
theorem a_asm_ok {B : Int} {E : A_E} {F : A_F} {ρ : List Int} (e : e_ok B E ρ) (f : f_ok F ρ) {a b : A_V} {x y k : Int} (ha : a_ev ρ a = some x) (hb : a_ev ρ b = some y) (h : x ≤ y + k) : ∃ q, a_asm E F a b k = some q ∧ e_ok B q.1 ρ ∧ f_ok q.2 ρ := by
  unfold a_asm
  cases ca : a_cst a
  · obtain ⟨r, r1, rfl⟩ := a_ev_var ha ca
    cases cb : a_cst b
    · obtain ⟨r', r2, rfl⟩ := a_ev_var hb cb
      simp only [cond_false]
      cases hv : Nat.beq a.2.1 b.2.1
      · simp only [cond_false]
        have u1 := a_hi_ok e f hb
        have u2 := a_lo_ok e f ha
        obtain ⟨E', g1, g2⟩ := e_cut_ok e (lo := (e_at E a.2.1).1) (hi := a_hi E F b + k - a.2.2) r1 (e_at_ok e r1).1 (by omega)
        rw [g1]
        obtain ⟨E2, g3, g4⟩ := e_cut_ok g2 (lo := a_lo E F a - k - b.2.2) (hi := (e_at E' b.2.1).2.1) r2 (by omega) (e_at_ok g2 r2).2.1
        simp only
        rw [g3]
        simp only
        have u3 := f_ub_ok e f 3 _ _ r' r r2 r1
        have u4 : i_le (f_ub E F 3 b.2.1 a.2.1 + (b.2.2 + k - a.2.2) + 1) 0 = false := i_le_f.mpr (by omega)
        rw [u4]
        simp only [cond_false]
        cases hz : i_le ((e_at E2 a.2.1).2.1 - (e_at E2 b.2.1).1) (b.2.2 + k - a.2.2)
        · refine ⟨_, rfl, g4, fun q hq => ?_⟩
          rcases List.mem_cons.mp hq with rfl | hq
          · exact ⟨r, r', r1, r2, fun _ => by simp only; omega, fun z => by cases z⟩
          · exact f q hq
        · exact ⟨_, rfl, g4, f⟩
      · have hv := Nat.eq_of_beq_eq_true hv
        simp only [cond_true]
        rw [hv] at r1
        have : r = r' := Option.some.inj (r1.symm.trans r2)
        have u : i_le a.2.2 (b.2.2 + k) = true := i_le_iff.mpr (by omega)
        rw [u]
        exact ⟨_, rfl, e, f⟩
    · have := a_ev_cst hb cb
      simp only [cond_false, cond_true]
      obtain ⟨E', g1, g2⟩ := e_cut_ok e (lo := (e_at E a.2.1).1) (hi := b.2.2 + k - a.2.2) r1 (e_at_ok e r1).1 (by omega)
      rw [g1]
      exact ⟨_, rfl, g2, f⟩
  · have := a_ev_cst ha ca
    cases cb : a_cst b
    · obtain ⟨r', r2, rfl⟩ := a_ev_var hb cb
      simp only [cond_false, cond_true]
      obtain ⟨E', g1, g2⟩ := e_cut_ok e (lo := a.2.2 - k - b.2.2) (hi := (e_at E b.2.1).2.1) r2 (by omega) (e_at_ok e r2).2.1
      rw [g1]
      exact ⟨_, rfl, g2, f⟩
    · have := a_ev_cst hb cb
      simp only [cond_true]
      have u : i_le a.2.2 (b.2.2 + k) = true := i_le_iff.mpr (by omega)
      rw [u]
      exact ⟨_, rfl, e, f⟩

/-! ===== numbers of 32 and 64 bits, by their bounds ===== -/
def i_m : Int := -2147483648
def i_M : Int := 2147483647
def l_m : Int := -9223372036854775808
def l_M : Int := 9223372036854775807
theorem i32_rng (x : Int32) : i_m ≤ x.toInt ∧ x.toInt ≤ i_M := by
  have h1 := Int32.le_toInt x
  have h2 := Int32.toInt_lt x
  unfold i_m i_M
  omega
theorem i64_rng (x : Int64) : l_m ≤ x.toInt ∧ x.toInt ≤ l_M := by
  have h1 := Int64.le_toInt x
  have h2 := Int64.toInt_lt x
  unfold l_m l_M
  omega
theorem i32_bm {z : Int} (h1 : i_m ≤ z) (h2 : z ≤ i_M) : z.bmod (2 ^ 32) = z := by
  unfold i_m at h1
  unfold i_M at h2
  exact Int.bmod_eq_of_le (by omega) (by omega)
theorem i32_add {x y : Int32} (h1 : i_m ≤ x.toInt + y.toInt) (h2 : x.toInt + y.toInt ≤ i_M) : (x + y).toInt = x.toInt + y.toInt := by
  rw [Int32.toInt_add, i32_bm h1 h2]
theorem i32_sub {x y : Int32} (h1 : i_m ≤ x.toInt - y.toInt) (h2 : x.toInt - y.toInt ≤ i_M) : (x - y).toInt = x.toInt - y.toInt := by
  rw [Int32.toInt_sub, i32_bm h1 h2]
theorem i32_mul {x y : Int32} (h1 : i_m ≤ x.toInt * y.toInt) (h2 : x.toInt * y.toInt ≤ i_M) : (x * y).toInt = x.toInt * y.toInt := by
  rw [Int32.toInt_mul, i32_bm h1 h2]
theorem i32_of (x : Int32) : Int32.ofInt x.toInt = x := Int32.ofInt_toInt x
theorem i64_of (x : Int64) : Int64.ofInt x.toInt = x := Int64.ofInt_toInt x
/-- a new value within lo .. hi -/
noncomputable def a_mk (E : A_E) (lo hi : Int) : A_E × A_V :=
  bif i_le i_m lo && i_le hi i_M then (bif i_le hi lo then (E, (0, 0, lo)) else (g_push E (lo, hi, false), (1, E.length, 0))) else (g_push E (i_m, i_M, false), (1, E.length, 0))
theorem a_mk_ok {B : Int} {E : A_E} {ρ : List Int} (e : e_ok B E ρ) {lo hi : Int} (x : Int32) (h : i_m ≤ lo → hi ≤ i_M → lo ≤ x.toInt ∧ x.toInt ≤ hi) :
    ∃ ρ', r_ext ρ ρ' ∧ e_ok B (a_mk E lo hi).1 ρ' ∧ a_ev ρ' (a_mk E lo hi).2 = some x.toInt ∧ a_isI (a_mk E lo hi).2 = true := by
  unfold a_mk
  cases hb : i_le i_m lo && i_le hi i_M
  · refine ⟨ρ ++ [x.toInt], r_ext.push _, e_ok_pushG e ⟨(i32_rng x).1, (i32_rng x).2, fun z => by cases z⟩, ?_, rfl⟩
    show ((ρ ++ [x.toInt])[E.length]?).map (fun r => r + 0) = _
    rw [r_at_push _ e]; simp
  · obtain ⟨b1, b2⟩ := Bool.and_eq_true _ _ |>.mp hb
    obtain ⟨h1, h2⟩ := h (i_le_iff.mp b1) (i_le_iff.mp b2)
    simp only [cond_true]
    cases hz : i_le hi lo
    · simp only [cond_false]
      refine ⟨ρ ++ [x.toInt], r_ext.push _, e_ok_pushG e ⟨h1, h2, fun z => by cases z⟩, ?_, rfl⟩
      show ((ρ ++ [x.toInt])[E.length]?).map (fun r => r + 0) = _
      rw [r_at_push _ e]; simp
    · have hq := i_le_iff.mp hz
      simp only [cond_true]
      refine ⟨ρ, r_ext.rf, e, ?_, rfl⟩
      show some lo = _
      exact congrArg some (by omega)
noncomputable def a_mkL (E : A_E) (lo hi : Int) : A_E × A_V := (g_push E (lo, hi, false), (4, E.length, 0))
theorem a_mkL_ok {B : Int} {E : A_E} {ρ : List Int} (e : e_ok B E ρ) {lo hi : Int} (x : Int64) (h : lo ≤ x.toInt ∧ x.toInt ≤ hi) :
    ∃ ρ', r_ext ρ ρ' ∧ e_ok B (a_mkL E lo hi).1 ρ' ∧ a_ev ρ' (a_mkL E lo hi).2 = some x.toInt ∧ a_isL (a_mkL E lo hi).2 = true := by
  refine ⟨ρ ++ [x.toInt], r_ext.push _, e_ok_pushG e ⟨h.1, h.2, fun z => by cases z⟩, ?_, rfl⟩
  show ((ρ ++ [x.toInt])[E.length]?).map (fun r => r + 0) = _
  rw [r_at_push _ e]; simp
/-- a + k, k a number -/
noncomputable def a_addk (E : A_E) (F : A_F) (a : A_V) (k : Int) : A_E × A_V :=
  bif i_le i_m (a_lo E F a + k) && i_le (a_hi E F a + k) i_M then (E, (a.1, a.2.1, a.2.2 + k)) else bif a_cst a then (E, (0, 0, (Int32.ofInt a.2.2 + Int32.ofInt k).toInt)) else a_mk E i_m i_M
theorem a_ev_shift {ρ : List Int} {a : A_V} {x k : Int} (h : a_ev ρ a = some x) : a_ev ρ (a.1, a.2.1, a.2.2 + k) = some (x + k) := by
  obtain ⟨t, n, c⟩ := a
  have hz : ∀ (o : Option Int), o.map (fun r => r + c) = some x → o.map (fun r => r + (c + k)) = some (x + k) := by
    intro o ho
    cases o with
    | none => cases ho
    | some r =>
      have h1 : r + c = x := by simpa using ho
      exact congrArg some (by show r + (c + k) = x + k; omega)
  match t, h with
  | 0, h =>
    have h1 : c = x := by simpa [a_ev] using h
    exact congrArg some (by show c + k = x + k; omega)
  | 1, h => exact hz _ h
  | 3, h =>
    have h1 : c = x := by simpa [a_ev] using h
    exact congrArg some (by show c + k = x + k; omega)
  | 4, h => exact hz _ h
  | 2, h => exact absurd h (by simp [a_ev])
  | t + 5, h => exact absurd h (by simp [a_ev])
theorem a_mk_any {B : Int} {E : A_E} {ρ : List Int} (e : e_ok B E ρ) (x : Int32) : ∃ ρ', r_ext ρ ρ' ∧ e_ok B (a_mk E i_m i_M).1 ρ' ∧ a_ev ρ' (a_mk E i_m i_M).2 = some x.toInt ∧ a_isI (a_mk E i_m i_M).2 = true := a_mk_ok e x (fun _ _ => i32_rng x)
theorem a_addk_ok {B : Int} {E : A_E} {F : A_F} {ρ : List Int} (e : e_ok B E ρ) (f : f_ok F ρ) {a : A_V} {x : Int32} {k : Int} (hi : a_isI a = true) (h : a_ev ρ a = some x.toInt) :
    ∃ ρ', r_ext ρ ρ' ∧ e_ok B (a_addk E F a k).1 ρ' ∧ a_ev ρ' (a_addk E F a k).2 = some (x + Int32.ofInt k).toInt ∧ a_isI (a_addk E F a k).2 = true := by
  unfold a_addk
  cases hb : i_le i_m (a_lo E F a + k) && i_le (a_hi E F a + k) i_M
  · simp only [cond_false]
    cases hc : a_cst a
    · exact a_mk_any e _
    · have hx := a_ev_cst h hc
      simp only [cond_true]
      refine ⟨ρ, r_ext.rf, e, ?_, rfl⟩
      show some _ = _
      rw [← hx, i32_of]
  · obtain ⟨b1, b2⟩ := Bool.and_eq_true _ _ |>.mp hb
    have u1 := i_le_iff.mp b1
    have u2 := i_le_iff.mp b2
    have u3 := a_lo_ok e f h
    have u4 := a_hi_ok e f h
    simp only [cond_true]
    refine ⟨ρ, r_ext.rf, e, ?_, hi⟩
    rw [a_ev_shift h]
    congr 1
    have : (x + Int32.ofInt k).toInt = (x.toInt + k).bmod (2 ^ 32) := by
      rw [Int32.toInt_add, Int32.toInt_ofInt]
      simp
    rw [this, i32_bm (by omega) (by omega)]
end
section
/-! THE NUMBERS' OPERATIONS over bounds -/
abbrev A_R : Type := A_E × A_F × A_V
def r_ok (B : Int) (ρ : List Int) (R : A_R) (x : Int32) : Prop := ∃ ρ', r_ext ρ ρ' ∧ e_ok B R.1 ρ' ∧ f_ok R.2.1 ρ' ∧ a_ev ρ' R.2.2 = some x.toInt ∧ a_isI R.2.2 = true
noncomputable def a_mkF (E : A_E) (F : A_F) (lo hi : Int) : A_R := match a_mk E lo hi with | (E', a) => (E', F, a)
theorem r_mk {B : Int} {E : A_E} {F : A_F} {ρ : List Int} (e : e_ok B E ρ) (f : f_ok F ρ) {lo hi : Int} (x : Int32) (h : i_m ≤ lo → hi ≤ i_M → lo ≤ x.toInt ∧ x.toInt ≤ hi) : r_ok B ρ (a_mkF E F lo hi) x := by
  obtain ⟨ρ', g1, g2, g3, g4⟩ := a_mk_ok e x h
  exact ⟨ρ', g1, g2, f_ok_ext g1 f, g3, g4⟩
theorem r_any {B : Int} {E : A_E} {F : A_F} {ρ : List Int} (e : e_ok B E ρ) (f : f_ok F ρ) (x : Int32) : r_ok B ρ (a_mkF E F i_m i_M) x := r_mk e f x (fun _ _ => i32_rng x)
theorem r_same {B : Int} {E : A_E} {F : A_F} {ρ : List Int} (e : e_ok B E ρ) (f : f_ok F ρ) {a : A_V} {x y : Int32} (hi : a_isI a = true) (h : a_ev ρ a = some y.toInt) (hxy : y.toInt = x.toInt) : r_ok B ρ (E, F, a) x := ⟨ρ, r_ext.rf, e, f, by rw [h, hxy], hi⟩
theorem a_ofInt {ρ : List Int} {a : A_V} {x : Int32} (h : a_ev ρ a = some x.toInt) (hc : a_cst a = true) : Int32.ofInt a.2.2 = x := by
  rw [← a_ev_cst h hc]; exact i32_of x
noncomputable def a_addF (E : A_E) (F : A_F) (a : A_V) (k : Int) : A_R := match a_addk E F a k with | (E', a') => (E', F, a')
theorem r_addk {B : Int} {E : A_E} {F : A_F} {ρ : List Int} (e : e_ok B E ρ) (f : f_ok F ρ) {a : A_V} {x : Int32} {k : Int} (hi : a_isI a = true) (h : a_ev ρ a = some x.toInt) : r_ok B ρ (a_addF E F a k) (x + Int32.ofInt k) := by
  obtain ⟨ρ', g1, g2, g3, g4⟩ := a_addk_ok e f (k := k) hi h
  exact ⟨ρ', g1, g2, f_ok_ext g1 f, g3, g4⟩
noncomputable def a_add (E : A_E) (F : A_F) (a b : A_V) : A_R :=
  bif a_cst b then a_addF E F a b.2.2 else bif a_cst a then a_addF E F b a.2.2 else a_mkF E F (a_lo E F a + a_lo E F b) (i_min (a_hi E F a + a_hi E F b) (f_us E F 3 a.2.1 b.2.1 + a.2.2 + b.2.2))
theorem a_add_ok {B : Int} {E : A_E} {F : A_F} {ρ : List Int} (e : e_ok B E ρ) (f : f_ok F ρ) {a b : A_V} {x y : Int32} (ia : a_isI a = true) (ib : a_isI b = true) (ha : a_ev ρ a = some x.toInt) (hb : a_ev ρ b = some y.toInt) : r_ok B ρ (a_add E F a b) (x + y) := by
  unfold a_add
  cases cb : a_cst b
  · cases ca : a_cst a
    · simp only [cond_false]
      obtain ⟨r, r1, h1⟩ := a_ev_var ha ca
      obtain ⟨r', r2, h2⟩ := a_ev_var hb cb
      have u1 := a_lo_ok e f ha
      have u2 := a_lo_ok e f hb
      have u3 := a_hi_ok e f ha
      have u4 := a_hi_ok e f hb
      have u5 := f_us_ok e f 3 _ _ r r' r1 r2
      refine r_mk e f _ (fun g1 g2 => ?_)
      have u6 : x.toInt + y.toInt ≤ i_min (a_hi E F a + a_hi E F b) (f_us E F 3 a.2.1 b.2.1 + a.2.2 + b.2.2) := i_min_le (by omega) (by omega)
      rw [i32_add (by omega) (by omega)]
      omega
    · simp only [cond_false, cond_true]
      rw [← a_ofInt ha ca, Int32.add_comm]
      exact r_addk e f ib hb
  · simp only [cond_true]
    rw [← a_ofInt hb cb]
    exact r_addk e f ia ha
noncomputable def a_sub (E : A_E) (F : A_F) (a b : A_V) : A_R :=
  bif a_cst b then a_addF E F a (-b.2.2) else
  bif a_cst a then (bif i_le i_m (a.2.2 - a_hi E F b) && i_le (a.2.2 - a_lo E F b) i_M then (g_push E (a.2.2 - a_hi E F b, a.2.2 - a_lo E F b, false), (E.length, false, b.2.1, a.2.2 - b.2.2) :: F, (1, E.length, 0)) else a_mkF E F i_m i_M) else
  bif Nat.beq a.2.1 b.2.1 then a_mkF E F (a.2.2 - b.2.2) (a.2.2 - b.2.2) else
  a_mkF E F (i_max (a_lo E F a - a_hi E F b) (a.2.2 - b.2.2 - f_ub E F 3 b.2.1 a.2.1)) (i_min (a_hi E F a - a_lo E F b) (f_ub E F 3 a.2.1 b.2.1 + a.2.2 - b.2.2))
theorem i32_neg_add (x y : Int32) : x + Int32.ofInt (-y.toInt) = x - y := by
  apply Int32.toInt_inj.mp
  rw [Int32.toInt_add, Int32.toInt_sub, Int32.toInt_ofInt]
  simp [Int.sub_eq_add_neg]
theorem a_sub_ok {B : Int} {E : A_E} {F : A_F} {ρ : List Int} (e : e_ok B E ρ) (f : f_ok F ρ) {a b : A_V} {x y : Int32} (ia : a_isI a = true) (ib : a_isI b = true) (ha : a_ev ρ a = some x.toInt) (hb : a_ev ρ b = some y.toInt) : r_ok B ρ (a_sub E F a b) (x - y) := by
  unfold a_sub
  have u1 := a_lo_ok e f ha
  have u2 := a_lo_ok e f hb
  have u3 := a_hi_ok e f ha
  have u4 := a_hi_ok e f hb
  cases cb : a_cst b
  · simp only [cond_false]
    obtain ⟨r', r2, h2⟩ := a_ev_var hb cb
    cases ca : a_cst a
    · simp only [cond_false]
      obtain ⟨r, r1, h1⟩ := a_ev_var ha ca
      cases hv : Nat.beq a.2.1 b.2.1
      · simp only [cond_false]
        have u5 := f_ub_ok e f 3 _ _ r r' r1 r2
        have u7 := f_ub_ok e f 3 _ _ r' r r2 r1
        refine r_mk e f _ (fun g1 g2 => ?_)
        have u6 : x.toInt - y.toInt ≤ i_min (a_hi E F a - a_lo E F b) (f_ub E F 3 a.2.1 b.2.1 + a.2.2 - b.2.2) := i_min_le (by omega) (by omega)
        have u8 : i_max (a_lo E F a - a_hi E F b) (a.2.2 - b.2.2 - f_ub E F 3 b.2.1 a.2.1) ≤ x.toInt - y.toInt := i_max_le (by omega) (by omega)
        rw [i32_sub (by omega) (by omega)]
        omega
      · simp only [cond_true]
        have hv := Nat.eq_of_beq_eq_true hv
        rw [hv] at r1
        have : r = r' := Option.some.inj (r1.symm.trans r2)
        refine r_mk e f _ (fun g1 g2 => ?_)
        rw [i32_sub (by omega) (by omega)]
        omega
    · simp only [cond_true]
      have h1 := a_ev_cst ha ca
      cases hz : i_le i_m (a.2.2 - a_hi E F b) && i_le (a.2.2 - a_lo E F b) i_M
      · exact r_any e f _
      · simp only [cond_true]
        obtain ⟨b1, b2⟩ := Bool.and_eq_true _ _ |>.mp hz
        have b1 := i_le_iff.mp b1
        have b2 := i_le_iff.mp b2
        have es : (x - y).toInt = x.toInt - y.toInt := i32_sub (by omega) (by omega)
        refine ⟨ρ ++ [(x - y).toInt], r_ext.push _, e_ok_pushG e ⟨by rw [es]; show a.2.2 - a_hi E F b ≤ _; omega, by rw [es]; show _ ≤ a.2.2 - a_lo E F b; omega, fun z => by cases z⟩, ?_, ?_, rfl⟩
        · intro q hq
          rcases List.mem_cons.mp hq with rfl | hq
          · exact ⟨(x - y).toInt, r', r_at_push _ e, r_ext.push _ _ _ r2, (fun z => by cases z), (fun _ => by rw [es]; show _ ≤ a.2.2 - b.2.2; omega)⟩
          · exact f_ok_ext (r_ext.push _) f q hq
        · show ((ρ ++ [(x - y).toInt])[E.length]?).map (fun r => r + 0) = _
          rw [r_at_push _ e]; simp
  · simp only [cond_true]
    have h2 := a_ev_cst hb cb
    rw [← h2, ← i32_neg_add]
    exact r_addk e f ia ha
/-- products: the greatest and the least of the corners -/
theorem mul_le_corner {x y la ha lb hb M : Int} (h1 : la ≤ x) (h2 : x ≤ ha) (h3 : lb ≤ y) (h4 : y ≤ hb) (c1 : la * lb ≤ M) (c2 : la * hb ≤ M) (c3 : ha * lb ≤ M) (c4 : ha * hb ≤ M) : x * y ≤ M := by
  have row : ∀ k : Int, k * lb ≤ M → k * hb ≤ M → k * y ≤ M := by
    intro k k1 k2
    rcases Int.le_total 0 k with hk | hk
    · exact Int.le_trans (Int.mul_le_mul_of_nonneg_left h4 hk) k2
    · exact Int.le_trans (Int.mul_le_mul_of_nonpos_left hk h3) k1
  have r1 := row la c1 c2
  have r2 := row ha c3 c4
  rcases Int.le_total 0 y with hy | hy
  · exact Int.le_trans (Int.mul_le_mul_of_nonneg_right h2 hy) r2
  · exact Int.le_trans (Int.mul_le_mul_of_nonpos_right h1 hy) r1
theorem corner_le_mul {x y la ha lb hb m : Int} (h1 : la ≤ x) (h2 : x ≤ ha) (h3 : lb ≤ y) (h4 : y ≤ hb) (c1 : m ≤ la * lb) (c2 : m ≤ la * hb) (c3 : m ≤ ha * lb) (c4 : m ≤ ha * hb) : m ≤ x * y := by
  have := mul_le_corner (x := -x) (y := y) (la := -ha) (ha := -la) (lb := lb) (hb := hb) (M := -m) (by omega) (by omega) h3 h4 (by rw [Int.neg_mul]; omega) (by rw [Int.neg_mul]; omega) (by rw [Int.neg_mul]; omega) (by rw [Int.neg_mul]; omega)
  rw [Int.neg_mul] at this
  omega
noncomputable def a_mul (E : A_E) (F : A_F) (a b : A_V) : A_R :=
  bif a_cst b && (i_le 1 b.2.2 && i_le b.2.2 1) then (E, F, a) else
  match a_lo E F a, a_hi E F a, a_lo E F b, a_hi E F b with
  | la, ha, lb, hb => a_mkF E F (i_min (i_min (la * lb) (la * hb)) (i_min (ha * lb) (ha * hb))) (i_max (i_max (la * lb) (la * hb)) (i_max (ha * lb) (ha * hb)))
theorem a_mul_ok {B : Int} {E : A_E} {F : A_F} {ρ : List Int} (e : e_ok B E ρ) (f : f_ok F ρ) {a b : A_V} {x y : Int32} (ia : a_isI a = true) (ha : a_ev ρ a = some x.toInt) (hb : a_ev ρ b = some y.toInt) : r_ok B ρ (a_mul E F a b) (x * y) := by
  unfold a_mul
  have u1 := a_lo_ok e f ha
  have u2 := a_lo_ok e f hb
  have u3 := a_hi_ok e f ha
  have u4 := a_hi_ok e f hb
  cases hc : a_cst b && (i_le 1 b.2.2 && i_le b.2.2 1)
  · simp only [cond_false]
    refine r_mk e f _ (fun g1 g2 => ?_)
    generalize a_lo E F a = la at *
    generalize a_hi E F a = ha' at *
    generalize a_lo E F b = lb at *
    generalize a_hi E F b = hb' at *
    have v1 := @le_max (la * lb) (la * hb')
    have v2 := @le_max (ha' * lb) (ha' * hb')
    have v3 := @le_max (i_max (la * lb) (la * hb')) (i_max (ha' * lb) (ha' * hb'))
    have w1 := @min_le (la * lb) (la * hb')
    have w2 := @min_le (ha' * lb) (ha' * hb')
    have w3 := @min_le (i_min (la * lb) (la * hb')) (i_min (ha' * lb) (ha' * hb'))
    have z1 := mul_le_corner u1 u3 u2 u4 (M := i_max (i_max (la * lb) (la * hb')) (i_max (ha' * lb) (ha' * hb'))) (by omega) (by omega) (by omega) (by omega)
    have z2 := corner_le_mul u1 u3 u2 u4 (m := i_min (i_min (la * lb) (la * hb')) (i_min (ha' * lb) (ha' * hb'))) (by omega) (by omega) (by omega) (by omega)
    rw [i32_mul (by omega) (by omega)]
    exact ⟨z2, z1⟩
  · simp only [cond_true]
    obtain ⟨b1, b2⟩ := Bool.and_eq_true _ _ |>.mp hc
    have h2 := a_ev_cst hb b1
    obtain ⟨b3, b4⟩ := Bool.and_eq_true _ _ |>.mp b2
    have b3 := i_le_iff.mp b3
    have b4 := i_le_iff.mp b4
    have h3 : b.2.2 = 1 := by omega
    have : y = 1 := by
      apply Int32.toInt_inj.mp
      rw [h2, h3]; rfl
    subst this
    rw [Int32.mul_one]
    exact r_same e f ia ha rfl
/-- quotient and rest by a number above 0 -/
def a_two (g : Int32 → Int32 → Int32) (k : A_E → A_F → A_V → A_V → A_R) (E : A_E) (F : A_F) (a b : A_V) : A_R := bif a_cst a && a_cst b then (E, F, (0, 0, (g (Int32.ofInt a.2.2) (Int32.ofInt b.2.2)).toInt)) else k E F a b
theorem a_two_ok {B : Int} {E : A_E} {F : A_F} {ρ : List Int} (e : e_ok B E ρ) (f : f_ok F ρ) {a b : A_V} {x y : Int32} {g : Int32 → Int32 → Int32} {k : A_E → A_F → A_V → A_V → A_R} (ha : a_ev ρ a = some x.toInt) (hb : a_ev ρ b = some y.toInt) (h : r_ok B ρ (k E F a b) (g x y)) : r_ok B ρ (a_two g k E F a b) (g x y) := by
  unfold a_two
  cases hc : a_cst a && a_cst b
  · exact h
  · obtain ⟨b1, b2⟩ := Bool.and_eq_true _ _ |>.mp hc
    simp only [cond_true]
    rw [a_ofInt ha b1, a_ofInt hb b2]
    exact ⟨ρ, r_ext.rf, e, f, rfl, rfl⟩
noncomputable def a_div1 (E : A_E) (F : A_F) (a b : A_V) : A_R := bif a_cst b && (i_le 1 b.2.2 && i_le 0 (a_lo E F a)) then a_mkF E F (a_lo E F a / b.2.2) (a_hi E F a / b.2.2) else a_mkF E F i_m i_M
noncomputable def a_div (E : A_E) (F : A_F) (a b : A_V) : A_R := a_two (fun x y => x / y) a_div1 E F a b
theorem a_div_ok {B : Int} {E : A_E} {F : A_F} {ρ : List Int} (e : e_ok B E ρ) (f : f_ok F ρ) {a b : A_V} {x y : Int32} (ha : a_ev ρ a = some x.toInt) (hb : a_ev ρ b = some y.toInt) : r_ok B ρ (a_div E F a b) (x / y) := by
  refine a_two_ok (g := fun x y => x / y) e f ha hb ?_
  unfold a_div1
  cases hc : a_cst b && (i_le 1 b.2.2 && i_le 0 (a_lo E F a))
  · exact r_any e f _
  · obtain ⟨b1, b2⟩ := Bool.and_eq_true _ _ |>.mp hc
    obtain ⟨b2, b3⟩ := Bool.and_eq_true _ _ |>.mp b2
    have h2 := a_ev_cst hb b1
    have b2 := i_le_iff.mp b2
    have b3 := i_le_iff.mp b3
    have u1 := a_lo_ok e f ha
    have u3 := a_hi_ok e f ha
    simp only [cond_true]
    refine r_mk e f _ (fun g1 g2 => ?_)
    have hne : y ≠ -1 := fun z => by subst z; have : (-1 : Int32).toInt = -1 := rfl; omega
    show _ ≤ (x / y).toInt ∧ (x / y).toInt ≤ _
    rw [Int32.toInt_div_of_ne_right x y hne, Int.tdiv_eq_ediv_of_nonneg (by omega), h2]
    exact ⟨Int.ediv_le_ediv (by omega) u1, Int.ediv_le_ediv (by omega) u3⟩
noncomputable def a_rem1 (E : A_E) (F : A_F) (a b : A_V) : A_R := bif a_cst b && i_le 1 b.2.2 then (bif i_le 0 (a_lo E F a) then (bif i_le (a_hi E F a + 1) b.2.2 then (E, F, a) else a_mkF E F 0 (b.2.2 - 1)) else a_mkF E F (1 - b.2.2) (b.2.2 - 1)) else a_mkF E F i_m i_M
noncomputable def a_rem (E : A_E) (F : A_F) (a b : A_V) : A_R := a_two (fun x y => x - x / y * y) a_rem1 E F a b
theorem a_rem_ok {B : Int} {E : A_E} {F : A_F} {ρ : List Int} (e : e_ok B E ρ) (f : f_ok F ρ) {a b : A_V} {x y : Int32} (ia : a_isI a = true) (ha : a_ev ρ a = some x.toInt) (hb : a_ev ρ b = some y.toInt) : r_ok B ρ (a_rem E F a b) (x - x / y * y) := by
  refine a_two_ok (g := fun x y => x - x / y * y) e f ha hb ?_
  unfold a_rem1
  have hr : (x - x / y * y).toInt = x.toInt.tmod y.toInt := rem_toInt x y
  cases hc : a_cst b && i_le 1 b.2.2
  · exact r_any e f _
  · obtain ⟨b1, b2⟩ := Bool.and_eq_true _ _ |>.mp hc
    have h2 := a_ev_cst hb b1
    have b2 := i_le_iff.mp b2
    have u1 := a_lo_ok e f ha
    have u3 := a_hi_ok e f ha
    have tb := tmod_bounds (a := x.toInt) (M := y.toInt) (by omega)
    simp only [cond_true]
    cases b3 : i_le 0 (a_lo E F a)
    · simp only [cond_false]
      refine r_mk e f _ (fun g1 g2 => ?_)
      show _ ≤ (x - x / y * y).toInt ∧ (x - x / y * y).toInt ≤ _
      rw [hr]; omega
    · have b3 := i_le_iff.mp b3
      simp only [cond_true]
      cases b4 : i_le (a_hi E F a + 1) b.2.2
      · simp only [cond_false]
        refine r_mk e f _ (fun g1 g2 => ?_)
        show _ ≤ (x - x / y * y).toInt ∧ (x - x / y * y).toInt ≤ _
        rw [hr]
        have := Int.tmod_nonneg (a := x.toInt) y.toInt (by omega)
        omega
      · have b4 := i_le_iff.mp b4
        refine r_same e f ia ha ?_
        show _ = (x - x / y * y).toInt
        rw [hr, Int.tmod_eq_emod_of_nonneg (by omega), Int.emod_eq_of_lt (by omega) (by omega)]
/-- and, or, xor, shifts -/
theorem i32_nat {x : Int32} (h : 0 ≤ x.toInt) : x.toInt = x.toBitVec.toNat ∧ x.toBitVec.toNat < 2 ^ 31 := by
  have h1 : x.toInt = x.toBitVec.toInt := rfl
  have h2 := x.toBitVec.isLt
  rw [h1, BitVec.toInt_eq_toNat_cond] at h ⊢
  split <;> rename_i hc
  · rw [if_pos hc] at h; omega
  · rw [if_neg hc] at h; omega
theorem i32_ofNat {x : Int32} (h : x.toBitVec.toNat < 2 ^ 31) : x.toInt = x.toBitVec.toNat := by
  have h1 : x.toInt = x.toBitVec.toInt := rfl
  rw [h1, BitVec.toInt_eq_toNat_cond, if_pos (by omega)]
theorem i32_and_r {x y : Int32} (h : 0 ≤ y.toInt) : 0 ≤ (x &&& y).toInt ∧ (x &&& y).toInt ≤ y.toInt := by
  obtain ⟨h1, h2⟩ := i32_nat h
  have h3 : (x &&& y).toBitVec.toNat ≤ y.toBitVec.toNat := by
    rw [Int32.toBitVec_and, BitVec.toNat_and]; exact Nat.and_le_right
  rw [i32_ofNat (by omega : (x &&& y).toBitVec.toNat < 2 ^ 31), h1]
  omega
theorem i32_and_l {x y : Int32} (h : 0 ≤ x.toInt) : 0 ≤ (x &&& y).toInt ∧ (x &&& y).toInt ≤ x.toInt := by
  obtain ⟨h1, h2⟩ := i32_nat h
  have h3 : (x &&& y).toBitVec.toNat ≤ x.toBitVec.toNat := by
    rw [Int32.toBitVec_and, BitVec.toNat_and]; exact Nat.and_le_left
  rw [i32_ofNat (by omega : (x &&& y).toBitVec.toNat < 2 ^ 31), h1]
  omega
noncomputable def a_and1 (E : A_E) (F : A_F) (a b : A_V) : A_R := bif i_le 0 (a_lo E F b) then (bif i_le 0 (a_lo E F a) then a_mkF E F 0 (i_min (a_hi E F a) (a_hi E F b)) else a_mkF E F 0 (a_hi E F b)) else (bif i_le 0 (a_lo E F a) then a_mkF E F 0 (a_hi E F a) else a_mkF E F i_m i_M)
noncomputable def a_and (E : A_E) (F : A_F) (a b : A_V) : A_R := a_two (fun x y => x &&& y) a_and1 E F a b
theorem a_and_ok {B : Int} {E : A_E} {F : A_F} {ρ : List Int} (e : e_ok B E ρ) (f : f_ok F ρ) {a b : A_V} {x y : Int32} (ha : a_ev ρ a = some x.toInt) (hb : a_ev ρ b = some y.toInt) : r_ok B ρ (a_and E F a b) (x &&& y) := by
  refine a_two_ok (g := fun x y => x &&& y) e f ha hb ?_
  have u1 := a_lo_ok e f ha
  have u2 := a_lo_ok e f hb
  have u3 := a_hi_ok e f ha
  have u4 := a_hi_ok e f hb
  unfold a_and1
  cases c1 : i_le 0 (a_lo E F b)
  · cases c2 : i_le 0 (a_lo E F a)
    · exact r_any e f _
    · have c2 := i_le_iff.mp c2
      have := i32_and_l (x := x) (y := y) (by omega)
      exact r_mk e f _ (fun _ _ => ⟨this.1, Int.le_trans this.2 u3⟩)
  · have c1 := i_le_iff.mp c1
    have w := i32_and_r (x := x) (y := y) (by omega)
    cases c2 : i_le 0 (a_lo E F a)
    · exact r_mk e f _ (fun _ _ => ⟨w.1, Int.le_trans w.2 u4⟩)
    · have c2 := i_le_iff.mp c2
      have := i32_and_l (x := x) (y := y) (by omega)
      exact r_mk e f _ (fun _ _ => ⟨this.1, i_min_le (Int.le_trans this.2 u3) (Int.le_trans w.2 u4)⟩)
/-- 2^k - 1, the least that n reaches to, k up to 31 -/
noncomputable def a_pw (n : Int) : Nat → Nat → Nat
  | 0, k => k
  | m + 1, k => bif i_le n (2 ^ k - 1) then k else a_pw n m (k + 1)
theorem a_pw_ok {n : Int} : ∀ (m k : Nat), n ≤ 2 ^ (a_pw n m k) - 1 ∨ a_pw n m k = m + k
  | 0, k => Or.inr (by simp [a_pw])
  | m + 1, k => by
    unfold a_pw
    cases h : i_le n (2 ^ k - 1)
    · rcases a_pw_ok m (k + 1) with h | h
      · exact Or.inl h
      · exact Or.inr (by simp only [cond_false]; omega)
    · exact Or.inl (i_le_iff.mp h)
noncomputable def a_orx (E : A_E) (F : A_F) (a b : A_V) : A_R := bif i_le 0 (a_lo E F a) && i_le 0 (a_lo E F b) then a_mkF E F 0 (2 ^ (a_pw (i_max (a_hi E F a) (a_hi E F b)) 31 0) - 1) else a_mkF E F i_m i_M
theorem a_orx_ok {B : Int} {E : A_E} {F : A_F} {ρ : List Int} (e : e_ok B E ρ) (f : f_ok F ρ) {a b : A_V} {x y z : Int32} (ha : a_ev ρ a = some x.toInt) (hb : a_ev ρ b = some y.toInt)
    (hz : ∀ k : Nat, x.toBitVec.toNat < 2 ^ k → y.toBitVec.toNat < 2 ^ k → z.toBitVec.toNat < 2 ^ k) : r_ok B ρ (a_orx E F a b) z := by
  have u1 := a_lo_ok e f ha
  have u2 := a_lo_ok e f hb
  have u3 := a_hi_ok e f ha
  have u4 := a_hi_ok e f hb
  unfold a_orx
  cases hc : i_le 0 (a_lo E F a) && i_le 0 (a_lo E F b)
  · exact r_any e f _
  · obtain ⟨b1, b2⟩ := Bool.and_eq_true _ _ |>.mp hc
    have b1 := i_le_iff.mp b1
    have b2 := i_le_iff.mp b2
    obtain ⟨x1, x2⟩ := i32_nat (x := x) (by omega)
    obtain ⟨y1, y2⟩ := i32_nat (x := y) (by omega)
    simp only [cond_true]
    refine r_mk e f _ (fun g1 g2 => ?_)
    have hm := @le_max (a_hi E F a) (a_hi E F b)
    generalize i_max (a_hi E F a) (a_hi E F b) = M at *
    have z31 := i32_ofNat (hz 31 x2 y2)
    have key : z.toBitVec.toNat < 2 ^ (a_pw M 31 0) := by
      rcases a_pw_ok (n := M) 31 0 with h | h
      · have e2 : ((2 ^ (a_pw M 31 0) : Nat) : Int) = 2 ^ (a_pw M 31 0) := by push_cast; rfl
        exact hz _ (by omega) (by omega)
      · rw [h]; exact hz 31 x2 y2
    have e2 : ((2 ^ (a_pw M 31 0) : Nat) : Int) = 2 ^ (a_pw M 31 0) := by push_cast; rfl
    omega
noncomputable def a_or (E : A_E) (F : A_F) (a b : A_V) : A_R := a_two (fun x y => x ||| y) a_orx E F a b
theorem a_or_ok {B : Int} {E : A_E} {F : A_F} {ρ : List Int} (e : e_ok B E ρ) (f : f_ok F ρ) {a b : A_V} {x y : Int32} (ha : a_ev ρ a = some x.toInt) (hb : a_ev ρ b = some y.toInt) : r_ok B ρ (a_or E F a b) (x ||| y) := by
  refine a_two_ok (g := fun x y => x ||| y) e f ha hb (a_orx_ok e f ha hb (fun k h1 h2 => ?_))
  rw [Int32.toBitVec_or, BitVec.toNat_or]; exact Nat.or_lt_two_pow h1 h2
noncomputable def a_xor (E : A_E) (F : A_F) (a b : A_V) : A_R := a_two (fun x y => x ^^^ y) a_orx E F a b
theorem a_xor_ok {B : Int} {E : A_E} {F : A_F} {ρ : List Int} (e : e_ok B E ρ) (f : f_ok F ρ) {a b : A_V} {x y : Int32} (ha : a_ev ρ a = some x.toInt) (hb : a_ev ρ b = some y.toInt) : r_ok B ρ (a_xor E F a b) (x ^^^ y) := by
  refine a_two_ok (g := fun x y => x ^^^ y) e f ha hb (a_orx_ok e f ha hb (fun k h1 h2 => ?_))
  rw [Int32.toBitVec_xor, BitVec.toNat_xor]; exact Nat.xor_lt_two_pow h1 h2
noncomputable def a_shl1 (E : A_E) (F : A_F) (a b : A_V) : A_R := bif a_cst a && (i_le 1 a.2.2 && i_le a.2.2 1) && (i_le 0 (a_lo E F b) && i_le (a_hi E F b) 30) then a_mkF E F (2 ^ (a_lo E F b).toNat) (2 ^ (a_hi E F b).toNat) else a_mkF E F i_m i_M
noncomputable def a_shl (E : A_E) (F : A_F) (a b : A_V) : A_R := a_two (fun x y => x <<< (y &&& 31)) a_shl1 E F a b
theorem shl_one : ∀ n : Nat, n < 31 → ((1 : Int32) <<< (Int32.ofInt n &&& 31)).toInt = 2 ^ n := by decide +kernel
theorem a_shl_ok {B : Int} {E : A_E} {F : A_F} {ρ : List Int} (e : e_ok B E ρ) (f : f_ok F ρ) {a b : A_V} {x y : Int32} (ha : a_ev ρ a = some x.toInt) (hb : a_ev ρ b = some y.toInt) : r_ok B ρ (a_shl E F a b) (x <<< (y &&& 31)) := by
  refine a_two_ok (g := fun x y => x <<< (y &&& 31)) e f ha hb ?_
  unfold a_shl1
  cases hc : a_cst a && (i_le 1 a.2.2 && i_le a.2.2 1) && (i_le 0 (a_lo E F b) && i_le (a_hi E F b) 30)
  · exact r_any e f _
  · obtain ⟨b1, b2⟩ := Bool.and_eq_true _ _ |>.mp hc
    obtain ⟨b1, b3⟩ := Bool.and_eq_true _ _ |>.mp b1
    obtain ⟨b3, b4⟩ := Bool.and_eq_true _ _ |>.mp b3
    obtain ⟨b5, b6⟩ := Bool.and_eq_true _ _ |>.mp b2
    have b3 := i_le_iff.mp b3
    have b4 := i_le_iff.mp b4
    have b5 := i_le_iff.mp b5
    have b6 := i_le_iff.mp b6
    have u2 := a_lo_ok e f hb
    have u4 := a_hi_ok e f hb
    have h1 := a_ev_cst ha b1
    have hx : x = 1 := by
      apply Int32.toInt_inj.mp
      rw [h1, show a.2.2 = 1 by omega]; rfl
    subst hx
    have hy : Int32.ofInt (y.toInt.toNat : Nat) = y := by
      rw [Int.toNat_of_nonneg (by omega)]; exact i32_of y
    have hs := shl_one y.toInt.toNat (by omega)
    rw [hy] at hs
    simp only [cond_true]
    refine r_mk e f _ (fun g1 g2 => ?_)
    show _ ≤ ((1 : Int32) <<< (y &&& 31)).toInt ∧ ((1 : Int32) <<< (y &&& 31)).toInt ≤ _
    rw [hs]
    have p1 : (2 : Nat) ^ (a_lo E F b).toNat ≤ 2 ^ y.toInt.toNat := Nat.pow_le_pow_right (by decide) (by omega)
    have p2 : (2 : Nat) ^ y.toInt.toNat ≤ 2 ^ (a_hi E F b).toNat := Nat.pow_le_pow_right (by decide) (by omega)
    have q1 : ((2 ^ (a_lo E F b).toNat : Nat) : Int) ≤ ((2 ^ y.toInt.toNat : Nat) : Int) := Int.ofNat_le.mpr p1
    have q2 : ((2 ^ y.toInt.toNat : Nat) : Int) ≤ ((2 ^ (a_hi E F b).toNat : Nat) : Int) := Int.ofNat_le.mpr p2
    push_cast at q1 q2
    exact ⟨q1, q2⟩
noncomputable def a_shr1 (E : A_E) (F : A_F) (a _b : A_V) : A_R := bif i_le 0 (a_lo E F a) then a_mkF E F 0 (a_hi E F a) else a_mkF E F i_m i_M
noncomputable def a_shr (E : A_E) (F : A_F) (a b : A_V) : A_R := a_two (fun x y => x >>> (y &&& 31)) a_shr1 E F a b
theorem i32_shr {x y : Int32} (h : 0 ≤ x.toInt) : 0 ≤ (x >>> y).toInt ∧ (x >>> y).toInt ≤ x.toInt := by
  have e1 : (x >>> y).toInt = x.toInt >>> (y.toBitVec.smod 32).toNat := by
    show (x >>> y).toBitVec.toInt = _
    rw [Int32.toBitVec_shiftRight]; exact BitVec.toInt_sshiftRight
  rw [e1, Int.shiftRight_eq_div_pow]
  exact ⟨Int.ediv_nonneg h (by exact_mod_cast Nat.zero_le _), Int.ediv_le_self _ h⟩
theorem a_shr_ok {B : Int} {E : A_E} {F : A_F} {ρ : List Int} (e : e_ok B E ρ) (f : f_ok F ρ) {a b : A_V} {x y : Int32} (ha : a_ev ρ a = some x.toInt) (hb : a_ev ρ b = some y.toInt) : r_ok B ρ (a_shr E F a b) (x >>> (y &&& 31)) := by
  refine a_two_ok (g := fun x y => x >>> (y &&& 31)) e f ha hb ?_
  have u1 := a_lo_ok e f ha
  have u3 := a_hi_ok e f ha
  unfold a_shr1
  cases hc : i_le 0 (a_lo E F a)
  · exact r_any e f _
  · have hc := i_le_iff.mp hc
    have := i32_shr (x := x) (y := y &&& 31) (by omega)
    exact r_mk e f _ (fun _ _ => ⟨this.1, Int.le_trans this.2 u3⟩)
def j_ushr (x y : Int32) : Int32 := (x.toUInt32 >>> (y.toUInt32 &&& Int32.toUInt32 31)).toInt32
noncomputable def a_ush1 (E : A_E) (F : A_F) (_a b : A_V) : A_R := bif a_cst b && (i_le 1 b.2.2 && i_le b.2.2 31) then a_mkF E F 0 (2 ^ (32 - b.2.2.toNat) - 1) else a_mkF E F i_m i_M
noncomputable def a_ush (E : A_E) (F : A_F) (a b : A_V) : A_R := a_two j_ushr a_ush1 E F a b
theorem ush_amt : ∀ n : Nat, n < 32 → ((Int32.ofInt n).toUInt32 &&& Int32.toUInt32 31).toBitVec % 32 = BitVec.ofNat 32 n := by decide +kernel
theorem a_ush_ok {B : Int} {E : A_E} {F : A_F} {ρ : List Int} (e : e_ok B E ρ) (f : f_ok F ρ) {a b : A_V} {x y : Int32} (ha : a_ev ρ a = some x.toInt) (hb : a_ev ρ b = some y.toInt) : r_ok B ρ (a_ush E F a b) (j_ushr x y) := by
  refine a_two_ok (g := j_ushr) e f ha hb ?_
  unfold a_ush1
  cases hc : a_cst b && (i_le 1 b.2.2 && i_le b.2.2 31)
  · exact r_any e f _
  · obtain ⟨b1, b2⟩ := Bool.and_eq_true _ _ |>.mp hc
    obtain ⟨b2, b3⟩ := Bool.and_eq_true _ _ |>.mp b2
    have b2 := i_le_iff.mp b2
    have b3 := i_le_iff.mp b3
    have h1 := a_ev_cst hb b1
    simp only [cond_true]
    refine r_mk e f _ (fun g1 g2 => ?_)
    have hy : Int32.ofInt (b.2.2.toNat : Nat) = y := by
      rw [Int.toNat_of_nonneg (by omega), ← h1]; exact i32_of y
    have ht := ush_amt b.2.2.toNat (by omega)
    rw [hy] at ht
    have hv : (j_ushr x y).toBitVec.toNat = x.toBitVec.toNat >>> b.2.2.toNat := by
      show (x.toUInt32 >>> (y.toUInt32 &&& Int32.toUInt32 31)).toBitVec.toNat = _
      rw [UInt32.toBitVec_shiftRight, ht, BitVec.ushiftRight_eq', BitVec.toNat_ushiftRight]
      rw [BitVec.toNat_ofNat, Nat.mod_eq_of_lt (by omega)]
      rfl
    rw [Nat.shiftRight_eq_div_pow] at hv
    have hx := x.toBitVec.isLt
    have hp : (2 : Nat) ^ 32 = 2 ^ (32 - b.2.2.toNat) * 2 ^ b.2.2.toNat := by rw [← Nat.pow_add]; congr 1; omega
    have hlt : (j_ushr x y).toBitVec.toNat < 2 ^ (32 - b.2.2.toNat) := by
      rw [hv]; exact Nat.div_lt_of_lt_mul (by rw [Nat.mul_comm, ← hp]; exact hx)
    have h31 : (2 : Nat) ^ (32 - b.2.2.toNat) ≤ 2 ^ 31 := Nat.pow_le_pow_right (by decide) (by omega)
    rw [i32_ofNat (by omega)]
    have e2 : ((2 ^ (32 - b.2.2.toNat) : Nat) : Int) = 2 ^ (32 - b.2.2.toNat) := by push_cast; rfl
    omega
/-- one number: its negative, its low bytes -/
noncomputable def a_neg (E : A_E) (F : A_F) (a : A_V) : A_R := a_mkF E F (-a_hi E F a) (-a_lo E F a)
theorem a_neg_ok {B : Int} {E : A_E} {F : A_F} {ρ : List Int} (e : e_ok B E ρ) (f : f_ok F ρ) {a : A_V} {x : Int32} (ha : a_ev ρ a = some x.toInt) : r_ok B ρ (a_neg E F a) (-x) := by
  have u1 := a_lo_ok e f ha
  have u3 := a_hi_ok e f ha
  refine r_mk e f _ (fun g1 g2 => ?_)
  rw [Int32.toInt_neg, i32_bm (by omega) (by omega)]
  omega
noncomputable def a_nar (lo hi : Int) (E : A_E) (F : A_F) (a : A_V) : A_R := bif i_le lo (a_lo E F a) && i_le (a_hi E F a) hi then (E, F, a) else a_mkF E F lo hi
theorem a_nar_ok {B : Int} {E : A_E} {F : A_F} {ρ : List Int} (e : e_ok B E ρ) (f : f_ok F ρ) {a : A_V} {x y : Int32} {lo hi : Int} (ia : a_isI a = true) (ha : a_ev ρ a = some x.toInt) (hr : lo ≤ y.toInt ∧ y.toInt ≤ hi) (hs : lo ≤ x.toInt → x.toInt ≤ hi → y.toInt = x.toInt) : r_ok B ρ (a_nar lo hi E F a) y := by
  have u1 := a_lo_ok e f ha
  have u3 := a_hi_ok e f ha
  unfold a_nar
  cases hc : i_le lo (a_lo E F a) && i_le (a_hi E F a) hi
  · exact r_mk e f _ (fun _ _ => hr)
  · obtain ⟨b1, b2⟩ := Bool.and_eq_true _ _ |>.mp hc
    have b1 := i_le_iff.mp b1
    have b2 := i_le_iff.mp b2
    exact r_same e f ia ha (hs (by omega) (by omega)).symm
theorem nar_b (x : Int32) : (-128 ≤ x.toInt8.toInt32.toInt ∧ x.toInt8.toInt32.toInt ≤ 127) ∧ (-128 ≤ x.toInt → x.toInt ≤ 127 → x.toInt8.toInt32.toInt = x.toInt) := by
  rw [Int8.toInt_toInt32, Int32.toInt_toInt8]
  have h1 := Int.le_bmod (x := x.toInt) (m := 2 ^ 8) (by decide)
  have h2 := Int.bmod_lt (x := x.toInt) (m := 2 ^ 8) (by decide)
  exact ⟨⟨by omega, by omega⟩, fun g1 g2 => Int.bmod_eq_of_le (by omega) (by omega)⟩
theorem nar_s (x : Int32) : (-32768 ≤ x.toInt16.toInt32.toInt ∧ x.toInt16.toInt32.toInt ≤ 32767) ∧ (-32768 ≤ x.toInt → x.toInt ≤ 32767 → x.toInt16.toInt32.toInt = x.toInt) := by
  rw [Int16.toInt_toInt32, Int32.toInt_toInt16]
  have h1 := Int.le_bmod (x := x.toInt) (m := 2 ^ 16) (by decide)
  have h2 := Int.bmod_lt (x := x.toInt) (m := 2 ^ 16) (by decide)
  exact ⟨⟨by omega, by omega⟩, fun g1 g2 => Int.bmod_eq_of_le (by omega) (by omega)⟩
theorem nar_c (x : Int32) : (0 ≤ (x.toUInt32 % 65536).toInt32.toInt ∧ (x.toUInt32 % 65536).toInt32.toInt ≤ 65535) ∧ (0 ≤ x.toInt → x.toInt ≤ 65535 → (x.toUInt32 % 65536).toInt32.toInt = x.toInt) := by
  have hv : (x.toUInt32 % 65536).toInt32.toBitVec.toNat = x.toBitVec.toNat % 65536 := by
    show (x.toUInt32 % 65536).toBitVec.toNat = _
    rw [UInt32.toBitVec_mod, BitVec.toNat_umod]; rfl
  have hl : x.toBitVec.toNat % 65536 < 65536 := Nat.mod_lt _ (by decide)
  rw [i32_ofNat (by omega)]
  refine ⟨⟨by omega, by omega⟩, fun g1 g2 => ?_⟩
  obtain ⟨h1, h2⟩ := i32_nat g1
  rw [hv, h1, Nat.mod_eq_of_lt (by omega)]
end
section
/-! THE CELLS BY THEIR TYPES; what a small frame is known to be -/
def h_N : Nat := 279
abbrev h_C : Type := (Nat ⊕ Nat) × Nat × List (Nat × Int × Int)
def h_row0 : List h_C := [(.inr 12, 14, [(1, 1, 0), (1, 3, 0), (1, 12, 0), (1, 18, 0), (1, 24, 0), (1, 28, 0), (1, 116, 0), (1, 118, 0), (1, 122, 0), (1, 140, 0), (1, 153, 0), (1, 193, 0), (1, 250, 0), (0, 0, 9)]),
  (.inr 6, 4, [(1, 2, 0), (0, 0, 80), (0, -2147483648, 2147483647), (0, -2147483648, 2147483647)]),
  (.inl 2, 80, [(0, 0, 65535)]),
  (.inr 1, 14, [(1, 4, 0), (1, 8, 0), (1, 9, 0), (1, 10, 0), (1, 11, 0), (0, 0, 3), (0, 0, 3), (0, 0, 5), (0, 0, 3), (0, 0, 3), (0, -2147483648, 2147483647), (0, 0, 5), (0, -2147483648, 2147483647), (0, -2147483648, 2147483647)]),
  (.inr 4, 4, [(1, 5, 0), (1, 6, 0), (1, 7, 0), (0, 0, 40)]),
  (.inl 0, 40, [(0, -2147483648, 2147483647)]),
  (.inl 0, 40, [(0, -2147483648, 2147483647)]),
  (.inl 0, 7, [(0, -2147483648, 2147483647)]),
  (.inl 0, 30, [(0, -2147483648, 2147483647)]),
  (.inl 0, 9, [(0, -2147483648, 2147483647)]),
  (.inl 0, 5, [(0, -2147483648, 2147483647)]),
  (.inl 0, 30, [(0, -2147483648, 2147483647)]),
  (.inr 8, 9, [(1, 13, 0), (1, 14, 0), (1, 15, 0), (1, 16, 0), (1, 17, 0), (0, -2147483648, 2147483647), (0, -2147483648, 2147483647), (0, -2147483648, 2147483647), (0, -2147483648, 2147483647)]),
  (.inl 0, 9, [(0, -2147483648, 2147483647)]),
  (.inl 0, 9, [(0, -2147483648, 2147483647)]),
  (.inl 0, 5, [(0, -2147483648, 2147483647)])]
def h_row1 : List h_C := [(.inl 0, 5, [(0, -2147483648, 2147483647)]),
  (.inl 0, 5, [(0, -2147483648, 2147483647)]),
  (.inr 8, 9, [(1, 19, 0), (1, 20, 0), (1, 21, 0), (1, 22, 0), (1, 23, 0), (0, -2147483648, 2147483647), (0, -2147483648, 2147483647), (0, -2147483648, 2147483647), (0, -2147483648, 2147483647)]),
  (.inl 0, 9, [(0, -2147483648, 2147483647)]),
  (.inl 0, 9, [(0, -2147483648, 2147483647)]),
  (.inl 0, 5, [(0, -2147483648, 2147483647)]),
  (.inl 0, 5, [(0, -2147483648, 2147483647)]),
  (.inl 0, 5, [(0, -2147483648, 2147483647)]),
  (.inr 0, 14, [(1, 3, 0), (1, 25, 0), (1, 26, 0), (1, 27, 0), (0, -2147483648, 2147483647), (0, -2147483648, 2147483647), (0, -2147483648, 2147483647), (0, -2147483648, 2147483647), (0, -2147483648, 2147483647), (0, -2147483648, 2147483647), (0, -2147483648, 2147483647), (0, -2147483648, 2147483647), (0, -2147483648, 2147483647), (0, -2147483648, 2147483647)]),
  (.inl 0, 9, [(0, -2147483648, 2147483647)]),
  (.inl 0, 9, [(0, -2147483648, 2147483647)]),
  (.inl 0, 9, [(0, -2147483648, 2147483647)]),
  (.inr 3, 5, [(1, 29, 0), (1, 30, 0), (1, 31, 0), (0, 0, 11), (0, 0, 12)]),
  (.inl 5, 12, [(1, 32, 0), (1, 38, 0), (1, 44, 0), (1, 50, 0), (1, 56, 0), (1, 62, 0), (1, 68, 0), (1, 74, 0), (1, 80, 0), (1, 86, 0), (1, 92, 0), (1, 98, 0)]),
  (.inl 5, 2, [(1, 104, 0), (1, 110, 0)]),
  (.inl 0, 2, [(0, -2147483648, 2147483647)])]
def h_row2 : List h_C := [(.inr 8, 9, [(1, 33, 0), (1, 34, 0), (1, 35, 0), (1, 36, 0), (1, 37, 0), (0, -2147483648, 2147483647), (0, -2147483648, 2147483647), (0, -2147483648, 2147483647), (0, -2147483648, 2147483647)]),
  (.inl 0, 9, [(0, -2147483648, 2147483647)]),
  (.inl 0, 9, [(0, -2147483648, 2147483647)]),
  (.inl 0, 5, [(0, -2147483648, 2147483647)]),
  (.inl 0, 5, [(0, -2147483648, 2147483647)]),
  (.inl 0, 5, [(0, -2147483648, 2147483647)]),
  (.inr 8, 9, [(1, 39, 0), (1, 40, 0), (1, 41, 0), (1, 42, 0), (1, 43, 0), (0, -2147483648, 2147483647), (0, -2147483648, 2147483647), (0, -2147483648, 2147483647), (0, -2147483648, 2147483647)]),
  (.inl 0, 9, [(0, -2147483648, 2147483647)]),
  (.inl 0, 9, [(0, -2147483648, 2147483647)]),
  (.inl 0, 5, [(0, -2147483648, 2147483647)]),
  (.inl 0, 5, [(0, -2147483648, 2147483647)]),
  (.inl 0, 5, [(0, -2147483648, 2147483647)]),
  (.inr 8, 9, [(1, 45, 0), (1, 46, 0), (1, 47, 0), (1, 48, 0), (1, 49, 0), (0, -2147483648, 2147483647), (0, -2147483648, 2147483647), (0, -2147483648, 2147483647), (0, -2147483648, 2147483647)]),
  (.inl 0, 9, [(0, -2147483648, 2147483647)]),
  (.inl 0, 9, [(0, -2147483648, 2147483647)]),
  (.inl 0, 5, [(0, -2147483648, 2147483647)])]
def h_row3 : List h_C := [(.inl 0, 5, [(0, -2147483648, 2147483647)]),
  (.inl 0, 5, [(0, -2147483648, 2147483647)]),
  (.inr 8, 9, [(1, 51, 0), (1, 52, 0), (1, 53, 0), (1, 54, 0), (1, 55, 0), (0, -2147483648, 2147483647), (0, -2147483648, 2147483647), (0, -2147483648, 2147483647), (0, -2147483648, 2147483647)]),
  (.inl 0, 9, [(0, -2147483648, 2147483647)]),
  (.inl 0, 9, [(0, -2147483648, 2147483647)]),
  (.inl 0, 5, [(0, -2147483648, 2147483647)]),
  (.inl 0, 5, [(0, -2147483648, 2147483647)]),
  (.inl 0, 5, [(0, -2147483648, 2147483647)]),
  (.inr 8, 9, [(1, 57, 0), (1, 58, 0), (1, 59, 0), (1, 60, 0), (1, 61, 0), (0, -2147483648, 2147483647), (0, -2147483648, 2147483647), (0, -2147483648, 2147483647), (0, -2147483648, 2147483647)]),
  (.inl 0, 9, [(0, -2147483648, 2147483647)]),
  (.inl 0, 9, [(0, -2147483648, 2147483647)]),
  (.inl 0, 5, [(0, -2147483648, 2147483647)]),
  (.inl 0, 5, [(0, -2147483648, 2147483647)]),
  (.inl 0, 5, [(0, -2147483648, 2147483647)]),
  (.inr 8, 9, [(1, 63, 0), (1, 64, 0), (1, 65, 0), (1, 66, 0), (1, 67, 0), (0, -2147483648, 2147483647), (0, -2147483648, 2147483647), (0, -2147483648, 2147483647), (0, -2147483648, 2147483647)]),
  (.inl 0, 9, [(0, -2147483648, 2147483647)])]
def h_row4 : List h_C := [(.inl 0, 9, [(0, -2147483648, 2147483647)]),
  (.inl 0, 5, [(0, -2147483648, 2147483647)]),
  (.inl 0, 5, [(0, -2147483648, 2147483647)]),
  (.inl 0, 5, [(0, -2147483648, 2147483647)]),
  (.inr 8, 9, [(1, 69, 0), (1, 70, 0), (1, 71, 0), (1, 72, 0), (1, 73, 0), (0, -2147483648, 2147483647), (0, -2147483648, 2147483647), (0, -2147483648, 2147483647), (0, -2147483648, 2147483647)]),
  (.inl 0, 9, [(0, -2147483648, 2147483647)]),
  (.inl 0, 9, [(0, -2147483648, 2147483647)]),
  (.inl 0, 5, [(0, -2147483648, 2147483647)]),
  (.inl 0, 5, [(0, -2147483648, 2147483647)]),
  (.inl 0, 5, [(0, -2147483648, 2147483647)]),
  (.inr 8, 9, [(1, 75, 0), (1, 76, 0), (1, 77, 0), (1, 78, 0), (1, 79, 0), (0, -2147483648, 2147483647), (0, -2147483648, 2147483647), (0, -2147483648, 2147483647), (0, -2147483648, 2147483647)]),
  (.inl 0, 9, [(0, -2147483648, 2147483647)]),
  (.inl 0, 9, [(0, -2147483648, 2147483647)]),
  (.inl 0, 5, [(0, -2147483648, 2147483647)]),
  (.inl 0, 5, [(0, -2147483648, 2147483647)]),
  (.inl 0, 5, [(0, -2147483648, 2147483647)])]
def h_row5 : List h_C := [(.inr 8, 9, [(1, 81, 0), (1, 82, 0), (1, 83, 0), (1, 84, 0), (1, 85, 0), (0, -2147483648, 2147483647), (0, -2147483648, 2147483647), (0, -2147483648, 2147483647), (0, -2147483648, 2147483647)]),
  (.inl 0, 9, [(0, -2147483648, 2147483647)]),
  (.inl 0, 9, [(0, -2147483648, 2147483647)]),
  (.inl 0, 5, [(0, -2147483648, 2147483647)]),
  (.inl 0, 5, [(0, -2147483648, 2147483647)]),
  (.inl 0, 5, [(0, -2147483648, 2147483647)]),
  (.inr 8, 9, [(1, 87, 0), (1, 88, 0), (1, 89, 0), (1, 90, 0), (1, 91, 0), (0, -2147483648, 2147483647), (0, -2147483648, 2147483647), (0, -2147483648, 2147483647), (0, -2147483648, 2147483647)]),
  (.inl 0, 9, [(0, -2147483648, 2147483647)]),
  (.inl 0, 9, [(0, -2147483648, 2147483647)]),
  (.inl 0, 5, [(0, -2147483648, 2147483647)]),
  (.inl 0, 5, [(0, -2147483648, 2147483647)]),
  (.inl 0, 5, [(0, -2147483648, 2147483647)]),
  (.inr 8, 9, [(1, 93, 0), (1, 94, 0), (1, 95, 0), (1, 96, 0), (1, 97, 0), (0, -2147483648, 2147483647), (0, -2147483648, 2147483647), (0, -2147483648, 2147483647), (0, -2147483648, 2147483647)]),
  (.inl 0, 9, [(0, -2147483648, 2147483647)]),
  (.inl 0, 9, [(0, -2147483648, 2147483647)]),
  (.inl 0, 5, [(0, -2147483648, 2147483647)])]
def h_row6 : List h_C := [(.inl 0, 5, [(0, -2147483648, 2147483647)]),
  (.inl 0, 5, [(0, -2147483648, 2147483647)]),
  (.inr 8, 9, [(1, 99, 0), (1, 100, 0), (1, 101, 0), (1, 102, 0), (1, 103, 0), (0, -2147483648, 2147483647), (0, -2147483648, 2147483647), (0, -2147483648, 2147483647), (0, -2147483648, 2147483647)]),
  (.inl 0, 9, [(0, -2147483648, 2147483647)]),
  (.inl 0, 9, [(0, -2147483648, 2147483647)]),
  (.inl 0, 5, [(0, -2147483648, 2147483647)]),
  (.inl 0, 5, [(0, -2147483648, 2147483647)]),
  (.inl 0, 5, [(0, -2147483648, 2147483647)]),
  (.inr 8, 9, [(1, 105, 0), (1, 106, 0), (1, 107, 0), (1, 108, 0), (1, 109, 0), (0, -2147483648, 2147483647), (0, -2147483648, 2147483647), (0, -2147483648, 2147483647), (0, -2147483648, 2147483647)]),
  (.inl 0, 9, [(0, -2147483648, 2147483647)]),
  (.inl 0, 9, [(0, -2147483648, 2147483647)]),
  (.inl 0, 5, [(0, -2147483648, 2147483647)]),
  (.inl 0, 5, [(0, -2147483648, 2147483647)]),
  (.inl 0, 5, [(0, -2147483648, 2147483647)]),
  (.inr 8, 9, [(1, 111, 0), (1, 112, 0), (1, 113, 0), (1, 114, 0), (1, 115, 0), (0, -2147483648, 2147483647), (0, -2147483648, 2147483647), (0, -2147483648, 2147483647), (0, -2147483648, 2147483647)]),
  (.inl 0, 9, [(0, -2147483648, 2147483647)])]
def h_row7 : List h_C := [(.inl 0, 9, [(0, -2147483648, 2147483647)]),
  (.inl 0, 5, [(0, -2147483648, 2147483647)]),
  (.inl 0, 5, [(0, -2147483648, 2147483647)]),
  (.inl 0, 5, [(0, -2147483648, 2147483647)]),
  (.inr 5, 3, [(1, 1, 0), (1, 117, 0), (0, 0, 40)]),
  (.inl 0, 40, [(0, -2147483648, 2147483647)]),
  (.inr 11, 5, [(1, 1, 0), (1, 119, 0), (1, 120, 0), (1, 121, 0), (0, 0, 30)]),
  (.inl 0, 30, [(0, -2147483648, 2147483647)]),
  (.inl 0, 30, [(0, -2147483648, 2147483647)]),
  (.inl 0, 30, [(0, -2147483648, 2147483647)]),
  (.inr 2, 14, [(1, 3, 0), (1, 24, 0), (1, 123, 0), (1, 129, 0), (1, 135, 0), (1, 136, 0), (1, 137, 0), (1, 138, 0), (1, 139, 0), (0, 0, 4), (0, -2147483648, 2147483647), (0, 0, 1), (0, -2147483648, 2147483647), (0, -2147483648, 2147483647)]),
  (.inr 8, 9, [(1, 124, 0), (1, 125, 0), (1, 126, 0), (1, 127, 0), (1, 128, 0), (0, -2147483648, 2147483647), (0, -2147483648, 2147483647), (0, -2147483648, 2147483647), (0, -2147483648, 2147483647)]),
  (.inl 0, 9, [(0, -2147483648, 2147483647)]),
  (.inl 0, 9, [(0, -2147483648, 2147483647)]),
  (.inl 0, 5, [(0, -2147483648, 2147483647)]),
  (.inl 0, 5, [(0, -2147483648, 2147483647)])]
def h_row8 : List h_C := [(.inl 0, 5, [(0, -2147483648, 2147483647)]),
  (.inr 8, 9, [(1, 130, 0), (1, 131, 0), (1, 132, 0), (1, 133, 0), (1, 134, 0), (0, -2147483648, 2147483647), (0, -2147483648, 2147483647), (0, -2147483648, 2147483647), (0, -2147483648, 2147483647)]),
  (.inl 0, 9, [(0, -2147483648, 2147483647)]),
  (.inl 0, 9, [(0, -2147483648, 2147483647)]),
  (.inl 0, 5, [(0, -2147483648, 2147483647)]),
  (.inl 0, 5, [(0, -2147483648, 2147483647)]),
  (.inl 0, 5, [(0, -2147483648, 2147483647)]),
  (.inl 0, 4, [(0, 0, 4)]),
  (.inl 0, 4, [(0, -2147483648, 2147483647)]),
  (.inl 0, 4, [(0, -2147483648, 2147483647)]),
  (.inl 0, 3, [(0, -2147483648, 2147483647)]),
  (.inl 0, 375, [(0, -2147483648, 2147483647)]),
  (.inr 7, 6, [(1, 3, 0), (1, 24, 0), (1, 141, 0), (1, 147, 0), (0, -2147483648, 2147483647), (0, -2147483648, 2147483647)]),
  (.inr 8, 9, [(1, 142, 0), (1, 143, 0), (1, 144, 0), (1, 145, 0), (1, 146, 0), (0, -2147483648, 2147483647), (0, -2147483648, 2147483647), (0, -2147483648, 2147483647), (0, -2147483648, 2147483647)]),
  (.inl 0, 9, [(0, -2147483648, 2147483647)]),
  (.inl 0, 9, [(0, -2147483648, 2147483647)])]
def h_row9 : List h_C := [(.inl 0, 5, [(0, -2147483648, 2147483647)]),
  (.inl 0, 5, [(0, -2147483648, 2147483647)]),
  (.inl 0, 5, [(0, -2147483648, 2147483647)]),
  (.inr 8, 9, [(1, 148, 0), (1, 149, 0), (1, 150, 0), (1, 151, 0), (1, 152, 0), (0, -2147483648, 2147483647), (0, -2147483648, 2147483647), (0, -2147483648, 2147483647), (0, -2147483648, 2147483647)]),
  (.inl 0, 9, [(0, -2147483648, 2147483647)]),
  (.inl 0, 9, [(0, -2147483648, 2147483647)]),
  (.inl 0, 5, [(0, -2147483648, 2147483647)]),
  (.inl 0, 5, [(0, -2147483648, 2147483647)]),
  (.inl 0, 5, [(0, -2147483648, 2147483647)]),
  (.inr 9, 7, [(1, 3, 0), (1, 24, 0), (1, 154, 0), (1, 155, 0), (1, 156, 0), (0, 0, 5), (0, -2147483648, 2147483647)]),
  (.inl 5, 6, [(1, 157, 0), (1, 163, 0), (1, 169, 0), (1, 175, 0), (1, 181, 0), (1, 187, 0)]),
  (.inl 0, 5, [(0, -2147483648, 2147483647)]),
  (.inl 0, 5, [(0, -2147483648, 2147483647)]),
  (.inr 8, 9, [(1, 158, 0), (1, 159, 0), (1, 160, 0), (1, 161, 0), (1, 162, 0), (0, -2147483648, 2147483647), (0, -2147483648, 2147483647), (0, -2147483648, 2147483647), (0, -2147483648, 2147483647)]),
  (.inl 0, 9, [(0, -2147483648, 2147483647)]),
  (.inl 0, 9, [(0, -2147483648, 2147483647)])]
def h_row10 : List h_C := [(.inl 0, 5, [(0, -2147483648, 2147483647)]),
  (.inl 0, 5, [(0, -2147483648, 2147483647)]),
  (.inl 0, 5, [(0, -2147483648, 2147483647)]),
  (.inr 8, 9, [(1, 164, 0), (1, 165, 0), (1, 166, 0), (1, 167, 0), (1, 168, 0), (0, -2147483648, 2147483647), (0, -2147483648, 2147483647), (0, -2147483648, 2147483647), (0, -2147483648, 2147483647)]),
  (.inl 0, 9, [(0, -2147483648, 2147483647)]),
  (.inl 0, 9, [(0, -2147483648, 2147483647)]),
  (.inl 0, 5, [(0, -2147483648, 2147483647)]),
  (.inl 0, 5, [(0, -2147483648, 2147483647)]),
  (.inl 0, 5, [(0, -2147483648, 2147483647)]),
  (.inr 8, 9, [(1, 170, 0), (1, 171, 0), (1, 172, 0), (1, 173, 0), (1, 174, 0), (0, -2147483648, 2147483647), (0, -2147483648, 2147483647), (0, -2147483648, 2147483647), (0, -2147483648, 2147483647)]),
  (.inl 0, 9, [(0, -2147483648, 2147483647)]),
  (.inl 0, 9, [(0, -2147483648, 2147483647)]),
  (.inl 0, 5, [(0, -2147483648, 2147483647)]),
  (.inl 0, 5, [(0, -2147483648, 2147483647)]),
  (.inl 0, 5, [(0, -2147483648, 2147483647)]),
  (.inr 8, 9, [(1, 176, 0), (1, 177, 0), (1, 178, 0), (1, 179, 0), (1, 180, 0), (0, -2147483648, 2147483647), (0, -2147483648, 2147483647), (0, -2147483648, 2147483647), (0, -2147483648, 2147483647)])]
def h_row11 : List h_C := [(.inl 0, 9, [(0, -2147483648, 2147483647)]),
  (.inl 0, 9, [(0, -2147483648, 2147483647)]),
  (.inl 0, 5, [(0, -2147483648, 2147483647)]),
  (.inl 0, 5, [(0, -2147483648, 2147483647)]),
  (.inl 0, 5, [(0, -2147483648, 2147483647)]),
  (.inr 8, 9, [(1, 182, 0), (1, 183, 0), (1, 184, 0), (1, 185, 0), (1, 186, 0), (0, -2147483648, 2147483647), (0, -2147483648, 2147483647), (0, -2147483648, 2147483647), (0, -2147483648, 2147483647)]),
  (.inl 0, 9, [(0, -2147483648, 2147483647)]),
  (.inl 0, 9, [(0, -2147483648, 2147483647)]),
  (.inl 0, 5, [(0, -2147483648, 2147483647)]),
  (.inl 0, 5, [(0, -2147483648, 2147483647)]),
  (.inl 0, 5, [(0, -2147483648, 2147483647)]),
  (.inr 8, 9, [(1, 188, 0), (1, 189, 0), (1, 190, 0), (1, 191, 0), (1, 192, 0), (0, -2147483648, 2147483647), (0, -2147483648, 2147483647), (0, -2147483648, 2147483647), (0, -2147483648, 2147483647)]),
  (.inl 0, 9, [(0, -2147483648, 2147483647)]),
  (.inl 0, 9, [(0, -2147483648, 2147483647)]),
  (.inl 0, 5, [(0, -2147483648, 2147483647)]),
  (.inl 0, 5, [(0, -2147483648, 2147483647)])]
def h_row12 : List h_C := [(.inl 0, 5, [(0, -2147483648, 2147483647)]),
  (.inr 10, 8, [(1, 3, 0), (1, 24, 0), (1, 194, 0), (1, 195, 0), (0, 0, 8), (0, -2147483648, 2147483647), (0, -2147483648, 2147483647), (0, -2147483648, 2147483647)]),
  (.inl 5, 9, [(1, 196, 0), (1, 202, 0), (1, 208, 0), (1, 214, 0), (1, 220, 0), (1, 226, 0), (1, 232, 0), (1, 238, 0), (1, 244, 0)]),
  (.inl 4, 9, [(2, 0, 0)]),
  (.inr 8, 9, [(1, 197, 0), (1, 198, 0), (1, 199, 0), (1, 200, 0), (1, 201, 0), (0, -2147483648, 2147483647), (0, -2147483648, 2147483647), (0, -2147483648, 2147483647), (0, -2147483648, 2147483647)]),
  (.inl 0, 9, [(0, -2147483648, 2147483647)]),
  (.inl 0, 9, [(0, -2147483648, 2147483647)]),
  (.inl 0, 5, [(0, -2147483648, 2147483647)]),
  (.inl 0, 5, [(0, -2147483648, 2147483647)]),
  (.inl 0, 5, [(0, -2147483648, 2147483647)]),
  (.inr 8, 9, [(1, 203, 0), (1, 204, 0), (1, 205, 0), (1, 206, 0), (1, 207, 0), (0, -2147483648, 2147483647), (0, -2147483648, 2147483647), (0, -2147483648, 2147483647), (0, -2147483648, 2147483647)]),
  (.inl 0, 9, [(0, -2147483648, 2147483647)]),
  (.inl 0, 9, [(0, -2147483648, 2147483647)]),
  (.inl 0, 5, [(0, -2147483648, 2147483647)]),
  (.inl 0, 5, [(0, -2147483648, 2147483647)]),
  (.inl 0, 5, [(0, -2147483648, 2147483647)])]
def h_row13 : List h_C := [(.inr 8, 9, [(1, 209, 0), (1, 210, 0), (1, 211, 0), (1, 212, 0), (1, 213, 0), (0, -2147483648, 2147483647), (0, -2147483648, 2147483647), (0, -2147483648, 2147483647), (0, -2147483648, 2147483647)]),
  (.inl 0, 9, [(0, -2147483648, 2147483647)]),
  (.inl 0, 9, [(0, -2147483648, 2147483647)]),
  (.inl 0, 5, [(0, -2147483648, 2147483647)]),
  (.inl 0, 5, [(0, -2147483648, 2147483647)]),
  (.inl 0, 5, [(0, -2147483648, 2147483647)]),
  (.inr 8, 9, [(1, 215, 0), (1, 216, 0), (1, 217, 0), (1, 218, 0), (1, 219, 0), (0, -2147483648, 2147483647), (0, -2147483648, 2147483647), (0, -2147483648, 2147483647), (0, -2147483648, 2147483647)]),
  (.inl 0, 9, [(0, -2147483648, 2147483647)]),
  (.inl 0, 9, [(0, -2147483648, 2147483647)]),
  (.inl 0, 5, [(0, -2147483648, 2147483647)]),
  (.inl 0, 5, [(0, -2147483648, 2147483647)]),
  (.inl 0, 5, [(0, -2147483648, 2147483647)]),
  (.inr 8, 9, [(1, 221, 0), (1, 222, 0), (1, 223, 0), (1, 224, 0), (1, 225, 0), (0, -2147483648, 2147483647), (0, -2147483648, 2147483647), (0, -2147483648, 2147483647), (0, -2147483648, 2147483647)]),
  (.inl 0, 9, [(0, -2147483648, 2147483647)]),
  (.inl 0, 9, [(0, -2147483648, 2147483647)]),
  (.inl 0, 5, [(0, -2147483648, 2147483647)])]
def h_row14 : List h_C := [(.inl 0, 5, [(0, -2147483648, 2147483647)]),
  (.inl 0, 5, [(0, -2147483648, 2147483647)]),
  (.inr 8, 9, [(1, 227, 0), (1, 228, 0), (1, 229, 0), (1, 230, 0), (1, 231, 0), (0, -2147483648, 2147483647), (0, -2147483648, 2147483647), (0, -2147483648, 2147483647), (0, -2147483648, 2147483647)]),
  (.inl 0, 9, [(0, -2147483648, 2147483647)]),
  (.inl 0, 9, [(0, -2147483648, 2147483647)]),
  (.inl 0, 5, [(0, -2147483648, 2147483647)]),
  (.inl 0, 5, [(0, -2147483648, 2147483647)]),
  (.inl 0, 5, [(0, -2147483648, 2147483647)]),
  (.inr 8, 9, [(1, 233, 0), (1, 234, 0), (1, 235, 0), (1, 236, 0), (1, 237, 0), (0, -2147483648, 2147483647), (0, -2147483648, 2147483647), (0, -2147483648, 2147483647), (0, -2147483648, 2147483647)]),
  (.inl 0, 9, [(0, -2147483648, 2147483647)]),
  (.inl 0, 9, [(0, -2147483648, 2147483647)]),
  (.inl 0, 5, [(0, -2147483648, 2147483647)]),
  (.inl 0, 5, [(0, -2147483648, 2147483647)]),
  (.inl 0, 5, [(0, -2147483648, 2147483647)]),
  (.inr 8, 9, [(1, 239, 0), (1, 240, 0), (1, 241, 0), (1, 242, 0), (1, 243, 0), (0, -2147483648, 2147483647), (0, -2147483648, 2147483647), (0, -2147483648, 2147483647), (0, -2147483648, 2147483647)]),
  (.inl 0, 9, [(0, -2147483648, 2147483647)])]
def h_row15 : List h_C := [(.inl 0, 9, [(0, -2147483648, 2147483647)]),
  (.inl 0, 5, [(0, -2147483648, 2147483647)]),
  (.inl 0, 5, [(0, -2147483648, 2147483647)]),
  (.inl 0, 5, [(0, -2147483648, 2147483647)]),
  (.inr 8, 9, [(1, 245, 0), (1, 246, 0), (1, 247, 0), (1, 248, 0), (1, 249, 0), (0, -2147483648, 2147483647), (0, -2147483648, 2147483647), (0, -2147483648, 2147483647), (0, -2147483648, 2147483647)]),
  (.inl 0, 9, [(0, -2147483648, 2147483647)]),
  (.inl 0, 9, [(0, -2147483648, 2147483647)]),
  (.inl 0, 5, [(0, -2147483648, 2147483647)]),
  (.inl 0, 5, [(0, -2147483648, 2147483647)]),
  (.inl 0, 5, [(0, -2147483648, 2147483647)]),
  (.inl 4, 9, [(2, 0, 0)]),
  (.inr 13, 56, [(1, 252, 0), (0, 0, 3), (0, 0, 3), (0, 0, 5), (1, 253, 0), (0, 0, 9), (0, 0, 9), (1, 254, 0), (0, 0, 80), (1, 255, 0), (0, 0, 16), (0, -2147483648, 2147483647), (4, 0, 0), (0, 0, 80), (0, -2147483648, 2147483647), (0, 0, 200), (0, -1, 200), (1, 256, 0), (1, 257, 0), (1, 258, 0), (0, 0, 40), (0, 0, 1), (1, 259, 0), (0, -2147483648, 2147483647), (1, 260, 0), (0, 0, 12), (1, 261, 0), (1, 262, 0), (0, -2147483648, 2147483647), (0, -2147483648, 2147483647), (0, -2147483648, 2147483647), (0, -2147483648, 2147483647), (0, -2147483648, 2147483647), (0, -2147483648, 2147483647), (0, -2147483648, 2147483647), (0, -2147483648, 2147483647), (1, 263, 0), (1, 264, 0), (1, 265, 0), (0, 0, 5), (1, 266, 0), (1, 267, 0), (0, -2147483648, 2147483647), (0, -2147483648, 2147483647), (1, 268, 0), (1, 269, 0), (1, 270, 0), (1, 271, 0), (1, 272, 0), (0, -2147483648, 2147483647), (1, 273, 0), (1, 274, 0), (0, -2147483648, 2147483647), (1, 275, 0), (1, 276, 0), (1, 277, 0)]),
  (.inl 0, 37, [(0, 0, 99), (0, 0, 99), (0, 0, 99), (0, 0, 99), (0, 0, 99), (0, 0, 99), (0, 0, 99), (0, 0, 99), (0, 0, 99), (0, 0, 99), (0, 0, 99), (0, 0, 99), (0, 0, 198), (0, 0, 198), (0, 0, 198), (0, 0, 297), (0, 0, 297), (0, 0, 297), (0, -1, 8), (0, -1, 8), (0, -1, 8), (0, -1, 8), (0, -1, 8), (0, -2147483648, 2147483647), (0, -2147483648, 2147483647), (0, -2147483648, 2147483647), (0, -2147483648, 2147483647), (0, -2147483648, 2147483647), (0, -2147483648, 2147483647), (0, -2147483648, 2147483647), (0, -2147483648, 2147483647), (0, -2147483648, 2147483647), (0, -2147483648, 2147483647), (0, -2147483648, 2147483647), (0, -1, 9), (3, 0, 0), (0, 0, 9)]),
  (.inl 0, 30, [(0, 0, 9)]),
  (.inl 1, 80, [(0, -128, 127)]),
  (.inl 4, 16, [(2, 0, 0)])]
def h_row16 : List h_C := [(.inl 0, 9, [(0, 0, 99)]),
  (.inl 0, 35, [(0, 0, 8), (0, 0, 9), (0, 0, 9), (0, 0, 9), (0, 0, 9), (0, 0, 9), (0, 0, 9)]),
  (.inl 1, 40, [(0, -128, 127)]),
  (.inl 0, 7, [(0, -2147483648, 2147483647)]),
  (.inl 0, 444, [(0, 0, 99), (0, 0, 99), (0, 0, 99), (0, 0, 99), (0, 0, 99), (0, 0, 99), (0, 0, 99), (0, 0, 99), (0, 0, 99), (0, 0, 99), (0, 0, 99), (0, 0, 99), (0, 0, 198), (0, 0, 198), (0, 0, 198), (0, 0, 297), (0, 0, 297), (0, 0, 297), (0, -1, 8), (0, -1, 8), (0, -1, 8), (0, -1, 8), (0, -1, 8), (0, -2147483648, 2147483647), (0, -2147483648, 2147483647), (0, -2147483648, 2147483647), (0, -2147483648, 2147483647), (0, -2147483648, 2147483647), (0, -2147483648, 2147483647), (0, -2147483648, 2147483647), (0, -2147483648, 2147483647), (0, -2147483648, 2147483647), (0, -2147483648, 2147483647), (0, -2147483648, 2147483647), (0, -1, 9), (3, 0, 0), (0, 0, 9)]),
  (.inl 0, 37, [(0, 0, 99), (0, 0, 99), (0, 0, 99), (0, 0, 99), (0, 0, 99), (0, 0, 99), (0, 0, 99), (0, 0, 99), (0, 0, 99), (0, 0, 99), (0, 0, 99), (0, 0, 99), (0, 0, 198), (0, 0, 198), (0, 0, 198), (0, 0, 297), (0, 0, 297), (0, 0, 297), (0, -1, 8), (0, -1, 8), (0, -1, 8), (0, -1, 8), (0, -1, 8), (0, -2147483648, 2147483647), (0, -2147483648, 2147483647), (0, -2147483648, 2147483647), (0, -2147483648, 2147483647), (0, -2147483648, 2147483647), (0, -2147483648, 2147483647), (0, -2147483648, 2147483647), (0, -2147483648, 2147483647), (0, -2147483648, 2147483647), (0, -2147483648, 2147483647), (0, -2147483648, 2147483647), (0, -1, 9), (3, 0, 0), (0, 0, 9)]),
  (.inl 0, 9, [(0, 0, 99)]),
  (.inl 0, 240, [(0, -2147483648, 2147483647)]),
  (.inl 0, 37, [(0, 0, 99), (0, 0, 99), (0, 0, 99), (0, 0, 99), (0, 0, 99), (0, 0, 99), (0, 0, 99), (0, 0, 99), (0, 0, 99), (0, 0, 99), (0, 0, 99), (0, 0, 99), (0, 0, 198), (0, 0, 198), (0, 0, 198), (0, 0, 297), (0, 0, 297), (0, 0, 297), (0, -1, 8), (0, -1, 8), (0, -1, 8), (0, -1, 8), (0, -1, 8), (0, -2147483648, 2147483647), (0, -2147483648, 2147483647), (0, -2147483648, 2147483647), (0, -2147483648, 2147483647), (0, -2147483648, 2147483647), (0, -2147483648, 2147483647), (0, -2147483648, 2147483647), (0, -2147483648, 2147483647), (0, -2147483648, 2147483647), (0, -2147483648, 2147483647), (0, -2147483648, 2147483647), (0, -1, 9), (3, 0, 0), (0, 0, 9)]),
  (.inl 0, 5, [(0, 0, 4)]),
  (.inl 0, 5, [(0, 0, 8)]),
  (.inl 0, 5, [(0, -2147483648, 2147483647)]),
  (.inl 0, 5, [(0, -2147483648, 2147483647)]),
  (.inl 3, 100, [(0, 0, 1)]),
  (.inl 0, 185, [(0, 0, 99), (0, 0, 99), (0, 0, 99), (0, 0, 99), (0, 0, 99), (0, 0, 99), (0, 0, 99), (0, 0, 99), (0, 0, 99), (0, 0, 99), (0, 0, 99), (0, 0, 99), (0, 0, 198), (0, 0, 198), (0, 0, 198), (0, 0, 297), (0, 0, 297), (0, 0, 297), (0, -1, 8), (0, -1, 8), (0, -1, 8), (0, -1, 8), (0, -1, 8), (0, -2147483648, 2147483647), (0, -2147483648, 2147483647), (0, -2147483648, 2147483647), (0, -2147483648, 2147483647), (0, -2147483648, 2147483647), (0, -2147483648, 2147483647), (0, -2147483648, 2147483647), (0, -2147483648, 2147483647), (0, -2147483648, 2147483647), (0, -2147483648, 2147483647), (0, -2147483648, 2147483647), (0, -1, 9), (3, 0, 0), (0, 0, 9)]),
  (.inl 0, 5, [(0, -2147483648, 2147483647)])]
def h_row17 : List h_C := [(.inl 0, 5, [(0, -2147483648, 2147483647)]),
  (.inl 0, 8, [(0, -2147483648, 2147483647)]),
  (.inl 0, 9, [(0, -2147483648, 2147483647)]),
  (.inl 0, 74, [(0, 0, 99), (0, 0, 99), (0, 0, 99), (0, 0, 99), (0, 0, 99), (0, 0, 99), (0, 0, 99), (0, 0, 99), (0, 0, 99), (0, 0, 99), (0, 0, 99), (0, 0, 99), (0, 0, 198), (0, 0, 198), (0, 0, 198), (0, 0, 297), (0, 0, 297), (0, 0, 297), (0, -1, 8), (0, -1, 8), (0, -1, 8), (0, -1, 8), (0, -1, 8), (0, -2147483648, 2147483647), (0, -2147483648, 2147483647), (0, -2147483648, 2147483647), (0, -2147483648, 2147483647), (0, -2147483648, 2147483647), (0, -2147483648, 2147483647), (0, -2147483648, 2147483647), (0, -2147483648, 2147483647), (0, -2147483648, 2147483647), (0, -2147483648, 2147483647), (0, -2147483648, 2147483647), (0, -1, 9), (3, 0, 0), (0, 0, 9)]),
  (.inl 3, 2, [(0, 0, 1)]),
  (.inl 0, 2, [(0, -2147483648, 2147483647)]),
  (.inl 4, 1, [(2, 0, 0)])]
def h_tab : List (List h_C) := [h_row0, h_row1, h_row2, h_row3, h_row4, h_row5, h_row6, h_row7, h_row8, h_row9, h_row10, h_row11, h_row12, h_row13, h_row14, h_row15, h_row16, h_row17]
noncomputable def h_at (p : Nat) : h_C := match g_nth h_tab (p / 16) with
  | some r => match g_nth r (p % 16) with
    | some c => c
    | none => (.inl 0, 0, [])
  | none => (.inl 0, 0, [])
noncomputable def h_kd (p : Nat) : Nat ⊕ Nat := (h_at p).1
noncomputable def h_ln (p : Nat) : Nat := (h_at p).2.1
def t_at (c : h_C) (k : Nat) : Nat × Int × Int := match c.2.2[k % c.2.2.length]? with
  | some t => t
  | none => (9, 0, 0)
noncomputable def h_ty (p k : Nat) : Nat × Int × Int := t_at (h_at p) k
def t_ok (B : Int) (t : Nat × Int × Int) (v : Value) : Prop := match t.1 with
  | 0 => ∃ x : Int32, v = .int x ∧ t.2.1 ≤ x.toInt ∧ x.toInt ≤ t.2.2
  | 1 => v = .ref t.2.1.toNat
  | 2 => ∃ x : Int64, v = .long x
  | 3 => ∃ x : Int32, v = .int x ∧ 0 ≤ x.toInt ∧ x.toInt ≤ B
  | 4 => v = .null ∨ ∃ k, v = .ref k
  | _ => True
theorem t_ok_mono {B B' : Int} (h : B ≤ B') {t : Nat × Int × Int} {v : Value} (e : t_ok B t v) : t_ok B' t v := by
  unfold t_ok at e ⊢
  split at e
  · exact e
  · exact e
  · exact e
  · obtain ⟨x, h1, h2, h3⟩ := e
    exact ⟨x, h1, h2, Int.le_trans h3 h⟩
  · exact e
  · trivial
noncomputable def h_ok (B : Int) (σ : m_H) : Prop := σ.length = h_N ∧ ∀ p, p < h_N → ∃ vs, σ[p]? = some (h_kd p, vs) ∧ vs.length = h_ln p ∧ ∀ (k : Nat) (v : Value), vs[k]? = some v → t_ok B (h_ty p k) v ∧ m_vOk h_N v
theorem h_ok_mono {B B' : Int} (h : B ≤ B') {σ : m_H} (e : h_ok B σ) : h_ok B' σ := ⟨e.1, fun p hp => by
  obtain ⟨vs, h1, h2, h3⟩ := e.2 p hp
  exact ⟨vs, h1, h2, fun k v hv => ⟨t_ok_mono h (h3 k v hv).1, (h3 k v hv).2⟩⟩⟩
/-- the value in a cell -/
def c_at (σ : m_H) (p k : Nat) : Option Value := (σ[p]?).bind fun c => c.2[k]?
theorem c_at_eq {σ : m_H} {p k : Nat} {c : m_C} (h : σ[p]? = some c) : c_at σ p k = c.2[k]? := by unfold c_at; rw [h]; rfl
theorem c_at_set {σ : m_H} {p k : Nat} {kd : Nat ⊕ Nat} {vs : List Value} {v : Value} (h : σ[p]? = some (kd, vs)) (p' k' : Nat) : c_at (σ.set p (kd, vs.set k v)) p' k' = if p' = p ∧ k' = k ∧ k < vs.length then some v else c_at σ p' k' := by
  have hl := (List.getElem?_eq_some_iff.mp h).1
  by_cases hp : p' = p
  · subst hp
    rw [c_at_eq (List.getElem?_set_self hl), c_at_eq h]
    by_cases hk : k' = k
    · subst hk
      by_cases h2 : k' < vs.length
      · simp [h2]
      · simp only [List.getElem?_set, if_neg h2]
        simp [Nat.le_of_not_lt h2, h2]
    · simp only [List.getElem?_set_ne (Ne.symm hk)]
      simp [hk]
  · have : (σ.set p (kd, vs.set k v))[p']? = σ[p']? := List.getElem?_set_ne (Ne.symm hp)
    unfold c_at
    rw [this]
    simp [hp]
theorem h_set {B : Int} {σ : m_H} (e : h_ok B σ) {p k : Nat} {vs : List Value} {v : Value} (h : σ[p]? = some (h_kd p, vs)) (ht : t_ok B (h_ty p k) v) (hv : m_vOk h_N v) : h_ok B (σ.set p (h_kd p, vs.set k v)) := by
  refine ⟨by simp [e.1], fun p' hp' => ?_⟩
  obtain ⟨ws, w1, w2, w3⟩ := e.2 p' hp'
  by_cases hp : p' = p
  · subst hp
    have hl := (List.getElem?_eq_some_iff.mp h).1
    rw [h] at w1
    obtain rfl : vs = ws := by injection w1 with w1; injection w1
    refine ⟨vs.set k v, List.getElem?_set_self hl, by simp [w2], fun k' u hu => ?_⟩
    by_cases hk : k = k'
    · subst hk
      have hlt := (List.getElem?_eq_some_iff.mp hu).1
      rw [List.getElem?_set_self (by simpa using hlt)] at hu
      cases hu
      exact ⟨ht, hv⟩
    · rw [List.getElem?_set_ne hk] at hu
      exact w3 k' u hu
  · exact ⟨ws, by rw [List.getElem?_set_ne (Ne.symm hp)]; exact w1, w2, w3⟩
/-- linear forms over the variables -/
abbrev A_L : Type := Int × List (Int × Nat)
def l_ev1 (ρ : List Int) : List (Int × Nat) → Option Int
  | [] => some 0
  | (c, v) :: l => match ρ[v]?, l_ev1 ρ l with
    | some r, some s => some (c * r + s)
    | _, _ => none
def l_ev (ρ : List Int) (L : A_L) : Option Int := (l_ev1 ρ L.2).map fun s => L.1 + s
theorem l_ev1_ext {ρ ρ' : List Int} (h : r_ext ρ ρ') : ∀ (l : List (Int × Nat)) (s : Int), l_ev1 ρ l = some s → l_ev1 ρ' l = some s
  | [], s, e => e
  | (c, v) :: l, s, e => by
    unfold l_ev1 at e ⊢
    split at e
    · rename_i r t h1 h2
      rw [h _ _ h1, l_ev1_ext h l t h2]
      exact e
    · cases e
theorem l_ev_ext {ρ ρ' : List Int} (h : r_ext ρ ρ') {L : A_L} {s : Int} (e : l_ev ρ L = some s) : l_ev ρ' L = some s := by
  unfold l_ev at e ⊢
  obtain ⟨t, h1, h2⟩ := Option.map_eq_some_iff.mp e
  rw [l_ev1_ext h _ _ h1, ← h2]; rfl
/-- what is known at a place of the code: the place, the variables, their facts, the frame, the stack, cells read or written, the ticks still to spend, the measure of the stretch -/
abbrev A_O : Type := List ((Nat × Nat) × A_V)
abbrev A_S : Type := Nat × A_E × A_F × List (Nat × A_V) × List A_V × A_O × A_L × A_L
def l_ok (ρ : List Int) (ls : List (Nat × A_V)) (vs : List (Nat × Value)) : Prop := ∀ q ∈ ls, ∃ v, m_ld q.1 vs = some v ∧ v_ok ρ q.2 v
def s_ok (ρ : List Int) : List A_V → List Value → Prop
  | [], [] => True
  | a :: l, v :: m => v_ok ρ a v ∧ s_ok ρ l m
  | _, _ => False
def o_ok (ρ : List Int) (ov : A_O) (σ : m_H) : Prop := ∀ q ∈ ov, ∃ v, c_at σ q.1.1 q.1.2 = some v ∧ v_ok ρ q.2 v
/-- cells that may change: a place, from, to -/
abbrev A_D : Type := List (Nat × Nat × Nat)
def d_in (md : A_D) (p k : Nat) : Prop := ∃ q ∈ md, q.1 = p ∧ q.2.1 ≤ k ∧ k ≤ q.2.2
def h_fr (md : A_D) (σ0 σ : m_H) : Prop := ∀ p k, ¬ d_in md p k → c_at σ p k = c_at σ0 p k
noncomputable def g_ok (T fv : Int) (ρ0 : List Int) (σ0 : m_H) (md : A_D) (B : Int) (ρ : List Int) (S : A_S) (g : m_G) : Prop := (r_ext ρ0 ρ) ∧ (e_ok B S.2.1 ρ) ∧ (f_ok S.2.2.1 ρ) ∧ (0 ≤ B ∧ ∃ z, l_ev ρ S.2.2.2.2.2.2.1 = some z ∧ 0 ≤ z ∧ B + z ≤ T) ∧ (l_ev ρ S.2.2.2.2.2.2.2 = some fv) ∧ (h_ok B g.1) ∧ (g.2.1 = 0) ∧ (g.2.2.1 = 0) ∧ (g.2.2.2.1 = S.1) ∧ (l_ok ρ S.2.2.2.1 g.2.2.2.2.1) ∧ (∀ q ∈ g.2.2.2.2.1, m_vOk h_N q.2) ∧ (s_ok ρ S.2.2.2.2.1 g.2.2.2.2.2) ∧ (∀ v ∈ g.2.2.2.2.2, m_vOk h_N v) ∧ (o_ok ρ S.2.2.2.2.2.1 g.1) ∧ (h_fr md σ0 g.1)
theorem g_ok.x0 {T fv : Int} {ρ0 : List Int} {σ0 : m_H} {md : A_D} {B : Int} {ρ : List Int} {S : A_S} {g : m_G} (h : g_ok T fv ρ0 σ0 md B ρ S g) : r_ext ρ0 ρ := h.1
theorem g_ok.e {T fv : Int} {ρ0 : List Int} {σ0 : m_H} {md : A_D} {B : Int} {ρ : List Int} {S : A_S} {g : m_G} (h : g_ok T fv ρ0 σ0 md B ρ S g) : e_ok B S.2.1 ρ := h.2.1
theorem g_ok.f {T fv : Int} {ρ0 : List Int} {σ0 : m_H} {md : A_D} {B : Int} {ρ : List Int} {S : A_S} {g : m_G} (h : g_ok T fv ρ0 σ0 md B ρ S g) : f_ok S.2.2.1 ρ := h.2.2.1
theorem g_ok.bu {T fv : Int} {ρ0 : List Int} {σ0 : m_H} {md : A_D} {B : Int} {ρ : List Int} {S : A_S} {g : m_G} (h : g_ok T fv ρ0 σ0 md B ρ S g) : 0 ≤ B ∧ ∃ z, l_ev ρ S.2.2.2.2.2.2.1 = some z ∧ 0 ≤ z ∧ B + z ≤ T := h.2.2.2.1
theorem g_ok.ph {T fv : Int} {ρ0 : List Int} {σ0 : m_H} {md : A_D} {B : Int} {ρ : List Int} {S : A_S} {g : m_G} (h : g_ok T fv ρ0 σ0 md B ρ S g) : l_ev ρ S.2.2.2.2.2.2.2 = some fv := h.2.2.2.2.1
theorem g_ok.h {T fv : Int} {ρ0 : List Int} {σ0 : m_H} {md : A_D} {B : Int} {ρ : List Int} {S : A_S} {g : m_G} (h : g_ok T fv ρ0 σ0 md B ρ S g) : h_ok B g.1 := h.2.2.2.2.2.1
theorem g_ok.ce {T fv : Int} {ρ0 : List Int} {σ0 : m_H} {md : A_D} {B : Int} {ρ : List Int} {S : A_S} {g : m_G} (h : g_ok T fv ρ0 σ0 md B ρ S g) : g.2.1 = 0 := h.2.2.2.2.2.2.1
theorem g_ok.sl {T fv : Int} {ρ0 : List Int} {σ0 : m_H} {md : A_D} {B : Int} {ρ : List Int} {S : A_S} {g : m_G} (h : g_ok T fv ρ0 σ0 md B ρ S g) : g.2.2.1 = 0 := h.2.2.2.2.2.2.2.1
theorem g_ok.pc {T fv : Int} {ρ0 : List Int} {σ0 : m_H} {md : A_D} {B : Int} {ρ : List Int} {S : A_S} {g : m_G} (h : g_ok T fv ρ0 σ0 md B ρ S g) : g.2.2.2.1 = S.1 := h.2.2.2.2.2.2.2.2.1
theorem g_ok.l {T fv : Int} {ρ0 : List Int} {σ0 : m_H} {md : A_D} {B : Int} {ρ : List Int} {S : A_S} {g : m_G} (h : g_ok T fv ρ0 σ0 md B ρ S g) : l_ok ρ S.2.2.2.1 g.2.2.2.2.1 := h.2.2.2.2.2.2.2.2.2.1
theorem g_ok.lv {T fv : Int} {ρ0 : List Int} {σ0 : m_H} {md : A_D} {B : Int} {ρ : List Int} {S : A_S} {g : m_G} (h : g_ok T fv ρ0 σ0 md B ρ S g) : ∀ q ∈ g.2.2.2.2.1, m_vOk h_N q.2 := h.2.2.2.2.2.2.2.2.2.2.1
theorem g_ok.s {T fv : Int} {ρ0 : List Int} {σ0 : m_H} {md : A_D} {B : Int} {ρ : List Int} {S : A_S} {g : m_G} (h : g_ok T fv ρ0 σ0 md B ρ S g) : s_ok ρ S.2.2.2.2.1 g.2.2.2.2.2 := h.2.2.2.2.2.2.2.2.2.2.2.1
theorem g_ok.sv {T fv : Int} {ρ0 : List Int} {σ0 : m_H} {md : A_D} {B : Int} {ρ : List Int} {S : A_S} {g : m_G} (h : g_ok T fv ρ0 σ0 md B ρ S g) : ∀ v ∈ g.2.2.2.2.2, m_vOk h_N v := h.2.2.2.2.2.2.2.2.2.2.2.2.1
theorem g_ok.o {T fv : Int} {ρ0 : List Int} {σ0 : m_H} {md : A_D} {B : Int} {ρ : List Int} {S : A_S} {g : m_G} (h : g_ok T fv ρ0 σ0 md B ρ S g) : o_ok ρ S.2.2.2.2.2.1 g.1 := h.2.2.2.2.2.2.2.2.2.2.2.2.2.1
theorem g_ok.fr {T fv : Int} {ρ0 : List Int} {σ0 : m_H} {md : A_D} {B : Int} {ρ : List Int} {S : A_S} {g : m_G} (h : g_ok T fv ρ0 σ0 md B ρ S g) : h_fr md σ0 g.1 := h.2.2.2.2.2.2.2.2.2.2.2.2.2.2
theorem l_ok_ext {ρ ρ' : List Int} (h : r_ext ρ ρ') {ls : List (Nat × A_V)} {vs : List (Nat × Value)} (e : l_ok ρ ls vs) : l_ok ρ' ls vs := fun q hq => by
  obtain ⟨v, h1, h2⟩ := e q hq
  exact ⟨v, h1, v_ok_ext h h2⟩
theorem s_ok_ext {ρ ρ' : List Int} (h : r_ext ρ ρ') : ∀ (l : List A_V) (m : List Value), s_ok ρ l m → s_ok ρ' l m
  | [], [], e => e
  | [], _ :: _, e => e
  | _ :: _, [], e => e
  | a :: l, v :: m, e => ⟨v_ok_ext h e.1, s_ok_ext h l m e.2⟩
theorem o_ok_ext {ρ ρ' : List Int} (h : r_ext ρ ρ') {ov : A_O} {σ : m_H} (e : o_ok ρ ov σ) : o_ok ρ' ov σ := fun q hq => by
  obtain ⟨v, h1, h2⟩ := e q hq
  exact ⟨v, h1, v_ok_ext h h2⟩
section GO
variable {T fv : Int} {ρ0 : List Int} {σ0 : m_H} {md : A_D} {B : Int} {ρ : List Int} {σ : m_H} {ce sl pc pc' n : Nat} {lsC : List (Nat × Value)} {stC : List Value} {E : A_E} {F : A_F} {ls : List (Nat × A_V)} {st : List A_V} {ov : A_O} {bu ph : A_L}
/-- a step that leaves the cells -/
theorem g_ok.to {ρ' : List Int} {E' : A_E} {F' : A_F} {ls' : List (Nat × A_V)} {st' : List A_V} {ov' : A_O} {lsC' : List (Nat × Value)} {stC' : List Value} (h : g_ok T fv ρ0 σ0 md B ρ (pc, E, F, ls, st, ov, bu, ph) (σ, ce, sl, pc, lsC, stC)) (hx : r_ext ρ ρ') (he : e_ok B E' ρ') (hf : f_ok F' ρ') (hl : l_ok ρ' ls' lsC') (hlv : ∀ q ∈ lsC', m_vOk h_N q.2) (hs : s_ok ρ' st' stC') (hsv : ∀ v ∈ stC', m_vOk h_N v) (ho : o_ok ρ' ov' σ) :
    g_ok T fv ρ0 σ0 md B ρ' (pc', E', F', ls', st', ov', bu, ph) (σ, ce, sl, pc', lsC', stC') :=
  ⟨h.x0.tr hx, he, hf, (by obtain ⟨z0, z, z1, z2⟩ := h.bu; exact ⟨z0, z, l_ev_ext hx z1, z2⟩), l_ev_ext hx h.ph, h.h, h.ce, h.sl, rfl, hl, hlv, hs, hsv, ho, h.fr⟩
/-- the result of an operation on ints comes on the stack -/
def s_put (pc : Nat) (R : A_R) (ls : List (Nat × A_V)) (st : List A_V) (ov : A_O) (bu ph : A_L) : A_S := (pc, R.1, R.2.1, ls, R.2.2 :: st, ov, bu, ph)
theorem g_put {sa : List A_V} {sc : List Value} {R : A_R} {x : Int32} (h : g_ok T fv ρ0 σ0 md B ρ (pc, E, F, ls, st, ov, bu, ph) (σ, ce, sl, pc, lsC, stC)) (hr : r_ok B ρ R x) (hs : s_ok ρ sa sc) (hsv : ∀ v ∈ sc, m_vOk h_N v) :
    ∃ ρ', g_ok T fv ρ0 σ0 md B ρ' (s_put pc' R ls sa ov bu ph) (σ, ce, sl, pc', lsC, .int x :: sc) := by
  obtain ⟨ρ', g1, g2, g3, g4, g5⟩ := hr
  refine ⟨ρ', h.to g1 g2 g3 (l_ok_ext g1 h.l) h.lv ⟨v_of_int g5 g4, s_ok_ext g1 _ _ hs⟩ (fun v hv => ?_) (o_ok_ext g1 h.o)⟩
  rcases List.mem_cons.mp hv with rfl | hv
  · trivial
  · exact hsv v hv
end GO
end
