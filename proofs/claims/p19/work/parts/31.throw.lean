/-! METHODS THAT THROW: those of the class, and the law's that catch -/
def iR : Int × Int × Bool := (-2147483648, 2147483647, false)
def lR : Int × Int × Bool := (-9223372036854775808, 9223372036854775807, false)
def cx_room : A_C := (155, [iR, iR], [(2, 0, 0), (1, 0, 0), (1, 1, 0)], [], [(6, 0, 39), (7, 0, 6)], (0, []), (5, []), [([iR, iR, iR], [], some (1, 2, 0), [])], [(11, [iR, iR], [], [], [], [], (0, []), (0, [])), (136, [iR, iR], [], [], [], [], (0, []), (0, []))], (1, []))
def cx_person : A_C := (156, [iR, iR], [(2, 0, 0), (1, 0, 0), (1, 1, 0)], [], [], (0, []), (5, []), [([iR, iR, iR], [], some (1, 2, 0), [])], [(11, [iR, iR], [], [], [], [], (0, []), (0, [])), (111, [iR, iR], [], [], [], [], (0, []), (0, []))], (1, []))
def cx_row : A_C := (158, [iR], [(2, 0, 0), (1, 0, 0)], [], [], (0, []), (5, []), [([iR, lR], [], some (4, 1, 0), [])], [(12, [iR], [], [], [], [], (0, []), (0, []))], (1, []))
theorem cx_room_p : c_pre 3 cx_room = true := by decide +kernel
theorem cx_person_p : c_pre 3 cx_person = true := by decide +kernel
theorem cx_row_p : c_pre 2 cx_row = true := by decide +kernel
set_option maxRecDepth 100000 in
theorem cx_room_g : c_go1 cs_at 3 (some .int) kt_155 4000 cx_room (c_start cx_room) = true := by decide +kernel
set_option maxRecDepth 100000 in
theorem cx_person_g : c_go1 cs_at 3 (some .int) kt_156 4000 cx_person (c_start cx_person) = true := by decide +kernel
set_option maxRecDepth 100000 in
theorem cx_row_g : c_go1 cs_at 2 (some .long) kt_158 4000 cx_row (c_start cx_row) = true := by decide +kernel
theorem s_nil {ρ : List Int} {st : List Value} (h : s_ok ρ [] st) : st = [] := by
  cases st with
  | nil => rfl
  | cons v t => exact absurd h id
section CX
variable {l : Launch} {X : Nat → Option (List Int32)} {xa : Nat → Nat}
theorem cx_room_sem (hl : l.stackTraces = false) (hX : ∀ i, i < 2 → X i = some ((x_tab i).map Int32.ofInt)) {d : Nat} (hd : 6 ≤ d) (hcy : ∀ y, ∀ C ∈ cs_at y, C.1 = y) (hcs : ∀ d', d = d' + 1 → ∀ y, ∀ C ∈ cs_at y, c_sem l X (yY xa) xa d' C) : c_semX l X (yY xa) xa d cx_room := by
  have hk := k_all_ok (own := "LetByTheDegree") rfl kt_155_ok
  refine c_methX (code := kt_155) rfl (ix_K_ok (yY_ok xa) (yY_str xa)) hX (q := _) rfl (by decide) hk hcy hcs cx_room_p cx_room_g (fun U hU p e s m args below meth c dC dI aC ad sz σ0 σ ls st Q Qx ρ hC htab hst hQ => ?_)
  have hR : 6 ≤ (m_rm d 1 6).frames ∧ 240 ≤ (m_rm d 1 6).locals := ⟨hd, by show 240 ≤ 40 * d; omega⟩
  have hy := hC.2.2.2.2.2.2.2.1.2.2.2.2
  rcases List.mem_cons.mp hU with rfl | hU
  · obtain rfl := s_nil hst
    exact mW_thr hC hl htab hy.2.2.1.1 (kd hk (pc := 11) rfl).1 (kd hk (pc := 14) rfl).1 (kd hk (pc := 15) rfl).1 (kd hk (pc := 17) rfl).1 (kd hk (pc := 20) rfl).1 hR (Nat.le_refl _) (Nat.le_refl _) hQ
  · obtain rfl := List.mem_singleton.mp hU
    obtain rfl := s_nil hst
    exact mW_thr hC hl htab hy.2.2.1.2.1 (kd hk (pc := 136) rfl).1 (kd hk (pc := 139) rfl).1 (kd hk (pc := 140) rfl).1 (kd hk (pc := 142) rfl).1 (kd hk (pc := 145) rfl).1 hR (Nat.le_refl _) (Nat.le_refl _) hQ
theorem cx_person_sem (hl : l.stackTraces = false) (hX : ∀ i, i < 2 → X i = some ((x_tab i).map Int32.ofInt)) {d : Nat} (hd : 6 ≤ d) (hcy : ∀ y, ∀ C ∈ cs_at y, C.1 = y) (hcs : ∀ d', d = d' + 1 → ∀ y, ∀ C ∈ cs_at y, c_sem l X (yY xa) xa d' C) : c_semX l X (yY xa) xa d cx_person := by
  have hk := k_all_ok (own := "LetByTheDegree") rfl kt_156_ok
  refine c_methX (code := kt_156) rfl (ix_K_ok (yY_ok xa) (yY_str xa)) hX (q := _) rfl (by decide) hk hcy hcs cx_person_p cx_person_g (fun U hU p e s m args below meth c dC dI aC ad sz σ0 σ ls st Q Qx ρ hC htab hst hQ => ?_)
  have hR : 6 ≤ (m_rm d 1 6).frames ∧ 240 ≤ (m_rm d 1 6).locals := ⟨hd, by show 240 ≤ 40 * d; omega⟩
  have hy := hC.2.2.2.2.2.2.2.1.2.2.2.2
  rcases List.mem_cons.mp hU with rfl | hU
  · obtain rfl := s_nil hst
    exact mW_thr hC hl htab hy.2.2.1.2.2.1 (kd hk (pc := 11) rfl).1 (kd hk (pc := 14) rfl).1 (kd hk (pc := 15) rfl).1 (kd hk (pc := 17) rfl).1 (kd hk (pc := 20) rfl).1 hR (Nat.le_refl _) (Nat.le_refl _) hQ
  · obtain rfl := List.mem_singleton.mp hU
    obtain rfl := s_nil hst
    exact mW_thr hC hl htab hy.2.2.1.2.2.2.1 (kd hk (pc := 111) rfl).1 (kd hk (pc := 114) rfl).1 (kd hk (pc := 115) rfl).1 (kd hk (pc := 117) rfl).1 (kd hk (pc := 120) rfl).1 hR (Nat.le_refl _) (Nat.le_refl _) hQ
theorem cx_row_sem (hl : l.stackTraces = false) (hX : ∀ i, i < 2 → X i = some ((x_tab i).map Int32.ofInt)) {d : Nat} (hd : 6 ≤ d) (hcy : ∀ y, ∀ C ∈ cs_at y, C.1 = y) (hcs : ∀ d', d = d' + 1 → ∀ y, ∀ C ∈ cs_at y, c_sem l X (yY xa) xa d' C) : c_semX l X (yY xa) xa d cx_row := by
  have hk := k_all_ok (own := "LetByTheDegree") rfl kt_158_ok
  refine c_methX (code := kt_158) rfl (ix_K_ok (yY_ok xa) (yY_str xa)) hX (q := _) rfl (by decide) hk hcy hcs cx_row_p cx_row_g (fun U hU p e s m args below meth c dC dI aC ad sz σ0 σ ls st Q Qx ρ hC htab hst hQ => ?_)
  have hR : 6 ≤ (m_rm d 1 6).frames ∧ 240 ≤ (m_rm d 1 6).locals := ⟨hd, by show 240 ≤ 40 * d; omega⟩
  have hy := hC.2.2.2.2.2.2.2.1.2.2.2.2
  obtain rfl := List.mem_singleton.mp hU
  obtain rfl := s_nil hst
  exact mW_thrW hC hl htab hy.2.2.1.2.2.2.2 (kd hk (pc := 12) rfl).1 (kd hk (pc := 15) rfl).1 (kd hk (pc := 16) rfl).1 (kd hk (pc := 19) rfl).1 (kd hk (pc := 22) rfl).1 hR (Nat.le_refl _) (Nat.le_refl _) hQ
end CX
/-! methods with a table of their own -/
theorem x_ofWH {l : Launch} {y : MethodName} {ws ws' : List Cond} {rm : Room} {Pc : Array Value → State → Prop} {Qc : Array Value → State → Outcome → State → Prop} {mc ms : Nat} {free : Addr → Prop} {cc : ByteArray} {maxL : Nat} {ret : Option FieldType} {hh : List (Nat × Nat × Nat × Nat)}
    (hy : plainName y.cls = true) (hw : ws = Cond.codeWith y cc maxL ret hh :: ws')
    (body : ∀ p e s m args below meth c s₁, BodyLoose p l y (headSpec ws rm) cc maxL ret e s m args below meth c s₁ → c.maxLocals = maxL → Pc args s →
      W p l e (headSpec ws rm).room s m args below meth c s.heap [] 0 0 (MQ below Qc args s mc ms free) (entryFrame m args maxL)) : Met l y ws rm Pc Qc mc ms free := by
  refine MetFree.of_bodyS (code := cc) (maxLocals := maxL) (ret := ret) hy ?_ ?_
  · intro args s m h hn
    obtain ⟨m9, meth, c, hn9, h1, h2, h3, h4, -, h5, h6, -⟩ := Cond.codeWith_spec (atoms_spec (ws := ws) h _ (by rw [hw]; exact List.mem_cons_self))
    cases hn.symm.trans hn9
    exact ⟨meth, c, h1, h2, h3, h4, h5, h6⟩
  · intro p e s m args below meth c s₁ B hml hP _
    have hh0 : s₁.heap = s.heap := by rw [B.state]; rfl
    obtain ⟨t, a1, o, b1, b2, b3⟩ := body p e s m args below meth c s₁ B hml hP s₁ hh0 (Stand.of_body B)
    exact ⟨t, o, a1, b1, b2, ⟨b3.1, b3.2⟩⟩
def m_wsH (y : MethodName) (b : ByteArray) (n : Nat) (r : Option FieldType) (hh : List (Nat × Nat × Nat × Nat)) : List Cond := .codeWith y b n r hh :: a_tb
def m_KH (l : Launch) (X : Nat → Option (List Int32)) (Y : (Nat → Prop) → State → Heap → Prop) (xa : Nat → Nat) (d : Nat) (y : MethodName) (b : ByteArray) (n : Nat) (r : Option FieldType) (hh : List (Nat × Nat × Nat × Nat)) (σ : m_H) (as : List Value) (Q : Option Value → m_H → Prop) (mc ms : Nat) : Prop :=
  ∀ (dC : Nat → ClassId) (dI : Nat → Nat → Nat) (aC : Nat → ClassId) (ad : Nat → Nat) (sz : Nat), (∀ k, ad (m_X0 + k) = xa k) → Met l y (m_wsH y b n r hh) (m_rm d mc ms) (m_Pc dC dI aC X Y xa ad sz σ as) (m_Qc dC dI aC xa ad sz σ Q) mc ms (va_A (m_W ad aC σ) sz)
theorem m_KH_of {l : Launch} {X : Nat → Option (List Int32)} {Y : (Nat → Prop) → State → Heap → Prop} {xa : Nat → Nat} {d : Nat} {y : MethodName} {b : ByteArray} {n : Nat} {r : Option FieldType} {hh : List (Nat × Nat × Nat × Nat)} {σ : m_H} {as : List Value} {Q : Option Value → m_H → Prop} {mc ms : Nat} (hy : plainName y.cls = true) (hlen : (lg_sl as).length ≤ n)
    (body : ∀ (p : Program) (e : Env) (s : State) (m : MethodId) (args : Array Value) (below : List Frame) (meth : Method) (c : Code) (dC : Nat → ClassId) (dI : Nat → Nat → Nat) (aC : Nat → ClassId) (ad : Nat → Nat) (sz : Nat), m_Ctx p s m args meth c b n y.cls dC dI aC (va_A (m_W ad aC σ) sz) xa X Y → meth.sig.returnType = r → c.exceptionTable.toList = tableOf hh →
      mV p l e (m_rm d mc ms) s m args below meth c (MQ below (m_Qc dC dI aC xa ad sz σ Q) args s mc ms (va_A (m_W ad aC σ) sz)) dC dI aC (va_A (m_W ad aC σ) sz) σ.length ad xa n (σ, 0, 0, 0, lv_args 0 as, [])) : m_KH l X Y xa d y b n r hh σ as Q mc ms := by
  intro dC dI aC ad sz hX
  refine x_ofWH (cc := b) (maxL := n) (ret := r) hy rfl ?_
  intro p e s m args below meth c s₁ B hml hv
  obtain ⟨ha, hsz, hP, hK, hD0, hE⟩ := hv
  have hts := atoms_spec (ws := m_wsH y b n r hh) B.pre
  have htab := vx_table (x := y) B (hts _ List.mem_cons_self)
  have hown : s.vm.findClass y.cls = some m.cls := findClass_of_methodNamed B.named
  have hC : m_Ctx p s m args meth c b n y.cls dC dI aC (va_A (m_W ad aC σ) sz) xa X Y := ⟨B.exec, B.bytes, hml, hown, fun w hw => hts w (List.mem_cons_of_mem _ hw), hK, fun q h => Or.inr (by rw [← hsz]; exact h), hE, B.notSynchronized⟩
  have hD := hD0.self (sz := sz)
  have hl := lv_entry (as.map (m_re ad)) (n := n) (by rw [m_sl_len]; exact hlen)
  rw [ha, lg_entry_eq]
  generalize (lg_sl (as.map (m_re ad)) ++ List.replicate (n - (lg_sl (as.map (m_re ad))).length) Slot.unset).toArray = lsC at hl ⊢
  rw [m_lv_args] at hl
  have hb := body p e s m args below meth c dC dI aC ad sz hC B.returns htab ad s.heap [] lsC (fun _ _ => rfl) hX hP hD va_S.rf hl
  rw [← ha]
  exact hb
section GX
variable {p : Program} {l : Launch} {e : Env} {R : Room} {s : State} {m : MethodId} {args : Array Value} {below : List Frame} {meth : Method} {c : Code} {QQ : State → Prop} {dC : Nat → ClassId} {dI : Nat → Nat → Nat} {aC : Nat → ClassId} {A : Nat → Prop} {n0 : Nat} {ad0 xa : Nat → Nat} {nL : Nat} {cc : ByteArray} {own : String} {X : Nat → Option (List Int32)} {Y : (Nat → Prop) → State → Heap → Prop}
variable {σ : m_H} {ce sl pc mc ms : Nat} {ls : List (Nat × Value)} {st as : List Value} {Q : Option Value → m_H → Prop} {Qx : m_H → Prop}
theorem m_goOnX {ad : Nat → Nat} {H : Heap} {locs : List Loc} {lsC : Array Slot} {st0 : List Value} {a : Array Value} (hC : m_Ctx p s m args meth c cc nL own dC dI aC A xa X Y)
    (hr : vx_Run p l e R s m args below meth c H locs ce sl mc ms (F0 m pc lsC st0) (st.map (m_re ad)) (m_Qc dC dI aC xa ad H.size σ Q a) (x_XC dC dI aC xa ad H.size σ Qx) (va_A (m_W ad aC σ) H.size))
    (h1 : ∀ k, k < n0 → ad k = ad0 k) (h2 : ∀ k, ad (m_X0 + k) = xa k) (hn0 : n0 ≤ σ.length) (h4 : va_D A (m_W ad aC σ)) (h5 : va_S A s.heap H locs) (h6 : lv_has lsC nL (m_lv ad ls)) (ho : ∀ v ∈ st, m_vOk σ.length v) (hol : ∀ q ∈ ls, m_vOk σ.length q.2)
    (kk : ∀ (r : Option Value) (σ' : m_H), Q r σ' → mV p l e R s m args below meth c QQ dC dI aC A n0 ad0 xa nL (σ', ce + mc, sl + ms, pc + 3, ls, r.toList ++ st))
    (kx : ∀ (σ' : m_H) (ad' : Nat → Nat) (H' : Heap) (locs' : List Loc) (q : Addr) (cell : Cell) (rest : List Value), Qx σ' → (∀ k, k < n0 → ad' k = ad0 k) → (∀ k, ad' (m_X0 + k) = xa k) → va_P (dC, dI) vwCl (m_W ad' aC σ') H' → va_D A (m_W ad' aC σ') → va_S A s.heap H' locs' → lv_has lsC nL (m_lv ad' ls) → H'[q]? = some cell → cell.vm = .none → s.vm.findClass xN = some cell.cls → vx_W p l e R s m args below meth c H' locs' (ce + mc) (sl + ms) QQ (F0 m pc lsC rest) q) :
    W p l e R s m args below meth c H locs ce sl QQ (F0 m pc lsC st0) := by
  have hfree := m_wfree (aC := aC) hC.2.2.2.2.2.2.1 h4 h5
  intro T hT Xs
  rcases hr T hT Xs with ⟨v, st₀, t, T', L, e0, X', hL, e1, e2, hq, stp⟩ | ⟨q, st₀, t, T', L, E, cell, e0, X', hL, e1, e2, hx, hcell, hv, hcl, stp⟩
  · obtain ⟨⟨r, σ', ad', hv, hQ, g1, g2, g3, g4, g5⟩, hz, hk⟩ := hq
    obtain rfl : v = r.map (m_re ad') := by injection hv
    rw [e0] at hz hk
    have hag : ∀ k, (k < σ.length ∨ m_X0 ≤ k) → ad k = ad' k := by
      intro k hk2
      rcases hk2 with hk2 | hk2
      · exact (g1 k hk2).symm
      · obtain ⟨j, rfl⟩ := Nat.exists_eq_add_of_le hk2
        rw [h2, g2]
    have est : st.map (m_re ad) = st.map (m_re ad') := List.map_congr_left fun v hv => m_re_congr hag (ho v hv)
    have els : m_lv ad ls = m_lv ad' ls := List.map_congr_left fun q hq => by rw [m_re_congr hag (hol q hq)]
    have kk2 := kk r σ' hQ ad' T'.heap (locs ++ L) lsC (fun k h => (g1 k (Nat.lt_of_lt_of_le h hn0)).trans (h1 k h)) g2 (by rw [e1]; exact g3) (g5.weaken fun _ q _ h => hfree _ h)
      ⟨Nat.le_trans h5.1 (by rw [e1]; exact hz), fun q q1 q2 => by rw [e1, hk q (Nat.lt_of_lt_of_le q1 h5.1) (fun z => q2 (hfree q z))]; exact h5.2.1 q q1 q2, fun q hq => by
        rcases List.mem_append.mp hq with h | h
        · exact h5.2.2 q h
        · exact hfree _ (hL q h)⟩ (by rw [← els]; exact h6)
    obtain ⟨t2, a1, b1⟩ := kk2 T' rfl X'
    refine ⟨t2, stp t2 ?_, b1⟩
    have ex : (r.toList ++ st).map (m_re ad') = (r.map (m_re ad')).toList ++ st.map (m_re ad) := by
      rw [List.map_append, est]
      cases r <;> rfl
    have a2 : Steps p.tables e below (T'.setTop (F0 m (pc + 3) lsC ((r.toList ++ st).map (m_re ad')))) t2 := a1
    rw [ex] at a2
    exact a2
  · obtain ⟨rfl, ⟨σ', ad', hQ, g1, g2, g3, g4, g5⟩, hz, hk⟩ := hx
    rw [e0] at hz hk
    have hag : ∀ k, (k < σ.length ∨ m_X0 ≤ k) → ad k = ad' k := by
      intro k hk2
      rcases hk2 with hk2 | hk2
      · exact (g1 k hk2).symm
      · obtain ⟨j, rfl⟩ := Nat.exists_eq_add_of_le hk2
        rw [h2, g2]
    have els : m_lv ad ls = m_lv ad' ls := List.map_congr_left fun q hq => by rw [m_re_congr hag (hol q hq)]
    obtain ⟨t2, a1, b1⟩ := kx σ' ad' T'.heap (locs ++ L) q cell (st.map (m_re ad)) hQ (fun k h => (g1 k (Nat.lt_of_lt_of_le h hn0)).trans (h1 k h)) g2 (by rw [e1]; exact g3) (g5.weaken fun _ q _ h => hfree _ h)
      ⟨Nat.le_trans h5.1 (by rw [e1]; exact hz), fun q q1 q2 => by rw [e1, hk q (Nat.lt_of_lt_of_le q1 h5.1) (fun z => q2 (hfree q z))]; exact h5.2.1 q q1 q2, fun q hq => by
        rcases List.mem_append.mp hq with h | h
        · exact h5.2.2 q h
        · exact hfree _ (hL q h)⟩ (by rw [← els]; exact h6) (by rw [e1]; exact hcell) hv hcl T' rfl X'
    exact ⟨t2, stp.trans a1, b1⟩
/-- a call of an object's method that may throw -/
theorem mV_callVX (hY : m_Yok Y) (hC : m_Ctx p s m args meth c cc nL own dC dI aC A xa X Y) {q ci idx d n : Nat} {r0 : vw_C} {fs : List Value} {y : MethodName} {b : ByteArray} {rt : Option FieldType} (hd : decode cc pc = .ok (.invokevirtual idx, 3)) (hM : v_KX l X Y xa d y b n rt σ (.ref q :: as) Q Qx) (hσ : σ[q]? = some (.inr ci, fs)) (hc : vwCl[ci]? = some r0) (hyc : y.cls = r0.1)
    (w1 : Cond.methodLink own idx y ∈ a_tb) (w2 : Cond.instanceMethod y ∈ a_tb) (w3 : Cond.selects r0.1 y y ∈ a_tb) (w4 : Cond.initialized r0.1 ∈ a_tb) (w5 : Cond.code y b n rt ∈ a_tb) (hy : y.cls ≠ "java/lang/invoke/MethodHandle" ∧ y.cls ≠ "java/lang/invoke/VarHandle") (hlen : (parseMethodDescriptor y.desc).map (fun d => d.parameters.length) = some as.length)
    (hR : d + 1 ≤ R.frames ∧ 40 * d + 40 ≤ R.locals) (h20 : n ≤ 20) (hce : ce + 1 ≤ R.cells) (hsl : sl + 6 ≤ R.slots) (h8 : (st.map fun v => v.category).sum ≤ 8) (hn0 : n0 ≤ σ.length) (ho : ∀ v ∈ st, m_vOk σ.length v) (hol : ∀ q ∈ ls, m_vOk σ.length q.2)
    (kk : ∀ (r : Option Value) (σ' : m_H), Q r σ' → mV p l e R s m args below meth c QQ dC dI aC A n0 ad0 xa nL (σ', ce + 1, sl + 6, pc + 3, ls, r.toList ++ st))
    (kx : ∀ (σ' : m_H) (ad' : Nat → Nat) (H' : Heap) (locs' : List Loc) (lsC : Array Slot) (q : Addr) (cell : Cell) (rest : List Value), Qx σ' → (∀ k, k < n0 → ad' k = ad0 k) → (∀ k, ad' (m_X0 + k) = xa k) → va_P (dC, dI) vwCl (m_W ad' aC σ') H' → va_D A (m_W ad' aC σ') → va_S A s.heap H' locs' → lv_has lsC nL (m_lv ad' ls) → H'[q]? = some cell → cell.vm = .none → s.vm.findClass xN = some cell.cls → vx_W p l e R s m args below meth c H' locs' (ce + 1) (sl + 6) QQ (F0 m pc lsC rest) q) :
    mV p l e R s m args below meth c QQ dC dI aC A n0 ad0 xa nL (σ, ce, sl, pc, ls, as.reverse ++ .ref q :: st) := by
  intro ad H locs lsC h1 h2 h3 h4 h5 h6
  have hG : GoodIn a_tb (wsV own idx r0.1 y (m_ws y b n rt)) := a_good fun w hw => by
    rcases List.mem_append.mp hw with h | h
    · simp only [List.mem_cons, List.not_mem_nil, or_false] at h
      rcases h with rfl | rfl | rfl | rfl <;> assumption
    · exact m_wsIn w5 w h
  refine m_goOnX hC (ad := ad) (σ := σ) (H := H) (locs := locs) (vx_runV (As := as.map (m_re ad)) (rest := st.map (m_re ad)) (g := F0 m pc lsC ((as.reverse ++ .ref q :: st).map (m_re ad))) hC.fix (hM dC dI aC ad H.size h2)
    (cwV as.length hC.2.2.2.2.1 hG rfl rfl rfl ⟨hyc, hy.1, hy.2, hlen⟩ (m_room hR h20)) ⟨m_blind hY, va_recv hC.2.2.2.2.2.1 h3 hc (m_W_at hσ), m_pre (as := .ref q :: as) hY hC h3 h4 h5⟩ rfl (by simp) h6.1 (by simp [m_re]) (m_cats8 h8 _) hd ⟨hce, hsl⟩) h1 h2 hn0 h4 h5 h6 ho hol kk (fun σ' ad' H' locs' q cell rest a1 a2 a3 a4 a5 a6 a7 a8 a9 a10 => kx σ' ad' H' locs' lsC q cell rest a1 a2 a3 a4 a5 a6 a7 a8 a9 a10)
/-- a static call of a method with a table of its own -/
theorem mV_callSH (hY : m_Yok Y) (hC : m_Ctx p s m args meth c cc nL own dC dI aC A xa X Y) {idx d n : Nat} {y : MethodName} {b : ByteArray} {rt : Option FieldType} {hh : List (Nat × Nat × Nat × Nat)} (hd : decode cc pc = .ok (.invokestatic idx, 3)) (hM : m_KH l X Y xa d y b n rt hh σ as Q mc ms)
    (w1 : Cond.methodLink own idx y ∈ a_tb) (w2 : Cond.static y ∈ a_tb) (w4 : Cond.initialized y.cls ∈ a_tb) (w5 : Cond.codeWith y b n rt hh ∈ a_tb) (hy : y.cls ≠ "java/lang/invoke/MethodHandle" ∧ y.cls ≠ "java/lang/invoke/VarHandle") (hlen : (parseMethodDescriptor y.desc).map (fun d => d.parameters.length) = some as.length)
    (hR : d + 1 ≤ R.frames ∧ 40 * d + 40 ≤ R.locals) (h20 : n ≤ 20) (hce : ce + mc ≤ R.cells) (hsl : sl + ms ≤ R.slots) (h8 : (st.map fun v => v.category).sum ≤ 8) (hn0 : n0 ≤ σ.length) (ho : ∀ v ∈ st, m_vOk σ.length v) (hol : ∀ q ∈ ls, m_vOk σ.length q.2)
    (kk : ∀ (r : Option Value) (σ' : m_H), Q r σ' → mV p l e R s m args below meth c QQ dC dI aC A n0 ad0 xa nL (σ', ce + mc, sl + ms, pc + 3, ls, r.toList ++ st)) : mV p l e R s m args below meth c QQ dC dI aC A n0 ad0 xa nL (σ, ce, sl, pc, ls, as.reverse ++ st) := by
  intro ad H locs lsC h1 h2 h3 h4 h5 h6
  have hG : GoodIn a_tb (va_wsS own idx y (m_wsH y b n rt hh)) := a_good fun w hw => by
    rcases List.mem_append.mp hw with h | h
    · simp only [List.mem_cons, List.not_mem_nil, or_false] at h
      rcases h with rfl | rfl | rfl <;> assumption
    · rcases List.mem_cons.mp h with rfl | h
      · exact w5
      · exact h
  refine m_goOn hC (ad := ad) (σ := σ) (H := H) (locs := locs) (vx_runSW (As := as.map (m_re ad)) (rest := st.map (m_re ad)) (g := F0 m pc lsC ((as.reverse ++ st).map (m_re ad))) hC.fix (hM dC dI aC ad H.size h2)
    (vx_cwSW as.length hC.2.2.2.2.1 hG rfl rfl rfl ⟨hy.1, hy.2, hlen⟩ (m_room hR h20)) ⟨m_blind hY, m_pre (as := as) hY hC h3 h4 h5⟩ rfl (by simp) h6.1 (by simp) (m_cats8 h8 _) hd ⟨hce, hsl⟩) h1 h2 hn0 h4 h5 h6 ho hol kk
end GX
