section
/-! HOUSE in plain numbers -/
def u_L : List (Nat × Nat × Nat) := [(1, 2, 2), (3, 5, 5), (9, 0, 8)]
def u_P (m m' : z_M) (S : u_S) : Prop := m' 3 5 = S.2.1 ∧ m' 1 2 = S.2.2.1 ∧ m' 9 = S.2.2.2 ∧ z_same u_L m m'
theorem u_P.tr {m m1 m' : z_M} {S : u_S} (h : z_same u_L m m1) (hp : u_P m1 m' S) : u_P m m' S := ⟨hp.1, hp.2.1, hp.2.2.1, h.tr hp.2.2.2⟩
theorem u_g_sm {m m' : z_M} (h : z_same u_L m m') : u_g m' = u_g m := u_g_eq (h.row (by decide)) (h.at (by decide)) (h.at (by decide))
theorem c_sto {y : Int} (hy0 : 0 ≤ y) (hy : y ≤ 2) : ∀ (f : Nat) (x : Int) (v4 : z_V) (m : z_M), 0 ≤ x → x + (f : Int) = 3 → 0 ≤ m 1 2 → m 1 2 ≤ 80 → m 1 1 ≤ 80 → 1 ≤ m 3 5 → m 3 5 ≤ 3 → ∃ m', z_R 21 (m, 2, [(2, 3), (2, 1), (0, y), (0, x), v4], []) = some (m', some (0, if (u_sto (u_g m) y f x (m 3 5) (m 1 2) (m 9)).1 then 1 else 0)) ∧ u_P m m' (u_sto (u_g m) y f x (m 3 5) (m 1 2) (m 9)) := by
  intro f
  induction f with
  | zero =>
    intro x v4 m hx0 hx h0 h0' h1 hw0 hw
    rw [s_sto_2, if_pos (by omega)]
    exact ⟨m, rfl, rfl, rfl, rfl, z_same.rf⟩
  | succ f ih =>
    intro x v4 m hx0 hx h0 h0' h1 hw0 hw
    have hg : u_gb (u_g m) := u_nx_b h1
    have b := u_ic_b hg h0 h0'
    rw [s_sto_2]
    unfold u_sto
    by_cases c1 : m 3 5 ≤ x
    · rw [if_pos c1, if_pos c1]
      exact ⟨m, rfl, rfl, rfl, rfl, z_same.rf⟩
    rw [if_neg c1, if_neg c1, c_ice m h0 h1 h0']
    generalize u_ic (u_g m) (m 1 2) = q at b ⊢
    show ∃ m', z_R 21 (z_up m 1 2 q.1, 14, [(2, 3), (2, 1), (0, y), (0, x), v4], [(0, q.2)]) = _ ∧ _
    rw [s_sto_14]
    have s1 : z_same u_L m (z_up m 1 2 q.1) := z_same.rf.up1 (lo := 2) (hi := 2) (by decide) (by decide) (by decide)
    by_cases c2 : q.2 = -1
    · rw [if_pos c2, if_pos c2]
      exact ⟨_, rfl, zu_p (by decide), zu_self, zu_rowne (by decide), s1⟩
    have ek : z_add (z_mul 3 y) x = 3 * y + x := by rw [z_mul_eq (by omega) (by omega), z_add_eq (by omega) (by omega)]
    have ex : z_add x 1 = x + 1 := z_add_eq (by omega) (by omega)
    rw [if_neg c2, if_neg c2, ek, ex, if_pos ⟨by omega, by omega⟩]
    have e35 : (z_up m 1 2 q.1) 3 5 = m 3 5 := zu_p (by decide)
    rw [e35]
    have s2 : z_same u_L m (z_up (z_up m 1 2 q.1) 9 (3 * y + x).toNat q.2) := s1.up1 (lo := 0) (hi := 8) (by decide) (by omega) (by omega)
    generalize hm2 : z_up (z_up m 1 2 q.1) 9 (3 * y + x).toNat q.2 = m2 at s2 ⊢
    have f1 : m2 1 2 = q.1 := by rw [← hm2, zu_p (by decide), zu_self]
    have f2 : m2 9 = u_up (m 9) (3 * y + x).toNat q.2 := by rw [← hm2, zu_row, zu_rowne (by decide)]
    have f3 : m2 3 5 = m 3 5 := by rw [← hm2, zu_p (by decide), zu_p (by decide)]
    have f4 : m2 1 1 = m 1 1 := s2.at (by decide)
    have f5 := u_g_sm s2
    by_cases c3 : m 3 5 ≤ x + 1
    · rw [if_pos c3, if_pos c3]
      obtain ⟨m', a1, a2⟩ := ih (x + 1) (0, q.2) m2 (by omega) (by omega) (by omega) (by omega) (by omega) (by omega) (by omega)
      rw [f5, f3, f1, f2] at a1 a2
      exact ⟨m', a1, a2.tr s2⟩
    rw [if_neg c3, if_neg c3, c_over m2 44 (by omega) (by omega) (by omega), f5, f1]
    by_cases c4 : u_g m q.1 = 44
    · rw [if_pos c4, if_pos c4]
      show ∃ m', z_R 21 (z_up m2 1 2 (q.1 + 1), 52, [(2, 3), (2, 1), (0, y), (0, x), (0, q.2)], [(0, 1)]) = _ ∧ _
      have hb := hg q.1 (by omega)
      have s3 : z_same u_L m (z_up m2 1 2 (q.1 + 1)) := s2.up1 (lo := 2) (hi := 2) (by decide) (by decide) (by decide)
      rw [s_sto_52, if_neg (by decide), ex]
      have g1 : (z_up m2 1 2 (q.1 + 1)) 1 2 = q.1 + 1 := zu_self
      have g2 : (z_up m2 1 2 (q.1 + 1)) 9 = u_up (m 9) (3 * y + x).toNat q.2 := (zu_rowne (by decide)).trans f2
      have g3 : (z_up m2 1 2 (q.1 + 1)) 3 5 = m 3 5 := (zu_p (by decide)).trans f3
      have g4 : (z_up m2 1 2 (q.1 + 1)) 1 1 = m 1 1 := s3.at (by decide)
      obtain ⟨m', a1, a2⟩ := ih (x + 1) (0, q.2) (z_up m2 1 2 (q.1 + 1)) (by omega) (by omega) (by omega) (by omega) (by omega) (by omega) (by omega)
      rw [u_g_sm s3, g3, g1, g2] at a1 a2
      exact ⟨m', a1, a2.tr s3⟩
    rw [if_neg c4, if_neg c4]
    show ∃ m', z_R 21 (m2, 52, [(2, 3), (2, 1), (0, y), (0, x), (0, q.2)], [(0, 0)]) = _ ∧ _
    rw [s_sto_52, if_pos rfl, ex]
    by_cases c5 : y ≤ 0
    · rw [if_pos c5, if_pos c5]
      have s3 : z_same u_L m (z_up m2 3 5 (x + 1)) := s2.up1 (lo := 5) (hi := 5) (by decide) (by decide) (by decide)
      have g1 : (z_up m2 3 5 (x + 1)) 1 2 = q.1 := (zu_p (by decide)).trans f1
      have g2 : (z_up m2 3 5 (x + 1)) 9 = u_up (m 9) (3 * y + x).toNat q.2 := (zu_rowne (by decide)).trans f2
      have g3 : (z_up m2 3 5 (x + 1)) 3 5 = x + 1 := zu_self
      have g4 : (z_up m2 3 5 (x + 1)) 1 1 = m 1 1 := s3.at (by decide)
      obtain ⟨m', a1, a2⟩ := ih (x + 1) (0, q.2) (z_up m2 3 5 (x + 1)) (by omega) (by omega) (by omega) (by omega) (by omega) (by omega) (by omega)
      rw [u_g_sm s3, g3, g1, g2] at a1 a2
      exact ⟨m', a1, a2.tr s3⟩
    · rw [if_neg c5, if_neg c5]
      exact ⟨m2, rfl, f3, f1, f2, s2⟩
def u_L2 : List (Nat × Nat × Nat) := [(1, 2, 3), (3, 5, 6), (9, 0, 8)]
def u_P2 (m m' : z_M) (S : u_H) : Prop := m' 3 5 = S.2.1 ∧ (S.1 = true → m' 3 6 = S.2.2.1) ∧ m' 1 2 = S.2.2.2.1 ∧ m' 9 = S.2.2.2.2 ∧ z_same u_L2 m m'
theorem u_L_12 {m m' : z_M} (h : z_same u_L m m') : z_same u_L2 m m' := h.sub (by decide)
theorem u_P2.tr {m m1 m' : z_M} {S : u_H} (h : z_same u_L2 m m1) (hp : u_P2 m1 m' S) : u_P2 m m' S := ⟨hp.1, hp.2.1, hp.2.2.1, hp.2.2.2.1, h.tr hp.2.2.2.2⟩
theorem c_hou : ∀ (f : Nat) (y : Int) (m : z_M), 0 ≤ y → y + (f : Int) = 3 → 0 ≤ m 1 2 → m 1 2 ≤ 80 → m 1 1 ≤ 80 → 1 ≤ m 3 5 → m 3 5 ≤ 3 → ∃ m', z_R 19 (m, 13, [(2, 3), (2, 1), (0, y)], []) = some (m', some (0, if (u_hou (u_g m) (m 1 1) f y (m 3 5) (m 1 2) (m 9)).1 then 1 else 0)) ∧ u_P2 m m' (u_hou (u_g m) (m 1 1) f y (m 3 5) (m 1 2) (m 9)) := by
  intro f
  induction f with
  | zero =>
    intro y m hy0 hy h0 h0' h1 hw0 hw
    rw [s_rh_13, if_pos (by omega)]
    exact ⟨m, rfl, rfl, (fun z => by cases z), rfl, rfl, z_same.rf⟩
  | succ f ih =>
    intro y m hy0 hy h0 h0' h1 hw0 hw
    have hg : u_gb (u_g m) := u_nx_b h1
    have ey : z_add y 1 = y + 1 := z_add_eq (by omega) (by omega)
    rw [s_rh_13, if_neg (by omega), ey, s_sto_0]
    have s0 : z_same u_L2 m (z_up m 3 6 (y + 1)) := z_same.rf.up1 (lo := 5) (hi := 6) (by decide) (by decide) (by decide)
    have e1 : (z_up m 3 6 (y + 1)) 1 2 = m 1 2 := zu_p (by decide)
    have e2 : (z_up m 3 6 (y + 1)) 1 1 = m 1 1 := zu_p (by decide)
    have e3 : (z_up m 3 6 (y + 1)) 3 5 = m 3 5 := zu_k (by decide)
    have e4 : (z_up m 3 6 (y + 1)) 9 = m 9 := zu_rowne (by decide)
    have e5 : u_g (z_up m 3 6 (y + 1)) = u_g m := u_g_eq (zu_rowne (by decide)) (zu_p (by decide)) (zu_p (by decide))
    obtain ⟨m1, a1, a2, a3, a4, a5⟩ := c_sto hy0 (by omega) 3 0 (9, 0) (z_up m 3 6 (y + 1)) (by decide) (by decide) (by omega) (by omega) (by omega) (by omega) (by omega)
    rw [e5, e3, e1, e4] at a1 a2 a3 a4
    have hb := u_sto_b hg (y := y) 3 0 (m 3 5) (m 1 2) (m 9) (by decide) hw0 hw h0 h0'
    unfold u_hou
    generalize u_sto (u_g m) y 3 0 (m 3 5) (m 1 2) (m 9) = S at a1 a2 a3 a4 hb ⊢
    obtain ⟨ok, w1, i1, b1⟩ := S
    simp only at a1 a2 a3 a4 hb ⊢
    have s1 : z_same u_L2 m m1 := s0.tr (u_L_12 a5)
    have e6 : m1 3 6 = y + 1 := (a5.at (by decide)).trans zu_self
    have e7 : m1 1 1 = m 1 1 := s1.at (by decide)
    have e8 : u_g m1 = u_g m := (u_g_sm a5).trans e5
    rw [a1]
    show ∃ m', z_R 19 (m1, 31, [(2, 3), (2, 1), (0, y)], [(0, if ok = true then 1 else 0)]) = _ ∧ _
    rw [s_rh_31]
    by_cases c1 : ok = false
    · subst c1
      exact ⟨m1, rfl, a2, (fun z => by cases z), a3, a4, s1⟩
    have c1' : ok = true := by cases ok <;> simp_all
    subst c1'
    rw [if_neg c1, if_neg (by decide), s_ended_0, a3, e7]
    by_cases c2 : m 1 1 ≤ i1
    · rw [if_pos c2, if_neg (by omega)]
      show ∃ m', z_R 19 (m1, 40, [(2, 3), (2, 1), (0, y)], [(0, 1)]) = _ ∧ _
      rw [s_rh_40, if_neg (by decide)]
      exact ⟨m1, rfl, a2, (fun _ => e6), a3, a4, s1⟩
    rw [if_neg c2, if_pos (by omega)]
    show ∃ m', z_R 19 (m1, 40, [(2, 3), (2, 1), (0, y)], [(0, 0)]) = _ ∧ _
    rw [s_rh_40, if_pos rfl, e6]
    by_cases c3 : 3 ≤ y + 1
    · rw [if_pos c3, if_pos c3, ey, s_rh_13, if_pos c3]
      exact ⟨m1, rfl, a2, (fun z => by cases z), a3, a4, s1⟩
    rw [if_neg c3, if_neg c3, c_over m1 47 (by omega) (by omega) (by omega), e8, a3]
    by_cases c4 : u_g m i1 = 47
    · rw [if_pos c4, if_pos c4]
      show ∃ m', z_R 19 (z_up m1 1 2 (i1 + 1), 59, [(2, 3), (2, 1), (0, y)], [(0, 1)]) = _ ∧ _
      have hb2 := hg i1 (by omega)
      have s3 : z_same u_L2 m (z_up m1 1 2 (i1 + 1)) := s1.up1 (lo := 2) (hi := 3) (by decide) (by decide) (by decide)
      have g1 : (z_up m1 1 2 (i1 + 1)) 1 2 = i1 + 1 := zu_self
      have g2 : (z_up m1 1 2 (i1 + 1)) 9 = b1 := (zu_rowne (by decide)).trans a4
      have g3 : (z_up m1 1 2 (i1 + 1)) 3 5 = w1 := (zu_p (by decide)).trans a2
      have g4 : (z_up m1 1 2 (i1 + 1)) 1 1 = m 1 1 := (zu_k (by decide)).trans e7
      have g5 : u_g (z_up m1 1 2 (i1 + 1)) = u_g m := u_g_at.trans e8
      rw [s_rh_59, if_neg (by decide), ey]
      obtain ⟨m', d1, d2⟩ := ih (y + 1) (z_up m1 1 2 (i1 + 1)) (by omega) (by omega) (by omega) (by omega) (by omega) (by omega) (by omega)
      rw [g5, g4, g3, g1, g2] at d1 d2
      exact ⟨m', d1, d2.tr s3⟩
    · rw [if_neg c4, if_neg c4]
      show ∃ m', z_R 19 (m1, 59, [(2, 3), (2, 1), (0, y)], [(0, 0)]) = _ ∧ _
      rw [s_rh_59, if_pos rfl]
      exact ⟨m1, rfl, a2, (fun z => by cases z), a3, a4, s1⟩
theorem c_readHouse (m : z_M) (h1 : m 1 1 ≤ 80) : ∃ m', z_R 19 (m, 0, [(2, 3), (2, 1), (9, 0)], []) = some (m', some (0, if (u_hou (u_nx (m 2) (m 1 1) 80) (m 1 1) 3 0 3 0 (m 9)).1 then 1 else 0)) ∧ u_P2 m m' (u_hou (u_nx (m 2) (m 1 1) 80) (m 1 1) 3 0 3 0 (m 9)) := by
  rw [s_rh_0, s_begin_0]
  show ∃ m', z_R 19 (z_up (z_up m 1 2 0) 1 3 80, 6, [(2, 3), (2, 1), (9, 0)], []) = _ ∧ _
  rw [s_rh_6]
  have s0 : z_same u_L2 m (z_up (z_up (z_up m 1 2 0) 1 3 80) 3 5 3) := ((z_same.rf.up1 (lo := 2) (hi := 3) (by decide) (by decide) (by decide)).up1 (lo := 2) (hi := 3) (by decide) (by decide) (by decide)).up1 (lo := 5) (hi := 6) (by decide) (by decide) (by decide)
  generalize hm : z_up (z_up (z_up m 1 2 0) 1 3 80) 3 5 3 = m0 at s0 ⊢
  have g1 : m0 1 2 = 0 := by rw [← hm, zu_p (by decide), zu_k (by decide), zu_self]
  have g2 : m0 9 = m 9 := by rw [← hm, zu_rowne (by decide), zu_rowne (by decide), zu_rowne (by decide)]
  have g3 : m0 3 5 = 3 := by rw [← hm, zu_self]
  have g4 : m0 1 1 = m 1 1 := s0.at (by decide)
  have g5 : u_g m0 = u_nx (m 2) (m 1 1) 80 := by
    unfold u_g
    rw [s0.row (by decide), g4, show m0 1 3 = 80 by rw [← hm, zu_p (by decide), zu_self]]
  obtain ⟨m', d1, d2⟩ := c_hou 3 0 m0 (by decide) (by decide) (by omega) (by omega) (by omega) (by omega) (by omega)
  rw [g5, g4, g3, g1, g2] at d1 d2
  exact ⟨m', d1, d2.tr s0⟩
/-! building it: columns and storeys stand -/
theorem c_clear : ∀ (f : Nat) (x : Int) (m : z_M), 0 ≤ x → x + (f : Int) = 9 → ∃ m', z_R 31 (m, 2, [(2, 12), (0, x)], []) = some (m', none) ∧ z_same [(12, 5, 7), (13, 0, 8), (14, 0, 8)] m m' := by
  intro f
  induction f with
  | zero =>
    intro x m h0 h
    rw [s_clear_2, if_pos (by omega)]
    exact ⟨_, rfl, ((z_same.rf.up1 (lo := 5) (hi := 7) (by decide) (by decide) (by decide)).up1 (lo := 5) (hi := 7) (by decide) (by decide) (by decide)).up1 (lo := 5) (hi := 7) (by decide) (by decide) (by decide)⟩
  | succ f ih =>
    intro x m h0 h
    rw [s_clear_2, if_neg (by omega), if_pos ⟨h0, by omega⟩, if_pos ⟨h0, by omega⟩, z_add_eq (by omega) (by omega)]
    obtain ⟨m', a1, a2⟩ := ih (x + 1) (z_up (z_up m 13 x.toNat 0) 14 x.toNat 0) (by omega) (by omega)
    exact ⟨m', a1, ((z_same.rf.up1 (lo := 0) (hi := 8) (by decide) (by omega) (by omega)).up1 (lo := 0) (hi := 8) (by decide) (by omega) (by omega)).tr a2⟩
theorem c_has (m : z_M) (a : Int) : ∃ v, z_R 32 (m, 0, [(2, 3), (0, a)], []) = some (m, some (0, v)) := by
  rw [s_has_0]
  by_cases h1 : a < 0
  · rw [if_pos h1]; exact ⟨_, rfl⟩
  rw [if_neg h1]
  by_cases h2 : 9 ≤ a
  · rw [if_pos h2]; exact ⟨_, rfl⟩
  rw [if_neg h2]
  by_cases h3 : m 3 8 ≤ z_rem a 3
  · rw [if_pos h3]; exact ⟨_, rfl⟩
  rw [if_neg h3]
  by_cases h4 : m 3 9 ≤ z_div a 3
  · rw [if_pos h4]; exact ⟨_, rfl⟩
  · rw [if_neg h4]; exact ⟨_, rfl⟩
theorem c_build1 : ∀ (f : Nat) (x : Int) (m : z_M), 0 ≤ x → x + (f : Int) = 9 → ∃ m', z_R 30 (m, 32, [(2, 3), (2, 12), (0, x)], []) = some (m', some (0, z_mul (m 3 8) (m 3 9))) ∧ z_same [(3, 10, 10), (13, 0, 8)] m m' := by
  intro f
  induction f with
  | zero =>
    intro x m h0 h
    rw [s_build_32, if_pos (by omega)]
    exact ⟨m, rfl, z_same.rf⟩
  | succ f ih =>
    intro x m h0 h
    obtain ⟨v, hv⟩ := c_has m x
    rw [s_build_32, if_neg (by omega), hv]
    show ∃ m', z_R 30 (m, 43, [(2, 3), (2, 12), (0, x)], [(0, v)]) = _ ∧ _
    rw [s_build_43, z_add_eq (by omega) (by omega)]
    by_cases c : v = 0
    · rw [if_pos c]
      exact ih (x + 1) m (by omega) (by omega)
    · rw [if_neg c, if_pos ⟨h0, by omega⟩, if_pos ⟨h0, by omega⟩]
      have s1 : z_same [(3, 10, 10), (13, 0, 8)] m (z_up (z_up m 13 x.toNat (m 9 x.toNat)) 3 10 (z_or (m 3 10) (z_shl 1 x))) := (z_same.rf.up1 (lo := 0) (hi := 8) (by decide) (by omega) (by omega)).up1 (lo := 10) (hi := 10) (by decide) (by decide) (by decide)
      obtain ⟨m', a1, a2⟩ := ih (x + 1) (z_up (z_up m 13 x.toNat (m 9 x.toNat)) 3 10 (z_or (m 3 10) (z_shl 1 x))) (by omega) (by omega)
      rw [s1.at (p := 3) (k := 8) (by decide), s1.at (p := 3) (k := 9) (by decide)] at a1
      exact ⟨m', a1, s1.tr a2⟩
theorem c_build (m : z_M) : ∃ m', z_R 30 (m, 0, [(2, 3), (2, 12), (9, 0)], []) = some (m', some (0, z_mul (m 3 5) (m 3 6))) ∧ m' 3 8 = m 3 5 ∧ m' 3 9 = m 3 6 ∧ m' 3 11 = 0 ∧ z_same [(3, 8, 11), (12, 5, 7), (13, 0, 8), (14, 0, 8)] m m' := by
  rw [s_build_0, s_clear_0]
  have s0 : z_same [(3, 8, 11), (12, 5, 7), (13, 0, 8), (14, 0, 8)] m (z_up (z_up (z_up (z_up m 3 8 (m 3 5)) 3 9 (m 3 6)) 3 11 0) 3 10 0) := (((z_same.rf.up1 (lo := 8) (hi := 11) (by decide) (by decide) (by decide)).up1 (lo := 8) (hi := 11) (by decide) (by decide) (by decide)).up1 (lo := 8) (hi := 11) (by decide) (by decide) (by decide)).up1 (lo := 8) (hi := 11) (by decide) (by decide) (by decide)
  generalize hm : z_up (z_up (z_up (z_up m 3 8 (m 3 5)) 3 9 (m 3 6)) 3 11 0) 3 10 0 = m0 at s0 ⊢
  have g8 : m0 3 8 = m 3 5 := by rw [← hm, zu_k (by decide), zu_k (by decide), zu_k (by decide), zu_self]
  have g9 : m0 3 9 = m 3 6 := by rw [← hm, zu_k (by decide), zu_k (by decide), zu_self]
  have g11 : m0 3 11 = 0 := by rw [← hm, zu_k (by decide), zu_self]
  obtain ⟨m1, a1, a2⟩ := c_clear 9 0 m0 (by decide) (by decide)
  rw [a1]
  show ∃ m', z_R 30 (m1, 30, [(2, 3), (2, 12), (9, 0)], []) = _ ∧ _
  rw [s_build_30]
  obtain ⟨m2, b1, b2⟩ := c_build1 9 0 m1 (by decide) (by decide)
  have k8 := a2.at (p := 3) (k := 8) (by decide)
  have k9 := a2.at (p := 3) (k := 9) (by decide)
  rw [k8, k9, g8, g9] at b1
  exact ⟨m2, b1, (b2.at (by decide)).trans (k8.trans g8), (b2.at (by decide)).trans (k9.trans g9), (b2.at (by decide)).trans ((a2.at (by decide)).trans g11), (s0.tr (a2.sub (by decide))).tr (b2.sub (by decide))⟩
theorem c_fk : ∀ (f : Nat) (x : Int) (m : z_M), 0 ≤ x → x + (f : Int) = 2 → ∃ m', z_R 34 (m, 2, [(2, 28), (0, x)], []) = some (m', none) ∧ z_same [(31, 0, 1)] m m' ∧ ∀ k : Nat, (k : Int) < 2 → m' 31 k = if x ≤ (k : Int) then -1 else m 31 k := by
  intro f
  induction f with
  | zero =>
    intro x m h0 h
    rw [s_fk_2, if_pos (by omega)]
    exact ⟨_, rfl, z_same.rf, fun k hk => by rw [if_neg (by omega)]⟩
  | succ f ih =>
    intro x m h0 h
    rw [s_fk_2, if_neg (by omega), if_pos ⟨h0, by omega⟩, z_add_eq (by omega) (by omega)]
    obtain ⟨m', a1, a2, a3⟩ := ih (x + 1) (z_up m 31 x.toNat (-1)) (by omega) (by omega)
    refine ⟨m', a1, (z_same.rf.up1 (lo := 0) (hi := 1) (by decide) (by omega) (by omega)).tr a2, fun k hk => ?_⟩
    rw [a3 k hk, zu_at]
    by_cases c : x + 1 ≤ (k : Int)
    · rw [if_pos c, if_pos (show x ≤ (k : Int) by omega)]
    · rw [if_neg c]
      by_cases c' : k = x.toNat
      · rw [if_pos c', if_pos (show x ≤ (k : Int) by omega)]
      · rw [if_neg c', if_neg (show ¬ x ≤ (k : Int) by omega)]
theorem u_hou_b {g : Int → Int} (hg : u_gb g) {n : Int} : ∀ (f : Nat) (y w i : Int) (a : Nat → Int), 0 ≤ y → y + (f : Int) ≤ 3 → 1 ≤ w → w ≤ 3 → 0 ≤ i → i ≤ 80 → 1 ≤ (u_hou g n f y w i a).2.1 ∧ (u_hou g n f y w i a).2.1 ≤ 3 ∧ 0 ≤ (u_hou g n f y w i a).2.2.1 ∧ (u_hou g n f y w i a).2.2.1 ≤ 3 ∧ 0 ≤ (u_hou g n f y w i a).2.2.2.1 ∧ (u_hou g n f y w i a).2.2.2.1 ≤ 80 := by
  intro f
  induction f with
  | zero => intro y w i a h0 h1 h2 h3 h4 h5; exact ⟨h2, h3, h0, by show y ≤ 3; omega, h4, h5⟩
  | succ f ih =>
    intro y w i a h0 h1 h2 h3 h4 h5
    have b := u_sto_b hg (y := y) 3 0 w i a (by decide) h2 h3 h4 h5
    unfold u_hou
    generalize u_sto g y 3 0 w i a = S at b ⊢
    obtain ⟨ok, w1, i1, b1⟩ := S
    simp only at b ⊢
    by_cases c1 : ok = false
    · rw [if_pos c1]; exact ⟨b.1, b.2.1, by show 0 ≤ y + 1; omega, by show y + 1 ≤ 3; omega, b.2.2.1, b.2.2.2⟩
    rw [if_neg c1]
    by_cases c2 : n ≤ i1
    · rw [if_pos c2]; exact ⟨b.1, b.2.1, by show 0 ≤ y + 1; omega, by show y + 1 ≤ 3; omega, b.2.2.1, b.2.2.2⟩
    rw [if_neg c2]
    by_cases c3 : 3 ≤ y + 1
    · rw [if_pos c3]; exact ⟨b.1, b.2.1, by show 0 ≤ y + 1; omega, by show y + 1 ≤ 3; omega, b.2.2.1, b.2.2.2⟩
    rw [if_neg c3]
    by_cases c4 : g i1 = 47
    · rw [if_pos c4]
      have := hg i1 (by omega)
      exact ih _ _ _ _ (by omega) (by omega) b.1 b.2.1 (by omega) (by omega)
    · rw [if_neg c4]; exact ⟨b.1, b.2.1, by show 0 ≤ y + 1; omega, by show y + 1 ≤ 3; omega, b.2.2.1, b.2.2.2⟩
theorem u_mul3 {a b : Int} (h0 : 1 ≤ a) (h1 : a ≤ 3) (h2 : 0 ≤ b) (h3 : b ≤ 3) : z_mul a b = a * b := by
  rcases (show a = 1 ∨ a = 2 ∨ a = 3 by omega) with rfl | rfl | rfl <;> exact z_mul_eq (by omega) (by omega)
/-- what house leaves of the rooms and persons: by (columns, storeys, persons) before and behind -/
def u_after (S : u_H) (a b : Int × Int × Int) : Prop := b = if S.1 = true then (S.2.1, S.2.2.1, 0) else a
/-- what is kept is gone (v stands there) if the house stands -/
def u_gone (S : u_H) (v : Int) (a b : Nat → Int) : Prop := (S.1 = true → b 0 = v ∧ b 1 = v) ∧ (S.1 = false → b = a)
def u_csp (m : z_M) : Int × Int × Int := (m 3 8, m 3 9, m 3 11)
def u_rsp (m : z_M) : Int × Int × Int := (m 251 1, m 251 2, m 251 3)
theorem c_house (m : z_M) (h0 : 0 ≤ m 1 1) (h1 : m 1 1 ≤ 80) : ∃ m', z_R 18 (m, 0, [(2, 0), (9, 0), (9, 0)], []) = some (m', some (0, u_ans (u_hou (u_nx (m 2) (m 1 1) 80) (m 1 1) 3 0 3 0 (m 9)))) ∧ u_after (u_hou (u_nx (m 2) (m 1 1) 80) (m 1 1) 3 0 3 0 (m 9)) (u_csp m) (u_csp m') ∧ u_gone (u_hou (u_nx (m 2) (m 1 1) 80) (m 1 1) 3 0 3 0 (m 9)) (-1) (m 31) (m' 31) := by
  have b := u_hou_b (u_nx_b h1) (n := m 1 1) 3 0 3 0 (m 9) (g := u_nx (m 2) (m 1 1) 80) (by decide) (by decide) (by decide) (by decide) (by decide) (by decide)
  obtain ⟨m1, a1, a2⟩ := c_readHouse m h1
  generalize u_hou (u_nx (m 2) (m 1 1) 80) (m 1 1) 3 0 3 0 (m 9) = S at a1 a2 b ⊢
  obtain ⟨ok, w, h, i, a⟩ := S
  obtain ⟨p1, p2, p3, p4, p5⟩ := a2
  simp only at a1 p1 p2 p3 p4 b
  unfold u_ans u_after u_gone
  simp only
  rw [s_house_0, a1]
  show ∃ m', z_R 18 (m1, 11, [(2, 0), (9, 0), (9, 0)], [(0, if ok = true then 1 else 0)]) = _ ∧ _
  rw [s_house_11, s_empty_0]
  show ∃ m', z_R 18 (z_up m1 1 1 0, 19, [(2, 0), (0, if ok = true then 1 else 0), (9, 0)], []) = _ ∧ _
  rw [s_house_19]
  by_cases c : ok = true
  · rw [if_pos c, if_neg (by decide), if_pos c, if_pos c]
    obtain ⟨m2, d1, d2, d3, d4, d5⟩ := c_build (z_up m1 1 1 0)
    have e1 : (z_up m1 1 1 0) 3 5 = w := (zu_p (by decide)).trans p1
    have e2 : (z_up m1 1 1 0) 3 6 = h := (zu_p (by decide)).trans (p2 c)
    rw [e1, e2] at d1
    rw [e1] at d2
    rw [e2] at d3
    rw [d1]
    show ∃ m', z_R 18 (m2, 44, [(2, 0), (0, 1), (9, 0)], [(0, z_mul w h)]) = _ ∧ _
    rw [s_house_44, s_fd_0]
    show ∃ m', z_R 18 (z_up m2 28 4 0, 52, [(2, 0), (0, 1), (0, z_mul w h)], []) = _ ∧ _
    rw [s_house_52, s_fk_0]
    obtain ⟨m3, f1, f2, f3⟩ := c_fk 2 0 (z_up m2 28 4 0) (by decide) (by decide)
    rw [f1]
    refine ⟨m3, (s_house_59 _ _ _).trans (by rw [u_mul3 b.1 b.2.1 b.2.2.1 b.2.2.2.1]), ?_, fun _ => ⟨(f3 0 (by decide)).trans (if_pos (by decide)), (f3 1 (by decide)).trans (if_pos (by decide))⟩, fun z => absurd (c.symm.trans z) (by decide)⟩
    unfold u_csp
    rw [f2.at (p := 3) (k := 8) (by decide), f2.at (p := 3) (k := 9) (by decide), f2.at (p := 3) (k := 11) (by decide), zu_p (by decide), zu_p (by decide), zu_p (by decide), d2, d3, d4]
  · rw [if_neg c, if_pos rfl, if_neg c, if_neg c]
    have e1 : (z_up m1 1 1 0) 1 2 = i := (zu_k (by decide)).trans p3
    rw [e1, z_sub_eq (by omega) (by omega)]
    refine ⟨_, rfl, ?_, fun z => absurd z c, fun _ => (zu_rowne (by decide)).trans (p5.row (by decide))⟩
    unfold u_csp
    rw [zu_p (by decide), zu_p (by decide), zu_p (by decide), p5.at (p := 3) (k := 8) (by decide), p5.at (p := 3) (k := 9) (by decide), p5.at (p := 3) (k := 11) (by decide)]
/-! the same in the reference -/
def u_M : List (Nat × Nat × Nat) := [(251, 15, 16), (256, 0, 8)]
theorem u_q_sm {m m' : z_M} (h : z_same u_M m m') : u_q m' = u_q m := u_q_eq (h.row (by decide)) (h.at (by decide)) (h.at (by decide))
theorem u_W_sm {m m' : z_M} (hw : u_W m) (h : z_same u_M m m') (h0 : 0 ≤ m' 251 15) (h1 : m' 251 15 ≤ 80) : u_W m' := by
  obtain ⟨a1, a2, a3, a4, a5⟩ := hw
  refine ⟨(h.at (by decide)).trans a1, h0, h1, by rw [h.at (p := 251) (k := 13) (by decide)]; exact a4, fun k hk => ?_⟩
  rw [h.row (p := 254) (by decide)]
  exact a5 k hk
theorem t_f162 (m : z_M) (x1 x2 x3 : Int) (v4 v5 : z_V) (h : ¬ m 251 16 = -1) : z_R 163 (m, 162, [(2, 251), (0, x1), (0, x2), (0, x3), v4, v5], []) = some (m, some (0, z_sub (-1) (m 251 16))) := by
  have e : z_R 163 (m, 185, [(2, 251), (0, x1), (0, x2), (0, x3), v4, v5], [(0, 0)]) = some (m, some (0, z_sub (-1) (m 251 16))) := by rw [t_house_185, if_pos rfl]
  rw [t_house_162]
  by_cases c : m 251 13 ≤ m 251 15
  · rw [if_pos c, t_fine0 m h]
    exact e
  · rw [if_neg c, t_fault0 m _ h]
    show z_R 163 (m, 181, [(2, 251), (0, x1), (0, x2), (0, x3), v4, v5], []) = _
    rw [t_house_181, t_fine0 m h]
    exact e
theorem t_f30 (m : z_M) (x1 x2 x3 : Int) (v4 v5 : z_V) (h : ¬ m 251 16 = -1) : z_R 163 (m, 30, [(2, 251), (0, x1), (0, x2), (0, x3), v4, v5], []) = some (m, some (0, z_sub (-1) (m 251 16))) := by
  rw [t_house_30]
  by_cases c : x3 = 0
  · rw [if_pos c]; exact t_f162 m _ _ _ _ _ h
  · rw [if_neg c, t_fine0 m h]
    show z_R 163 (m, 38, [(2, 251), (0, x1), (0, x2), (0, x3), v4, v5], [(0, 0)]) = _
    rw [t_house_38, if_pos rfl]
    exact t_f162 m _ _ _ _ _ h
theorem t_f136 (m : z_M) (x1 x2 x3 x4 x5 : Int) (h : ¬ m 251 16 = -1) : z_R 163 (m, 136, [(2, 251), (0, x1), (0, x2), (0, x3), (0, x4), (0, x5)], []) = some (m, some (0, z_sub (-1) (m 251 16))) := by
  rw [t_house_136]
  by_cases c : 3 ≤ z_add x2 1
  · rw [if_pos c]; exact t_f30 m _ _ _ _ _ h
  · rw [if_neg c, t_pass0 m _ h]
    show z_R 163 (m, 150, [(2, 251), (0, x1), (0, z_add x2 1), (0, x3), (0, x4), (0, x5)], [(0, 0)]) = _
    rw [t_house_150, if_pos rfl]
    exact t_f30 m _ _ _ _ _ h
theorem t_f129 (m : z_M) (x1 x2 x3 x4 x5 : Int) (h : ¬ m 251 16 = -1) : z_R 163 (m, 129, [(2, 251), (0, x1), (0, x2), (0, x3), (0, x4), (0, x5)], []) = some (m, some (0, z_sub (-1) (m 251 16))) := by
  rw [t_house_129]
  by_cases c : x2 = 0
  · rw [if_pos c]; exact t_f136 m _ _ _ _ _ h
  · rw [if_neg c]; exact t_f136 m _ _ _ _ _ h
theorem t_f47 (m : z_M) (x1 x2 x3 x4 x5 : Int) (h : ¬ m 251 16 = -1) : z_R 163 (m, 47, [(2, 251), (0, x1), (0, x2), (0, x3), (0, x4), (0, x5)], []) = some (m, some (0, z_sub (-1) (m 251 16))) := by
  have e : z_R 163 (m, 111, [(2, 251), (0, x1), (0, x2), (0, x3), (0, x4), (0, x5)], []) = some (m, some (0, z_sub (-1) (m 251 16))) := by
    rw [t_house_111]
    by_cases c : x2 ≤ 0
    · rw [if_pos c]; exact t_f129 m _ _ _ _ _ h
    rw [if_neg c]
    by_cases c' : x1 ≤ x4
    · rw [if_pos c']; exact t_f129 m _ _ _ _ _ h
    · rw [if_neg c', t_fault0 m _ h]
      exact t_f129 m _ _ _ _ _ h
  rw [t_house_47]
  by_cases c : x5 = 0
  · rw [if_pos c]; exact e
  · rw [if_neg c, t_fine0 m h]
    show z_R 163 (m, 56, [(2, 251), (0, x1), (0, x2), (0, x3), (0, x4), (0, x5)], [(0, 0)]) = _
    rw [t_house_56, if_pos rfl]
    exact e
theorem t_f74 (m : z_M) (x1 x2 x3 x4 x5 s0 u : Int) (h : ¬ m 251 16 = -1) (h0 : 0 ≤ s0) (h1 : s0 < 9) : ∃ m', z_R 163 (m, 74, [(2, 251), (0, x1), (0, x2), (0, x3), (0, x4), (0, x5)], [(0, u), (0, s0), (2, 256)]) = some (m', some (0, z_sub (-1) (m 251 16))) ∧ z_same u_M m m' := by
  have hs : z_same u_M m (z_up m 256 s0.toNat u) := z_same.rf.up1 (lo := 0) (hi := 8) (by decide) (by omega) (by omega)
  rw [t_house_74, if_pos ⟨h0, by omega⟩]
  have hm : (z_up m 256 s0.toNat u) 251 16 = m 251 16 := zu_p (by decide)
  have hm' : ¬ (z_up m 256 s0.toNat u) 251 16 = -1 := by rw [hm]; exact h
  have e : ∀ x4 x5 : Int, z_R 163 (z_up m 256 s0.toNat u, 98, [(2, 251), (0, x1), (0, x2), (0, x3), (0, x4), (0, x5)], [(0, 0)]) = some (z_up m 256 s0.toNat u, some (0, z_sub (-1) (m 251 16))) := by
    intro x4 x5
    rw [t_house_98, if_pos rfl, t_f47 _ _ _ _ _ _ hm', hm]
  by_cases c : x2 = 0
  · rw [if_pos c]
    by_cases c' : 3 ≤ z_add x4 1
    · rw [if_pos c', t_f47 _ _ _ _ _ _ hm', hm]; exact ⟨_, rfl, hs⟩
    · rw [if_neg c', t_pass0 _ _ hm']; exact ⟨_, e _ _, hs⟩
  · rw [if_neg c]
    by_cases c' : x1 ≤ z_add x4 1
    · rw [if_pos c', t_f47 _ _ _ _ _ _ hm', hm]; exact ⟨_, rfl, hs⟩
    · rw [if_neg c', t_pass0 _ _ hm']; exact ⟨_, e _ _, hs⟩
/-- behind a storey's last ICE -/
theorem t_ok111 {y : Int} (hy0 : 0 ≤ y) (x1 x3 x4 : Int) (m : z_M) (hx : ¬ y = 0 → x4 = x1) : z_R 163 (m, 47, [(2, 251), (0, x1), (0, y), (0, x3), (0, x4), (0, 0)], []) = z_R 163 (m, 136, [(2, 251), (0, x4), (0, y), (0, x3), (0, x4), (0, 0)], []) := by
  rw [t_house_47, if_pos rfl, t_house_111]
  by_cases c : y = 0
  · rw [if_pos (by omega), t_house_129, if_pos c]
  · rw [if_neg (by omega), if_pos (by rw [hx c]; exact Int.le_refl _), t_house_129, if_neg c, hx c]
/-- a storey -/
theorem t_sto {y : Int} (hy0 : 0 ≤ y) (hy : y ≤ 2) : ∀ (f : Nat) (x x1 x3 w : Int) (m : z_M), u_W m → m 251 16 = -1 → 0 ≤ x → x + (f : Int) = 3 → x < w → w ≤ 3 → (y = 0 → w = 3) → (¬ y = 0 → w = x1) → ∃ m' x4, z_R 163 (m, 47, [(2, 251), (0, x1), (0, y), (0, x3), (0, x), (0, 1)], []) = (if (u_sto (u_q m) y f x w (m 251 15) (m 256)).1 = true then z_R 163 (m', 136, [(2, 251), (0, (u_sto (u_q m) y f x w (m 251 15) (m 256)).2.1), (0, y), (0, x3), (0, x4), (0, 0)], []) else some (m', some (0, -1 - (u_sto (u_q m) y f x w (m 251 15) (m 256)).2.2.1))) ∧ ((u_sto (u_q m) y f x w (m 251 15) (m 256)).1 = true → m' 251 16 = -1 ∧ m' 251 15 = (u_sto (u_q m) y f x w (m 251 15) (m 256)).2.2.1 ∧ m' 256 = (u_sto (u_q m) y f x w (m 251 15) (m 256)).2.2.2) ∧ z_same u_M m m' := by
  intro f
  induction f with
  | zero => intro x x1 x3 w m hw hf hx0 hx hxw hw3; omega
  | succ f ih =>
    intro x x1 x3 w m hw hf hx0 hx hxw hw3 hwy hwn
    have hg := u_q_b hw
    obtain ⟨w1, w2, w3, w4, w5⟩ := id hw
    have b := u_ic_b hg w2 w3
    have ek : z_add (z_mul 3 y) x = 3 * y + x := by rw [z_mul_eq (by omega) (by omega), z_add_eq (by omega) (by omega)]
    have ex : z_add x 1 = x + 1 := z_add_eq (by omega) (by omega)
    rw [t_house_47, if_neg (by decide), t_fine1 m hf]
    show ∃ m' x4, z_R 163 (m, 56, [(2, 251), (0, x1), (0, y), (0, x3), (0, x), (0, 1)], [(0, 1)]) = _ ∧ _
    rw [t_house_56, if_neg (by decide), t_num2 m hf hw, ek]
    unfold u_sto
    rw [if_neg (show ¬ w ≤ x by omega)]
    generalize u_ic (u_q m) (m 251 15) = q at b ⊢
    by_cases c2 : q.2 = -1
    · rw [if_pos c2, if_pos c2]
      obtain ⟨m', e, es⟩ := t_f74 (z_up m 251 16 q.1) x1 y x3 x 1 (3 * y + x) 0 (by rw [zu_self]; omega) (by omega) (by omega)
      rw [zu_self, z_sub_eq (by omega) (by omega)] at e
      exact ⟨m', 0, e, (fun z => by cases z), (z_same.rf.up1 (lo := 15) (hi := 16) (by decide) (by decide) (by decide)).tr es⟩
    rw [if_neg c2, if_neg c2]
    show ∃ m' x4, z_R 163 (z_up m 251 15 q.1, 74, [(2, 251), (0, x1), (0, y), (0, x3), (0, x), (0, 1)], [(0, q.2), (0, 3 * y + x), (2, 256)]) = _ ∧ _
    rw [t_house_74, if_pos ⟨by omega, by omega⟩, ex]
    have s2 : z_same u_M m (z_up (z_up m 251 15 q.1) 256 (3 * y + x).toNat q.2) := (z_same.rf.up1 (lo := 15) (hi := 16) (by decide) (by decide) (by decide)).up1 (lo := 0) (hi := 8) (by decide) (by omega) (by omega)
    generalize hm2 : z_up (z_up m 251 15 q.1) 256 (3 * y + x).toNat q.2 = m2 at s2 ⊢
    have f1 : m2 251 15 = q.1 := by rw [← hm2, zu_p (by decide), zu_self]
    have f2 : m2 256 = u_up (m 256) (3 * y + x).toNat q.2 := by rw [← hm2, zu_row, zu_rowne (by decide)]
    have f3 : m2 251 16 = -1 := by rw [← hm2, zu_p (by decide), zu_k (by decide)]; exact hf
    have f5 := u_q_sm s2
    have f6 : u_W m2 := u_W_sm hw s2 (by omega) (by omega)
    have last : ∀ z : ¬ y = 0 → x + 1 = x1, z_R 163 (m2, 47, [(2, 251), (0, x1), (0, y), (0, x3), (0, x + 1), (0, 0)], []) = z_R 163 (m2, 136, [(2, 251), (0, x + 1), (0, y), (0, x3), (0, x + 1), (0, 0)], []) := fun z => t_ok111 hy0 x1 x3 (x + 1) m2 z
    by_cases c3 : w ≤ x + 1
    · have hwx : w = x + 1 := by omega
      rw [if_pos c3, u_sto_done c3]
      refine ⟨m2, x + 1, ?_, fun _ => ⟨f3, f1, f2⟩, s2⟩
      show _ = z_R 163 (m2, 136, [(2, 251), (0, w), (0, y), (0, x3), (0, x + 1), (0, 0)], [])
      by_cases cy : y = 0
      · have := hwy cy
        rw [if_pos cy, if_pos (by omega), last (fun z => absurd cy z), hwx]
      · have := hwn cy
        rw [if_neg cy, if_pos (by omega), last (fun _ => by omega), hwx]
    rw [if_neg c3]
    have hpass : (if y = 0 then if 3 ≤ x + 1 then z_R 163 (m2, 47, [(2, 251), (0, x1), (0, y), (0, x3), (0, x + 1), (0, 0)], []) else (z_R 170 (m2, 0, [(2, 251), (0, 44)], [])).bind fun r => z_R 163 (r.1, 98, [(2, 251), (0, x1), (0, y), (0, x3), (0, x + 1), (0, 1)], r.2.toList ++ []) else if x1 ≤ x + 1 then z_R 163 (m2, 47, [(2, 251), (0, x1), (0, y), (0, x3), (0, x + 1), (0, 0)], []) else (z_R 170 (m2, 0, [(2, 251), (0, 44)], [])).bind fun r => z_R 163 (r.1, 98, [(2, 251), (0, x1), (0, y), (0, x3), (0, x + 1), (0, 1)], r.2.toList ++ [])) = (z_R 170 (m2, 0, [(2, 251), (0, 44)], [])).bind fun r => z_R 163 (r.1, 98, [(2, 251), (0, x1), (0, y), (0, x3), (0, x + 1), (0, 1)], r.2.toList ++ []) := by
      by_cases cy : y = 0
      · have := hwy cy
        rw [if_pos cy, if_neg (by omega)]
      · have := hwn cy
        rw [if_neg cy, if_neg (by omega)]
    rw [hpass, t_pass1 m2 44 f3 f6, f5, f1]
    by_cases c4 : u_q m q.1 = 44
    · rw [if_pos c4, if_pos c4]
      show ∃ m' x4, z_R 163 (z_up m2 251 15 (q.1 + 1), 98, [(2, 251), (0, x1), (0, y), (0, x3), (0, x + 1), (0, 1)], [(0, 1)]) = _ ∧ _
      have hb := hg q.1 (by omega)
      have s3 : z_same u_M m (z_up m2 251 15 (q.1 + 1)) := s2.up1 (lo := 15) (hi := 16) (by decide) (by decide) (by decide)
      have g1 : (z_up m2 251 15 (q.1 + 1)) 251 15 = q.1 + 1 := zu_self
      have g2 : (z_up m2 251 15 (q.1 + 1)) 256 = u_up (m 256) (3 * y + x).toNat q.2 := (zu_rowne (by decide)).trans f2
      have g3 : (z_up m2 251 15 (q.1 + 1)) 251 16 = -1 := (zu_k (by decide)).trans f3
      rw [t_house_98, if_neg (by decide)]
      obtain ⟨m', x4, a1, a2, a3⟩ := ih (x + 1) x1 x3 w (z_up m2 251 15 (q.1 + 1)) (u_W_sm hw s3 (by omega) (by omega)) g3 (by omega) (by omega) (by omega) hw3 hwy hwn
      rw [u_q_sm s3, g1, g2] at a1 a2
      exact ⟨m', x4, a1, a2, s3.tr a3⟩
    rw [if_neg c4, if_neg c4]
    show ∃ m' x4, z_R 163 (m2, 98, [(2, 251), (0, x1), (0, y), (0, x3), (0, x + 1), (0, 1)], [(0, 0)]) = _ ∧ _
    rw [t_house_98, if_pos rfl]
    by_cases c5 : y ≤ 0
    · rw [if_pos c5, u_sto_done (Int.le_refl _)]
      exact ⟨m2, x + 1, last (fun z => absurd (by omega) z), fun _ => ⟨f3, f1, f2⟩, s2⟩
    · have := hwn (by omega)
      rw [if_neg c5, t_house_47, if_pos rfl, t_house_111, if_neg c5, if_neg (by omega), t_fault1 m2 _ f3, f1]
      show ∃ m' x4, z_R 163 (z_up m2 251 16 q.1, 129, [(2, 251), (0, x1), (0, y), (0, x3), (0, x + 1), (0, 0)], []) = _ ∧ _
      have hz : ¬ (z_up m2 251 16 q.1) 251 16 = -1 := by rw [zu_self]; omega
      rw [t_f129 _ _ _ _ _ _ hz, zu_self, z_sub_eq (by omega) (by omega)]
      exact ⟨_, 0, rfl, (fun z => by cases z), s2.up1 (lo := 15) (hi := 16) (by decide) (by decide) (by decide)⟩
/-! it stands: what is left gives columns by storeys -/
def u_K : List (Nat × Nat × Nat) := [(251, 25, 25), (252, 0, 36), (276, 0, 1)]
def u_K3 : List (Nat × Nat × Nat) := [(251, 3, 3), (251, 25, 25), (252, 0, 36), (276, 0, 1)]
theorem t_l307 : ∀ (f : Nat) (x5 x1 x2 x3 x4 : Int) (m : z_M), 0 ≤ x5 → x5 + (f : Int) = 2 → ∃ m', z_R 163 (m, 307, [(2, 251), (0, x1), (0, x2), (0, x3), (0, x4), (0, x5)], []) = some (m', some (0, z_mul x1 x2)) ∧ z_same u_K m m' ∧ ∀ k : Nat, (k : Int) < 2 → m' 276 k = if x5 ≤ (k : Int) then 0 else m 276 k := by
  intro f
  induction f with
  | zero =>
    intro x5 x1 x2 x3 x4 m h0 h
    rw [t_house_307, if_pos (by omega)]
    exact ⟨_, rfl, z_same.rf, fun k hk => by rw [if_neg (by omega)]⟩
  | succ f ih =>
    intro x5 x1 x2 x3 x4 m h0 h
    rw [t_house_307, if_neg (by omega), if_pos ⟨h0, by omega⟩, z_add_eq (by omega) (by omega)]
    obtain ⟨m', a1, a2, a3⟩ := ih (x5 + 1) x1 x2 x3 x4 (z_up m 276 x5.toNat (z_bo 0)) (by omega) (by omega)
    refine ⟨m', a1, (z_same.rf.up1 (lo := 0) (hi := 1) (by decide) (by omega) (by omega)).tr a2, fun k hk => ?_⟩
    rw [a3 k hk, zu_at, show z_bo 0 = 0 by decide +kernel]
    by_cases c : x5 + 1 ≤ (k : Int)
    · rw [if_pos c, if_pos (show x5 ≤ (k : Int) by omega)]
    · rw [if_neg c]
      by_cases c' : k = x5.toNat
      · rw [if_pos c', if_pos (show x5 ≤ (k : Int) by omega)]
      · rw [if_neg c', if_neg (show ¬ x5 ≤ (k : Int) by omega)]
theorem t_room (m : z_M) (a : Int) : ∃ v, z_R 171 (m, 0, [(2, 251), (0, a)], []) = some (m, some (0, v)) := by
  rw [t_room_0, t_in]
  show ∃ v, z_R 171 (m, 7, [(2, 251), (0, a)], [(0, if 0 ≤ a ∧ a ≤ 8 then 1 else 0)]) = _
  rw [t_room_7]
  generalize (if 0 ≤ a ∧ a ≤ 8 then (1 : Int) else 0) = u
  by_cases h1 : u = 0
  · rw [if_pos h1]; exact ⟨_, rfl⟩
  rw [if_neg h1]
  by_cases h3 : m 251 1 ≤ z_rem a 3
  · rw [if_pos h3]; exact ⟨_, rfl⟩
  rw [if_neg h3]
  by_cases h4 : m 251 2 ≤ z_div a 3
  · rw [if_pos h4]; exact ⟨_, rfl⟩
  · rw [if_neg h4]; exact ⟨_, rfl⟩
theorem t_l241 : ∀ (f : Nat) (x5 x1 x2 x3 x4 : Int) (m : z_M), 0 ≤ x5 → x5 + (f : Int) = 9 → ∃ m', z_R 163 (m, 241, [(2, 251), (0, x1), (0, x2), (0, x3), (0, x4), (0, x5)], []) = some (m', some (0, z_mul x1 x2)) ∧ m' 251 3 = 0 ∧ z_same u_K3 m m' ∧ (m' 276 0 = 0 ∧ m' 276 1 = 0) := by
  intro f
  induction f with
  | zero =>
    intro x5 x1 x2 x3 x4 m h0 h
    rw [t_house_241, if_pos (by omega)]
    obtain ⟨m', a1, a2, a3⟩ := t_l307 2 0 x1 x2 x3 x4 (z_up (z_up (z_up (z_up m 252 34 (-1)) 252 36 x4) 251 3 0) 251 25 0) (by decide) (by decide)
    refine ⟨m', a1, ?_, ((((z_same.rf.up1 (lo := 0) (hi := 36) (by decide) (by decide) (by decide)).up1 (lo := 0) (hi := 36) (by decide) (by decide) (by decide)).up1 (lo := 3) (hi := 3) (by decide) (by decide) (by decide)).up1 (lo := 25) (hi := 25) (by decide) (by decide) (by decide)).tr (a2.sub (by decide)), (a3 0 (by decide)).trans (if_pos (by decide)), (a3 1 (by decide)).trans (if_pos (by decide))⟩
    rw [a2.at (p := 251) (k := 3) (by decide), zu_k (by decide), zu_self]
  | succ f ih =>
    intro x5 x1 x2 x3 x4 m h0 h
    obtain ⟨v, hv⟩ := t_room m x5
    rw [t_house_241, if_neg (by omega), hv]
    show ∃ m', z_R 163 (m, 254, [(2, 251), (0, x1), (0, x2), (0, x3), (0, x4), (0, x5)], [(0, v)]) = _ ∧ _
    rw [t_house_254, z_add_eq (by omega) (by omega)]
    by_cases c : v = 0
    · rw [if_pos c]; exact ih _ _ _ _ _ _ (by omega) (by omega)
    · rw [if_neg c, if_pos ⟨h0, by omega⟩, if_pos ⟨h0, by omega⟩]
      obtain ⟨m', a1, a2, a3, a4⟩ := ih (x5 + 1) x1 x2 x3 x4 (z_up m 252 x5.toNat (m 256 x5.toNat)) (by omega) (by omega)
      exact ⟨m', a1, a2, (z_same.rf.up1 (lo := 0) (hi := 36) (by decide) (by omega) (by omega)).tr a3, a4⟩
theorem t_l217 : ∀ (f : Nat) (x5 x1 x2 x3 x4 : Int) (m : z_M), 0 ≤ x5 → x5 + (f : Int) = 37 → ∃ m', z_R 163 (m, 217, [(2, 251), (0, x1), (0, x2), (0, x3), (0, x4), (0, x5)], []) = some (m', some (0, z_mul x1 x2)) ∧ m' 251 3 = 0 ∧ z_same u_K3 m m' ∧ (m' 276 0 = 0 ∧ m' 276 1 = 0) := by
  intro f
  induction f with
  | zero =>
    intro x5 x1 x2 x3 x4 m h0 h
    rw [t_house_217, if_pos (by omega)]
    exact t_l241 9 0 _ _ _ _ _ (by decide) (by decide)
  | succ f ih =>
    intro x5 x1 x2 x3 x4 m h0 h
    rw [t_house_217, if_neg (by omega), if_pos ⟨h0, by omega⟩, z_add_eq (by omega) (by omega)]
    obtain ⟨m', a1, a2, a3, a4⟩ := ih (x5 + 1) x1 x2 x3 x4 (z_up m 252 x5.toNat 0) (by omega) (by omega)
    exact ⟨m', a1, a2, (z_same.rf.up1 (lo := 0) (hi := 36) (by decide) (by omega) (by omega)).tr a3, a4⟩
theorem t_ok162 (m : z_M) (x1 x2 x3 : Int) (v4 v5 : z_V) (h : m 251 16 = -1) (hl : m 251 13 ≤ m 251 15) : ∃ m', z_R 163 (m, 162, [(2, 251), (0, x1), (0, x2), (0, x3), v4, v5], []) = some (m', some (0, z_mul x1 x2)) ∧ u_rsp m' = (x1, x2, 0) ∧ (m' 276 0 = 0 ∧ m' 276 1 = 0) := by
  rw [t_house_162, if_pos hl, t_fine1 m h]
  show ∃ m', z_R 163 (m, 185, [(2, 251), (0, x1), (0, x2), (0, x3), v4, v5], [(0, 1)]) = _ ∧ _
  rw [t_house_185, if_neg (by decide)]
  obtain ⟨m', a1, a2, a3, a4⟩ := t_l217 37 0 x1 x2 x3 (m 252 36) (z_up (z_up m 251 1 x1) 251 2 x2) (by decide) (by decide)
  refine ⟨m', a1, ?_, a4⟩
  unfold u_rsp
  rw [a2, a3.at (p := 251) (k := 1) (by decide), a3.at (p := 251) (k := 2) (by decide), zu_self, zu_k (by decide), zu_self]
theorem t_no162 (m : z_M) (x1 x2 x3 : Int) (v4 v5 : z_V) (h : m 251 16 = -1) (hl : ¬ m 251 13 ≤ m 251 15) (h0 : 0 ≤ m 251 15) (h1 : m 251 15 ≤ 80) : ∃ m', z_R 163 (m, 162, [(2, 251), (0, x1), (0, x2), (0, x3), v4, v5], []) = some (m', some (0, -1 - m 251 15)) ∧ z_same u_M m m' := by
  have hz : ¬ (z_up m 251 16 (m 251 15)) 251 16 = -1 := by rw [zu_self]; omega
  rw [t_house_162, if_neg hl, t_fault1 m _ h]
  show ∃ m', z_R 163 (z_up m 251 16 (m 251 15), 181, [(2, 251), (0, x1), (0, x2), (0, x3), v4, v5], []) = _ ∧ _
  rw [t_house_181, t_fine0 _ hz]
  show ∃ m', z_R 163 (z_up m 251 16 (m 251 15), 185, [(2, 251), (0, x1), (0, x2), (0, x3), v4, v5], [(0, 0)]) = _ ∧ _
  rw [t_house_185, if_pos rfl, zu_self, z_sub_eq (by omega) (by omega)]
  exact ⟨_, rfl, z_same.rf.up1 (lo := 15) (hi := 16) (by decide) (by decide) (by decide)⟩
theorem t_hou : ∀ (f : Nat) (y x1 w : Int) (v4 v5 : z_V) (m : z_M), u_W m → m 251 16 = -1 → 0 ≤ y → y + (f : Int) = 3 → y < 3 → 1 ≤ w → w ≤ 3 → (y = 0 → w = 3) → (¬ y = 0 → w = x1) → ∃ m', z_R 163 (m, 30, [(2, 251), (0, x1), (0, y), (0, 1), v4, v5], []) = some (m', some (0, u_ans (u_hou (u_q m) (m 251 13) f y w (m 251 15) (m 256)))) ∧ u_after (u_hou (u_q m) (m 251 13) f y w (m 251 15) (m 256)) (u_rsp m) (u_rsp m') ∧ u_gone (u_hou (u_q m) (m 251 13) f y w (m 251 15) (m 256)) 0 (m 276) (m' 276) := by
  intro f
  induction f with
  | zero => intro y x1 w v4 v5 m hw hf hy0 hy hy3; omega
  | succ f ih =>
    intro y x1 w v4 v5 m hw hf hy0 hy hy3 hw0 hw3 hwy hwn
    have hg := u_q_b hw
    obtain ⟨w1, w2, w3, w4, w5⟩ := id hw
    have ey : z_add y 1 = y + 1 := z_add_eq (by omega) (by omega)
    rw [t_house_30, if_neg (by decide), t_fine1 m hf]
    show ∃ m', z_R 163 (m, 38, [(2, 251), (0, x1), (0, y), (0, 1), v4, v5], [(0, 1)]) = _ ∧ _
    rw [t_house_38, if_neg (by decide)]
    obtain ⟨m1, x4, a1, a2, d4⟩ := t_sto hy0 (by omega) 3 0 x1 1 w m hw hf (by decide) (by decide) (by omega) hw3 hwy hwn
    rw [a1]
    have b := u_sto_b hg (y := y) 3 0 w (m 251 15) (m 256) (by decide) hw0 hw3 w2 w3
    unfold u_hou
    generalize u_sto (u_q m) y 3 0 w (m 251 15) (m 256) = S at a2 b ⊢
    obtain ⟨ok, c1, i1, b1⟩ := S
    simp only at a2 b ⊢
    have er : u_rsp m1 = u_rsp m := by unfold u_rsp; rw [d4.at (p := 251) (k := 1) (by decide), d4.at (p := 251) (k := 2) (by decide), d4.at (p := 251) (k := 3) (by decide)]
    by_cases k1 : ok = false
    · subst k1
      rw [if_neg (by decide), if_pos rfl]
      exact ⟨m1, rfl, er, (fun z => by cases z), fun _ => d4.row (by decide)⟩
    have k1' : ok = true := by cases ok <;> simp_all
    obtain ⟨d1, d2, d3⟩ := a2 k1'
    have hw1 : u_W m1 := u_W_sm hw d4 (by omega) (by omega)
    have e13 : m1 251 13 = m 251 13 := d4.at (by decide)
    rw [if_pos k1', if_neg k1, t_house_136, ey]
    by_cases k2 : m 251 13 ≤ i1
    · rw [if_pos k2]
      have fin : ∀ x3 : Int, ∃ m', z_R 163 (m1, 30, [(2, 251), (0, c1), (0, y + 1), (0, 0), (0, x4), (0, 0)], []) = some (m', some (0, u_ans (true, c1, y + 1, i1, b1))) ∧ u_after (true, c1, y + 1, i1, b1) (u_rsp m) (u_rsp m') ∧ u_gone (true, c1, y + 1, i1, b1) 0 (m 276) (m' 276) := fun _ => by
        rw [t_house_30, if_pos rfl]
        obtain ⟨m', z, z', z''⟩ := t_ok162 m1 c1 (y + 1) 0 (0, x4) (0, 0) d1 (by omega)
        refine ⟨m', ?_, z', (fun _ => z''), fun w => by cases w⟩
        rw [z, u_mul3 (by omega) (by omega) (by omega) (by omega)]
        rfl
      by_cases k3 : 3 ≤ y + 1
      · rw [if_pos k3]; exact fin 0
      · have hn : ¬ u_q m1 (m1 251 15) = 47 := fun z => by
          have : u_q m1 (m1 251 15) = -1 := by
            unfold u_q u_nx
            rw [if_neg (fun z => by omega)]
          omega
        rw [if_neg k3, t_pass1 m1 47 d1 hw1, if_neg hn]
        show ∃ m', z_R 163 (m1, 150, [(2, 251), (0, c1), (0, y + 1), (0, 1), (0, x4), (0, 0)], [(0, 0)]) = _ ∧ _
        rw [t_house_150, if_pos rfl]
        exact fin 0
    rw [if_neg k2]
    have nofin : ∃ m', z_R 163 (m1, 30, [(2, 251), (0, c1), (0, y + 1), (0, 0), (0, x4), (0, 0)], []) = some (m', some (0, u_ans (false, c1, y + 1, i1, b1))) ∧ u_after (false, c1, y + 1, i1, b1) (u_rsp m) (u_rsp m') ∧ u_gone (false, c1, y + 1, i1, b1) 0 (m 276) (m' 276) := by
      rw [t_house_30, if_pos rfl]
      obtain ⟨m', z, z'⟩ := t_no162 m1 c1 (y + 1) 0 (0, x4) (0, 0) d1 (by omega) (by omega) (by omega)
      refine ⟨m', ?_, ?_, (fun w => by cases w), fun _ => (z'.row (by decide)).trans (d4.row (by decide))⟩
      · rw [z, d2]
        rfl
      · show u_rsp m' = u_rsp m
        rw [← er]
        unfold u_rsp
        rw [z'.at (p := 251) (k := 1) (by decide), z'.at (p := 251) (k := 2) (by decide), z'.at (p := 251) (k := 3) (by decide)]
    by_cases k3 : 3 ≤ y + 1
    · rw [if_pos k3, if_pos k3]; exact nofin
    rw [if_neg k3, if_neg k3, t_pass1 m1 47 d1 hw1, u_q_sm d4, d2]
    by_cases k4 : u_q m i1 = 47
    · rw [if_pos k4, if_pos k4]
      show ∃ m', z_R 163 (z_up m1 251 15 (i1 + 1), 150, [(2, 251), (0, c1), (0, y + 1), (0, 1), (0, x4), (0, 0)], [(0, 1)]) = _ ∧ _
      have hb := hg i1 (by omega)
      rw [t_house_150, if_neg (by decide)]
      have g1 : (z_up m1 251 15 (i1 + 1)) 251 15 = i1 + 1 := zu_self
      have g2 : (z_up m1 251 15 (i1 + 1)) 256 = b1 := (zu_rowne (by decide)).trans d3
      have g3 : (z_up m1 251 15 (i1 + 1)) 251 16 = -1 := (zu_k (by decide)).trans d1
      have g4 : (z_up m1 251 15 (i1 + 1)) 251 13 = m 251 13 := (zu_k (by decide)).trans e13
      have er' : u_rsp (z_up m1 251 15 (i1 + 1)) = u_rsp m := by
        rw [← er]
        unfold u_rsp
        rw [zu_k (by decide), zu_k (by decide), zu_k (by decide)]
      obtain ⟨m', z, z', z''⟩ := ih (y + 1) c1 c1 (0, x4) (0, 0) (z_up m1 251 15 (i1 + 1)) (u_W_at hw1 (by omega) (by omega)) g3 (by omega) (by omega) (by omega) b.1 b.2.1 (fun z => by omega) (fun _ => rfl)
      rw [u_q_at, u_q_sm d4, g4, g1, g2] at z z' z''
      rw [er'] at z'
      rw [show (z_up m1 251 15 (i1 + 1)) 276 = m 276 from (zu_rowne (by decide)).trans (d4.row (by decide))] at z''
      exact ⟨m', z, z', z''⟩
    · rw [if_neg k4, if_neg k4]
      show ∃ m', z_R 163 (m1, 150, [(2, 251), (0, c1), (0, y + 1), (0, 1), (0, x4), (0, 0)], [(0, 0)]) = _ ∧ _
      rw [t_house_150, if_pos rfl]
      exact nofin
theorem t_house (m : z_M) (h0 : 0 ≤ m 251 8) (h1 : m 251 8 ≤ 80) (hr : ∀ k, k < 80 → -128 ≤ m 254 k ∧ m 254 k ≤ 127) : ∃ m', z_R 163 (m, 0, [(2, 251), (9, 0), (9, 0), (9, 0), (9, 0), (9, 0)], []) = some (m', some (0, u_ans (u_hou (u_nx (u_t m) (m 251 8) 80) (m 251 8) 3 0 3 0 (m 256)))) ∧ u_after (u_hou (u_nx (u_t m) (m 251 8) 80) (m 251 8) 3 0 3 0 (m 256)) (u_rsp m) (u_rsp m') ∧ u_gone (u_hou (u_nx (u_t m) (m 251 8) 80) (m 251 8) 3 0 3 0 (m 256)) 0 (m 276) (m' 276) := by
  rw [t_house_0, t_begin_0]
  have e8 : (z_up m 251 11 0) 251 8 = m 251 8 := zu_k (by decide)
  show ∃ m', z_R 163 (z_up (z_up (z_up (z_up (z_up (z_up m 251 11 0) 251 12 254) 251 13 (m 251 8)) 251 14 80) 251 15 0) 251 16 (-1), 19, [(2, 251), (9, 0), (9, 0), (9, 0), (9, 0), (9, 0)], []) = _ ∧ _
  rw [t_house_19]
  generalize hm : z_up (z_up (z_up (z_up (z_up (z_up (z_up m 251 11 0) 251 12 254) 251 13 (m 251 8)) 251 14 80) 251 15 0) 251 16 (-1)) 251 8 0 = m0
  have r : ∀ p, ¬ p = 251 → m0 p = m p := fun p hp => by rw [← hm, zu_rowne hp, zu_rowne hp, zu_rowne hp, zu_rowne hp, zu_rowne hp, zu_rowne hp, zu_rowne hp]
  have g12 : m0 251 12 = 254 := by rw [← hm, zu_k (by decide), zu_k (by decide), zu_k (by decide), zu_k (by decide), zu_k (by decide), zu_self]
  have g13 : m0 251 13 = m 251 8 := by rw [← hm, zu_k (by decide), zu_k (by decide), zu_k (by decide), zu_k (by decide), zu_self]
  have g14 : m0 251 14 = 80 := by rw [← hm, zu_k (by decide), zu_k (by decide), zu_k (by decide), zu_self]
  have g15 : m0 251 15 = 0 := by rw [← hm, zu_k (by decide), zu_k (by decide), zu_self]
  have g16 : m0 251 16 = -1 := by rw [← hm, zu_k (by decide), zu_self]
  have gq : u_q m0 = u_nx (u_t m) (m 251 8) 80 := by
    unfold u_q u_t
    rw [r 254 (by decide), g13, g14]
  have gr : u_rsp m0 = u_rsp m := by
    unfold u_rsp
    rw [← hm]
    rw [zu_k (by decide), zu_k (by decide), zu_k (by decide), zu_k (by decide), zu_k (by decide), zu_k (by decide), zu_k (by decide)]
    rw [zu_k (by decide), zu_k (by decide), zu_k (by decide), zu_k (by decide), zu_k (by decide), zu_k (by decide), zu_k (by decide)]
    rw [zu_k (by decide), zu_k (by decide), zu_k (by decide), zu_k (by decide), zu_k (by decide), zu_k (by decide), zu_k (by decide)]
  obtain ⟨m', z, z', z''⟩ := t_hou 3 0 0 3 (9, 0) (9, 0) m0 ⟨g12, by omega, by omega, by omega, fun k hk => by rw [r 254 (by decide)]; exact hr k hk⟩ g16 (by decide) (by decide) (by decide) (by decide) (by decide) (fun _ => rfl) (fun z => absurd rfl z)
  rw [gq, g13, g15, r 256 (by decide)] at z z' z''
  rw [gr] at z'
  rw [r 276 (by decide)] at z''
  exact ⟨m', z, z', z''⟩
end
section
/-! THE TEXTS ARE ALIKE, sign by sign: what each call does to that -/
def u_R (m : z_M) : Prop := m 1 1 = m 251 8 ∧ ∀ k : Nat, (k : Int) < m 1 1 → m 2 k = z_and (m 254 k) 255
def Rel_T (σ : m_H) : Prop := u_R (z_m σ)
theorem u_R_sm {m m' : z_M} (h : u_R m) (h1 : m' 1 1 = m 1 1) (h2 : m' 251 8 = m 251 8) (h3 : m' 2 = m 2) (h4 : m' 254 = m 254) : u_R m' := by
  refine ⟨by rw [h1, h2]; exact h.1, fun k hk => ?_⟩
  rw [h3, h4]
  exact h.2 k (by rw [← h1]; exact hk)
theorem u_R_zero {m : z_M} (h1 : m 1 1 = 0) (h2 : m 251 8 = 0) : u_R m := ⟨by rw [h1, h2], fun k hk => by omega⟩
noncomputable def rel_offb (y : Nat) : Bool := md_off y 1 1 && (md_off y 251 8 && (md_offr y 2 && md_offr y 254))
theorem rel_offb_ok {y : Nat} (h : rel_offb y = true) {C : A_C} (hC : C ∈ cs_at y) {T : Int} {ρ : List Int} {σ σ' : m_H} {r : Option Value} (hp : c_post C.2.2.2.2.2.2.2.1 C.2.2.2.2.1 T ρ σ r σ') (hR : Rel_T σ) : Rel_T σ' := by
  obtain ⟨h1, h⟩ := Bool.and_eq_true _ _ |>.mp h
  obtain ⟨h2, h⟩ := Bool.and_eq_true _ _ |>.mp h
  obtain ⟨h3, h4⟩ := Bool.and_eq_true _ _ |>.mp h
  exact u_R_sm hR (md_off_ok h1 hC hp) (md_off_ok h2 hC hp) (md_offr_ok h3 hC hp) (md_offr_ok h4 hC hp)
theorem R_off {c : l_C} (h : (rel_offb c.2.2.1 && (rel_offb c.2.2.2.2.2.2.2 && !c.2.2.2.2.1)) = true) : l_rel2 Rel_T c := by
  obtain ⟨h1, h⟩ := Bool.and_eq_true _ _ |>.mp h
  obtain ⟨h2, h5⟩ := Bool.and_eq_true _ _ |>.mp h
  intro M1 M2 M3 σ σ1 σ2 as v1 v2 C1 C2 ρ1 ρ2 ha hR hh hM1 hC1 hp1 hE1 hC2 hp2 hE2
  exact ⟨rel_offb_ok h2 hC2 hp2 (rel_offb_ok h1 hC1 hp1 hR), fun z => by rw [z] at h5; cases h5⟩
theorem R_zero {c : l_C} (h : (md_zero c.2.2.1 1 1 && (md_zero c.2.2.2.2.2.2.2 251 8 && (md_off c.2.2.2.2.2.2.2 1 1 && !c.2.2.2.2.1))) = true) : l_rel2 Rel_T c := by
  obtain ⟨h1, h⟩ := Bool.and_eq_true _ _ |>.mp h
  obtain ⟨h2, h⟩ := Bool.and_eq_true _ _ |>.mp h
  obtain ⟨h3, h5⟩ := Bool.and_eq_true _ _ |>.mp h
  intro M1 M2 M3 σ σ1 σ2 as v1 v2 C1 C2 ρ1 ρ2 ha hR hh hM1 hC1 hp1 hE1 hC2 hp2 hE2
  exact ⟨u_R_zero ((md_off_ok h3 hC2 hp2).trans (md_zero_ok h1 hC1 hp1)) (md_zero_ok h2 hC2 hp2), fun z => by rw [z] at h5; cases h5⟩
theorem R_end : l_rel2 Rel_T (244, 31, 16, 1, false, 255, 35, 161) := by
  intro M1 M2 M3 σ σ1 σ2 as v1 v2 C1 C2 ρ1 ρ2 ha hR hh hM1 hC1 hp1 hE1 hC2 hp2 hE2
  obtain ⟨a, rfl⟩ := as_one ha
  have hE1 : z_R 16 (z_m σ, 0, [(2, 0), (0, a.toInt)], []) = some (z_m σ1, some (0, v1.toInt)) := z_R_iff.mpr hE1
  have hE2 : z_R 161 (z_m σ1, 0, [(2, 251), (0, a.toInt)], []) = some (z_m σ2, some (0, v2.toInt)) := z_R_iff.mpr hE2
  rw [r_end] at hE1
  rw [q_end] at hE2
  have hR' : u_R (z_m σ) := hR
  show u_R (z_m σ2) ∧ _
  by_cases h : 0 ≤ a.toInt ∧ a.toInt ≤ z_m σ 1 1
  · rw [if_pos h] at hE1
    have hE1 := Option.some.inj hE1
    have k1 : z_m σ1 = z_up (z_m σ) 1 1 a.toInt := (congrArg Prod.fst hE1).symm
    have k2 : v1.toInt = 1 := (congrArg (fun z : z_Q => (z.2.getD (0, 0)).2) hE1).symm
    have k3 : z_m σ1 251 8 = z_m σ 251 8 := by rw [k1]; exact zu_p (by decide)
    have k4 := hR'.1
    rw [if_pos (by omega)] at hE2
    have hE2 := Option.some.inj hE2
    have l1 : z_m σ2 = z_up (z_up (z_m σ1) 251 11 0) 251 8 a.toInt := (congrArg Prod.fst hE2).symm
    have l2 : v2.toInt = 1 := (congrArg (fun z : z_Q => (z.2.getD (0, 0)).2) hE2).symm
    refine ⟨⟨?_, fun k hk => ?_⟩, fun _ => Int32.toInt_inj.mp (by omega)⟩
    · rw [l1, zu_self, zu_p (by decide), zu_p (by decide), k1, zu_self]
    · have e11 : z_m σ2 1 1 = a.toInt := by rw [l1, zu_p (by decide), zu_p (by decide), k1, zu_self]
      have e2 : z_m σ2 2 = z_m σ 2 := by rw [l1, zu_rowne (by decide), zu_rowne (by decide), k1, zu_rowne (by decide)]
      have e4 : z_m σ2 254 = z_m σ 254 := by rw [l1, zu_rowne (by decide), zu_rowne (by decide), k1, zu_rowne (by decide)]
      rw [e2, e4]
      exact hR'.2 k (by omega)
  · rw [if_neg h] at hE1
    have hE1 := Option.some.inj hE1
    have k1 : z_m σ1 = z_m σ := (congrArg Prod.fst hE1).symm
    have k2 : v1.toInt = 0 := (congrArg (fun z : z_Q => (z.2.getD (0, 0)).2) hE1).symm
    have k4 := hR'.1
    rw [if_neg (by rw [k1]; omega)] at hE2
    have hE2 := Option.some.inj hE2
    have l1 : z_m σ2 = z_up (z_m σ1) 251 11 0 := (congrArg Prod.fst hE2).symm
    have l2 : v2.toInt = 0 := (congrArg (fun z : z_Q => (z.2.getD (0, 0)).2) hE2).symm
    refine ⟨?_, fun _ => Int32.toInt_inj.mp (by omega)⟩
    rw [l1, k1]
    exact u_R_sm hR' (zu_p (by decide)) (zu_k (by decide)) (zu_rowne (by decide)) (zu_rowne (by decide))
theorem R_sign : l_rel2 Rel_T (219, 26, 14, 1, false, 230, 30, 160) := by
  intro M1 M2 M3 σ σ1 σ2 as v1 v2 C1 C2 ρ1 ρ2 ha hR hh hM1 hC1 hp1 hE1 hC2 hp2 hE2
  obtain ⟨a, rfl⟩ := as_one ha
  have hE1 : z_R 14 (z_m σ, 0, [(2, 0), (0, a.toInt)], []) = some (z_m σ1, some (0, v1.toInt)) := z_R_iff.mpr hE1
  have hE2 : z_R 160 (z_m σ1, 0, [(2, 251), (0, a.toInt), (9, 0)], []) = some (z_m σ2, some (0, v2.toInt)) := z_R_iff.mpr hE2
  obtain ⟨r1, r2⟩ := z_rng hh (p := 1) (k := 1) (lo := 0) (hi := 80) (by decide) (by decide +kernel) (by decide +kernel)
  have hR' : u_R (z_m σ) := hR
  have k4 := hR'.1
  show u_R (z_m σ2) ∧ _
  by_cases h : z_m σ 1 1 ≤ 76
  · obtain ⟨m1, d1, d2, d3, d4, d5⟩ := r_sign4 (z_m σ) a.toInt r1 h
    rw [d1] at hE1
    have hE1 := Option.some.inj hE1
    have k1 : m1 = z_m σ1 := congrArg Prod.fst hE1
    have k2 : z_m σ 1 1 + 4 = v1.toInt := congrArg (fun z : z_Q => (z.2.getD (0, 0)).2) hE1
    subst k1
    obtain ⟨m2, f1, f2, f3, f4, f5⟩ := q_sign4 (z_m σ1) a.toInt (by omega) (by omega)
    rw [f1] at hE2
    have hE2 := Option.some.inj hE2
    have l1 : m2 = z_m σ2 := congrArg Prod.fst hE2
    have l2 : z_m σ1 251 8 + 4 = v2.toInt := congrArg (fun z : z_Q => (z.2.getD (0, 0)).2) hE2
    subst l1
    refine ⟨⟨by omega, fun k hk => ?_⟩, fun _ => Int32.toInt_inj.mp (by omega)⟩
    rw [f4, f5, d4, d5, d2, ← k4]
    exact u_up4_eq (fun j hj => hR'.2 j (by omega)) (u_sign_eq a (Or.inl rfl)).1 (u_sign_eq a (Or.inr (Or.inl rfl))).1 (u_sign_eq a (Or.inr (Or.inr (Or.inl rfl)))).1 (u_sign_eq a (Or.inr (Or.inr (Or.inr rfl)))).1 (by omega)
  · rw [r_sign0 _ _ h] at hE1
    have hE1 := Option.some.inj hE1
    have k1 : z_m σ = z_m σ1 := congrArg Prod.fst hE1
    have k2 : -1 = v1.toInt := congrArg (fun z : z_Q => (z.2.getD (0, 0)).2) hE1
    rw [← k1, q_sign0 _ _ (by omega) (by omega)] at hE2
    have hE2 := Option.some.inj hE2
    have l1 : z_up (z_m σ) 251 11 0 = z_m σ2 := congrArg Prod.fst hE2
    have l2 : -1 = v2.toInt := congrArg (fun z : z_Q => (z.2.getD (0, 0)).2) hE2
    refine ⟨?_, fun _ => Int32.toInt_inj.mp (by omega)⟩
    rw [← l1]
    exact u_R_sm hR' (zu_p (by decide)) (zu_k (by decide)) (zu_rowne (by decide)) (zu_rowne (by decide))
theorem u_nx_R {m : z_M} (h : u_R m) {s : Int} : u_nx (m 2) (m 1 1) s = u_nx (u_t m) (m 251 8) s := by
  funext i
  unfold u_nx u_t
  rw [← h.1]
  by_cases c : 0 ≤ i ∧ i < m 1 1 ∧ i < s
  · rw [if_pos c, if_pos c]
    exact h.2 _ (by omega)
  · rw [if_neg c, if_neg c]
/-- house: the texts stay alike, the answers are, and columns, storeys, persons come alike or stay -/
theorem H_house (M1 M2 M3 : Int) (σ σ1 σ2 : m_H) (as : List Int32) (v1 v2 : Int32) (C1 C2 : A_C) (ρ1 ρ2 : List Int) (ha : as.length = 0) (hR : Rel_T σ) (hh : h_ok M1 σ) (hC1 : C1 ∈ cs_at 18) (hp1 : c_post C1.2.2.2.2.2.2.2.1 C1.2.2.2.2.1 M2 ρ1 σ (some (.int v1)) σ1) (hE1 : z_R 18 (z_m σ, 0, [(2, 0), (9, 0), (9, 0)], []) = some (z_m σ1, some (0, v1.toInt))) (hC2 : C2 ∈ cs_at 163) (hp2 : c_post C2.2.2.2.2.2.2.2.1 C2.2.2.2.2.1 M3 ρ2 σ1 (some (.int v2)) σ2) (hE2 : z_R 163 (z_m σ1, 0, [(2, 251), (9, 0), (9, 0), (9, 0), (9, 0), (9, 0)], []) = some (z_m σ2, some (0, v2.toInt))) :
    (Rel_T σ2 ∧ v1 = v2) ∧ ∃ b : Option (Int × Int × Int), u_csp (z_m σ2) = b.getD (u_csp (z_m σ)) ∧ u_rsp (z_m σ2) = b.getD (u_rsp (z_m σ)) ∧ (b = none → z_m σ2 31 = z_m σ 31 ∧ z_m σ2 276 = z_m σ 276) ∧ (¬ b = none → (z_m σ2 31 0 = -1 ∧ z_m σ2 31 1 = -1) ∧ z_m σ2 276 0 = 0 ∧ z_m σ2 276 1 = 0) := by
  obtain ⟨r1, r2⟩ := z_rng hh (p := 1) (k := 1) (lo := 0) (hi := 80) (by decide) (by decide +kernel) (by decide +kernel)
  have hR' : u_R (z_m σ) := hR
  have o1 : z_m σ1 251 8 = z_m σ 251 8 := md_off_ok (y := 18) (by decide +kernel) hC1 hp1
  have o2 : z_m σ1 254 = z_m σ 254 := md_offr_ok (y := 18) (by decide +kernel) hC1 hp1
  have rb : ∀ k, k < 80 → -128 ≤ z_m σ 254 k ∧ z_m σ 254 k ≤ 127 := fun k hk => z_rng hh (p := 254) (k := k) (lo := -128) (hi := 127) (by decide) (by rw [show h_ln 254 = 80 by decide +kernel]; exact hk) (h_ty_254 k)
  obtain ⟨m1, d1, d2, d3⟩ := c_house (z_m σ) r1 r2
  rw [d1] at hE1
  have k1 : m1 = z_m σ1 := congrArg Prod.fst (Option.some.inj hE1)
  have k2 := (congrArg (fun z : z_Q => (z.2.getD (0, 0)).2) (Option.some.inj hE1)).symm
  obtain ⟨m2, f1, f2, f3⟩ := t_house (z_m σ1) (by rw [o1, ← hR'.1]; exact r1) (by rw [o1, ← hR'.1]; exact r2) (fun k hk => by rw [o2]; exact rb k hk)
  rw [f1] at hE2
  have l1 : m2 = z_m σ2 := congrArg Prod.fst (Option.some.inj hE2)
  have l2 := (congrArg (fun z : z_Q => (z.2.getD (0, 0)).2) (Option.some.inj hE2)).symm
  have eg : u_nx (u_t (z_m σ1)) (z_m σ1 251 8) 80 = u_nx (z_m σ 2) (z_m σ 1 1) 80 := by
    rw [u_nx_R hR']
    unfold u_t
    rw [o1, o2]
  simp only [Option.getD_some] at k2 l2
  rw [eg, o1, ← hR'.1] at l2 f2 f3
  have ee := u_hou_e (g := u_nx (z_m σ 2) (z_m σ 1 1) 80) (n := z_m σ 1 1) 3 0 3 0 (z_m σ 9) (z_m σ1 256)
  rw [k1] at d2 d3
  rw [l1] at f2 f3
  refine ⟨⟨u_R_zero ((md_off_ok (y := 163) (by decide +kernel) hC2 hp2).trans (md_zero_ok (y := 18) (by decide +kernel) hC1 hp1)) (md_zero_ok (y := 163) (by decide +kernel) hC2 hp2), Int32.toInt_inj.mp (by rw [k2, l2]; exact ee.ans)⟩, ?_⟩
  have n1 : u_csp (z_m σ2) = u_csp (z_m σ1) := by
    unfold u_csp
    rw [md_off_ok (y := 163) (p := 3) (k := 8) (by decide +kernel) hC2 hp2, md_off_ok (y := 163) (p := 3) (k := 9) (by decide +kernel) hC2 hp2, md_off_ok (y := 163) (p := 3) (k := 11) (by decide +kernel) hC2 hp2]
  have n2 : u_rsp (z_m σ1) = u_rsp (z_m σ) := by
    unfold u_rsp
    rw [md_off_ok (y := 18) (p := 251) (k := 1) (by decide +kernel) hC1 hp1, md_off_ok (y := 18) (p := 251) (k := 2) (by decide +kernel) hC1 hp1, md_off_ok (y := 18) (p := 251) (k := 3) (by decide +kernel) hC1 hp1]
  have n3 : z_m σ2 31 = z_m σ1 31 := md_offr_ok (y := 163) (by decide +kernel) hC2 hp2
  have n4 : z_m σ1 276 = z_m σ 276 := md_offr_ok (y := 18) (by decide +kernel) hC1 hp1
  unfold u_gone at d3 f3
  rw [← ee.1] at f3
  rw [n4] at f3
  rw [n3]
  unfold u_after at d2 f2
  rw [n2, ← ee.1, ← ee.2.1, ← ee.2.2.1] at f2
  rw [n1, d2, f2]
  by_cases c : (u_hou (u_nx (z_m σ 2) (z_m σ 1 1) 80) (z_m σ 1 1) 3 0 3 0 (z_m σ 9)).1 = true
  · exact ⟨some ((u_hou (u_nx (z_m σ 2) (z_m σ 1 1) 80) (z_m σ 1 1) 3 0 3 0 (z_m σ 9)).2.1, (u_hou (u_nx (z_m σ 2) (z_m σ 1 1) 80) (z_m σ 1 1) 3 0 3 0 (z_m σ 9)).2.2.1, 0), by rw [if_pos c]; rfl, by rw [if_pos c]; rfl, (fun z => by cases z), fun _ => ⟨d3.1 c, f3.1 c⟩⟩
  · exact ⟨none, by rw [if_neg c]; rfl, by rw [if_neg c]; rfl, (fun _ => ⟨d3.2 (Bool.eq_false_iff.mpr c), f3.2 (Bool.eq_false_iff.mpr c)⟩), fun z => absurd rfl z⟩
theorem R_house : l_rel2 Rel_T (263, 36, 18, 0, false, 268, 40, 163) := by
  intro M1 M2 M3 σ σ1 σ2 as v1 v2 C1 C2 ρ1 ρ2 ha hR hh hM1 hC1 hp1 hE1 hC2 hp2 hE2
  obtain rfl := as_nil ha
  have z := (H_house M1 M2 M3 σ σ1 σ2 [] v1 v2 C1 C2 ρ1 ρ2 rfl hR hh hC1 hp1 (z_R_iff.mpr hE1) hC2 hp2 (z_R_iff.mpr hE2)).1
  exact ⟨z.1, fun _ => z.2⟩
theorem R_rule (h0 : ((289, 45, 39, 0, false, 294, 48, 175) : l_C).2.2.2.2.1 = false) : l_rel2 Rel_T (289, 45, 39, 0, false, 294, 48, 175) := by
  intro M1 M2 M3 σ σ1 σ2 as v1 v2 C1 C2 ρ1 ρ2 ha hR hh hM1 hC1 hp1 hE1 hC2 hp2 hE2
  obtain rfl := as_nil ha
  have hE1 : z_R 39 (z_m σ, 0, [(2, 0), (9, 0)], []) = some (z_m σ1, some (0, v1.toInt)) := z_R_iff.mpr hE1
  exact ⟨u_R_zero ((md_off_ok (y := 175) (by decide +kernel) hC2 hp2).trans (r_rule0 _ hE1)) (md_zero_ok (y := 175) (by decide +kernel) hC2 hp2), fun z => absurd (h0.symm.trans z) (by decide)⟩
theorem R_start : ∀ σ, xs_is σ → Rel_T σ := fun σ h => by
  have := xs_ck_ok (f := fun σ => match c_at σ 1 1, c_at σ 251 8 with
    | some v, some w => i_eq (z_vn v) 0 && i_eq (z_vn w) 0
    | _, _ => false) (by decide +kernel) h
  split at this
  · rename_i v w e1 e2
    obtain ⟨a1, a2⟩ := Bool.and_eq_true _ _ |>.mp this
    refine u_R_zero ?_ ?_
    · unfold z_m
      rw [e1]
      exact i_eq_iff.mp a1
    · unfold z_m
      rw [e2]
      exact i_eq_iff.mp a2
  · cases this
theorem R3_off {y n : Nat} (h : rel_offb y = true) : l_rel3 Rel_T y n := by
  intro M1 M2 M3 σ σ1 σ2 as v C2 ρ2 ha hR hh hM1 hf hh1 hC2 hp2 hE2
  have hz : ∀ p k, (¬ p = 6 ∧ ¬ p = 7 ∧ ¬ p = 278) → z_m σ1 p k = z_m σ p k := fun p k hp => by
    have e := hf p k (fun ⟨q, q1, q2, _⟩ => by
      simp only [List.mem_cons, List.not_mem_nil, or_false] at q1
      rcases q1 with rfl | rfl | rfl <;> simp only at q2 <;> omega)
    unfold z_m
    rw [e]
  have hr : ∀ p, (¬ p = 6 ∧ ¬ p = 7 ∧ ¬ p = 278) → z_m σ1 p = z_m σ p := fun p hp => funext fun k => hz p k hp
  exact rel_offb_ok h hC2 hp2 (u_R_sm hR (hz 1 1 (by decide)) (hz 251 8 (by decide)) (hr 2 (by decide)) (hr 254 (by decide)))
/-! CELLS THAT ARE ALIKE: place, cell, place, cell, how many -/
abbrev u_X : Type := Nat × Nat × Nat × Nat × Nat
def u_E (L : List u_X) (m : z_M) : Prop := ∀ e ∈ L, ∀ j, j < e.2.2.2.2 → m e.1 (e.2.1 + j) = m e.2.2.1 (e.2.2.2.1 + j)
theorem u_E_nil {m : z_M} : u_E [] m := fun e h => absurd h List.not_mem_nil
theorem u_E_cons {e : u_X} {L : List u_X} {m : z_M} : u_E (e :: L) m ↔ (∀ j, j < e.2.2.2.2 → m e.1 (e.2.1 + j) = m e.2.2.1 (e.2.2.2.1 + j)) ∧ u_E L m := by
  constructor
  · intro h
    exact ⟨h e List.mem_cons_self, fun e' h' => h e' (List.mem_cons_of_mem _ h')⟩
  · rintro ⟨h1, h2⟩ e' h'
    rcases List.mem_cons.mp h' with rfl | h'
    · exact h1
    · exact h2 e' h'
theorem u_E_one {p k p' k' : Nat} {L : List u_X} {m : z_M} (h1 : m p k = m p' k') (h2 : u_E L m) : u_E ((p, k, p', k', 1) :: L) m := u_E_cons.mpr ⟨fun j hj => by
  obtain rfl : j = 0 := by simp only at hj; omega
  exact h1, h2⟩
noncomputable def md_offg (y p k n : Nat) : Bool := (cs_at y).all fun C => C.2.2.2.2.1.all fun q => !(Nat.beq q.1 p && (Nat.blt q.2.1 (k + n) && Nat.ble k q.2.2))
theorem md_offg_ok {y p k n : Nat} (h : md_offg y p k n = true) {C : A_C} (hC : C ∈ cs_at y) {alts : List A_A} {T : Int} {ρ : List Int} {σ σ' : m_H} {r : Option Value} (hp : c_post alts C.2.2.2.2.1 T ρ σ r σ') {j : Nat} (hj : j < n) : z_m σ' p (k + j) = z_m σ p (k + j) := by
  have e := (c_post_h hp).2 p (k + j) (fun ⟨q, q1, q2, q3, q4⟩ => by
    have := List.all_eq_true.mp (List.all_eq_true.mp h C hC) q q1
    have hb : Nat.beq p p = true := Nat.beq_refl p
    have h2 : Nat.blt q.2.1 (k + n) = true := Nat.ble_eq_true_of_le (show q.2.1 + 1 ≤ k + n by omega)
    rw [q2, hb, h2, Nat.ble_eq_true_of_le (show k ≤ q.2.2 by omega)] at this
    cases this)
  unfold z_m
  rw [e]
noncomputable def E_off (y : Nat) (L : List u_X) : Bool := L.all fun e => md_offg y e.1 e.2.1 e.2.2.2.2 && md_offg y e.2.2.1 e.2.2.2.1 e.2.2.2.2
theorem E_off_ok {y : Nat} {L : List u_X} (h : E_off y L = true) {C : A_C} (hC : C ∈ cs_at y) {alts : List A_A} {T : Int} {ρ : List Int} {σ σ' : m_H} {r : Option Value} (hp : c_post alts C.2.2.2.2.1 T ρ σ r σ') (hE : u_E L (z_m σ)) : u_E L (z_m σ') := fun e he j hj => by
  obtain ⟨h1, h2⟩ := Bool.and_eq_true _ _ |>.mp (List.all_eq_true.mp h e he)
  rw [md_offg_ok h1 hC hp hj, md_offg_ok h2 hC hp hj]
  exact hE e he j hj
/-- cells that no call of the case changes stay alike -/
theorem E_part {A : m_H → Prop} {L : List u_X} {c : l_C} (h1 : l_rel2 A c) (h : (E_off c.2.2.1 L && E_off c.2.2.2.2.2.2.2 L) = true) : l_rel2 (fun σ => A σ ∧ u_E L (z_m σ)) c := by
  obtain ⟨g1, g2⟩ := Bool.and_eq_true _ _ |>.mp h
  intro M1 M2 M3 σ σ1 σ2 as v1 v2 C1 C2 ρ1 ρ2 ha hR hh hM1 hC1 hp1 hE1 hC2 hp2 hE2
  have z := h1 M1 M2 M3 σ σ1 σ2 as v1 v2 C1 C2 ρ1 ρ2 ha hR.1 hh hM1 hC1 hp1 hE1 hC2 hp2 hE2
  exact ⟨⟨z.1, E_off_ok g2 hC2 hp2 (E_off_ok g1 hC1 hp1 hR.2)⟩, z.2⟩
/-- cells that room, person, row of the class leave -/
def E_far (L : List u_X) : Bool := L.all fun e => !(Nat.beq e.1 6 || (Nat.beq e.1 7 || (Nat.beq e.1 278 || (Nat.beq e.2.2.1 6 || (Nat.beq e.2.2.1 7 || Nat.beq e.2.2.1 278)))))
theorem E_part3 {A : m_H → Prop} {L : List u_X} {y n : Nat} (h1 : l_rel3 A y n) (h : (E_off y L && E_far L) = true) : l_rel3 (fun σ => A σ ∧ u_E L (z_m σ)) y n := by
  obtain ⟨g1, g2⟩ := Bool.and_eq_true _ _ |>.mp h
  intro M1 M2 M3 σ σ1 σ2 as v C2 ρ2 ha hR hh hM1 hf hh1 hC2 hp2 hE2
  have hz : ∀ p k, (¬ p = 6 ∧ ¬ p = 7 ∧ ¬ p = 278) → z_m σ1 p k = z_m σ p k := fun p k hp => by
    have e := hf p k (fun ⟨q, q1, q2, _⟩ => by
      simp only [List.mem_cons, List.not_mem_nil, or_false] at q1
      rcases q1 with rfl | rfl | rfl <;> simp only at q2 <;> omega)
    unfold z_m
    rw [e]
  refine ⟨h1 M1 M2 M3 σ σ1 σ2 as v C2 ρ2 ha hR.1 hh hM1 hf hh1 hC2 hp2 hE2, E_off_ok g1 hC2 hp2 fun e he j hj => ?_⟩
  have hb := List.all_eq_true.mp g2 e he
  have hn : ¬ e.1 = 6 ∧ ¬ e.1 = 7 ∧ ¬ e.1 = 278 ∧ ¬ e.2.2.1 = 6 ∧ ¬ e.2.2.1 = 7 ∧ ¬ e.2.2.1 = 278 := by
    refine ⟨fun z => ?_, fun z => ?_, fun z => ?_, fun z => ?_, fun z => ?_, fun z => ?_⟩ <;> (rw [z] at hb; simp at hb)
  rw [hz _ _ ⟨hn.1, hn.2.1, hn.2.2.1⟩, hz _ _ ⟨hn.2.2.2.1, hn.2.2.2.2.1, hn.2.2.2.2.2⟩]
  exact hR.2 e he j hj
/-- alike, as the cells stand -/
noncomputable def E_ck (L : List u_X) (σ : m_H) : Bool := L.all fun e => (List.range e.2.2.2.2).all fun j => match c_at σ e.1 (e.2.1 + j), c_at σ e.2.2.1 (e.2.2.2.1 + j) with
  | some v, some w => i_eq (z_vn v) (z_vn w)
  | _, _ => false
theorem E_ck_ok {L : List u_X} {σ : m_H} (h : E_ck L σ = true) : u_E L (z_m σ) := fun e he j hj => by
  have := List.all_eq_true.mp (List.all_eq_true.mp h e he) j (List.mem_range.mpr hj)
  split at this
  · rename_i v w e1 e2
    unfold z_m
    rw [e1, e2]
    exact i_eq_iff.mp this
  · cases this
end
section
/-! SHEET in plain numbers -/
def u_hs (w h a : Int) : Int := if a < 0 then 0 else if 9 ≤ a then 0 else if w ≤ z_rem a 3 then 0 else if h ≤ z_div a 3 then 0 else 1
theorem c_hasv (m : z_M) (a : Int) : z_R 32 (m, 0, [(2, 3), (0, a)], []) = some (m, some (0, u_hs (m 3 8) (m 3 9) a)) := by
  rw [s_has_0]
  unfold u_hs
  by_cases h1 : a < 0
  · rw [if_pos h1, if_pos h1]
  rw [if_neg h1, if_neg h1]
  by_cases h2 : 9 ≤ a
  · rw [if_pos h2, if_pos h2]
  rw [if_neg h2, if_neg h2]
  by_cases h3 : m 3 8 ≤ z_rem a 3
  · rw [if_pos h3, if_pos h3]
  rw [if_neg h3, if_neg h3]
  by_cases h4 : m 3 9 ≤ z_div a 3
  · rw [if_pos h4, if_pos h4]
  · rw [if_neg h4, if_neg h4]
theorem t_roomv (m : z_M) (a : Int) : z_R 171 (m, 0, [(2, 251), (0, a)], []) = some (m, some (0, u_hs (m 251 1) (m 251 2) a)) := by
  rw [t_room_0, t_in]
  show z_R 171 (m, 7, [(2, 251), (0, a)], [(0, if 0 ≤ a ∧ a ≤ 8 then 1 else 0)]) = _
  rw [t_room_7]
  unfold u_hs
  by_cases h1 : a < 0
  · rw [if_neg (show ¬ (0 ≤ a ∧ a ≤ 8) by omega), if_pos rfl, if_pos h1]
  rw [if_neg h1]
  by_cases h2 : 9 ≤ a
  · rw [if_neg (show ¬ (0 ≤ a ∧ a ≤ 8) by omega), if_pos rfl, if_pos h2]
  rw [if_neg h2, if_pos (show 0 ≤ a ∧ a ≤ 8 by omega), if_neg (by decide)]
  by_cases h3 : m 251 1 ≤ z_rem a 3
  · rw [if_pos h3, if_pos h3]
  rw [if_neg h3, if_neg h3]
  by_cases h4 : m 251 2 ≤ z_div a 3
  · rw [if_pos h4, if_pos h4]
  · rw [if_neg h4, if_neg h4]
def u_cap (e : Int) : Int := if 0 < if e < 99 then e else 99 then if e < 99 then e else 99 else 0
theorem u_cap_b (e : Int) : 0 ≤ u_cap e ∧ u_cap e ≤ 99 := by
  unfold u_cap
  by_cases h : e < 99
  · rw [if_pos h]
    by_cases h' : 0 < e
    · rw [if_pos h']; omega
    · rw [if_neg h']; omega
  · rw [if_neg h, if_pos (by decide)]; omega
def u_conv (kind v : Int) : Int := if kind = 0 then z_i2b v else if kind = 1 then z_i2s v else v
theorem c_entry (m : z_M) (a b : Int) : z_R 57 (m, 0, [(0, a), (0, b), (9, 0)], []) = some (m, some (0, u_cap (u_conv a b))) := by
  rw [s_entry_0]
  unfold u_conv
  by_cases h1 : a = 0
  · rw [if_pos h1, if_pos h1]; rfl
  rw [if_neg h1, if_neg h1]
  by_cases h2 : a = 1
  · rw [if_pos h2, if_pos h2]; rfl
  · rw [if_neg h2, if_neg h2]; rfl
/-- what a room gets -/
def u_val (kind n told v : Int) : Int := if kind = 3 ∨ n ≤ told then 0 else u_cap (u_conv kind v)
theorem u_val_b (kind n told v : Int) : 0 ≤ u_val kind n told v ∧ u_val kind n told v ≤ 99 := by
  unfold u_val
  by_cases h : kind = 3 ∨ n ≤ told
  · rw [if_pos h]; omega
  · rw [if_neg h]; exact u_cap_b _
/-- the sum -/
def u_sh (w h kind n a d : Int) : Nat → Int → Int → Int → Int
  | 0, _, _, s => s
  | f + 1, r, k, s => if u_hs w h r = 0 then u_sh w h kind n a d f (r + 1) k s else u_sh w h kind n a d f (r + 1) (k + 1) (s + u_val kind n k (z_add a (z_mul k d)))
theorem c_sh {w h kind n a d x5 : Int} (hx : x5 = if kind = 3 then 1 else 0) : ∀ (f : Nat) (r k s : Int) (v9 : z_V) (m : z_M), 0 ≤ r → r + (f : Int) = 9 → 0 ≤ k → k ≤ r → 0 ≤ s → s ≤ 99 * k → m 3 8 = w → m 3 9 = h → ∃ m', z_R 56 (m, 50, [(2, 0), (0, kind), (0, n), (0, a), (0, d), (0, x5), (0, k), (0, s), (0, r), v9], []) = some (m', some (0, if kind = 3 then -3 else u_sh w h kind n a d f r k s)) := by
  intro f
  induction f with
  | zero =>
    intro r k s v9 m h0 h1 h2 h3 h4 h5 hw hh
    rw [s_sheet_50, if_pos (by omega)]
    by_cases c : kind = 3
    · rw [if_pos c] at hx
      rw [if_pos c, if_neg (by omega)]; exact ⟨_, rfl⟩
    · rw [if_neg c] at hx
      rw [if_neg c, if_pos hx]; exact ⟨_, rfl⟩
  | succ f ih =>
    intro r k s v9 m h0 h1 h2 h3 h4 h5 hw hh
    rw [s_sheet_50, if_neg (by omega), c_hasv, hw, hh]
    show ∃ m', z_R 56 (m, 66, [(2, 0), (0, kind), (0, n), (0, a), (0, d), (0, x5), (0, k), (0, s), (0, r), v9], [(0, u_hs w h r)]) = _
    rw [s_sheet_66, z_add_eq (x := r) (by omega) (by omega)]
    unfold u_sh
    by_cases c : u_hs w h r = 0
    · rw [if_pos c, if_pos c]
      exact ih (r + 1) k s v9 m (by omega) (by omega) h2 (by omega) h4 h5 hw hh
    rw [if_neg c, if_neg c]
    have hb := u_val_b kind n k (z_add a (z_mul k d))
    have go : ∀ u : Int, u = u_val kind n k (z_add a (z_mul k d)) → ∃ m', z_R 56 (m, 95, [(2, 0), (0, kind), (0, n), (0, a), (0, d), (0, x5), (0, k), (0, s), (0, r), v9], [(0, u)]) = some (m', some (0, if kind = 3 then -3 else u_sh w h kind n a d f (r + 1) (k + 1) (s + u_val kind n k (z_add a (z_mul k d))))) := by
      intro u hu
      rw [s_sheet_95, if_pos ⟨h0, by omega⟩, z_add_eq (x := k) (by omega) (by omega), z_add_eq (x := s) (by omega) (by omega), z_add_eq (x := r) (by omega) (by omega), hu]
      exact ih (r + 1) (k + 1) _ _ _ (by omega) (by omega) (by omega) (by omega) (by omega) (by omega) ((zu_p (by decide)).trans hw) ((zu_p (by decide)).trans hh)
    by_cases c3 : kind = 3
    · rw [if_pos c3] at hx
      rw [if_neg (by omega)]
      exact go 0 (by unfold u_val; rw [if_pos (Or.inl c3)])
    · rw [if_neg c3] at hx
      rw [if_pos hx]
      by_cases c4 : n ≤ k
      · rw [if_pos c4]
        exact go 0 (by unfold u_val; rw [if_pos (Or.inr c4)])
      · rw [if_neg c4, c_entry]
        show ∃ m', z_R 56 (m, 91, [(2, 0), (0, kind), (0, n), (0, a), (0, d), (0, x5), (0, k), (0, s), (0, r), v9], [(0, u_cap (u_conv kind (z_add a (z_mul k d))))]) = _
        rw [s_sheet_91]
        exact go _ (by unfold u_val; rw [if_neg (fun z => z.elim c3 c4)])
/-- what sheet answers -/
def u_sheet (w h kind n a d : Int) : Int := if kind < 0 then -1 else if 3 < kind then -1 else if 9 < n then -1 else if kind = 3 then -3 else if n < 0 then -2 else u_sh w h kind n a d 9 0 0 0
theorem c_sheet (m : z_M) (kind n a d : Int) : ∃ m', z_R 56 (m, 0, [(2, 0), (0, kind), (0, n), (0, a), (0, d), (9, 0), (9, 0), (9, 0), (9, 0), (9, 0)], []) = some (m', some (0, u_sheet (m 3 8) (m 3 9) kind n a d)) := by
  rw [s_sheet_0]
  unfold u_sheet
  by_cases h1 : kind < 0
  · rw [if_pos h1, if_pos h1]; exact ⟨_, rfl⟩
  rw [if_neg h1, if_neg h1]
  by_cases h2 : 3 < kind
  · rw [if_pos h2, if_pos h2]; exact ⟨_, rfl⟩
  rw [if_neg h2, if_neg h2]
  by_cases h3 : 9 < n
  · rw [if_neg (by omega), if_pos h3]; exact ⟨_, rfl⟩
  rw [if_pos (by omega), if_neg h3]
  by_cases h4 : kind = 3
  · rw [if_pos h4, if_pos h4, s_sheet_41]
    obtain ⟨m', e⟩ := c_sh (w := m 3 8) (h := m 3 9) (kind := kind) (n := n) (a := a) (d := d) (x5 := 1) (by rw [if_pos h4]) 9 0 0 0 (9, 0) m (by decide) (by decide) (by decide) (by decide) (by decide) (by decide) rfl rfl
    rw [if_pos h4] at e
    exact ⟨m', e⟩
  rw [if_neg h4, if_neg h4]
  by_cases h5 : n < 0
  · rw [if_neg (by omega), if_pos h5]; exact ⟨_, rfl⟩
  rw [if_pos (by omega), if_neg h5, s_sheet_41]
  obtain ⟨m', e⟩ := c_sh (w := m 3 8) (h := m 3 9) (kind := kind) (n := n) (a := a) (d := d) (x5 := 0) (by rw [if_neg h4]) 9 0 0 0 (9, 0) m (by decide) (by decide) (by decide) (by decide) (by decide) (by decide) rfl rfl
  rw [if_neg h4] at e
  exact ⟨m', e⟩
theorem u_step {a k d : Int} : z_add (z_add a (z_mul k d)) d = z_add a (z_mul (k + 1) d) := by
  unfold z_add z_mul
  simp only [Int32.ofInt_toInt]
  rw [Int32.ofInt_add, Int32.add_mul, Int32.add_assoc]
  rw [show Int32.ofInt 1 = 1 from rfl, Int32.one_mul]
theorem t_sh59 (m : z_M) (kind n a d s v k r : Int) (v9 : z_V) {u : Int} (hu : ¬ u = 0) : z_R 194 (m, 59, [(2, 251), (0, kind), (0, n), (0, a), (0, d), (0, s), (0, v), (0, k), (0, r), v9], [(0, u)]) = z_R 194 (m, 122, [(2, 251), (0, kind), (0, n), (0, a), (0, d), (0, s), (0, v), (0, k), (0, r), (0, u_conv kind v)], [(0, u_val kind n k v), (0, r), (2, 252)]) := by
  rw [t_sheet_59, if_neg hu]
  unfold u_val
  by_cases c0 : kind = 0
  · have e : u_conv kind v = z_i2b v := by unfold u_conv; rw [if_pos c0]
    rw [if_pos c0, if_neg (by omega), e]
    by_cases c4 : k < n
    · rw [if_pos c4, if_neg (show ¬ (kind = 3 ∨ n ≤ k) by omega)]; rfl
    · rw [if_neg c4, if_pos (show kind = 3 ∨ n ≤ k by omega)]
  rw [if_neg c0]
  by_cases c1 : kind = 1
  · have e : u_conv kind v = z_i2s v := by unfold u_conv; rw [if_neg c0, if_pos c1]
    rw [if_pos c1, if_neg (by omega), e]
    by_cases c4 : k < n
    · rw [if_pos c4, if_neg (show ¬ (kind = 3 ∨ n ≤ k) by omega)]; rfl
    · rw [if_neg c4, if_pos (show kind = 3 ∨ n ≤ k by omega)]
  rw [if_neg c1]
  have e : u_conv kind v = v := by unfold u_conv; rw [if_neg c0, if_neg c1]
  rw [e]
  by_cases c3 : kind = 3
  · rw [if_pos c3, if_pos (Or.inl c3)]
  rw [if_neg c3]
  by_cases c4 : k < n
  · rw [if_pos c4, if_neg (show ¬ (kind = 3 ∨ n ≤ k) by omega)]; rfl
  · rw [if_neg c4, if_pos (show kind = 3 ∨ n ≤ k by omega)]
theorem t_sh {w h kind n a d : Int} : ∀ (f : Nat) (r k s : Int) (v9 : z_V) (m : z_M), 0 ≤ r → r + (f : Int) = 9 → 0 ≤ k → k ≤ r → 0 ≤ s → s ≤ 99 * k → m 251 1 = w → m 251 2 = h → ∃ m', z_R 194 (m, 46, [(2, 251), (0, kind), (0, n), (0, a), (0, d), (0, s), (0, z_add a (z_mul k d)), (0, k), (0, r), v9], []) = some (m', some (0, if kind = 3 then -3 else u_sh w h kind n a d f r k s)) := by
  intro f
  induction f with
  | zero =>
    intro r k s v9 m h0 h1 h2 h3 h4 h5 hw hh
    rw [t_sheet_46, if_pos (by omega)]
    by_cases c : kind = 3
    · rw [if_pos c, if_pos c]; exact ⟨_, rfl⟩
    · rw [if_neg c, if_neg c]; exact ⟨_, rfl⟩
  | succ f ih =>
    intro r k s v9 m h0 h1 h2 h3 h4 h5 hw hh
    rw [t_sheet_46, if_neg (by omega), t_roomv, hw, hh]
    show ∃ m', z_R 194 (m, 59, [(2, 251), (0, kind), (0, n), (0, a), (0, d), (0, s), (0, z_add a (z_mul k d)), (0, k), (0, r), v9], [(0, u_hs w h r)]) = _
    unfold u_sh
    by_cases c : u_hs w h r = 0
    · rw [t_sheet_59, if_pos c, if_pos c, t_sheet_145, z_add_eq (x := r) (by omega) (by omega)]
      exact ih (r + 1) k s v9 m (by omega) (by omega) h2 (by omega) h4 h5 hw hh
    have hb := u_val_b kind n k (z_add a (z_mul k d))
    rw [t_sh59 _ _ _ _ _ _ _ _ _ _ c, if_neg c, t_sheet_122, if_pos ⟨h0, by omega⟩, if_pos ⟨h0, by omega⟩, zu_self, t_sheet_145, z_add_eq (x := s) (by omega) (by omega), z_add_eq (x := k) (by omega) (by omega), z_add_eq (x := r) (by omega) (by omega), u_step]
    exact ih (r + 1) (k + 1) _ _ _ (by omega) (by omega) (by omega) (by omega) (by omega) (by omega) ((zu_p (by decide)).trans hw) ((zu_p (by decide)).trans hh)
theorem t_sheet (m : z_M) (kind n a d : Int) (ha : (Int32.ofInt a).toInt = a) : ∃ m', z_R 194 (m, 0, [(2, 251), (0, kind), (0, n), (0, a), (0, d), (9, 0), (9, 0), (9, 0), (9, 0), (9, 0)], []) = some (m', some (0, u_sheet (m 251 1) (m 251 2) kind n a d)) := by
  rw [t_sheet_0, t_in]
  show ∃ m', z_R 194 (z_up m 251 11 0, 11, [(2, 251), (0, kind), (0, n), (0, a), (0, d), (9, 0), (9, 0), (9, 0), (9, 0), (9, 0)], [(0, if 0 ≤ kind ∧ kind ≤ 3 then 1 else 0)]) = _
  rw [t_sheet_11]
  unfold u_sheet
  by_cases h1 : kind < 0
  · rw [if_neg (show ¬ (0 ≤ kind ∧ kind ≤ 3) by omega), if_pos rfl, if_pos h1]; exact ⟨_, rfl⟩
  rw [if_neg h1]
  by_cases h2 : 3 < kind
  · rw [if_neg (show ¬ (0 ≤ kind ∧ kind ≤ 3) by omega), if_pos rfl, if_pos h2]; exact ⟨_, rfl⟩
  rw [if_neg h2, if_pos (show 0 ≤ kind ∧ kind ≤ 3 by omega), if_neg (by decide)]
  by_cases h3 : 9 < n
  · rw [if_neg (by omega), if_pos h3]; exact ⟨_, rfl⟩
  rw [if_pos (by omega), if_neg h3]
  have hz : z_add a (z_mul 0 d) = a := by
    have e0 : z_mul 0 d = 0 := by unfold z_mul; rw [show Int32.ofInt 0 = 0 from rfl, Int32.zero_mul]; rfl
    rw [e0]
    unfold z_add
    rw [show Int32.ofInt 0 = 0 from rfl, Int32.add_zero, ha]
  obtain ⟨m', e⟩ := t_sh (w := m 251 1) (h := m 251 2) (kind := kind) (n := n) (a := a) (d := d) 9 0 0 0 (9, 0) (z_up m 251 11 0) (by decide) (by decide) (by decide) (by decide) (by decide) (by decide) (zu_k (by decide)) (zu_k (by decide))
  rw [hz] at e
  by_cases h4 : kind = 3
  · rw [if_pos (by omega), if_pos h4]
    rw [if_pos h4] at e
    exact ⟨m', e⟩
  rw [if_neg (by omega), if_neg h4]
  rw [if_neg h4] at e
  by_cases h5 : n < 0
  · rw [if_neg (by omega), if_pos h5]; exact ⟨_, rfl⟩
  rw [if_pos (by omega), if_neg h5]
  exact ⟨m', e⟩
end
section
/-! WHAT IS KEPT, for sheet: both texts alike, columns, storeys -/
def L_eq : List u_X := [(3, 8, 251, 1, 1), (3, 9, 251, 2, 1)]
def Rel_0 (σ : m_H) : Prop := Rel_T σ ∧ u_E L_eq (z_m σ)
theorem rel_start : ∀ σ, xs_is σ → Rel_0 σ := fun σ h => ⟨R_start σ h, by
  have := xs_ck_ok (f := fun σ => E_ck L_eq σ) (by decide +kernel) h
  exact E_ck_ok this⟩
theorem rel_off {c : l_C} (h : ((E_off c.2.2.1 L_eq && E_off c.2.2.2.2.2.2.2 L_eq) && (rel_offb c.2.2.1 && (rel_offb c.2.2.2.2.2.2.2 && !c.2.2.2.2.1))) = true) : l_rel2 Rel_0 c := by
  obtain ⟨h1, h2⟩ := Bool.and_eq_true _ _ |>.mp h
  exact E_part (R_off h2) h1
theorem rel_zero {c : l_C} (h : ((E_off c.2.2.1 L_eq && E_off c.2.2.2.2.2.2.2 L_eq) && (md_zero c.2.2.1 1 1 && (md_zero c.2.2.2.2.2.2.2 251 8 && (md_off c.2.2.2.2.2.2.2 1 1 && !c.2.2.2.2.1)))) = true) : l_rel2 Rel_0 c := by
  obtain ⟨h1, h2⟩ := Bool.and_eq_true _ _ |>.mp h
  exact E_part (R_zero h2) h1
theorem rel_sign : l_rel2 Rel_0 (219, 26, 14, 1, false, 230, 30, 160) := E_part R_sign (by decide +kernel)
theorem rel_end : l_rel2 Rel_0 (244, 31, 16, 1, false, 255, 35, 161) := E_part R_end (by decide +kernel)
theorem rel_rule : l_rel2 Rel_0 (289, 45, 39, 0, false, 294, 48, 175) := E_part (R_rule rfl) (by decide +kernel)
theorem rel_house : l_rel2 Rel_0 (263, 36, 18, 0, false, 268, 40, 163) := by
  intro M1 M2 M3 σ σ1 σ2 as v1 v2 C1 C2 ρ1 ρ2 ha hR hh hM1 hC1 hp1 hE1 hC2 hp2 hE2
  obtain rfl := as_nil ha
  obtain ⟨z, b, z1, z2, -⟩ := H_house M1 M2 M3 σ σ1 σ2 [] v1 v2 C1 C2 ρ1 ρ2 rfl hR.1 hh hC1 hp1 (z_R_iff.mpr hE1) hC2 hp2 (z_R_iff.mpr hE2)
  have e1 : z_m σ 3 8 = z_m σ 251 1 := hR.2 (3, 8, 251, 1, 1) (by decide) 0 (by decide)
  have e2 : z_m σ 3 9 = z_m σ 251 2 := hR.2 (3, 9, 251, 2, 1) (by decide) 0 (by decide)
  unfold u_csp at z1
  unfold u_rsp at z2
  cases b with
  | none =>
    have z1 := Prod.mk.inj z1
    have z2 := Prod.mk.inj z2
    have y1 := Prod.mk.inj z1.2
    have y2 := Prod.mk.inj z2.2
    exact ⟨⟨z.1, u_E_one (by rw [z1.1, z2.1]; exact e1) (u_E_one (by rw [y1.1, y2.1]; exact e2) u_E_nil)⟩, fun _ => z.2⟩
  | some b =>
    obtain ⟨b1, b2, b3⟩ := b
    have z1 := Prod.mk.inj z1
    have z2 := Prod.mk.inj z2
    have y1 := Prod.mk.inj z1.2
    have y2 := Prod.mk.inj z2.2
    exact ⟨⟨z.1, u_E_one (z1.1.trans z2.1.symm) (u_E_one (y1.1.trans y2.1.symm) u_E_nil)⟩, fun _ => z.2⟩
theorem rel_sheet : l_rel2 Rel_0 (492, 67, 56, 4, true, 520, 71, 194) := by
  intro M1 M2 M3 σ σ1 σ2 as v1 v2 C1 C2 ρ1 ρ2 ha hR hh hM1 hC1 hp1 hE1 hC2 hp2 hE2
  obtain ⟨a, b, c, d, rfl⟩ := as_four ha
  have hE1 : z_R 56 (z_m σ, 0, [(2, 0), (0, a.toInt), (0, b.toInt), (0, c.toInt), (0, d.toInt), (9, 0), (9, 0), (9, 0), (9, 0), (9, 0)], []) = some (z_m σ1, some (0, v1.toInt)) := z_R_iff.mpr hE1
  have hE2 : z_R 194 (z_m σ1, 0, [(2, 251), (0, a.toInt), (0, b.toInt), (0, c.toInt), (0, d.toInt), (9, 0), (9, 0), (9, 0), (9, 0), (9, 0)], []) = some (z_m σ2, some (0, v2.toInt)) := z_R_iff.mpr hE2
  have e1 : z_m σ 3 8 = z_m σ 251 1 := hR.2 (3, 8, 251, 1, 1) (by decide) 0 (by decide)
  have e2 : z_m σ 3 9 = z_m σ 251 2 := hR.2 (3, 9, 251, 2, 1) (by decide) 0 (by decide)
  obtain ⟨m1, d1⟩ := c_sheet (z_m σ) a.toInt b.toInt c.toInt d.toInt
  obtain ⟨m2, f1⟩ := t_sheet (z_m σ1) a.toInt b.toInt c.toInt d.toInt (by rw [Int32.ofInt_toInt])
  rw [d1] at hE1
  rw [f1] at hE2
  have k2 := (congrArg (fun z : z_Q => (z.2.getD (0, 0)).2) (Option.some.inj hE1)).symm
  have l2 := (congrArg (fun z : z_Q => (z.2.getD (0, 0)).2) (Option.some.inj hE2)).symm
  simp only [Option.getD_some] at k2 l2
  rw [md_off_ok (y := 56) (p := 251) (k := 1) (by decide +kernel) hC1 hp1, md_off_ok (y := 56) (p := 251) (k := 2) (by decide +kernel) hC1 hp1, ← e1, ← e2] at l2
  exact ⟨⟨rel_offb_ok (y := 194) (by decide +kernel) hC2 hp2 (rel_offb_ok (y := 56) (by decide +kernel) hC1 hp1 hR.1), E_off_ok (y := 194) (by decide +kernel) hC2 hp2 (E_off_ok (y := 56) (by decide +kernel) hC1 hp1 hR.2)⟩, fun _ => Int32.toInt_inj.mp (k2.trans l2.symm)⟩
theorem rel_cases : ∀ c ∈ law_cs, l_rel2 Rel_0 c := by
  unfold law_cs
  refine List.forall_mem_cons.mpr ⟨rel_sign, ?_⟩
  refine List.forall_mem_cons.mpr ⟨rel_end, ?_⟩
  refine List.forall_mem_cons.mpr ⟨rel_house, ?_⟩
  refine List.forall_mem_cons.mpr ⟨rel_zero (by decide +kernel), ?_⟩
  refine List.forall_mem_cons.mpr ⟨rel_rule, ?_⟩
  refine List.forall_mem_cons.mpr ⟨rel_off (by decide +kernel), ?_⟩
  refine List.forall_mem_cons.mpr ⟨rel_off (by decide +kernel), ?_⟩
  refine List.forall_mem_cons.mpr ⟨rel_sheet, ?_⟩
  refine List.forall_mem_cons.mpr ⟨rel_off (by decide +kernel), ?_⟩
  refine List.forall_mem_cons.mpr ⟨rel_off (by decide +kernel), ?_⟩
  refine List.forall_mem_cons.mpr ⟨rel_off (by decide +kernel), ?_⟩
  refine List.forall_mem_cons.mpr ⟨rel_off (by decide +kernel), ?_⟩
  refine List.forall_mem_cons.mpr ⟨rel_off (by decide +kernel), ?_⟩
  refine List.forall_mem_cons.mpr ⟨rel_zero (by decide +kernel), ?_⟩
  refine List.forall_mem_cons.mpr ⟨rel_off (by decide +kernel), ?_⟩
  refine List.forall_mem_cons.mpr ⟨rel_off (by decide +kernel), ?_⟩
  refine List.forall_mem_cons.mpr ⟨rel_off (by decide +kernel), ?_⟩
  refine List.forall_mem_cons.mpr ⟨rel_off (by decide +kernel), ?_⟩
  refine List.forall_mem_cons.mpr ⟨rel_off (by decide +kernel), ?_⟩
  refine List.forall_mem_cons.mpr ⟨rel_off (by decide +kernel), ?_⟩
  refine List.forall_mem_cons.mpr ⟨rel_off (by decide +kernel), ?_⟩
  refine List.forall_mem_cons.mpr ⟨rel_off (by decide +kernel), ?_⟩
  refine List.forall_mem_cons.mpr ⟨rel_off (by decide +kernel), ?_⟩
  refine List.forall_mem_cons.mpr ⟨rel_off (by decide +kernel), ?_⟩
  refine List.forall_mem_cons.mpr ⟨rel_off (by decide +kernel), ?_⟩
  refine List.forall_mem_cons.mpr ⟨rel_off (by decide +kernel), ?_⟩
  refine List.forall_mem_cons.mpr ⟨rel_off (by decide +kernel), ?_⟩
  refine List.forall_mem_cons.mpr ⟨rel_off (by decide +kernel), ?_⟩
  refine List.forall_mem_cons.mpr ⟨rel_off (by decide +kernel), ?_⟩
  refine List.forall_mem_cons.mpr ⟨rel_off (by decide +kernel), ?_⟩
  refine List.forall_mem_cons.mpr ⟨rel_off (by decide +kernel), ?_⟩
  refine List.forall_mem_cons.mpr ⟨rel_off (by decide +kernel), ?_⟩
  refine List.forall_mem_cons.mpr ⟨rel_off (by decide +kernel), ?_⟩
  refine List.forall_mem_cons.mpr ⟨rel_off (by decide +kernel), ?_⟩
  refine List.forall_mem_cons.mpr ⟨rel_off (by decide +kernel), ?_⟩
  refine List.forall_mem_cons.mpr ⟨rel_off (by decide +kernel), ?_⟩
  refine List.forall_mem_cons.mpr ⟨rel_off (by decide +kernel), ?_⟩
  exact fun _ h => absurd h List.not_mem_nil
theorem rel_5 : l_rel3 Rel_0 181 2 := E_part3 (R3_off (by decide +kernel)) (by decide +kernel)
theorem rel_6 : l_rel3 Rel_0 190 2 := E_part3 (R3_off (by decide +kernel)) (by decide +kernel)
theorem rel_39 : l_rel3 Rel_0 261 1 := E_part3 (R3_off (by decide +kernel)) (by decide +kernel)
end
