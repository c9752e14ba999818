section
/-! HOUSE in plain numbers -/
def u_L : List (Nat × Nat × Nat) := [(1, 2, 2), (3, 5, 5), (9, 0, 8)]
def u_P (m m' : z_M) (S : u_S) : Prop := m' 3 5 = S.2.1 ∧ m' 1 2 = S.2.2.1 ∧ m' 9 = S.2.2.2 ∧ z_same u_L m m'
theorem u_P.tr {m m1 m' : z_M} {S : u_S} (h : z_same u_L m m1) (hp : u_P m1 m' S) : u_P m m' S := ⟨hp.1, hp.2.1, hp.2.2.1, h.tr hp.2.2.2⟩
theorem u_g_sm {m m' : z_M} (h : z_same u_L m m') : u_g m' = u_g m := u_g_eq (h.row (by decide)) (h.at (by decide)) (h.at (by decide))
theorem c_sto {y : Int} (hy0 : 0 ≤ y) (hy : y ≤ 2) : ∀ (f : Nat) (x : Int) (v4 : z_V) (m : z_M), 0 ≤ x → x + (f : Int) = 3 → 0 ≤ m 1 2 → m 1 2 ≤ 80 → m 1 1 ≤ 80 → 1 ≤ m 3 5 → m 3 5 ≤ 3 → ∃ m', z_R 21 (m, 2, [(2, 3), (2, 1), (0, y), (0, x), v4], []) = some (m', some (0, if (u_sto (u_g m) y f x (m 3 5) (m 1 2) (m 9)).1 then 1 else 0)) ∧ u_P m m' (u_sto (u_g m) y f x (m 3 5) (m 1 2) (m 9)) := by
  intro f
  induction f with
  | zero =>
    intro x v4 m hx0 hx h0 h0' h1 hw0 hw
    rw [s_sto_2, if_pos (by omega)]
    exact ⟨m, rfl, rfl, rfl, rfl, z_same.rf⟩
  | succ f ih =>
    intro x v4 m hx0 hx h0 h0' h1 hw0 hw
    have hg : u_gb (u_g m) := u_nx_b h1
    have b := u_ic_b hg h0 h0'
    rw [s_sto_2]
    unfold u_sto
    by_cases c1 : m 3 5 ≤ x
    · rw [if_pos c1, if_pos c1]
      exact ⟨m, rfl, rfl, rfl, rfl, z_same.rf⟩
    rw [if_neg c1, if_neg c1, c_ice m h0 h1 h0']
    generalize u_ic (u_g m) (m 1 2) = q at b ⊢
    show ∃ m', z_R 21 (z_up m 1 2 q.1, 14, [(2, 3), (2, 1), (0, y), (0, x), v4], [(0, q.2)]) = _ ∧ _
    rw [s_sto_14]
    have s1 : z_same u_L m (z_up m 1 2 q.1) := z_same.rf.up1 (lo := 2) (hi := 2) (by decide) (by decide) (by decide)
    by_cases c2 : q.2 = -1
    · rw [if_pos c2, if_pos c2]
      exact ⟨_, rfl, zu_p (by decide), zu_self, zu_rowne (by decide), s1⟩
    have ek : z_add (z_mul 3 y) x = 3 * y + x := by rw [z_mul_eq (by omega) (by omega), z_add_eq (by omega) (by omega)]
    have ex : z_add x 1 = x + 1 := z_add_eq (by omega) (by omega)
    rw [if_neg c2, if_neg c2, ek, ex, if_pos ⟨by omega, by omega⟩]
    have e35 : (z_up m 1 2 q.1) 3 5 = m 3 5 := zu_p (by decide)
    rw [e35]
    have s2 : z_same u_L m (z_up (z_up m 1 2 q.1) 9 (3 * y + x).toNat q.2) := s1.up1 (lo := 0) (hi := 8) (by decide) (by omega) (by omega)
    generalize hm2 : z_up (z_up m 1 2 q.1) 9 (3 * y + x).toNat q.2 = m2 at s2 ⊢
    have f1 : m2 1 2 = q.1 := by rw [← hm2, zu_p (by decide), zu_self]
    have f2 : m2 9 = u_up (m 9) (3 * y + x).toNat q.2 := by rw [← hm2, zu_row, zu_rowne (by decide)]
    have f3 : m2 3 5 = m 3 5 := by rw [← hm2, zu_p (by decide), zu_p (by decide)]
    have f4 : m2 1 1 = m 1 1 := s2.at (by decide)
    have f5 := u_g_sm s2
    by_cases c3 : m 3 5 ≤ x + 1
    · rw [if_pos c3, if_pos c3]
      obtain ⟨m', a1, a2⟩ := ih (x + 1) (0, q.2) m2 (by omega) (by omega) (by omega) (by omega) (by omega) (by omega) (by omega)
      rw [f5, f3, f1, f2] at a1 a2
      exact ⟨m', a1, a2.tr s2⟩
    rw [if_neg c3, if_neg c3, c_over m2 44 (by omega) (by omega) (by omega), f5, f1]
    by_cases c4 : u_g m q.1 = 44
    · rw [if_pos c4, if_pos c4]
      show ∃ m', z_R 21 (z_up m2 1 2 (q.1 + 1), 52, [(2, 3), (2, 1), (0, y), (0, x), (0, q.2)], [(0, 1)]) = _ ∧ _
      have hb := hg q.1 (by omega)
      have s3 : z_same u_L m (z_up m2 1 2 (q.1 + 1)) := s2.up1 (lo := 2) (hi := 2) (by decide) (by decide) (by decide)
      rw [s_sto_52, if_neg (by decide), ex]
      have g1 : (z_up m2 1 2 (q.1 + 1)) 1 2 = q.1 + 1 := zu_self
      have g2 : (z_up m2 1 2 (q.1 + 1)) 9 = u_up (m 9) (3 * y + x).toNat q.2 := (zu_rowne (by decide)).trans f2
      have g3 : (z_up m2 1 2 (q.1 + 1)) 3 5 = m 3 5 := (zu_p (by decide)).trans f3
      have g4 : (z_up m2 1 2 (q.1 + 1)) 1 1 = m 1 1 := s3.at (by decide)
      obtain ⟨m', a1, a2⟩ := ih (x + 1) (0, q.2) (z_up m2 1 2 (q.1 + 1)) (by omega) (by omega) (by omega) (by omega) (by omega) (by omega) (by omega)
      rw [u_g_sm s3, g3, g1, g2] at a1 a2
      exact ⟨m', a1, a2.tr s3⟩
    rw [if_neg c4, if_neg c4]
    show ∃ m', z_R 21 (m2, 52, [(2, 3), (2, 1), (0, y), (0, x), (0, q.2)], [(0, 0)]) = _ ∧ _
    rw [s_sto_52, if_pos rfl, ex]
    by_cases c5 : y ≤ 0
    · rw [if_pos c5, if_pos c5]
      have s3 : z_same u_L m (z_up m2 3 5 (x + 1)) := s2.up1 (lo := 5) (hi := 5) (by decide) (by decide) (by decide)
      have g1 : (z_up m2 3 5 (x + 1)) 1 2 = q.1 := (zu_p (by decide)).trans f1
      have g2 : (z_up m2 3 5 (x + 1)) 9 = u_up (m 9) (3 * y + x).toNat q.2 := (zu_rowne (by decide)).trans f2
      have g3 : (z_up m2 3 5 (x + 1)) 3 5 = x + 1 := zu_self
      have g4 : (z_up m2 3 5 (x + 1)) 1 1 = m 1 1 := s3.at (by decide)
      obtain ⟨m', a1, a2⟩ := ih (x + 1) (0, q.2) (z_up m2 3 5 (x + 1)) (by omega) (by omega) (by omega) (by omega) (by omega) (by omega) (by omega)
      rw [u_g_sm s3, g3, g1, g2] at a1 a2
      exact ⟨m', a1, a2.tr s3⟩
    · rw [if_neg c5, if_neg c5]
      exact ⟨m2, rfl, f3, f1, f2, s2⟩
def u_L2 : List (Nat × Nat × Nat) := [(1, 2, 3), (3, 5, 6), (9, 0, 8)]
def u_P2 (m m' : z_M) (S : u_H) : Prop := m' 3 5 = S.2.1 ∧ (S.1 = true → m' 3 6 = S.2.2.1) ∧ m' 1 2 = S.2.2.2.1 ∧ m' 9 = S.2.2.2.2 ∧ z_same u_L2 m m'
theorem u_L_12 {m m' : z_M} (h : z_same u_L m m') : z_same u_L2 m m' := h.sub (by decide)
theorem u_P2.tr {m m1 m' : z_M} {S : u_H} (h : z_same u_L2 m m1) (hp : u_P2 m1 m' S) : u_P2 m m' S := ⟨hp.1, hp.2.1, hp.2.2.1, hp.2.2.2.1, h.tr hp.2.2.2.2⟩
theorem c_hou : ∀ (f : Nat) (y : Int) (m : z_M), 0 ≤ y → y + (f : Int) = 3 → 0 ≤ m 1 2 → m 1 2 ≤ 80 → m 1 1 ≤ 80 → 1 ≤ m 3 5 → m 3 5 ≤ 3 → ∃ m', z_R 19 (m, 13, [(2, 3), (2, 1), (0, y)], []) = some (m', some (0, if (u_hou (u_g m) (m 1 1) f y (m 3 5) (m 1 2) (m 9)).1 then 1 else 0)) ∧ u_P2 m m' (u_hou (u_g m) (m 1 1) f y (m 3 5) (m 1 2) (m 9)) := by
  intro f
  induction f with
  | zero =>
    intro y m hy0 hy h0 h0' h1 hw0 hw
    rw [s_rh_13, if_pos (by omega)]
    exact ⟨m, rfl, rfl, (fun z => by cases z), rfl, rfl, z_same.rf⟩
  | succ f ih =>
    intro y m hy0 hy h0 h0' h1 hw0 hw
    have hg : u_gb (u_g m) := u_nx_b h1
    have ey : z_add y 1 = y + 1 := z_add_eq (by omega) (by omega)
    rw [s_rh_13, if_neg (by omega), ey, s_sto_0]
    have s0 : z_same u_L2 m (z_up m 3 6 (y + 1)) := z_same.rf.up1 (lo := 5) (hi := 6) (by decide) (by decide) (by decide)
    have e1 : (z_up m 3 6 (y + 1)) 1 2 = m 1 2 := zu_p (by decide)
    have e2 : (z_up m 3 6 (y + 1)) 1 1 = m 1 1 := zu_p (by decide)
    have e3 : (z_up m 3 6 (y + 1)) 3 5 = m 3 5 := zu_k (by decide)
    have e4 : (z_up m 3 6 (y + 1)) 9 = m 9 := zu_rowne (by decide)
    have e5 : u_g (z_up m 3 6 (y + 1)) = u_g m := u_g_eq (zu_rowne (by decide)) (zu_p (by decide)) (zu_p (by decide))
    obtain ⟨m1, a1, a2, a3, a4, a5⟩ := c_sto hy0 (by omega) 3 0 (9, 0) (z_up m 3 6 (y + 1)) (by decide) (by decide) (by omega) (by omega) (by omega) (by omega) (by omega)
    rw [e5, e3, e1, e4] at a1 a2 a3 a4
    have hb := u_sto_b hg (y := y) 3 0 (m 3 5) (m 1 2) (m 9) (by decide) hw0 hw h0 h0'
    unfold u_hou
    generalize u_sto (u_g m) y 3 0 (m 3 5) (m 1 2) (m 9) = S at a1 a2 a3 a4 hb ⊢
    obtain ⟨ok, w1, i1, b1⟩ := S
    simp only at a1 a2 a3 a4 hb ⊢
    have s1 : z_same u_L2 m m1 := s0.tr (u_L_12 a5)
    have e6 : m1 3 6 = y + 1 := (a5.at (by decide)).trans zu_self
    have e7 : m1 1 1 = m 1 1 := s1.at (by decide)
    have e8 : u_g m1 = u_g m := (u_g_sm a5).trans e5
    rw [a1]
    show ∃ m', z_R 19 (m1, 31, [(2, 3), (2, 1), (0, y)], [(0, if ok = true then 1 else 0)]) = _ ∧ _
    rw [s_rh_31]
    by_cases c1 : ok = false
    · subst c1
      exact ⟨m1, rfl, a2, (fun z => by cases z), a3, a4, s1⟩
    have c1' : ok = true := by cases ok <;> simp_all
    subst c1'
    rw [if_neg c1, if_neg (by decide), s_ended_0, a3, e7]
    by_cases c2 : m 1 1 ≤ i1
    · rw [if_pos c2, if_neg (by omega)]
      show ∃ m', z_R 19 (m1, 40, [(2, 3), (2, 1), (0, y)], [(0, 1)]) = _ ∧ _
      rw [s_rh_40, if_neg (by decide)]
      exact ⟨m1, rfl, a2, (fun _ => e6), a3, a4, s1⟩
    rw [if_neg c2, if_pos (by omega)]
    show ∃ m', z_R 19 (m1, 40, [(2, 3), (2, 1), (0, y)], [(0, 0)]) = _ ∧ _
    rw [s_rh_40, if_pos rfl, e6]
    by_cases c3 : 3 ≤ y + 1
    · rw [if_pos c3, if_pos c3, ey, s_rh_13, if_pos c3]
      exact ⟨m1, rfl, a2, (fun z => by cases z), a3, a4, s1⟩
    rw [if_neg c3, if_neg c3, c_over m1 47 (by omega) (by omega) (by omega), e8, a3]
    by_cases c4 : u_g m i1 = 47
    · rw [if_pos c4, if_pos c4]
      show ∃ m', z_R 19 (z_up m1 1 2 (i1 + 1), 59, [(2, 3), (2, 1), (0, y)], [(0, 1)]) = _ ∧ _
      have hb2 := hg i1 (by omega)
      have s3 : z_same u_L2 m (z_up m1 1 2 (i1 + 1)) := s1.up1 (lo := 2) (hi := 3) (by decide) (by decide) (by decide)
      have g1 : (z_up m1 1 2 (i1 + 1)) 1 2 = i1 + 1 := zu_self
      have g2 : (z_up m1 1 2 (i1 + 1)) 9 = b1 := (zu_rowne (by decide)).trans a4
      have g3 : (z_up m1 1 2 (i1 + 1)) 3 5 = w1 := (zu_p (by decide)).trans a2
      have g4 : (z_up m1 1 2 (i1 + 1)) 1 1 = m 1 1 := (zu_k (by decide)).trans e7
      have g5 : u_g (z_up m1 1 2 (i1 + 1)) = u_g m := u_g_at.trans e8
      rw [s_rh_59, if_neg (by decide), ey]
      obtain ⟨m', d1, d2⟩ := ih (y + 1) (z_up m1 1 2 (i1 + 1)) (by omega) (by omega) (by omega) (by omega) (by omega) (by omega) (by omega)
      rw [g5, g4, g3, g1, g2] at d1 d2
      exact ⟨m', d1, d2.tr s3⟩
    · rw [if_neg c4, if_neg c4]
      show ∃ m', z_R 19 (m1, 59, [(2, 3), (2, 1), (0, y)], [(0, 0)]) = _ ∧ _
      rw [s_rh_59, if_pos rfl]
      exact ⟨m1, rfl, a2, (fun z => by cases z), a3, a4, s1⟩
theorem c_readHouse (m : z_M) (h1 : m 1 1 ≤ 80) : ∃ m', z_R 19 (m, 0, [(2, 3), (2, 1), (9, 0)], []) = some (m', some (0, if (u_hou (u_nx (m 2) (m 1 1) 80) (m 1 1) 3 0 3 0 (m 9)).1 then 1 else 0)) ∧ u_P2 m m' (u_hou (u_nx (m 2) (m 1 1) 80) (m 1 1) 3 0 3 0 (m 9)) := by
  rw [s_rh_0, s_begin_0]
  show ∃ m', z_R 19 (z_up (z_up m 1 2 0) 1 3 80, 6, [(2, 3), (2, 1), (9, 0)], []) = _ ∧ _
  rw [s_rh_6]
  have s0 : z_same u_L2 m (z_up (z_up (z_up m 1 2 0) 1 3 80) 3 5 3) := ((z_same.rf.up1 (lo := 2) (hi := 3) (by decide) (by decide) (by decide)).up1 (lo := 2) (hi := 3) (by decide) (by decide) (by decide)).up1 (lo := 5) (hi := 6) (by decide) (by decide) (by decide)
  generalize hm : z_up (z_up (z_up m 1 2 0) 1 3 80) 3 5 3 = m0 at s0 ⊢
  have g1 : m0 1 2 = 0 := by rw [← hm, zu_p (by decide), zu_k (by decide), zu_self]
  have g2 : m0 9 = m 9 := by rw [← hm, zu_rowne (by decide), zu_rowne (by decide), zu_rowne (by decide)]
  have g3 : m0 3 5 = 3 := by rw [← hm, zu_self]
  have g4 : m0 1 1 = m 1 1 := s0.at (by decide)
  have g5 : u_g m0 = u_nx (m 2) (m 1 1) 80 := by
    unfold u_g
    rw [s0.row (by decide), g4, show m0 1 3 = 80 by rw [← hm, zu_p (by decide), zu_self]]
  obtain ⟨m', d1, d2⟩ := c_hou 3 0 m0 (by decide) (by decide) (by omega) (by omega) (by omega) (by omega) (by omega)
  rw [g5, g4, g3, g1, g2] at d1 d2
  exact ⟨m', d1, d2.tr s0⟩
/-! building it: columns and storeys stand -/
theorem c_clear : ∀ (f : Nat) (x : Int) (m : z_M), 0 ≤ x → x + (f : Int) = 9 → ∃ m', z_R 31 (m, 2, [(2, 12), (0, x)], []) = some (m', none) ∧ z_same [(12, 5, 7), (13, 0, 8), (14, 0, 8)] m m' := by
  intro f
  induction f with
  | zero =>
    intro x m h0 h
    rw [s_clear_2, if_pos (by omega)]
    exact ⟨_, rfl, ((z_same.rf.up1 (lo := 5) (hi := 7) (by decide) (by decide) (by decide)).up1 (lo := 5) (hi := 7) (by decide) (by decide) (by decide)).up1 (lo := 5) (hi := 7) (by decide) (by decide) (by decide)⟩
  | succ f ih =>
    intro x m h0 h
    rw [s_clear_2, if_neg (by omega), if_pos ⟨h0, by omega⟩, if_pos ⟨h0, by omega⟩, z_add_eq (by omega) (by omega)]
    obtain ⟨m', a1, a2⟩ := ih (x + 1) (z_up (z_up m 13 x.toNat 0) 14 x.toNat 0) (by omega) (by omega)
    exact ⟨m', a1, ((z_same.rf.up1 (lo := 0) (hi := 8) (by decide) (by omega) (by omega)).up1 (lo := 0) (hi := 8) (by decide) (by omega) (by omega)).tr a2⟩
theorem c_has (m : z_M) (a : Int) : ∃ v, z_R 32 (m, 0, [(2, 3), (0, a)], []) = some (m, some (0, v)) := by
  rw [s_has_0]
  by_cases h1 : a < 0
  · rw [if_pos h1]; exact ⟨_, rfl⟩
  rw [if_neg h1]
  by_cases h2 : 9 ≤ a
  · rw [if_pos h2]; exact ⟨_, rfl⟩
  rw [if_neg h2]
  by_cases h3 : m 3 8 ≤ z_rem a 3
  · rw [if_pos h3]; exact ⟨_, rfl⟩
  rw [if_neg h3]
  by_cases h4 : m 3 9 ≤ z_div a 3
  · rw [if_pos h4]; exact ⟨_, rfl⟩
  · rw [if_neg h4]; exact ⟨_, rfl⟩
theorem c_build1 : ∀ (f : Nat) (x : Int) (m : z_M), 0 ≤ x → x + (f : Int) = 9 → ∃ m', z_R 30 (m, 32, [(2, 3), (2, 12), (0, x)], []) = some (m', some (0, z_mul (m 3 8) (m 3 9))) ∧ z_same [(3, 10, 10), (13, 0, 8)] m m' := by
  intro f
  induction f with
  | zero =>
    intro x m h0 h
    rw [s_build_32, if_pos (by omega)]
    exact ⟨m, rfl, z_same.rf⟩
  | succ f ih =>
    intro x m h0 h
    obtain ⟨v, hv⟩ := c_has m x
    rw [s_build_32, if_neg (by omega), hv]
    show ∃ m', z_R 30 (m, 43, [(2, 3), (2, 12), (0, x)], [(0, v)]) = _ ∧ _
    rw [s_build_43, z_add_eq (by omega) (by omega)]
    by_cases c : v = 0
    · rw [if_pos c]
      exact ih (x + 1) m (by omega) (by omega)
    · rw [if_neg c, if_pos ⟨h0, by omega⟩, if_pos ⟨h0, by omega⟩]
      have s1 : z_same [(3, 10, 10), (13, 0, 8)] m (z_up (z_up m 13 x.toNat (m 9 x.toNat)) 3 10 (z_or (m 3 10) (z_shl 1 x))) := (z_same.rf.up1 (lo := 0) (hi := 8) (by decide) (by omega) (by omega)).up1 (lo := 10) (hi := 10) (by decide) (by decide) (by decide)
      obtain ⟨m', a1, a2⟩ := ih (x + 1) (z_up (z_up m 13 x.toNat (m 9 x.toNat)) 3 10 (z_or (m 3 10) (z_shl 1 x))) (by omega) (by omega)
      rw [s1.at (p := 3) (k := 8) (by decide), s1.at (p := 3) (k := 9) (by decide)] at a1
      exact ⟨m', a1, s1.tr a2⟩
theorem c_build (m : z_M) : ∃ m', z_R 30 (m, 0, [(2, 3), (2, 12), (9, 0)], []) = some (m', some (0, z_mul (m 3 5) (m 3 6))) ∧ m' 3 8 = m 3 5 ∧ m' 3 9 = m 3 6 ∧ m' 3 11 = 0 ∧ z_same [(3, 8, 11), (12, 5, 7), (13, 0, 8), (14, 0, 8)] m m' := by
  rw [s_build_0, s_clear_0]
  have s0 : z_same [(3, 8, 11), (12, 5, 7), (13, 0, 8), (14, 0, 8)] m (z_up (z_up (z_up (z_up m 3 8 (m 3 5)) 3 9 (m 3 6)) 3 11 0) 3 10 0) := (((z_same.rf.up1 (lo := 8) (hi := 11) (by decide) (by decide) (by decide)).up1 (lo := 8) (hi := 11) (by decide) (by decide) (by decide)).up1 (lo := 8) (hi := 11) (by decide) (by decide) (by decide)).up1 (lo := 8) (hi := 11) (by decide) (by decide) (by decide)
  generalize hm : z_up (z_up (z_up (z_up m 3 8 (m 3 5)) 3 9 (m 3 6)) 3 11 0) 3 10 0 = m0 at s0 ⊢
  have g8 : m0 3 8 = m 3 5 := by rw [← hm, zu_k (by decide), zu_k (by decide), zu_k (by decide), zu_self]
  have g9 : m0 3 9 = m 3 6 := by rw [← hm, zu_k (by decide), zu_k (by decide), zu_self]
  have g11 : m0 3 11 = 0 := by rw [← hm, zu_k (by decide), zu_self]
  obtain ⟨m1, a1, a2⟩ := c_clear 9 0 m0 (by decide) (by decide)
  rw [a1]
  show ∃ m', z_R 30 (m1, 30, [(2, 3), (2, 12), (9, 0)], []) = _ ∧ _
  rw [s_build_30]
  obtain ⟨m2, b1, b2⟩ := c_build1 9 0 m1 (by decide) (by decide)
  have k8 := a2.at (p := 3) (k := 8) (by decide)
  have k9 := a2.at (p := 3) (k := 9) (by decide)
  rw [k8, k9, g8, g9] at b1
  exact ⟨m2, b1, (b2.at (by decide)).trans (k8.trans g8), (b2.at (by decide)).trans (k9.trans g9), (b2.at (by decide)).trans ((a2.at (by decide)).trans g11), (s0.tr (a2.sub (by decide))).tr (b2.sub (by decide))⟩
theorem c_fk : ∀ (f : Nat) (x : Int) (m : z_M), 0 ≤ x → x + (f : Int) = 2 → ∃ m', z_R 34 (m, 2, [(2, 28), (0, x)], []) = some (m', none) ∧ z_same [(31, 0, 1)] m m' ∧ ∀ k : Nat, (k : Int) < 2 → m' 31 k = if x ≤ (k : Int) then -1 else m 31 k := by
  intro f
  induction f with
  | zero =>
    intro x m h0 h
    rw [s_fk_2, if_pos (by omega)]
    exact ⟨_, rfl, z_same.rf, fun k hk => by rw [if_neg (by omega)]⟩
  | succ f ih =>
    intro x m h0 h
    rw [s_fk_2, if_neg (by omega), if_pos ⟨h0, by omega⟩, z_add_eq (by omega) (by omega)]
    obtain ⟨m', a1, a2, a3⟩ := ih (x + 1) (z_up m 31 x.toNat (-1)) (by omega) (by omega)
    refine ⟨m', a1, (z_same.rf.up1 (lo := 0) (hi := 1) (by decide) (by omega) (by omega)).tr a2, fun k hk => ?_⟩
    rw [a3 k hk, zu_at]
    by_cases c : x + 1 ≤ (k : Int)
    · rw [if_pos c, if_pos (show x ≤ (k : Int) by omega)]
    · rw [if_neg c]
      by_cases c' : k = x.toNat
      · rw [if_pos c', if_pos (show x ≤ (k : Int) by omega)]
      · rw [if_neg c', if_neg (show ¬ x ≤ (k : Int) by omega)]
theorem u_hou_b {g : Int → Int} (hg : u_gb g) {n : Int} : ∀ (f : Nat) (y w i : Int) (a : Nat → Int), 0 ≤ y → y + (f : Int) ≤ 3 → 1 ≤ w → w ≤ 3 → 0 ≤ i → i ≤ 80 → 1 ≤ (u_hou g n f y w i a).2.1 ∧ (u_hou g n f y w i a).2.1 ≤ 3 ∧ 0 ≤ (u_hou g n f y w i a).2.2.1 ∧ (u_hou g n f y w i a).2.2.1 ≤ 3 ∧ 0 ≤ (u_hou g n f y w i a).2.2.2.1 ∧ (u_hou g n f y w i a).2.2.2.1 ≤ 80 := by
  intro f
  induction f with
  | zero => intro y w i a h0 h1 h2 h3 h4 h5; exact ⟨h2, h3, h0, by show y ≤ 3; omega, h4, h5⟩
  | succ f ih =>
    intro y w i a h0 h1 h2 h3 h4 h5
    have b := u_sto_b hg (y := y) 3 0 w i a (by decide) h2 h3 h4 h5
    unfold u_hou
    generalize u_sto g y 3 0 w i a = S at b ⊢
    obtain ⟨ok, w1, i1, b1⟩ := S
    simp only at b ⊢
    by_cases c1 : ok = false
    · rw [if_pos c1]; exact ⟨b.1, b.2.1, by show 0 ≤ y + 1; omega, by show y + 1 ≤ 3; omega, b.2.2.1, b.2.2.2⟩
    rw [if_neg c1]
    by_cases c2 : n ≤ i1
    · rw [if_pos c2]; exact ⟨b.1, b.2.1, by show 0 ≤ y + 1; omega, by show y + 1 ≤ 3; omega, b.2.2.1, b.2.2.2⟩
    rw [if_neg c2]
    by_cases c3 : 3 ≤ y + 1
    · rw [if_pos c3]; exact ⟨b.1, b.2.1, by show 0 ≤ y + 1; omega, by show y + 1 ≤ 3; omega, b.2.2.1, b.2.2.2⟩
    rw [if_neg c3]
    by_cases c4 : g i1 = 47
    · rw [if_pos c4]
      have := hg i1 (by omega)
      exact ih _ _ _ _ (by omega) (by omega) b.1 b.2.1 (by omega) (by omega)
    · rw [if_neg c4]; exact ⟨b.1, b.2.1, by show 0 ≤ y + 1; omega, by show y + 1 ≤ 3; omega, b.2.2.1, b.2.2.2⟩
theorem u_mul3 {a b : Int} (h0 : 1 ≤ a) (h1 : a ≤ 3) (h2 : 0 ≤ b) (h3 : b ≤ 3) : z_mul a b = a * b := by
  rcases (show a = 1 ∨ a = 2 ∨ a = 3 by omega) with rfl | rfl | rfl <;> exact z_mul_eq (by omega) (by omega)
/-- what house leaves of the rooms and persons: by (columns, storeys, persons) before and behind -/
def u_after (S : u_H) (a b : Int × Int × Int) : Prop := b = if S.1 = true then (S.2.1, S.2.2.1, 0) else a
/-- what is kept is gone (v stands there) if the house stands -/
def u_gone (S : u_H) (v : Int) (a b : Nat → Int) : Prop := (S.1 = true → b 0 = v ∧ b 1 = v) ∧ (S.1 = false → b = a)
def u_csp (m : z_M) : Int × Int × Int := (m 3 8, m 3 9, m 3 11)
def u_rsp (m : z_M) : Int × Int × Int := (m 251 1, m 251 2, m 251 3)
theorem c_house (m : z_M) (h0 : 0 ≤ m 1 1) (h1 : m 1 1 ≤ 80) : ∃ m', z_R 18 (m, 0, [(2, 0), (9, 0), (9, 0)], []) = some (m', some (0, u_ans (u_hou (u_nx (m 2) (m 1 1) 80) (m 1 1) 3 0 3 0 (m 9)))) ∧ u_after (u_hou (u_nx (m 2) (m 1 1) 80) (m 1 1) 3 0 3 0 (m 9)) (u_csp m) (u_csp m') ∧ u_gone (u_hou (u_nx (m 2) (m 1 1) 80) (m 1 1) 3 0 3 0 (m 9)) (-1) (m 31) (m' 31) := by
  have b := u_hou_b (u_nx_b h1) (n := m 1 1) 3 0 3 0 (m 9) (g := u_nx (m 2) (m 1 1) 80) (by decide) (by decide) (by decide) (by decide) (by decide) (by decide)
  obtain ⟨m1, a1, a2⟩ := c_readHouse m h1
  generalize u_hou (u_nx (m 2) (m 1 1) 80) (m 1 1) 3 0 3 0 (m 9) = S at a1 a2 b ⊢
  obtain ⟨ok, w, h, i, a⟩ := S
  obtain ⟨p1, p2, p3, p4, p5⟩ := a2
  simp only at a1 p1 p2 p3 p4 b
  unfold u_ans u_after u_gone
  simp only
  rw [s_house_0, a1]
  show ∃ m', z_R 18 (m1, 11, [(2, 0), (9, 0), (9, 0)], [(0, if ok = true then 1 else 0)]) = _ ∧ _
  rw [s_house_11, s_empty_0]
  show ∃ m', z_R 18 (z_up m1 1 1 0, 19, [(2, 0), (0, if ok = true then 1 else 0), (9, 0)], []) = _ ∧ _
  rw [s_house_19]
  by_cases c : ok = true
  · rw [if_pos c, if_neg (by decide), if_pos c, if_pos c]
    obtain ⟨m2, d1, d2, d3, d4, d5⟩ := c_build (z_up m1 1 1 0)
    have e1 : (z_up m1 1 1 0) 3 5 = w := (zu_p (by decide)).trans p1
    have e2 : (z_up m1 1 1 0) 3 6 = h := (zu_p (by decide)).trans (p2 c)
    rw [e1, e2] at d1
    rw [e1] at d2
    rw [e2] at d3
    rw [d1]
    show ∃ m', z_R 18 (m2, 44, [(2, 0), (0, 1), (9, 0)], [(0, z_mul w h)]) = _ ∧ _
    rw [s_house_44, s_fd_0]
    show ∃ m', z_R 18 (z_up m2 28 4 0, 52, [(2, 0), (0, 1), (0, z_mul w h)], []) = _ ∧ _
    rw [s_house_52, s_fk_0]
    obtain ⟨m3, f1, f2, f3⟩ := c_fk 2 0 (z_up m2 28 4 0) (by decide) (by decide)
    rw [f1]
    refine ⟨m3, (s_house_59 _ _ _).trans (by rw [u_mul3 b.1 b.2.1 b.2.2.1 b.2.2.2.1]), ?_, fun _ => ⟨(f3 0 (by decide)).trans (if_pos (by decide)), (f3 1 (by decide)).trans (if_pos (by decide))⟩, fun z => absurd (c.symm.trans z) (by decide)⟩
    unfold u_csp
    rw [f2.at (p := 3) (k := 8) (by decide), f2.at (p := 3) (k := 9) (by decide), f2.at (p := 3) (k := 11) (by decide), zu_p (by decide), zu_p (by decide), zu_p (by decide), d2, d3, d4]
  · rw [if_neg c, if_pos rfl, if_neg c, if_neg c]
    have e1 : (z_up m1 1 1 0) 1 2 = i := (zu_k (by decide)).trans p3
    rw [e1, z_sub_eq (by omega) (by omega)]
    refine ⟨_, rfl, ?_, fun z => absurd z c, fun _ => (zu_rowne (by decide)).trans (p5.row (by decide))⟩
    unfold u_csp
    rw [zu_p (by decide), zu_p (by decide), zu_p (by decide), p5.at (p := 3) (k := 8) (by decide), p5.at (p := 3) (k := 9) (by decide), p5.at (p := 3) (k := 11) (by decide)]
/-! the same in the reference -/
def u_M : List (Nat × Nat × Nat) := [(251, 15, 16), (256, 0, 8)]
theorem u_q_sm {m m' : z_M} (h : z_same u_M m m') : u_q m' = u_q m := u_q_eq (h.row (by decide)) (h.at (by decide)) (h.at (by decide))
theorem u_W_sm {m m' : z_M} (hw : u_W m) (h : z_same u_M m m') (h0 : 0 ≤ m' 251 15) (h1 : m' 251 15 ≤ 80) : u_W m' := by
  obtain ⟨a1, a2, a3, a4, a5⟩ := hw
  refine ⟨(h.at (by decide)).trans a1, h0, h1, by rw [h.at (p := 251) (k := 13) (by decide)]; exact a4, fun k hk => ?_⟩
  rw [h.row (p := 254) (by decide)]
  exact a5 k hk
theorem t_f162 (m : z_M) (x1 x2 x3 : Int) (v4 v5 : z_V) (h : ¬ m 251 16 = -1) : z_R 163 (m, 162, [(2, 251), (0, x1), (0, x2), (0, x3), v4, v5], []) = some (m, some (0, z_sub (-1) (m 251 16))) := by
  have e : z_R 163 (m, 185, [(2, 251), (0, x1), (0, x2), (0, x3), v4, v5], [(0, 0)]) = some (m, some (0, z_sub (-1) (m 251 16))) := by rw [t_house_185, if_pos rfl]
  rw [t_house_162]
  by_cases c : m 251 13 ≤ m 251 15
  · rw [if_pos c, t_fine0 m h]
    exact e
  · rw [if_neg c, t_fault0 m _ h]
    show z_R 163 (m, 181, [(2, 251), (0, x1), (0, x2), (0, x3), v4, v5], []) = _
    rw [t_house_181, t_fine0 m h]
    exact e
theorem t_f30 (m : z_M) (x1 x2 x3 : Int) (v4 v5 : z_V) (h : ¬ m 251 16 = -1) : z_R 163 (m, 30, [(2, 251), (0, x1), (0, x2), (0, x3), v4, v5], []) = some (m, some (0, z_sub (-1) (m 251 16))) := by
  rw [t_house_30]
  by_cases c : x3 = 0
  · rw [if_pos c]; exact t_f162 m _ _ _ _ _ h
  · rw [if_neg c, t_fine0 m h]
    show z_R 163 (m, 38, [(2, 251), (0, x1), (0, x2), (0, x3), v4, v5], [(0, 0)]) = _
    rw [t_house_38, if_pos rfl]
    exact t_f162 m _ _ _ _ _ h
theorem t_f136 (m : z_M) (x1 x2 x3 x4 x5 : Int) (h : ¬ m 251 16 = -1) : z_R 163 (m, 136, [(2, 251), (0, x1), (0, x2), (0, x3), (0, x4), (0, x5)], []) = some (m, some (0, z_sub (-1) (m 251 16))) := by
  rw [t_house_136]
  by_cases c : 3 ≤ z_add x2 1
  · rw [if_pos c]; exact t_f30 m _ _ _ _ _ h
  · rw [if_neg c, t_pass0 m _ h]
    show z_R 163 (m, 150, [(2, 251), (0, x1), (0, z_add x2 1), (0, x3), (0, x4), (0, x5)], [(0, 0)]) = _
    rw [t_house_150, if_pos rfl]
    exact t_f30 m _ _ _ _ _ h
theorem t_f129 (m : z_M) (x1 x2 x3 x4 x5 : Int) (h : ¬ m 251 16 = -1) : z_R 163 (m, 129, [(2, 251), (0, x1), (0, x2), (0, x3), (0, x4), (0, x5)], []) = some (m, some (0, z_sub (-1) (m 251 16))) := by
  rw [t_house_129]
  by_cases c : x2 = 0
  · rw [if_pos c]; exact t_f136 m _ _ _ _ _ h
  · rw [if_neg c]; exact t_f136 m _ _ _ _ _ h
theorem t_f47 (m : z_M) (x1 x2 x3 x4 x5 : Int) (h : ¬ m 251 16 = -1) : z_R 163 (m, 47, [(2, 251), (0, x1), (0, x2), (0, x3), (0, x4), (0, x5)], []) = some (m, some (0, z_sub (-1) (m 251 16))) := by
  have e : z_R 163 (m, 111, [(2, 251), (0, x1), (0, x2), (0, x3), (0, x4), (0, x5)], []) = some (m, some (0, z_sub (-1) (m 251 16))) := by
    rw [t_house_111]
    by_cases c : x2 ≤ 0
    · rw [if_pos c]; exact t_f129 m _ _ _ _ _ h
    rw [if_neg c]
    by_cases c' : x1 ≤ x4
    · rw [if_pos c']; exact t_f129 m _ _ _ _ _ h
    · rw [if_neg c', t_fault0 m _ h]
      exact t_f129 m _ _ _ _ _ h
  rw [t_house_47]
  by_cases c : x5 = 0
  · rw [if_pos c]; exact e
  · rw [if_neg c, t_fine0 m h]
    show z_R 163 (m, 56, [(2, 251), (0, x1), (0, x2), (0, x3), (0, x4), (0, x5)], [(0, 0)]) = _
    rw [t_house_56, if_pos rfl]
    exact e
theorem t_f74 (m : z_M) (x1 x2 x3 x4 x5 s0 u : Int) (h : ¬ m 251 16 = -1) (h0 : 0 ≤ s0) (h1 : s0 < 9) : ∃ m', z_R 163 (m, 74, [(2, 251), (0, x1), (0, x2), (0, x3), (0, x4), (0, x5)], [(0, u), (0, s0), (2, 256)]) = some (m', some (0, z_sub (-1) (m 251 16))) ∧ z_same u_M m m' := by
  have hs : z_same u_M m (z_up m 256 s0.toNat u) := z_same.rf.up1 (lo := 0) (hi := 8) (by decide) (by omega) (by omega)
  rw [t_house_74, if_pos ⟨h0, by omega⟩]
  have hm : (z_up m 256 s0.toNat u) 251 16 = m 251 16 := zu_p (by decide)
  have hm' : ¬ (z_up m 256 s0.toNat u) 251 16 = -1 := by rw [hm]; exact h
  have e : ∀ x4 x5 : Int, z_R 163 (z_up m 256 s0.toNat u, 98, [(2, 251), (0, x1), (0, x2), (0, x3), (0, x4), (0, x5)], [(0, 0)]) = some (z_up m 256 s0.toNat u, some (0, z_sub (-1) (m 251 16))) := by
    intro x4 x5
    rw [t_house_98, if_pos rfl, t_f47 _ _ _ _ _ _ hm', hm]
  by_cases c : x2 = 0
  · rw [if_pos c]
    by_cases c' : 3 ≤ z_add x4 1
    · rw [if_pos c', t_f47 _ _ _ _ _ _ hm', hm]; exact ⟨_, rfl, hs⟩
    · rw [if_neg c', t_pass0 _ _ hm']; exact ⟨_, e _ _, hs⟩
  · rw [if_neg c]
    by_cases c' : x1 ≤ z_add x4 1
    · rw [if_pos c', t_f47 _ _ _ _ _ _ hm', hm]; exact ⟨_, rfl, hs⟩
    · rw [if_neg c', t_pass0 _ _ hm']; exact ⟨_, e _ _, hs⟩
/-- behind a storey's last ICE -/
theorem t_ok111 {y : Int} (hy0 : 0 ≤ y) (x1 x3 x4 : Int) (m : z_M) (hx : ¬ y = 0 → x4 = x1) : z_R 163 (m, 47, [(2, 251), (0, x1), (0, y), (0, x3), (0, x4), (0, 0)], []) = z_R 163 (m, 136, [(2, 251), (0, x4), (0, y), (0, x3), (0, x4), (0, 0)], []) := by
  rw [t_house_47, if_pos rfl, t_house_111]
  by_cases c : y = 0
  · rw [if_pos (by omega), t_house_129, if_pos c]
  · rw [if_neg (by omega), if_pos (by rw [hx c]; exact Int.le_refl _), t_house_129, if_neg c, hx c]
/-- a storey -/
theorem t_sto {y : Int} (hy0 : 0 ≤ y) (hy : y ≤ 2) : ∀ (f : Nat) (x x1 x3 w : Int) (m : z_M), u_W m → m 251 16 = -1 → 0 ≤ x → x + (f : Int) = 3 → x < w → w ≤ 3 → (y = 0 → w = 3) → (¬ y = 0 → w = x1) → ∃ m' x4, z_R 163 (m, 47, [(2, 251), (0, x1), (0, y), (0, x3), (0, x), (0, 1)], []) = (if (u_sto (u_q m) y f x w (m 251 15) (m 256)).1 = true then z_R 163 (m', 136, [(2, 251), (0, (u_sto (u_q m) y f x w (m 251 15) (m 256)).2.1), (0, y), (0, x3), (0, x4), (0, 0)], []) else some (m', some (0, -1 - (u_sto (u_q m) y f x w (m 251 15) (m 256)).2.2.1))) ∧ ((u_sto (u_q m) y f x w (m 251 15) (m 256)).1 = true → m' 251 16 = -1 ∧ m' 251 15 = (u_sto (u_q m) y f x w (m 251 15) (m 256)).2.2.1 ∧ m' 256 = (u_sto (u_q m) y f x w (m 251 15) (m 256)).2.2.2) ∧ z_same u_M m m' := by
  intro f
  induction f with
  | zero => intro x x1 x3 w m hw hf hx0 hx hxw hw3; omega
  | succ f ih =>
    intro x x1 x3 w m hw hf hx0 hx hxw hw3 hwy hwn
    have hg := u_q_b hw
    obtain ⟨w1, w2, w3, w4, w5⟩ := id hw
    have b := u_ic_b hg w2 w3
    have ek : z_add (z_mul 3 y) x = 3 * y + x := by rw [z_mul_eq (by omega) (by omega), z_add_eq (by omega) (by omega)]
    have ex : z_add x 1 = x + 1 := z_add_eq (by omega) (by omega)
    rw [t_house_47, if_neg (by decide), t_fine1 m hf]
    show ∃ m' x4, z_R 163 (m, 56, [(2, 251), (0, x1), (0, y), (0, x3), (0, x), (0, 1)], [(0, 1)]) = _ ∧ _
    rw [t_house_56, if_neg (by decide), t_num2 m hf hw, ek]
    unfold u_sto
    rw [if_neg (show ¬ w ≤ x by omega)]
    generalize u_ic (u_q m) (m 251 15) = q at b ⊢
    by_cases c2 : q.2 = -1
    · rw [if_pos c2, if_pos c2]
      obtain ⟨m', e, es⟩ := t_f74 (z_up m 251 16 q.1) x1 y x3 x 1 (3 * y + x) 0 (by rw [zu_self]; omega) (by omega) (by omega)
      rw [zu_self, z_sub_eq (by omega) (by omega)] at e
      exact ⟨m', 0, e, (fun z => by cases z), (z_same.rf.up1 (lo := 15) (hi := 16) (by decide) (by decide) (by decide)).tr es⟩
    rw [if_neg c2, if_neg c2]
    show ∃ m' x4, z_R 163 (z_up m 251 15 q.1, 74, [(2, 251), (0, x1), (0, y), (0, x3), (0, x), (0, 1)], [(0, q.2), (0, 3 * y + x), (2, 256)]) = _ ∧ _
    rw [t_house_74, if_pos ⟨by omega, by omega⟩, ex]
    have s2 : z_same u_M m (z_up (z_up m 251 15 q.1) 256 (3 * y + x).toNat q.2) := (z_same.rf.up1 (lo := 15) (hi := 16) (by decide) (by decide) (by decide)).up1 (lo := 0) (hi := 8) (by decide) (by omega) (by omega)
    generalize hm2 : z_up (z_up m 251 15 q.1) 256 (3 * y + x).toNat q.2 = m2 at s2 ⊢
    have f1 : m2 251 15 = q.1 := by rw [← hm2, zu_p (by decide), zu_self]
    have f2 : m2 256 = u_up (m 256) (3 * y + x).toNat q.2 := by rw [← hm2, zu_row, zu_rowne (by decide)]
    have f3 : m2 251 16 = -1 := by rw [← hm2, zu_p (by decide), zu_k (by decide)]; exact hf
    have f5 := u_q_sm s2
    have f6 : u_W m2 := u_W_sm hw s2 (by omega) (by omega)
    have last : ∀ z : ¬ y = 0 → x + 1 = x1, z_R 163 (m2, 47, [(2, 251), (0, x1), (0, y), (0, x3), (0, x + 1), (0, 0)], []) = z_R 163 (m2, 136, [(2, 251), (0, x + 1), (0, y), (0, x3), (0, x + 1), (0, 0)], []) := fun z => t_ok111 hy0 x1 x3 (x + 1) m2 z
    by_cases c3 : w ≤ x + 1
    · have hwx : w = x + 1 := by omega
      rw [if_pos c3, u_sto_done c3]
      refine ⟨m2, x + 1, ?_, fun _ => ⟨f3, f1, f2⟩, s2⟩
      show _ = z_R 163 (m2, 136, [(2, 251), (0, w), (0, y), (0, x3), (0, x + 1), (0, 0)], [])
      by_cases cy : y = 0
      · have := hwy cy
        rw [if_pos cy, if_pos (by omega), last (fun z => absurd cy z), hwx]
      · have := hwn cy
        rw [if_neg cy, if_pos (by omega), last (fun _ => by omega), hwx]
    rw [if_neg c3]
    have hpass : (if y = 0 then if 3 ≤ x + 1 then z_R 163 (m2, 47, [(2, 251), (0, x1), (0, y), (0, x3), (0, x + 1), (0, 0)], []) else (z_R 170 (m2, 0, [(2, 251), (0, 44)], [])).bind fun r => z_R 163 (r.1, 98, [(2, 251), (0, x1), (0, y), (0, x3), (0, x + 1), (0, 1)], r.2.toList ++ []) else if x1 ≤ x + 1 then z_R 163 (m2, 47, [(2, 251), (0, x1), (0, y), (0, x3), (0, x + 1), (0, 0)], []) else (z_R 170 (m2, 0, [(2, 251), (0, 44)], [])).bind fun r => z_R 163 (r.1, 98, [(2, 251), (0, x1), (0, y), (0, x3), (0, x + 1), (0, 1)], r.2.toList ++ [])) = (z_R 170 (m2, 0, [(2, 251), (0, 44)], [])).bind fun r => z_R 163 (r.1, 98, [(2, 251), (0, x1), (0, y), (0, x3), (0, x + 1), (0, 1)], r.2.toList ++ []) := by
      by_cases cy : y = 0
      · have := hwy cy
        rw [if_pos cy, if_neg (by omega)]
      · have := hwn cy
        rw [if_neg cy, if_neg (by omega)]
    rw [hpass, t_pass1 m2 44 f3 f6, f5, f1]
    by_cases c4 : u_q m q.1 = 44
    · rw [if_pos c4, if_pos c4]
      show ∃ m' x4, z_R 163 (z_up m2 251 15 (q.1 + 1), 98, [(2, 251), (0, x1), (0, y), (0, x3), (0, x + 1), (0, 1)], [(0, 1)]) = _ ∧ _
      have hb := hg q.1 (by omega)
      have s3 : z_same u_M m (z_up m2 251 15 (q.1 + 1)) := s2.up1 (lo := 15) (hi := 16) (by decide) (by decide) (by decide)
      have g1 : (z_up m2 251 15 (q.1 + 1)) 251 15 = q.1 + 1 := zu_self
      have g2 : (z_up m2 251 15 (q.1 + 1)) 256 = u_up (m 256) (3 * y + x).toNat q.2 := (zu_rowne (by decide)).trans f2
      have g3 : (z_up m2 251 15 (q.1 + 1)) 251 16 = -1 := (zu_k (by decide)).trans f3
      rw [t_house_98, if_neg (by decide)]
      obtain ⟨m', x4, a1, a2, a3⟩ := ih (x + 1) x1 x3 w (z_up m2 251 15 (q.1 + 1)) (u_W_sm hw s3 (by omega) (by omega)) g3 (by omega) (by omega) (by omega) hw3 hwy hwn
      rw [u_q_sm s3, g1, g2] at a1 a2
      exact ⟨m', x4, a1, a2, s3.tr a3⟩
    rw [if_neg c4, if_neg c4]
    show ∃ m' x4, z_R 163 (m2, 98, [(2, 251), (0, x1), (0, y), (0, x3), (0, x + 1), (0, 1)], [(0, 0)]) = _ ∧ _
    rw [t_house_98, if_pos rfl]
    by_cases c5 : y ≤ 0
    · rw [if_pos c5, u_sto_done (Int.le_refl _)]
      exact ⟨m2, x + 1, last (fun z => absurd (by omega) z), fun _ => ⟨f3, f1, f2⟩, s2⟩
    · have := hwn (by omega)
      rw [if_neg c5, t_house_47, if_pos rfl, t_house_111, if_neg c5, if_neg (by omega), t_fault1 m2 _ f3, f1]
      show ∃ m' x4, z_R 163 (z_up m2 251 16 q.1, 129, [(2, 251), (0, x1), (0, y), (0, x3), (0, x + 1), (0, 0)], []) = _ ∧ _
      have hz : ¬ (z_up m2 251 16 q.1) 251 16 = -1 := by rw [zu_self]; omega
      rw [t_f129 _ _ _ _ _ _ hz, zu_self, z_sub_eq (by omega) (by omega)]
      exact ⟨_, 0, rfl, (fun z => by cases z), s2.up1 (lo := 15) (hi := 16) (by decide) (by decide) (by decide)⟩
/-! it stands: what is left gives columns by storeys -/
def u_K : List (Nat × Nat × Nat) := [(251, 25, 25), (252, 0, 36), (276, 0, 1)]
def u_K3 : List (Nat × Nat × Nat) := [(251, 3, 3), (251, 25, 25), (252, 0, 36), (276, 0, 1)]
theorem t_l307 : ∀ (f : Nat) (x5 x1 x2 x3 x4 : Int) (m : z_M), 0 ≤ x5 → x5 + (f : Int) = 2 → ∃ m', z_R 163 (m, 307, [(2, 251), (0, x1), (0, x2), (0, x3), (0, x4), (0, x5)], []) = some (m', some (0, z_mul x1 x2)) ∧ z_same u_K m m' ∧ ∀ k : Nat, (k : Int) < 2 → m' 276 k = if x5 ≤ (k : Int) then 0 else m 276 k := by
  intro f
  induction f with
  | zero =>
    intro x5 x1 x2 x3 x4 m h0 h
    rw [t_house_307, if_pos (by omega)]
    exact ⟨_, rfl, z_same.rf, fun k hk => by rw [if_neg (by omega)]⟩
  | succ f ih =>
    intro x5 x1 x2 x3 x4 m h0 h
    rw [t_house_307, if_neg (by omega), if_pos ⟨h0, by omega⟩, z_add_eq (by omega) (by omega)]
    obtain ⟨m', a1, a2, a3⟩ := ih (x5 + 1) x1 x2 x3 x4 (z_up m 276 x5.toNat (z_bo 0)) (by omega) (by omega)
    refine ⟨m', a1, (z_same.rf.up1 (lo := 0) (hi := 1) (by decide) (by omega) (by omega)).tr a2, fun k hk => ?_⟩
    rw [a3 k hk, zu_at, show z_bo 0 = 0 by decide +kernel]
    by_cases c : x5 + 1 ≤ (k : Int)
    · rw [if_pos c, if_pos (show x5 ≤ (k : Int) by omega)]
    · rw [if_neg c]
      by_cases c' : k = x5.toNat
      · rw [if_pos c', if_pos (show x5 ≤ (k : Int) by omega)]
      · rw [if_neg c', if_neg (show ¬ x5 ≤ (k : Int) by omega)]
theorem t_room (m : z_M) (a : Int) : ∃ v, z_R 171 (m, 0, [(2, 251), (0, a)], []) = some (m, some (0, v)) := by
  rw [t_room_0, t_in]
  show ∃ v, z_R 171 (m, 7, [(2, 251), (0, a)], [(0, if 0 ≤ a ∧ a ≤ 8 then 1 else 0)]) = _
  rw [t_room_7]
  generalize (if 0 ≤ a ∧ a ≤ 8 then (1 : Int) else 0) = u
  by_cases h1 : u = 0
  · rw [if_pos h1]; exact ⟨_, rfl⟩
  rw [if_neg h1]
  by_cases h3 : m 251 1 ≤ z_rem a 3
  · rw [if_pos h3]; exact ⟨_, rfl⟩
  rw [if_neg h3]
  by_cases h4 : m 251 2 ≤ z_div a 3
  · rw [if_pos h4]; exact ⟨_, rfl⟩
  · rw [if_neg h4]; exact ⟨_, rfl⟩
theorem t_l241 : ∀ (f : Nat) (x5 x1 x2 x3 x4 : Int) (m : z_M), 0 ≤ x5 → x5 + (f : Int) = 9 → ∃ m', z_R 163 (m, 241, [(2, 251), (0, x1), (0, x2), (0, x3), (0, x4), (0, x5)], []) = some (m', some (0, z_mul x1 x2)) ∧ m' 251 3 = 0 ∧ z_same u_K3 m m' ∧ (m' 276 0 = 0 ∧ m' 276 1 = 0) := by
  intro f
  induction f with
  | zero =>
    intro x5 x1 x2 x3 x4 m h0 h
    rw [t_house_241, if_pos (by omega)]
    obtain ⟨m', a1, a2, a3⟩ := t_l307 2 0 x1 x2 x3 x4 (z_up (z_up (z_up (z_up m 252 34 (-1)) 252 36 x4) 251 3 0) 251 25 0) (by decide) (by decide)
    refine ⟨m', a1, ?_, ((((z_same.rf.up1 (lo := 0) (hi := 36) (by decide) (by decide) (by decide)).up1 (lo := 0) (hi := 36) (by decide) (by decide) (by decide)).up1 (lo := 3) (hi := 3) (by decide) (by decide) (by decide)).up1 (lo := 25) (hi := 25) (by decide) (by decide) (by decide)).tr (a2.sub (by decide)), (a3 0 (by decide)).trans (if_pos (by decide)), (a3 1 (by decide)).trans (if_pos (by decide))⟩
    rw [a2.at (p := 251) (k := 3) (by decide), zu_k (by decide), zu_self]
  | succ f ih =>
    intro x5 x1 x2 x3 x4 m h0 h
    obtain ⟨v, hv⟩ := t_room m x5
    rw [t_house_241, if_neg (by omega), hv]
    show ∃ m', z_R 163 (m, 254, [(2, 251), (0, x1), (0, x2), (0, x3), (0, x4), (0, x5)], [(0, v)]) = _ ∧ _
    rw [t_house_254, z_add_eq (by omega) (by omega)]
    by_cases c : v = 0
    · rw [if_pos c]; exact ih _ _ _ _ _ _ (by omega) (by omega)
    · rw [if_neg c, if_pos ⟨h0, by omega⟩, if_pos ⟨h0, by omega⟩]
      obtain ⟨m', a1, a2, a3, a4⟩ := ih (x5 + 1) x1 x2 x3 x4 (z_up m 252 x5.toNat (m 256 x5.toNat)) (by omega) (by omega)
      exact ⟨m', a1, a2, (z_same.rf.up1 (lo := 0) (hi := 36) (by decide) (by omega) (by omega)).tr a3, a4⟩
theorem t_l217 : ∀ (f : Nat) (x5 x1 x2 x3 x4 : Int) (m : z_M), 0 ≤ x5 → x5 + (f : Int) = 37 → ∃ m', z_R 163 (m, 217, [(2, 251), (0, x1), (0, x2), (0, x3), (0, x4), (0, x5)], []) = some (m', some (0, z_mul x1 x2)) ∧ m' 251 3 = 0 ∧ z_same u_K3 m m' ∧ (m' 276 0 = 0 ∧ m' 276 1 = 0) := by
  intro f
  induction f with
  | zero =>
    intro x5 x1 x2 x3 x4 m h0 h
    rw [t_house_217, if_pos (by omega)]
    exact t_l241 9 0 _ _ _ _ _ (by decide) (by decide)
  | succ f ih =>
    intro x5 x1 x2 x3 x4 m h0 h
    rw [t_house_217, if_neg (by omega), if_pos ⟨h0, by omega⟩, z_add_eq (by omega) (by omega)]
    obtain ⟨m', a1, a2, a3, a4⟩ := ih (x5 + 1) x1 x2 x3 x4 (z_up m 252 x5.toNat 0) (by omega) (by omega)
    exact ⟨m', a1, a2, (z_same.rf.up1 (lo := 0) (hi := 36) (by decide) (by omega) (by omega)).tr a3, a4⟩
theorem t_ok162 (m : z_M) (x1 x2 x3 : Int) (v4 v5 : z_V) (h : m 251 16 = -1) (hl : m 251 13 ≤ m 251 15) : ∃ m', z_R 163 (m, 162, [(2, 251), (0, x1), (0, x2), (0, x3), v4, v5], []) = some (m', some (0, z_mul x1 x2)) ∧ u_rsp m' = (x1, x2, 0) ∧ (m' 276 0 = 0 ∧ m' 276 1 = 0) := by
  rw [t_house_162, if_pos hl, t_fine1 m h]
  show ∃ m', z_R 163 (m, 185, [(2, 251), (0, x1), (0, x2), (0, x3), v4, v5], [(0, 1)]) = _ ∧ _
  rw [t_house_185, if_neg (by decide)]
  obtain ⟨m', a1, a2, a3, a4⟩ := t_l217 37 0 x1 x2 x3 (m 252 36) (z_up (z_up m 251 1 x1) 251 2 x2) (by decide) (by decide)
  refine ⟨m', a1, ?_, a4⟩
  unfold u_rsp
  rw [a2, a3.at (p := 251) (k := 1) (by decide), a3.at (p := 251) (k := 2) (by decide), zu_self, zu_k (by decide), zu_self]
theorem t_no162 (m : z_M) (x1 x2 x3 : Int) (v4 v5 : z_V) (h : m 251 16 = -1) (hl : ¬ m 251 13 ≤ m 251 15) (h0 : 0 ≤ m 251 15) (h1 : m 251 15 ≤ 80) : ∃ m', z_R 163 (m, 162, [(2, 251), (0, x1), (0, x2), (0, x3), v4, v5], []) = some (m', some (0, -1 - m 251 15)) ∧ z_same u_M m m' := by
  have hz : ¬ (z_up m 251 16 (m 251 15)) 251 16 = -1 := by rw [zu_self]; omega
  rw [t_house_162, if_neg hl, t_fault1 m _ h]
  show ∃ m', z_R 163 (z_up m 251 16 (m 251 15), 181, [(2, 251), (0, x1), (0, x2), (0, x3), v4, v5], []) = _ ∧ _
  rw [t_house_181, t_fine0 _ hz]
  show ∃ m', z_R 163 (z_up m 251 16 (m 251 15), 185, [(2, 251), (0, x1), (0, x2), (0, x3), v4, v5], [(0, 0)]) = _ ∧ _
  rw [t_house_185, if_pos rfl, zu_self, z_sub_eq (by omega) (by omega)]
  exact ⟨_, rfl, z_same.rf.up1 (lo := 15) (hi := 16) (by decide) (by decide) (by decide)⟩
theorem t_hou : ∀ (f : Nat) (y x1 w : Int) (v4 v5 : z_V) (m : z_M), u_W m → m 251 16 = -1 → 0 ≤ y → y + (f : Int) = 3 → y < 3 → 1 ≤ w → w ≤ 3 → (y = 0 → w = 3) → (¬ y = 0 → w = x1) → ∃ m', z_R 163 (m, 30, [(2, 251), (0, x1), (0, y), (0, 1), v4, v5], []) = some (m', some (0, u_ans (u_hou (u_q m) (m 251 13) f y w (m 251 15) (m 256)))) ∧ u_after (u_hou (u_q m) (m 251 13) f y w (m 251 15) (m 256)) (u_rsp m) (u_rsp m') ∧ u_gone (u_hou (u_q m) (m 251 13) f y w (m 251 15) (m 256)) 0 (m 276) (m' 276) := by
  intro f
  induction f with
  | zero => intro y x1 w v4 v5 m hw hf hy0 hy hy3; omega
  | succ f ih =>
    intro y x1 w v4 v5 m hw hf hy0 hy hy3 hw0 hw3 hwy hwn
    have hg := u_q_b hw
    obtain ⟨w1, w2, w3, w4, w5⟩ := id hw
    have ey : z_add y 1 = y + 1 := z_add_eq (by omega) (by omega)
    rw [t_house_30, if_neg (by decide), t_fine1 m hf]
    show ∃ m', z_R 163 (m, 38, [(2, 251), (0, x1), (0, y), (0, 1), v4, v5], [(0, 1)]) = _ ∧ _
    rw [t_house_38, if_neg (by decide)]
    obtain ⟨m1, x4, a1, a2, d4⟩ := t_sto hy0 (by omega) 3 0 x1 1 w m hw hf (by decide) (by decide) (by omega) hw3 hwy hwn
    rw [a1]
    have b := u_sto_b hg (y := y) 3 0 w (m 251 15) (m 256) (by decide) hw0 hw3 w2 w3
    unfold u_hou
    generalize u_sto (u_q m) y 3 0 w (m 251 15) (m 256) = S at a2 b ⊢
    obtain ⟨ok, c1, i1, b1⟩ := S
    simp only at a2 b ⊢
    have er : u_rsp m1 = u_rsp m := by unfold u_rsp; rw [d4.at (p := 251) (k := 1) (by decide), d4.at (p := 251) (k := 2) (by decide), d4.at (p := 251) (k := 3) (by decide)]
    by_cases k1 : ok = false
    · subst k1
      rw [if_neg (by decide), if_pos rfl]
      exact ⟨m1, rfl, er, (fun z => by cases z), fun _ => d4.row (by decide)⟩
    have k1' : ok = true := by cases ok <;> simp_all
    obtain ⟨d1, d2, d3⟩ := a2 k1'
    have hw1 : u_W m1 := u_W_sm hw d4 (by omega) (by omega)
    have e13 : m1 251 13 = m 251 13 := d4.at (by decide)
    rw [if_pos k1', if_neg k1, t_house_136, ey]
    by_cases k2 : m 251 13 ≤ i1
    · rw [if_pos k2]
      have fin : ∀ x3 : Int, ∃ m', z_R 163 (m1, 30, [(2, 251), (0, c1), (0, y + 1), (0, 0), (0, x4), (0, 0)], []) = some (m', some (0, u_ans (true, c1, y + 1, i1, b1))) ∧ u_after (true, c1, y + 1, i1, b1) (u_rsp m) (u_rsp m') ∧ u_gone (true, c1, y + 1, i1, b1) 0 (m 276) (m' 276) := fun _ => by
        rw [t_house_30, if_pos rfl]
        obtain ⟨m', z, z', z''⟩ := t_ok162 m1 c1 (y + 1) 0 (0, x4) (0, 0) d1 (by omega)
        refine ⟨m', ?_, z', (fun _ => z''), fun w => by cases w⟩
        rw [z, u_mul3 (by omega) (by omega) (by omega) (by omega)]
        rfl
      by_cases k3 : 3 ≤ y + 1
      · rw [if_pos k3]; exact fin 0
      · have hn : ¬ u_q m1 (m1 251 15) = 47 := fun z => by
          have : u_q m1 (m1 251 15) = -1 := by
            unfold u_q u_nx
            rw [if_neg (fun z => by omega)]
          omega
        rw [if_neg k3, t_pass1 m1 47 d1 hw1, if_neg hn]
        show ∃ m', z_R 163 (m1, 150, [(2, 251), (0, c1), (0, y + 1), (0, 1), (0, x4), (0, 0)], [(0, 0)]) = _ ∧ _
        rw [t_house_150, if_pos rfl]
        exact fin 0
    rw [if_neg k2]
    have nofin : ∃ m', z_R 163 (m1, 30, [(2, 251), (0, c1), (0, y + 1), (0, 0), (0, x4), (0, 0)], []) = some (m', some (0, u_ans (false, c1, y + 1, i1, b1))) ∧ u_after (false, c1, y + 1, i1, b1) (u_rsp m) (u_rsp m') ∧ u_gone (false, c1, y + 1, i1, b1) 0 (m 276) (m' 276) := by
      rw [t_house_30, if_pos rfl]
      obtain ⟨m', z, z'⟩ := t_no162 m1 c1 (y + 1) 0 (0, x4) (0, 0) d1 (by omega) (by omega) (by omega)
      refine ⟨m', ?_, ?_, (fun w => by cases w), fun _ => (z'.row (by decide)).trans (d4.row (by decide))⟩
      · rw [z, d2]
        rfl
      · show u_rsp m' = u_rsp m
        rw [← er]
        unfold u_rsp
        rw [z'.at (p := 251) (k := 1) (by decide), z'.at (p := 251) (k := 2) (by decide), z'.at (p := 251) (k := 3) (by decide)]
    by_cases k3 : 3 ≤ y + 1
    · rw [if_pos k3, if_pos k3]; exact nofin
    rw [if_neg k3, if_neg k3, t_pass1 m1 47 d1 hw1, u_q_sm d4, d2]
    by_cases k4 : u_q m i1 = 47
    · rw [if_pos k4, if_pos k4]
      show ∃ m', z_R 163 (z_up m1 251 15 (i1 + 1), 150, [(2, 251), (0, c1), (0, y + 1), (0, 1), (0, x4), (0, 0)], [(0, 1)]) = _ ∧ _
      have hb := hg i1 (by omega)
      rw [t_house_150, if_neg (by decide)]
      have g1 : (z_up m1 251 15 (i1 + 1)) 251 15 = i1 + 1 := zu_self
      have g2 : (z_up m1 251 15 (i1 + 1)) 256 = b1 := (zu_rowne (by decide)).trans d3
      have g3 : (z_up m1 251 15 (i1 + 1)) 251 16 = -1 := (zu_k (by decide)).trans d1
      have g4 : (z_up m1 251 15 (i1 + 1)) 251 13 = m 251 13 := (zu_k (by decide)).trans e13
      have er' : u_rsp (z_up m1 251 15 (i1 + 1)) = u_rsp m := by
        rw [← er]
        unfold u_rsp
        rw [zu_k (by decide), zu_k (by decide), zu_k (by decide)]
      obtain ⟨m', z, z', z''⟩ := ih (y + 1) c1 c1 (0, x4) (0, 0) (z_up m1 251 15 (i1 + 1)) (u_W_at hw1 (by omega) (by omega)) g3 (by omega) (by omega) (by omega) b.1 b.2.1 (fun z => by omega) (fun _ => rfl)
      rw [u_q_at, u_q_sm d4, g4, g1, g2] at z z' z''
      rw [er'] at z'
      rw [show (z_up m1 251 15 (i1 + 1)) 276 = m 276 from (zu_rowne (by decide)).trans (d4.row (by decide))] at z''
      exact ⟨m', z, z', z''⟩
    · rw [if_neg k4, if_neg k4]
      show ∃ m', z_R 163 (m1, 150, [(2, 251), (0, c1), (0, y + 1), (0, 1), (0, x4), (0, 0)], [(0, 0)]) = _ ∧ _
      rw [t_house_150, if_pos rfl]
      exact nofin
theorem t_house (m : z_M) (h0 : 0 ≤ m 251 8) (h1 : m 251 8 ≤ 80) (hr : ∀ k, k < 80 → -128 ≤ m 254 k ∧ m 254 k ≤ 127) : ∃ m', z_R 163 (m, 0, [(2, 251), (9, 0), (9, 0), (9, 0), (9, 0), (9, 0)], []) = some (m', some (0, u_ans (u_hou (u_nx (u_t m) (m 251 8) 80) (m 251 8) 3 0 3 0 (m 256)))) ∧ u_after (u_hou (u_nx (u_t m) (m 251 8) 80) (m 251 8) 3 0 3 0 (m 256)) (u_rsp m) (u_rsp m') ∧ u_gone (u_hou (u_nx (u_t m) (m 251 8) 80) (m 251 8) 3 0 3 0 (m 256)) 0 (m 276) (m' 276) := by
  rw [t_house_0, t_begin_0]
  have e8 : (z_up m 251 11 0) 251 8 = m 251 8 := zu_k (by decide)
  show ∃ m', z_R 163 (z_up (z_up (z_up (z_up (z_up (z_up m 251 11 0) 251 12 254) 251 13 (m 251 8)) 251 14 80) 251 15 0) 251 16 (-1), 19, [(2, 251), (9, 0), (9, 0), (9, 0), (9, 0), (9, 0)], []) = _ ∧ _
  rw [t_house_19]
  generalize hm : z_up (z_up (z_up (z_up (z_up (z_up (z_up m 251 11 0) 251 12 254) 251 13 (m 251 8)) 251 14 80) 251 15 0) 251 16 (-1)) 251 8 0 = m0
  have r : ∀ p, ¬ p = 251 → m0 p = m p := fun p hp => by rw [← hm, zu_rowne hp, zu_rowne hp, zu_rowne hp, zu_rowne hp, zu_rowne hp, zu_rowne hp, zu_rowne hp]
  have g12 : m0 251 12 = 254 := by rw [← hm, zu_k (by decide), zu_k (by decide), zu_k (by decide), zu_k (by decide), zu_k (by decide), zu_self]
  have g13 : m0 251 13 = m 251 8 := by rw [← hm, zu_k (by decide), zu_k (by decide), zu_k (by decide), zu_k (by decide), zu_self]
  have g14 : m0 251 14 = 80 := by rw [← hm, zu_k (by decide), zu_k (by decide), zu_k (by decide), zu_self]
  have g15 : m0 251 15 = 0 := by rw [← hm, zu_k (by decide), zu_k (by decide), zu_self]
  have g16 : m0 251 16 = -1 := by rw [← hm, zu_k (by decide), zu_self]
  have gq : u_q m0 = u_nx (u_t m) (m 251 8) 80 := by
    unfold u_q u_t
    rw [r 254 (by decide), g13, g14]
  have gr : u_rsp m0 = u_rsp m := by
    unfold u_rsp
    rw [← hm]
    rw [zu_k (by decide), zu_k (by decide), zu_k (by decide), zu_k (by decide), zu_k (by decide), zu_k (by decide), zu_k (by decide)]
    rw [zu_k (by decide), zu_k (by decide), zu_k (by decide), zu_k (by decide), zu_k (by decide), zu_k (by decide), zu_k (by decide)]
    rw [zu_k (by decide), zu_k (by decide), zu_k (by decide), zu_k (by decide), zu_k (by decide), zu_k (by decide), zu_k (by decide)]
  obtain ⟨m', z, z', z''⟩ := t_hou 3 0 0 3 (9, 0) (9, 0) m0 ⟨g12, by omega, by omega, by omega, fun k hk => by rw [r 254 (by decide)]; exact hr k hk⟩ g16 (by decide) (by decide) (by decide) (by decide) (by decide) (fun _ => rfl) (fun z => absurd rfl z)
  rw [gq, g13, g15, r 256 (by decide)] at z z' z''
  rw [gr] at z'
  rw [r 276 (by decide)] at z''
  exact ⟨m', z, z', z''⟩
end
section
/-! THE TEXTS ARE ALIKE, sign by sign: what each call does to that -/
def u_R (m : z_M) : Prop := m 1 1 = m 251 8 ∧ ∀ k : Nat, (k : Int) < m 1 1 → m 2 k = z_and (m 254 k) 255
def Rel_T (σ : m_H) : Prop := u_R (z_m σ)
theorem u_R_sm {m m' : z_M} (h : u_R m) (h1 : m' 1 1 = m 1 1) (h2 : m' 251 8 = m 251 8) (h3 : m' 2 = m 2) (h4 : m' 254 = m 254) : u_R m' := by
  refine ⟨by rw [h1, h2]; exact h.1, fun k hk => ?_⟩
  rw [h3, h4]
  exact h.2 k (by rw [← h1]; exact hk)
theorem u_R_zero {m : z_M} (h1 : m 1 1 = 0) (h2 : m 251 8 = 0) : u_R m := ⟨by rw [h1, h2], fun k hk => by omega⟩
noncomputable def rel_offb (y : Nat) : Bool := md_off y 1 1 && (md_off y 251 8 && (md_offr y 2 && md_offr y 254))
theorem rel_offb_ok {y : Nat} (h : rel_offb y = true) {C : A_C} (hC : C ∈ cs_at y) {T : Int} {ρ : List Int} {σ σ' : m_H} {r : Option Value} (hp : c_post C.2.2.2.2.2.2.2.1 C.2.2.2.2.1 T ρ σ r σ') (hR : Rel_T σ) : Rel_T σ' := by
  obtain ⟨h1, h⟩ := Bool.and_eq_true _ _ |>.mp h
  obtain ⟨h2, h⟩ := Bool.and_eq_true _ _ |>.mp h
  obtain ⟨h3, h4⟩ := Bool.and_eq_true _ _ |>.mp h
  exact u_R_sm hR (md_off_ok h1 hC hp) (md_off_ok h2 hC hp) (md_offr_ok h3 hC hp) (md_offr_ok h4 hC hp)
theorem R_off {c : l_C} (h : (rel_offb c.2.2.1 && (rel_offb c.2.2.2.2.2.2.2 && !c.2.2.2.2.1)) = true) : l_rel2 Rel_T c := by
  obtain ⟨h1, h⟩ := Bool.and_eq_true _ _ |>.mp h
  obtain ⟨h2, h5⟩ := Bool.and_eq_true _ _ |>.mp h
  intro M1 M2 M3 σ σ1 σ2 as v1 v2 C1 C2 ρ1 ρ2 ha hR hh hM1 hC1 hp1 hE1 hC2 hp2 hE2
  exact ⟨rel_offb_ok h2 hC2 hp2 (rel_offb_ok h1 hC1 hp1 hR), fun z => by rw [z] at h5; cases h5⟩
theorem R_zero {c : l_C} (h : (md_zero c.2.2.1 1 1 && (md_zero c.2.2.2.2.2.2.2 251 8 && (md_off c.2.2.2.2.2.2.2 1 1 && !c.2.2.2.2.1))) = true) : l_rel2 Rel_T c := by
  obtain ⟨h1, h⟩ := Bool.and_eq_true _ _ |>.mp h
  obtain ⟨h2, h⟩ := Bool.and_eq_true _ _ |>.mp h
  obtain ⟨h3, h5⟩ := Bool.and_eq_true _ _ |>.mp h
  intro M1 M2 M3 σ σ1 σ2 as v1 v2 C1 C2 ρ1 ρ2 ha hR hh hM1 hC1 hp1 hE1 hC2 hp2 hE2
  exact ⟨u_R_zero ((md_off_ok h3 hC2 hp2).trans (md_zero_ok h1 hC1 hp1)) (md_zero_ok h2 hC2 hp2), fun z => by rw [z] at h5; cases h5⟩
theorem R_end : l_rel2 Rel_T (244, 31, 16, 1, false, 255, 35, 161) := by
  intro M1 M2 M3 σ σ1 σ2 as v1 v2 C1 C2 ρ1 ρ2 ha hR hh hM1 hC1 hp1 hE1 hC2 hp2 hE2
  obtain ⟨a, rfl⟩ := as_one ha
  have hE1 : z_R 16 (z_m σ, 0, [(2, 0), (0, a.toInt)], []) = some (z_m σ1, some (0, v1.toInt)) := z_R_iff.mpr hE1
  have hE2 : z_R 161 (z_m σ1, 0, [(2, 251), (0, a.toInt)], []) = some (z_m σ2, some (0, v2.toInt)) := z_R_iff.mpr hE2
  rw [r_end] at hE1
  rw [q_end] at hE2
  have hR' : u_R (z_m σ) := hR
  show u_R (z_m σ2) ∧ _
  by_cases h : 0 ≤ a.toInt ∧ a.toInt ≤ z_m σ 1 1
  · rw [if_pos h] at hE1
    have hE1 := Option.some.inj hE1
    have k1 : z_m σ1 = z_up (z_m σ) 1 1 a.toInt := (congrArg Prod.fst hE1).symm
    have k2 : v1.toInt = 1 := (congrArg (fun z : z_Q => (z.2.getD (0, 0)).2) hE1).symm
    have k3 : z_m σ1 251 8 = z_m σ 251 8 := by rw [k1]; exact zu_p (by decide)
    have k4 := hR'.1
    rw [if_pos (by omega)] at hE2
    have hE2 := Option.some.inj hE2
    have l1 : z_m σ2 = z_up (z_up (z_m σ1) 251 11 0) 251 8 a.toInt := (congrArg Prod.fst hE2).symm
    have l2 : v2.toInt = 1 := (congrArg (fun z : z_Q => (z.2.getD (0, 0)).2) hE2).symm
    refine ⟨⟨?_, fun k hk => ?_⟩, fun _ => Int32.toInt_inj.mp (by omega)⟩
    · rw [l1, zu_self, zu_p (by decide), zu_p (by decide), k1, zu_self]
    · have e11 : z_m σ2 1 1 = a.toInt := by rw [l1, zu_p (by decide), zu_p (by decide), k1, zu_self]
      have e2 : z_m σ2 2 = z_m σ 2 := by rw [l1, zu_rowne (by decide), zu_rowne (by decide), k1, zu_rowne (by decide)]
      have e4 : z_m σ2 254 = z_m σ 254 := by rw [l1, zu_rowne (by decide), zu_rowne (by decide), k1, zu_rowne (by decide)]
      rw [e2, e4]
      exact hR'.2 k (by omega)
  · rw [if_neg h] at hE1
    have hE1 := Option.some.inj hE1
    have k1 : z_m σ1 = z_m σ := (congrArg Prod.fst hE1).symm
    have k2 : v1.toInt = 0 := (congrArg (fun z : z_Q => (z.2.getD (0, 0)).2) hE1).symm
    have k4 := hR'.1
    rw [if_neg (by rw [k1]; omega)] at hE2
    have hE2 := Option.some.inj hE2
    have l1 : z_m σ2 = z_up (z_m σ1) 251 11 0 := (congrArg Prod.fst hE2).symm
    have l2 : v2.toInt = 0 := (congrArg (fun z : z_Q => (z.2.getD (0, 0)).2) hE2).symm
    refine ⟨?_, fun _ => Int32.toInt_inj.mp (by omega)⟩
    rw [l1, k1]
    exact u_R_sm hR' (zu_p (by decide)) (zu_k (by decide)) (zu_rowne (by decide)) (zu_rowne (by decide))
theorem R_sign : l_rel2 Rel_T (219, 26, 14, 1, false, 230, 30, 160) := by
  intro M1 M2 M3 σ σ1 σ2 as v1 v2 C1 C2 ρ1 ρ2 ha hR hh hM1 hC1 hp1 hE1 hC2 hp2 hE2
  obtain ⟨a, rfl⟩ := as_one ha
  have hE1 : z_R 14 (z_m σ, 0, [(2, 0), (0, a.toInt)], []) = some (z_m σ1, some (0, v1.toInt)) := z_R_iff.mpr hE1
  have hE2 : z_R 160 (z_m σ1, 0, [(2, 251), (0, a.toInt), (9, 0)], []) = some (z_m σ2, some (0, v2.toInt)) := z_R_iff.mpr hE2
  obtain ⟨r1, r2⟩ := z_rng hh (p := 1) (k := 1) (lo := 0) (hi := 80) (by decide) (by decide +kernel) (by decide +kernel)
  have hR' : u_R (z_m σ) := hR
  have k4 := hR'.1
  show u_R (z_m σ2) ∧ _
  by_cases h : z_m σ 1 1 ≤ 76
  · obtain ⟨m1, d1, d2, d3, d4, d5⟩ := r_sign4 (z_m σ) a.toInt r1 h
    rw [d1] at hE1
    have hE1 := Option.some.inj hE1
    have k1 : m1 = z_m σ1 := congrArg Prod.fst hE1
    have k2 : z_m σ 1 1 + 4 = v1.toInt := congrArg (fun z : z_Q => (z.2.getD (0, 0)).2) hE1
    subst k1
    obtain ⟨m2, f1, f2, f3, f4, f5⟩ := q_sign4 (z_m σ1) a.toInt (by omega) (by omega)
    rw [f1] at hE2
    have hE2 := Option.some.inj hE2
    have l1 : m2 = z_m σ2 := congrArg Prod.fst hE2
    have l2 : z_m σ1 251 8 + 4 = v2.toInt := congrArg (fun z : z_Q => (z.2.getD (0, 0)).2) hE2
    subst l1
    refine ⟨⟨by omega, fun k hk => ?_⟩, fun _ => Int32.toInt_inj.mp (by omega)⟩
    rw [f4, f5, d4, d5, d2, ← k4]
    exact u_up4_eq (fun j hj => hR'.2 j (by omega)) (u_sign_eq a (Or.inl rfl)).1 (u_sign_eq a (Or.inr (Or.inl rfl))).1 (u_sign_eq a (Or.inr (Or.inr (Or.inl rfl)))).1 (u_sign_eq a (Or.inr (Or.inr (Or.inr rfl)))).1 (by omega)
  · rw [r_sign0 _ _ h] at hE1
    have hE1 := Option.some.inj hE1
    have k1 : z_m σ = z_m σ1 := congrArg Prod.fst hE1
    have k2 : -1 = v1.toInt := congrArg (fun z : z_Q => (z.2.getD (0, 0)).2) hE1
    rw [← k1, q_sign0 _ _ (by omega) (by omega)] at hE2
    have hE2 := Option.some.inj hE2
    have l1 : z_up (z_m σ) 251 11 0 = z_m σ2 := congrArg Prod.fst hE2
    have l2 : -1 = v2.toInt := congrArg (fun z : z_Q => (z.2.getD (0, 0)).2) hE2
    refine ⟨?_, fun _ => Int32.toInt_inj.mp (by omega)⟩
    rw [← l1]
    exact u_R_sm hR' (zu_p (by decide)) (zu_k (by decide)) (zu_rowne (by decide)) (zu_rowne (by decide))
theorem u_nx_R {m : z_M} (h : u_R m) {s : Int} : u_nx (m 2) (m 1 1) s = u_nx (u_t m) (m 251 8) s := by
  funext i
  unfold u_nx u_t
  rw [← h.1]
  by_cases c : 0 ≤ i ∧ i < m 1 1 ∧ i < s
  · rw [if_pos c, if_pos c]
    exact h.2 _ (by omega)
  · rw [if_neg c, if_neg c]
/-- house: the texts stay alike, the answers are, and columns, storeys, persons come alike or stay -/
theorem H_house (M1 M2 M3 : Int) (σ σ1 σ2 : m_H) (as : List Int32) (v1 v2 : Int32) (C1 C2 : A_C) (ρ1 ρ2 : List Int) (ha : as.length = 0) (hR : Rel_T σ) (hh : h_ok M1 σ) (hC1 : C1 ∈ cs_at 18) (hp1 : c_post C1.2.2.2.2.2.2.2.1 C1.2.2.2.2.1 M2 ρ1 σ (some (.int v1)) σ1) (hE1 : z_R 18 (z_m σ, 0, [(2, 0), (9, 0), (9, 0)], []) = some (z_m σ1, some (0, v1.toInt))) (hC2 : C2 ∈ cs_at 163) (hp2 : c_post C2.2.2.2.2.2.2.2.1 C2.2.2.2.2.1 M3 ρ2 σ1 (some (.int v2)) σ2) (hE2 : z_R 163 (z_m σ1, 0, [(2, 251), (9, 0), (9, 0), (9, 0), (9, 0), (9, 0)], []) = some (z_m σ2, some (0, v2.toInt))) :
    (Rel_T σ2 ∧ v1 = v2) ∧ ∃ b : Option (Int × Int × Int), u_csp (z_m σ2) = b.getD (u_csp (z_m σ)) ∧ u_rsp (z_m σ2) = b.getD (u_rsp (z_m σ)) ∧ (b = none → z_m σ2 31 = z_m σ 31 ∧ z_m σ2 276 = z_m σ 276) ∧ (¬ b = none → (z_m σ2 31 0 = -1 ∧ z_m σ2 31 1 = -1) ∧ z_m σ2 276 0 = 0 ∧ z_m σ2 276 1 = 0) := by
  obtain ⟨r1, r2⟩ := z_rng hh (p := 1) (k := 1) (lo := 0) (hi := 80) (by decide) (by decide +kernel) (by decide +kernel)
  have hR' : u_R (z_m σ) := hR
  have o1 : z_m σ1 251 8 = z_m σ 251 8 := md_off_ok (y := 18) (by decide +kernel) hC1 hp1
  have o2 : z_m σ1 254 = z_m σ 254 := md_offr_ok (y := 18) (by decide +kernel) hC1 hp1
  have rb : ∀ k, k < 80 → -128 ≤ z_m σ 254 k ∧ z_m σ 254 k ≤ 127 := fun k hk => z_rng hh (p := 254) (k := k) (lo := -128) (hi := 127) (by decide) (by rw [show h_ln 254 = 80 by decide +kernel]; exact hk) (h_ty_254 k)
  obtain ⟨m1, d1, d2, d3⟩ := c_house (z_m σ) r1 r2
  rw [d1] at hE1
  have k1 : m1 = z_m σ1 := congrArg Prod.fst (Option.some.inj hE1)
  have k2 := (congrArg (fun z : z_Q => (z.2.getD (0, 0)).2) (Option.some.inj hE1)).symm
  obtain ⟨m2, f1, f2, f3⟩ := t_house (z_m σ1) (by rw [o1, ← hR'.1]; exact r1) (by rw [o1, ← hR'.1]; exact r2) (fun k hk => by rw [o2]; exact rb k hk)
  rw [f1] at hE2
  have l1 : m2 = z_m σ2 := congrArg Prod.fst (Option.some.inj hE2)
  have l2 := (congrArg (fun z : z_Q => (z.2.getD (0, 0)).2) (Option.some.inj hE2)).symm
  have eg : u_nx (u_t (z_m σ1)) (z_m σ1 251 8) 80 = u_nx (z_m σ 2) (z_m σ 1 1) 80 := by
    rw [u_nx_R hR']
    unfold u_t
    rw [o1, o2]
  simp only [Option.getD_some] at k2 l2
  rw [eg, o1, ← hR'.1] at l2 f2 f3
  have ee := u_hou_e (g := u_nx (z_m σ 2) (z_m σ 1 1) 80) (n := z_m σ 1 1) 3 0 3 0 (z_m σ 9) (z_m σ1 256)
  rw [k1] at d2 d3
  rw [l1] at f2 f3
  refine ⟨⟨u_R_zero ((md_off_ok (y := 163) (by decide +kernel) hC2 hp2).trans (md_zero_ok (y := 18) (by decide +kernel) hC1 hp1)) (md_zero_ok (y := 163) (by decide +kernel) hC2 hp2), Int32.toInt_inj.mp (by rw [k2, l2]; exact ee.ans)⟩, ?_⟩
  have n1 : u_csp (z_m σ2) = u_csp (z_m σ1) := by
    unfold u_csp
    rw [md_off_ok (y := 163) (p := 3) (k := 8) (by decide +kernel) hC2 hp2, md_off_ok (y := 163) (p := 3) (k := 9) (by decide +kernel) hC2 hp2, md_off_ok (y := 163) (p := 3) (k := 11) (by decide +kernel) hC2 hp2]
  have n2 : u_rsp (z_m σ1) = u_rsp (z_m σ) := by
    unfold u_rsp
    rw [md_off_ok (y := 18) (p := 251) (k := 1) (by decide +kernel) hC1 hp1, md_off_ok (y := 18) (p := 251) (k := 2) (by decide +kernel) hC1 hp1, md_off_ok (y := 18) (p := 251) (k := 3) (by decide +kernel) hC1 hp1]
  have n3 : z_m σ2 31 = z_m σ1 31 := md_offr_ok (y := 163) (by decide +kernel) hC2 hp2
  have n4 : z_m σ1 276 = z_m σ 276 := md_offr_ok (y := 18) (by decide +kernel) hC1 hp1
  unfold u_gone at d3 f3
  rw [← ee.1] at f3
  rw [n4] at f3
  rw [n3]
  unfold u_after at d2 f2
  rw [n2, ← ee.1, ← ee.2.1, ← ee.2.2.1] at f2
  rw [n1, d2, f2]
  by_cases c : (u_hou (u_nx (z_m σ 2) (z_m σ 1 1) 80) (z_m σ 1 1) 3 0 3 0 (z_m σ 9)).1 = true
  · exact ⟨some ((u_hou (u_nx (z_m σ 2) (z_m σ 1 1) 80) (z_m σ 1 1) 3 0 3 0 (z_m σ 9)).2.1, (u_hou (u_nx (z_m σ 2) (z_m σ 1 1) 80) (z_m σ 1 1) 3 0 3 0 (z_m σ 9)).2.2.1, 0), by rw [if_pos c]; rfl, by rw [if_pos c]; rfl, (fun z => by cases z), fun _ => ⟨d3.1 c, f3.1 c⟩⟩
  · exact ⟨none, by rw [if_neg c]; rfl, by rw [if_neg c]; rfl, (fun _ => ⟨d3.2 (Bool.eq_false_iff.mpr c), f3.2 (Bool.eq_false_iff.mpr c)⟩), fun z => absurd rfl z⟩
theorem R_house : l_rel2 Rel_T (263, 36, 18, 0, false, 268, 40, 163) := by
  intro M1 M2 M3 σ σ1 σ2 as v1 v2 C1 C2 ρ1 ρ2 ha hR hh hM1 hC1 hp1 hE1 hC2 hp2 hE2
  obtain rfl := as_nil ha
  have z := (H_house M1 M2 M3 σ σ1 σ2 [] v1 v2 C1 C2 ρ1 ρ2 rfl hR hh hC1 hp1 (z_R_iff.mpr hE1) hC2 hp2 (z_R_iff.mpr hE2)).1
  exact ⟨z.1, fun _ => z.2⟩
theorem R_rule (h0 : ((289, 45, 39, 0, false, 294, 48, 175) : l_C).2.2.2.2.1 = false) : l_rel2 Rel_T (289, 45, 39, 0, false, 294, 48, 175) := by
  intro M1 M2 M3 σ σ1 σ2 as v1 v2 C1 C2 ρ1 ρ2 ha hR hh hM1 hC1 hp1 hE1 hC2 hp2 hE2
  obtain rfl := as_nil ha
  have hE1 : z_R 39 (z_m σ, 0, [(2, 0), (9, 0)], []) = some (z_m σ1, some (0, v1.toInt)) := z_R_iff.mpr hE1
  exact ⟨u_R_zero ((md_off_ok (y := 175) (by decide +kernel) hC2 hp2).trans (r_rule0 _ hE1)) (md_zero_ok (y := 175) (by decide +kernel) hC2 hp2), fun z => absurd (h0.symm.trans z) (by decide)⟩
theorem R_start : ∀ σ, xs_is σ → Rel_T σ := fun σ h => by
  have := xs_ck_ok (f := fun σ => match c_at σ 1 1, c_at σ 251 8 with
    | some v, some w => i_eq (z_vn v) 0 && i_eq (z_vn w) 0
    | _, _ => false) (by decide +kernel) h
  split at this
  · rename_i v w e1 e2
    obtain ⟨a1, a2⟩ := Bool.and_eq_true _ _ |>.mp this
    refine u_R_zero ?_ ?_
    · unfold z_m
      rw [e1]
      exact i_eq_iff.mp a1
    · unfold z_m
      rw [e2]
      exact i_eq_iff.mp a2
  · cases this
theorem R3_off {y n : Nat} (h : rel_offb y = true) : l_rel3 Rel_T y n := by
  intro M1 M2 M3 σ σ1 σ2 as v C2 ρ2 ha hR hh hM1 hf hh1 hC2 hp2 hE2
  have hz : ∀ p k, (¬ p = 6 ∧ ¬ p = 7 ∧ ¬ p = 278) → z_m σ1 p k = z_m σ p k := fun p k hp => by
    have e := hf p k (fun ⟨q, q1, q2, _⟩ => by
      simp only [List.mem_cons, List.not_mem_nil, or_false] at q1
      rcases q1 with rfl | rfl | rfl <;> simp only at q2 <;> omega)
    unfold z_m
    rw [e]
  have hr : ∀ p, (¬ p = 6 ∧ ¬ p = 7 ∧ ¬ p = 278) → z_m σ1 p = z_m σ p := fun p hp => funext fun k => hz p k hp
  exact rel_offb_ok h hC2 hp2 (u_R_sm hR (hz 1 1 (by decide)) (hz 251 8 (by decide)) (hr 2 (by decide)) (hr 254 (by decide)))
/-! CELLS THAT ARE ALIKE: place, cell, place, cell, how many -/
abbrev u_X : Type := Nat × Nat × Nat × Nat × Nat
def u_E (L : List u_X) (m : z_M) : Prop := ∀ e ∈ L, ∀ j, j < e.2.2.2.2 → m e.1 (e.2.1 + j) = m e.2.2.1 (e.2.2.2.1 + j)
theorem u_E_nil {m : z_M} : u_E [] m := fun e h => absurd h List.not_mem_nil
theorem u_E_cons {e : u_X} {L : List u_X} {m : z_M} : u_E (e :: L) m ↔ (∀ j, j < e.2.2.2.2 → m e.1 (e.2.1 + j) = m e.2.2.1 (e.2.2.2.1 + j)) ∧ u_E L m := by
  constructor
  · intro h
    exact ⟨h e List.mem_cons_self, fun e' h' => h e' (List.mem_cons_of_mem _ h')⟩
  · rintro ⟨h1, h2⟩ e' h'
    rcases List.mem_cons.mp h' with rfl | h'
    · exact h1
    · exact h2 e' h'
theorem u_E_one {p k p' k' : Nat} {L : List u_X} {m : z_M} (h1 : m p k = m p' k') (h2 : u_E L m) : u_E ((p, k, p', k', 1) :: L) m := u_E_cons.mpr ⟨fun j hj => by
  obtain rfl : j = 0 := by simp only at hj; omega
  exact h1, h2⟩
noncomputable def md_offg (y p k n : Nat) : Bool := (cs_at y).all fun C => C.2.2.2.2.1.all fun q => !(Nat.beq q.1 p && (Nat.blt q.2.1 (k + n) && Nat.ble k q.2.2))
theorem md_offg_ok {y p k n : Nat} (h : md_offg y p k n = true) {C : A_C} (hC : C ∈ cs_at y) {alts : List A_A} {T : Int} {ρ : List Int} {σ σ' : m_H} {r : Option Value} (hp : c_post alts C.2.2.2.2.1 T ρ σ r σ') {j : Nat} (hj : j < n) : z_m σ' p (k + j) = z_m σ p (k + j) := by
  have e := (c_post_h hp).2 p (k + j) (fun ⟨q, q1, q2, q3, q4⟩ => by
    have := List.all_eq_true.mp (List.all_eq_true.mp h C hC) q q1
    have hb : Nat.beq p p = true := Nat.beq_refl p
    have h2 : Nat.blt q.2.1 (k + n) = true := Nat.ble_eq_true_of_le (show q.2.1 + 1 ≤ k + n by omega)
    rw [q2, hb, h2, Nat.ble_eq_true_of_le (show k ≤ q.2.2 by omega)] at this
    cases this)
  unfold z_m
  rw [e]
noncomputable def E_off (y : Nat) (L : List u_X) : Bool := L.all fun e => md_offg y e.1 e.2.1 e.2.2.2.2 && md_offg y e.2.2.1 e.2.2.2.1 e.2.2.2.2
theorem E_off_ok {y : Nat} {L : List u_X} (h : E_off y L = true) {C : A_C} (hC : C ∈ cs_at y) {alts : List A_A} {T : Int} {ρ : List Int} {σ σ' : m_H} {r : Option Value} (hp : c_post alts C.2.2.2.2.1 T ρ σ r σ') (hE : u_E L (z_m σ)) : u_E L (z_m σ') := fun e he j hj => by
  obtain ⟨h1, h2⟩ := Bool.and_eq_true _ _ |>.mp (List.all_eq_true.mp h e he)
  rw [md_offg_ok h1 hC hp hj, md_offg_ok h2 hC hp hj]
  exact hE e he j hj
/-- cells that no call of the case changes stay alike -/
theorem E_part {A : m_H → Prop} {L : List u_X} {c : l_C} (h1 : l_rel2 A c) (h : (E_off c.2.2.1 L && E_off c.2.2.2.2.2.2.2 L) = true) : l_rel2 (fun σ => A σ ∧ u_E L (z_m σ)) c := by
  obtain ⟨g1, g2⟩ := Bool.and_eq_true _ _ |>.mp h
  intro M1 M2 M3 σ σ1 σ2 as v1 v2 C1 C2 ρ1 ρ2 ha hR hh hM1 hC1 hp1 hE1 hC2 hp2 hE2
  have z := h1 M1 M2 M3 σ σ1 σ2 as v1 v2 C1 C2 ρ1 ρ2 ha hR.1 hh hM1 hC1 hp1 hE1 hC2 hp2 hE2
  exact ⟨⟨z.1, E_off_ok g2 hC2 hp2 (E_off_ok g1 hC1 hp1 hR.2)⟩, z.2⟩
/-- cells that room, person, row of the class leave -/
def E_far (L : List u_X) : Bool := L.all fun e => !(Nat.beq e.1 6 || (Nat.beq e.1 7 || (Nat.beq e.1 278 || (Nat.beq e.2.2.1 6 || (Nat.beq e.2.2.1 7 || Nat.beq e.2.2.1 278)))))
theorem E_part3 {A : m_H → Prop} {L : List u_X} {y n : Nat} (h1 : l_rel3 A y n) (h : (E_off y L && E_far L) = true) : l_rel3 (fun σ => A σ ∧ u_E L (z_m σ)) y n := by
  obtain ⟨g1, g2⟩ := Bool.and_eq_true _ _ |>.mp h
  intro M1 M2 M3 σ σ1 σ2 as v C2 ρ2 ha hR hh hM1 hf hh1 hC2 hp2 hE2
  have hz : ∀ p k, (¬ p = 6 ∧ ¬ p = 7 ∧ ¬ p = 278) → z_m σ1 p k = z_m σ p k := fun p k hp => by
    have e := hf p k (fun ⟨q, q1, q2, _⟩ => by
      simp only [List.mem_cons, List.not_mem_nil, or_false] at q1
      rcases q1 with rfl | rfl | rfl <;> simp only at q2 <;> omega)
    unfold z_m
    rw [e]
  refine ⟨h1 M1 M2 M3 σ σ1 σ2 as v C2 ρ2 ha hR.1 hh hM1 hf hh1 hC2 hp2 hE2, E_off_ok g1 hC2 hp2 fun e he j hj => ?_⟩
  have hb := List.all_eq_true.mp g2 e he
  have hn : ¬ e.1 = 6 ∧ ¬ e.1 = 7 ∧ ¬ e.1 = 278 ∧ ¬ e.2.2.1 = 6 ∧ ¬ e.2.2.1 = 7 ∧ ¬ e.2.2.1 = 278 := by
    refine ⟨fun z => ?_, fun z => ?_, fun z => ?_, fun z => ?_, fun z => ?_, fun z => ?_⟩ <;> (rw [z] at hb; simp at hb)
  rw [hz _ _ ⟨hn.1, hn.2.1, hn.2.2.1⟩, hz _ _ ⟨hn.2.2.2.1, hn.2.2.2.2.1, hn.2.2.2.2.2⟩]
  exact hR.2 e he j hj
/-- alike, as the cells stand -/
noncomputable def E_ck (L : List u_X) (σ : m_H) : Bool := L.all fun e => (List.range e.2.2.2.2).all fun j => match c_at σ e.1 (e.2.1 + j), c_at σ e.2.2.1 (e.2.2.2.1 + j) with
  | some v, some w => i_eq (z_vn v) (z_vn w)
  | _, _ => false
theorem E_ck_ok {L : List u_X} {σ : m_H} (h : E_ck L σ = true) : u_E L (z_m σ) := fun e he j hj => by
  have := List.all_eq_true.mp (List.all_eq_true.mp h e he) j (List.mem_range.mpr hj)
  split at this
  · rename_i v w e1 e2
    unfold z_m
    rw [e1, e2]
    exact i_eq_iff.mp this
  · cases this
end
section
/-! SHEET in plain numbers -/
def u_hs (w h a : Int) : Int := if a < 0 then 0 else if 9 ≤ a then 0 else if w ≤ z_rem a 3 then 0 else if h ≤ z_div a 3 then 0 else 1
theorem c_hasv (m : z_M) (a : Int) : z_R 32 (m, 0, [(2, 3), (0, a)], []) = some (m, some (0, u_hs (m 3 8) (m 3 9) a)) := by
  rw [s_has_0]
  unfold u_hs
  by_cases h1 : a < 0
  · rw [if_pos h1, if_pos h1]
  rw [if_neg h1, if_neg h1]
  by_cases h2 : 9 ≤ a
  · rw [if_pos h2, if_pos h2]
  rw [if_neg h2, if_neg h2]
  by_cases h3 : m 3 8 ≤ z_rem a 3
  · rw [if_pos h3, if_pos h3]
  rw [if_neg h3, if_neg h3]
  by_cases h4 : m 3 9 ≤ z_div a 3
  · rw [if_pos h4, if_pos h4]
  · rw [if_neg h4, if_neg h4]
theorem t_roomv (m : z_M) (a : Int) : z_R 171 (m, 0, [(2, 251), (0, a)], []) = some (m, some (0, u_hs (m 251 1) (m 251 2) a)) := by
  rw [t_room_0, t_in]
  show z_R 171 (m, 7, [(2, 251), (0, a)], [(0, if 0 ≤ a ∧ a ≤ 8 then 1 else 0)]) = _
  rw [t_room_7]
  unfold u_hs
  by_cases h1 : a < 0
  · rw [if_neg (show ¬ (0 ≤ a ∧ a ≤ 8) by omega), if_pos rfl, if_pos h1]
  rw [if_neg h1]
  by_cases h2 : 9 ≤ a
  · rw [if_neg (show ¬ (0 ≤ a ∧ a ≤ 8) by omega), if_pos rfl, if_pos h2]
  rw [if_neg h2, if_pos (show 0 ≤ a ∧ a ≤ 8 by omega), if_neg (by decide)]
  by_cases h3 : m 251 1 ≤ z_rem a 3
  · rw [if_pos h3, if_pos h3]
  rw [if_neg h3, if_neg h3]
  by_cases h4 : m 251 2 ≤ z_div a 3
  · rw [if_pos h4, if_pos h4]
  · rw [if_neg h4, if_neg h4]
def u_cap (e : Int) : Int := if 0 < if e < 99 then e else 99 then if e < 99 then e else 99 else 0
theorem u_cap_b (e : Int) : 0 ≤ u_cap e ∧ u_cap e ≤ 99 := by
  unfold u_cap
  by_cases h : e < 99
  · rw [if_pos h]
    by_cases h' : 0 < e
    · rw [if_pos h']; omega
    · rw [if_neg h']; omega
  · rw [if_neg h, if_pos (by decide)]; omega
def u_conv (kind v : Int) : Int := if kind = 0 then z_i2b v else if kind = 1 then z_i2s v else v
theorem c_entry (m : z_M) (a b : Int) : z_R 57 (m, 0, [(0, a), (0, b), (9, 0)], []) = some (m, some (0, u_cap (u_conv a b))) := by
  rw [s_entry_0]
  unfold u_conv
  by_cases h1 : a = 0
  · rw [if_pos h1, if_pos h1]; rfl
  rw [if_neg h1, if_neg h1]
  by_cases h2 : a = 1
  · rw [if_pos h2, if_pos h2]; rfl
  · rw [if_neg h2, if_neg h2]; rfl
/-- what a room gets -/
def u_val (kind n told v : Int) : Int := if kind = 3 ∨ n ≤ told then 0 else u_cap (u_conv kind v)
theorem u_val_b (kind n told v : Int) : 0 ≤ u_val kind n told v ∧ u_val kind n told v ≤ 99 := by
  unfold u_val
  by_cases h : kind = 3 ∨ n ≤ told
  · rw [if_pos h]; omega
  · rw [if_neg h]; exact u_cap_b _
/-- the sum -/
def u_sh (w h kind n a d : Int) : Nat → Int → Int → Int → Int
  | 0, _, _, s => s
  | f + 1, r, k, s => if u_hs w h r = 0 then u_sh w h kind n a d f (r + 1) k s else u_sh w h kind n a d f (r + 1) (k + 1) (s + u_val kind n k (z_add a (z_mul k d)))
theorem c_sh {w h kind n a d x5 : Int} (hx : x5 = if kind = 3 then 1 else 0) : ∀ (f : Nat) (r k s : Int) (v9 : z_V) (m : z_M), 0 ≤ r → r + (f : Int) = 9 → 0 ≤ k → k ≤ r → 0 ≤ s → s ≤ 99 * k → m 3 8 = w → m 3 9 = h → ∃ m', z_R 56 (m, 50, [(2, 0), (0, kind), (0, n), (0, a), (0, d), (0, x5), (0, k), (0, s), (0, r), v9], []) = some (m', some (0, if kind = 3 then -3 else u_sh w h kind n a d f r k s)) := by
  intro f
  induction f with
  | zero =>
    intro r k s v9 m h0 h1 h2 h3 h4 h5 hw hh
    rw [s_sheet_50, if_pos (by omega)]
    by_cases c : kind = 3
    · rw [if_pos c] at hx
      rw [if_pos c, if_neg (by omega)]; exact ⟨_, rfl⟩
    · rw [if_neg c] at hx
      rw [if_neg c, if_pos hx]; exact ⟨_, rfl⟩
  | succ f ih =>
    intro r k s v9 m h0 h1 h2 h3 h4 h5 hw hh
    rw [s_sheet_50, if_neg (by omega), c_hasv, hw, hh]
    show ∃ m', z_R 56 (m, 66, [(2, 0), (0, kind), (0, n), (0, a), (0, d), (0, x5), (0, k), (0, s), (0, r), v9], [(0, u_hs w h r)]) = _
    rw [s_sheet_66, z_add_eq (x := r) (by omega) (by omega)]
    unfold u_sh
    by_cases c : u_hs w h r = 0
    · rw [if_pos c, if_pos c]
      exact ih (r + 1) k s v9 m (by omega) (by omega) h2 (by omega) h4 h5 hw hh
    rw [if_neg c, if_neg c]
    have hb := u_val_b kind n k (z_add a (z_mul k d))
    have go : ∀ u : Int, u = u_val kind n k (z_add a (z_mul k d)) → ∃ m', z_R 56 (m, 95, [(2, 0), (0, kind), (0, n), (0, a), (0, d), (0, x5), (0, k), (0, s), (0, r), v9], [(0, u)]) = some (m', some (0, if kind = 3 then -3 else u_sh w h kind n a d f (r + 1) (k + 1) (s + u_val kind n k (z_add a (z_mul k d))))) := by
      intro u hu
      rw [s_sheet_95, if_pos ⟨h0, by omega⟩, z_add_eq (x := k) (by omega) (by omega), z_add_eq (x := s) (by omega) (by omega), z_add_eq (x := r) (by omega) (by omega), hu]
      exact ih (r + 1) (k + 1) _ _ _ (by omega) (by omega) (by omega) (by omega) (by omega) (by omega) ((zu_p (by decide)).trans hw) ((zu_p (by decide)).trans hh)
    by_cases c3 : kind = 3
    · rw [if_pos c3] at hx
      rw [if_neg (by omega)]
      exact go 0 (by unfold u_val; rw [if_pos (Or.inl c3)])
    · rw [if_neg c3] at hx
      rw [if_pos hx]
      by_cases c4 : n ≤ k
      · rw [if_pos c4]
        exact go 0 (by unfold u_val; rw [if_pos (Or.inr c4)])
      · rw [if_neg c4, c_entry]
        show ∃ m', z_R 56 (m, 91, [(2, 0), (0, kind), (0, n), (0, a), (0, d), (0, x5), (0, k), (0, s), (0, r), v9], [(0, u_cap (u_conv kind (z_add a (z_mul k d))))]) = _
        rw [s_sheet_91]
        exact go _ (by unfold u_val; rw [if_neg (fun z => z.elim c3 c4)])
/-- what sheet answers -/
def u_sheet (w h kind n a d : Int) : Int := if kind < 0 then -1 else if 3 < kind then -1 else if 9 < n then -1 else if kind = 3 then -3 else if n < 0 then -2 else u_sh w h kind n a d 9 0 0 0
theorem c_sheet (m : z_M) (kind n a d : Int) : ∃ m', z_R 56 (m, 0, [(2, 0), (0, kind), (0, n), (0, a), (0, d), (9, 0), (9, 0), (9, 0), (9, 0), (9, 0)], []) = some (m', some (0, u_sheet (m 3 8) (m 3 9) kind n a d)) := by
  rw [s_sheet_0]
  unfold u_sheet
  by_cases h1 : kind < 0
  · rw [if_pos h1, if_pos h1]; exact ⟨_, rfl⟩
  rw [if_neg h1, if_neg h1]
  by_cases h2 : 3 < kind
  · rw [if_pos h2, if_pos h2]; exact ⟨_, rfl⟩
  rw [if_neg h2, if_neg h2]
  by_cases h3 : 9 < n
  · rw [if_neg (by omega), if_pos h3]; exact ⟨_, rfl⟩
  rw [if_pos (by omega), if_neg h3]
  by_cases h4 : kind = 3
  · rw [if_pos h4, if_pos h4, s_sheet_41]
    obtain ⟨m', e⟩ := c_sh (w := m 3 8) (h := m 3 9) (kind := kind) (n := n) (a := a) (d := d) (x5 := 1) (by rw [if_pos h4]) 9 0 0 0 (9, 0) m (by decide) (by decide) (by decide) (by decide) (by decide) (by decide) rfl rfl
    rw [if_pos h4] at e
    exact ⟨m', e⟩
  rw [if_neg h4, if_neg h4]
  by_cases h5 : n < 0
  · rw [if_neg (by omega), if_pos h5]; exact ⟨_, rfl⟩
  rw [if_pos (by omega), if_neg h5, s_sheet_41]
  obtain ⟨m', e⟩ := c_sh (w := m 3 8) (h := m 3 9) (kind := kind) (n := n) (a := a) (d := d) (x5 := 0) (by rw [if_neg h4]) 9 0 0 0 (9, 0) m (by decide) (by decide) (by decide) (by decide) (by decide) (by decide) rfl rfl
  rw [if_neg h4] at e
  exact ⟨m', e⟩
theorem u_step {a k d : Int} : z_add (z_add a (z_mul k d)) d = z_add a (z_mul (k + 1) d) := by
  unfold z_add z_mul
  simp only [Int32.ofInt_toInt]
  rw [Int32.ofInt_add, Int32.add_mul, Int32.add_assoc]
  rw [show Int32.ofInt 1 = 1 from rfl, Int32.one_mul]
theorem t_sh59 (m : z_M) (kind n a d s v k r : Int) (v9 : z_V) {u : Int} (hu : ¬ u = 0) : z_R 194 (m, 59, [(2, 251), (0, kind), (0, n), (0, a), (0, d), (0, s), (0, v), (0, k), (0, r), v9], [(0, u)]) = z_R 194 (m, 122, [(2, 251), (0, kind), (0, n), (0, a), (0, d), (0, s), (0, v), (0, k), (0, r), (0, u_conv kind v)], [(0, u_val kind n k v), (0, r), (2, 252)]) := by
  rw [t_sheet_59, if_neg hu]
  unfold u_val
  by_cases c0 : kind = 0
  · have e : u_conv kind v = z_i2b v := by unfold u_conv; rw [if_pos c0]
    rw [if_pos c0, if_neg (by omega), e]
    by_cases c4 : k < n
    · rw [if_pos c4, if_neg (show ¬ (kind = 3 ∨ n ≤ k) by omega)]; rfl
    · rw [if_neg c4, if_pos (show kind = 3 ∨ n ≤ k by omega)]
  rw [if_neg c0]
  by_cases c1 : kind = 1
  · have e : u_conv kind v = z_i2s v := by unfold u_conv; rw [if_neg c0, if_pos c1]
    rw [if_pos c1, if_neg (by omega), e]
    by_cases c4 : k < n
    · rw [if_pos c4, if_neg (show ¬ (kind = 3 ∨ n ≤ k) by omega)]; rfl
    · rw [if_neg c4, if_pos (show kind = 3 ∨ n ≤ k by omega)]
  rw [if_neg c1]
  have e : u_conv kind v = v := by unfold u_conv; rw [if_neg c0, if_neg c1]
  rw [e]
  by_cases c3 : kind = 3
  · rw [if_pos c3, if_pos (Or.inl c3)]
  rw [if_neg c3]
  by_cases c4 : k < n
  · rw [if_pos c4, if_neg (show ¬ (kind = 3 ∨ n ≤ k) by omega)]; rfl
  · rw [if_neg c4, if_pos (show kind = 3 ∨ n ≤ k by omega)]
theorem t_sh {w h kind n a d : Int} : ∀ (f : Nat) (r k s : Int) (v9 : z_V) (m : z_M), 0 ≤ r → r + (f : Int) = 9 → 0 ≤ k → k ≤ r → 0 ≤ s → s ≤ 99 * k → m 251 1 = w → m 251 2 = h → ∃ m', z_R 194 (m, 46, [(2, 251), (0, kind), (0, n), (0, a), (0, d), (0, s), (0, z_add a (z_mul k d)), (0, k), (0, r), v9], []) = some (m', some (0, if kind = 3 then -3 else u_sh w h kind n a d f r k s)) := by
  intro f
  induction f with
  | zero =>
    intro r k s v9 m h0 h1 h2 h3 h4 h5 hw hh
    rw [t_sheet_46, if_pos (by omega)]
    by_cases c : kind = 3
    · rw [if_pos c, if_pos c]; exact ⟨_, rfl⟩
    · rw [if_neg c, if_neg c]; exact ⟨_, rfl⟩
  | succ f ih =>
    intro r k s v9 m h0 h1 h2 h3 h4 h5 hw hh
    rw [t_sheet_46, if_neg (by omega), t_roomv, hw, hh]
    show ∃ m', z_R 194 (m, 59, [(2, 251), (0, kind), (0, n), (0, a), (0, d), (0, s), (0, z_add a (z_mul k d)), (0, k), (0, r), v9], [(0, u_hs w h r)]) = _
    unfold u_sh
    by_cases c : u_hs w h r = 0
    · rw [t_sheet_59, if_pos c, if_pos c, t_sheet_145, z_add_eq (x := r) (by omega) (by omega)]
      exact ih (r + 1) k s v9 m (by omega) (by omega) h2 (by omega) h4 h5 hw hh
    have hb := u_val_b kind n k (z_add a (z_mul k d))
    rw [t_sh59 _ _ _ _ _ _ _ _ _ _ c, if_neg c, t_sheet_122, if_pos ⟨h0, by omega⟩, if_pos ⟨h0, by omega⟩, zu_self, t_sheet_145, z_add_eq (x := s) (by omega) (by omega), z_add_eq (x := k) (by omega) (by omega), z_add_eq (x := r) (by omega) (by omega), u_step]
    exact ih (r + 1) (k + 1) _ _ _ (by omega) (by omega) (by omega) (by omega) (by omega) (by omega) ((zu_p (by decide)).trans hw) ((zu_p (by decide)).trans hh)
theorem t_sheet (m : z_M) (kind n a d : Int) (ha : (Int32.ofInt a).toInt = a) : ∃ m', z_R 194 (m, 0, [(2, 251), (0, kind), (0, n), (0, a), (0, d), (9, 0), (9, 0), (9, 0), (9, 0), (9, 0)], []) = some (m', some (0, u_sheet (m 251 1) (m 251 2) kind n a d)) := by
  rw [t_sheet_0, t_in]
  show ∃ m', z_R 194 (z_up m 251 11 0, 11, [(2, 251), (0, kind), (0, n), (0, a), (0, d), (9, 0), (9, 0), (9, 0), (9, 0), (9, 0)], [(0, if 0 ≤ kind ∧ kind ≤ 3 then 1 else 0)]) = _
  rw [t_sheet_11]
  unfold u_sheet
  by_cases h1 : kind < 0
  · rw [if_neg (show ¬ (0 ≤ kind ∧ kind ≤ 3) by omega), if_pos rfl, if_pos h1]; exact ⟨_, rfl⟩
  rw [if_neg h1]
  by_cases h2 : 3 < kind
  · rw [if_neg (show ¬ (0 ≤ kind ∧ kind ≤ 3) by omega), if_pos rfl, if_pos h2]; exact ⟨_, rfl⟩
  rw [if_neg h2, if_pos (show 0 ≤ kind ∧ kind ≤ 3 by omega), if_neg (by decide)]
  by_cases h3 : 9 < n
  · rw [if_neg (by omega), if_pos h3]; exact ⟨_, rfl⟩
  rw [if_pos (by omega), if_neg h3]
  have hz : z_add a (z_mul 0 d) = a := by
    have e0 : z_mul 0 d = 0 := by unfold z_mul; rw [show Int32.ofInt 0 = 0 from rfl, Int32.zero_mul]; rfl
    rw [e0]
    unfold z_add
    rw [show Int32.ofInt 0 = 0 from rfl, Int32.add_zero, ha]
  obtain ⟨m', e⟩ := t_sh (w := m 251 1) (h := m 251 2) (kind := kind) (n := n) (a := a) (d := d) 9 0 0 0 (9, 0) (z_up m 251 11 0) (by decide) (by decide) (by decide) (by decide) (by decide) (by decide) (zu_k (by decide)) (zu_k (by decide))
  rw [hz] at e
  by_cases h4 : kind = 3
  · rw [if_pos (by omega), if_pos h4]
    rw [if_pos h4] at e
    exact ⟨m', e⟩
  rw [if_neg (by omega), if_neg h4]
  rw [if_neg h4] at e
  by_cases h5 : n < 0
  · rw [if_neg (by omega), if_pos h5]; exact ⟨_, rfl⟩
  rw [if_pos (by omega), if_neg h5]
  exact ⟨m', e⟩
end
section
/-! PEOPLE in plain numbers -/
def u_d6 (g : Int → Int) : Nat → Int → Bool × Int
  | 0, i => (true, i)
  | f + 1, i => if u_dg (g i) = -1 then (false, i) else u_d6 g f (i + 1)
theorem u_d6_b {g : Int → Int} (hg : u_gb g) : ∀ (f : Nat) (i : Int), 0 ≤ i → i ≤ 80 → i ≤ (u_d6 g f i).2 ∧ (u_d6 g f i).2 ≤ 80 ∧ ((u_d6 g f i).1 = true → (u_d6 g f i).2 = i + (f : Int)) := by
  intro f
  induction f with
  | zero => intro i h0 h1; exact ⟨Int.le_refl _, h1, fun _ => by show i = i + ((0 : Nat) : Int); omega⟩
  | succ f ih =>
    intro i h0 h1
    unfold u_d6
    by_cases c : u_dg (g i) = -1
    · rw [if_pos c]; exact ⟨Int.le_refl _, h1, fun z => by cases z⟩
    · have b := u_dg_b hg c
      have := ih (i + 1) (by omega) (by omega)
      rw [if_neg c]
      exact ⟨by omega, this.2.1, fun z => by have := this.2.2 z; omega⟩
/-- a line of PEOPLE: whether it can be read, where reading stands -/
def u_line (g : Int → Int) (c s i : Int) : Bool × Int := if ¬ (0 ≤ g i - 97 ∧ g i - 97 < c) then (false, i) else if ¬ (0 ≤ u_dg (g (i + 1)) - 1 ∧ u_dg (g (i + 1)) - 1 < s) then (false, i + 1) else if ¬ g (i + 2) = 58 then (false, i + 2) else u_d6 g 6 (i + 3)
def u_rm (g : Int → Int) (i : Int) : Int := 3 * (u_dg (g (i + 1)) - 1) + (g i - 97)
theorem u_line_b {g : Int → Int} (hg : u_gb g) {c s i : Int} (h0 : 0 ≤ i) (h1 : i ≤ 80) : i ≤ (u_line g c s i).2 ∧ (u_line g c s i).2 ≤ 80 ∧ ((u_line g c s i).1 = true → (u_line g c s i).2 = i + 9) := by
  unfold u_line
  by_cases c1 : 0 ≤ g i - 97 ∧ g i - 97 < c
  · have b1 := hg i (by omega)
    rw [if_neg (not_not_intro c1)]
    by_cases c2 : 0 ≤ u_dg (g (i + 1)) - 1 ∧ u_dg (g (i + 1)) - 1 < s
    · have b2 := u_dg_b hg (i := i + 1) (by omega)
      rw [if_neg (not_not_intro c2)]
      by_cases c3 : g (i + 2) = 58
      · have b3 := hg (i + 2) (by omega)
        rw [if_neg (not_not_intro c3)]
        have := u_d6_b hg 6 (i + 3) (by omega) (by omega)
        exact ⟨by omega, this.2.1, fun z => by have := this.2.2 z; omega⟩
      · rw [if_pos c3]
        exact ⟨by show i ≤ i + 2; omega, by show i + 2 ≤ 80; omega, fun z => by cases z⟩
    · rw [if_pos c2]
      exact ⟨by show i ≤ i + 1; omega, by show i + 1 ≤ 80; omega, fun z => by cases z⟩
  · rw [if_pos c1]
    exact ⟨Int.le_refl _, h1, fun z => by cases z⟩
def u_gr (g : Int → Int) : Prop := ∀ i, -1 ≤ g i ∧ g i ≤ 65535
theorem c_d6 {p : Nat} (hp : p ≤ 4) (x3 x4 : Int) : ∀ (f k : Nat) (v6 : z_V) (m : z_M), k + f = 6 → 0 ≤ m 1 2 → m 1 2 ≤ 80 → m 1 1 ≤ 80 → ∃ m', z_R 37 (m, 94, [(2, 3), (2, 1), (0, (p : Int)), (0, x3), (0, x4), (0, (k : Int)), v6], []) = some (m', some (0, if (u_d6 (u_g m) f (m 1 2)).1 = true then 1 else 0)) ∧ m' 1 2 = (u_d6 (u_g m) f (m 1 2)).2 ∧ ((u_d6 (u_g m) f (m 1 2)).1 = true → ∀ j, j < f → m' 11 (6 * p + k + j) = u_dg (u_g m (m 1 2 + (j : Int)))) ∧ z_same [(1, 2, 2), (11, 6 * p + k, 6 * p + 5)] m m' := by
  intro f
  induction f with
  | zero =>
    intro k v6 m hk h0 h0' h1
    rw [s_line_94, if_pos (by omega)]
    exact ⟨m, rfl, rfl, (fun _ j hj => absurd hj (Nat.not_lt_zero j)), z_same.rf⟩
  | succ f ih =>
    intro k v6 m hk h0 h0' h1
    have hg : u_gb (u_g m) := u_nx_b h1
    rw [s_line_94, if_neg (by omega), c_nd m h0 h1]
    show ∃ m', z_R 37 (m, 105, [(2, 3), (2, 1), (0, (p : Int)), (0, x3), (0, x4), (0, (k : Int)), v6], [(0, u_dg (u_g m (m 1 2)))]) = _ ∧ _
    rw [s_line_105]
    unfold u_d6
    by_cases c : u_dg (u_g m (m 1 2)) = -1
    · rw [if_pos c, if_pos c, c_step0]
      show ∃ m', z_R 37 (m, 122, [(2, 3), (2, 1), (0, (p : Int)), (0, x3), (0, x4), (0, (k : Int)), (0, u_dg (u_g m (m 1 2)))], [(0, 0)]) = _ ∧ _
      rw [s_line_122, if_pos rfl]
      exact ⟨m, rfl, rfl, (fun z => by cases z), z_same.rf⟩
    · have b := u_dg_b hg c
      rw [if_neg c, if_neg c, c_step1 m h0 (by omega)]
      show ∃ m', z_R 37 (z_up m 1 2 (m 1 2 + 1), 122, [(2, 3), (2, 1), (0, (p : Int)), (0, x3), (0, x4), (0, (k : Int)), (0, u_dg (u_g m (m 1 2)))], [(0, 1)]) = _ ∧ _
      have ek : z_add (z_mul (p : Int) 6) (k : Int) = ((6 * p + k : Nat) : Int) := by rw [z_mul_eq (by omega) (by omega), z_add_eq (by omega) (by omega)]; omega
      have en : z_add (k : Int) 1 = ((k + 1 : Nat) : Int) := by rw [z_add_eq (by omega) (by omega)]; omega
      rw [s_line_122, if_neg (by decide), ek, en, if_pos ⟨by omega, by omega⟩, Int.toNat_natCast]
      have s1 : z_same [(1, 2, 2), (11, 6 * p + k, 6 * p + 5)] m (z_up (z_up m 1 2 (m 1 2 + 1)) 11 (6 * p + k) (u_dg (u_g m (m 1 2)))) := (z_same.rf.up1 (lo := 2) (hi := 2) List.mem_cons_self (by decide) (by decide)).up1 (lo := 6 * p + k) (hi := 6 * p + 5) (List.mem_cons_of_mem _ List.mem_cons_self) (by omega) (by omega)
      generalize hm2 : z_up (z_up m 1 2 (m 1 2 + 1)) 11 (6 * p + k) (u_dg (u_g m (m 1 2))) = m2 at s1 ⊢
      have f1 : m2 1 2 = m 1 2 + 1 := by rw [← hm2, zu_p (by decide), zu_self]
      have f2 : m2 1 1 = m 1 1 := by rw [← hm2, zu_p (by decide), zu_k (by decide)]
      have f3 : u_g m2 = u_g m := by rw [← hm2]; exact (u_g_eq (zu_rowne (by decide)) (zu_p (by decide)) (zu_p (by decide))).trans u_g_at
      have f4 : m2 11 (6 * p + k) = u_dg (u_g m (m 1 2)) := by rw [← hm2, zu_self]
      obtain ⟨m', a1, a2, a3, a4⟩ := ih (k + 1) (0, u_dg (u_g m (m 1 2))) m2 (by omega) (by omega) (by omega) (by omega)
      rw [f3, f1] at a1 a2 a3
      refine ⟨m', a1, a2, fun z j hj => ?_, s1.tr (fun p' k' hn => a4 p' k' fun q hq ⟨e1, e2, e3⟩ => ?_)⟩
      · cases j with
        | zero =>
          have e : m' 11 (6 * p + k) = m2 11 (6 * p + k) := a4 11 (6 * p + k) fun q hq ⟨e1, e2, e3⟩ => by
            simp only [List.mem_cons, List.not_mem_nil, or_false] at hq
            rcases hq with rfl | rfl
            · exact absurd e1 (by decide)
            · simp only at e2; omega
          show m' 11 (6 * p + k) = u_dg (u_g m (m 1 2 + ((0 : Nat) : Int)))
          rw [e, f4, show m 1 2 + ((0 : Nat) : Int) = m 1 2 by omega]
        | succ j =>
          have := a3 z j (by omega)
          rw [show 6 * p + k + (j + 1) = 6 * p + (k + 1) + j by omega, this, show m 1 2 + 1 + (j : Int) = m 1 2 + ((j + 1 : Nat) : Int) by omega]
      · simp only [List.mem_cons, List.not_mem_nil, or_false] at hq
        rcases hq with rfl | rfl
        · exact hn (1, 2, 2) List.mem_cons_self ⟨e1, e2, e3⟩
        · exact hn (11, 6 * p + k, 6 * p + 5) (List.mem_cons_of_mem _ List.mem_cons_self) ⟨e1, by simp only at e2 ⊢; omega, e3⟩
theorem c_line {p : Nat} (hp : p ≤ 4) (m : z_M) (h0 : 0 ≤ m 1 2) (h0' : m 1 2 ≤ 80) (h1 : m 1 1 ≤ 80) (hr : u_gr (u_g m)) (hc : m 3 8 ≤ 3) (hs : m 3 9 ≤ 3) : ∃ m', z_R 37 (m, 0, [(2, 3), (2, 1), (0, (p : Int)), (9, 0), (9, 0), (9, 0), (9, 0)], []) = some (m', some (0, if (u_line (u_g m) (m 3 8) (m 3 9) (m 1 2)).1 = true then 1 else 0)) ∧ m' 1 2 = (u_line (u_g m) (m 3 8) (m 3 9) (m 1 2)).2 ∧ ((u_line (u_g m) (m 3 8) (m 3 9) (m 1 2)).1 = true → m' 10 p = u_rm (u_g m) (m 1 2) ∧ ∀ j, j < 6 → m' 11 (6 * p + j) = u_dg (u_g m (m 1 2 + 3 + (j : Int)))) ∧ z_same [(1, 2, 2), (10, p, p), (11, 6 * p, 6 * p + 5)] m m' := by
  have hg : u_gb (u_g m) := u_nx_b h1
  have r0 := hr (m 1 2)
  have r1 := u_dg_rng (u_g m (m 1 2 + 1))
  have hs1 : ∀ v : Int, z_same [(1, 2, 2), (10, p, p), (11, 6 * p, 6 * p + 5)] m (z_up m 1 2 v) := fun v => z_same.rf.up1 (lo := 2) (hi := 2) List.mem_cons_self (by decide) (by decide)
  rw [s_line_0, c_next m h0 h1]
  show ∃ m', z_R 37 (m, 4, [(2, 3), (2, 1), (0, (p : Int)), (9, 0), (9, 0), (9, 0), (9, 0)], [(0, u_g m (m 1 2))]) = _ ∧ _
  rw [s_line_4, z_sub_eq (by omega) (by omega)]
  unfold u_line
  by_cases c1 : 0 ≤ u_g m (m 1 2) - 97 ∧ u_g m (m 1 2) - 97 < m 3 8
  · have b1 := hg (m 1 2) (by omega)
    rw [if_neg (show ¬ u_g m (m 1 2) - 97 < 0 by omega), if_neg (show ¬ m 3 8 ≤ u_g m (m 1 2) - 97 by omega), c_step1 m h0 (by omega), if_neg (not_not_intro c1)]
    show ∃ m', z_R 37 (z_up m 1 2 (m 1 2 + 1), 29, [(2, 3), (2, 1), (0, (p : Int)), (0, u_g m (m 1 2) - 97), (9, 0), (9, 0), (9, 0)], [(0, 1)]) = _ ∧ _
    rw [s_line_29, if_neg (by decide), c_nd _ (by rw [zu_self]; omega) (by rw [zu_k (by decide)]; exact h1), u_g_at, zu_self]
    show ∃ m', z_R 37 (z_up m 1 2 (m 1 2 + 1), 38, [(2, 3), (2, 1), (0, (p : Int)), (0, u_g m (m 1 2) - 97), (9, 0), (9, 0), (9, 0)], [(0, u_dg (u_g m (m 1 2 + 1)))]) = _ ∧ _
    have e39 : (z_up m 1 2 (m 1 2 + 1)) 3 9 = m 3 9 := zu_p (by decide)
    rw [s_line_38, z_sub_eq (by omega) (by omega), e39]
    by_cases c2 : 0 ≤ u_dg (u_g m (m 1 2 + 1)) - 1 ∧ u_dg (u_g m (m 1 2 + 1)) - 1 < m 3 9
    · have b2 := u_dg_b hg (i := m 1 2 + 1) (by omega)
      rw [if_neg (show ¬ u_dg (u_g m (m 1 2 + 1)) - 1 < 0 by omega), if_neg (show ¬ m 3 9 ≤ u_dg (u_g m (m 1 2 + 1)) - 1 by omega), c_step1 _ (by rw [zu_self]; omega) (by rw [zu_self]; omega), zu_self, zu_zu, if_neg (not_not_intro c2)]
      show ∃ m', z_R 37 (z_up m 1 2 (m 1 2 + 1 + 1), 65, [(2, 3), (2, 1), (0, (p : Int)), (0, u_g m (m 1 2) - 97), (0, u_dg (u_g m (m 1 2 + 1)) - 1), (9, 0), (9, 0)], [(0, 1)]) = _ ∧ _
      rw [s_line_65, if_neg (by decide), c_over _ 58 (by rw [zu_self]; omega) (by rw [zu_k (by decide)]; exact h1) (by rw [zu_self]; omega), u_g_at, zu_self, zu_zu, show m 1 2 + 1 + 1 = m 1 2 + 2 by omega]
      by_cases c3 : u_g m (m 1 2 + 2) = 58
      · have b3 := hg (m 1 2 + 2) (by omega)
        rw [if_pos c3, if_neg (not_not_intro c3)]
        show ∃ m', z_R 37 (z_up m 1 2 (m 1 2 + 2 + 1), 74, [(2, 3), (2, 1), (0, (p : Int)), (0, u_g m (m 1 2) - 97), (0, u_dg (u_g m (m 1 2 + 1)) - 1), (9, 0), (9, 0)], [(0, 1)]) = _ ∧ _
        rw [s_line_74, if_neg (by decide), if_pos ⟨by omega, by omega⟩, Int.toNat_natCast, z_mul_eq (by omega) (by omega), z_add_eq (by omega) (by omega), show m 1 2 + 2 + 1 = m 1 2 + 3 by omega]
        have s2 : z_same [(1, 2, 2), (10, p, p), (11, 6 * p, 6 * p + 5)] m (z_up (z_up m 1 2 (m 1 2 + 3)) 10 p (3 * (u_dg (u_g m (m 1 2 + 1)) - 1) + (u_g m (m 1 2) - 97))) := (hs1 _).up1 (lo := p) (hi := p) (List.mem_cons_of_mem _ List.mem_cons_self) (Nat.le_refl _) (Nat.le_refl _)
        generalize hm2 : z_up (z_up m 1 2 (m 1 2 + 3)) 10 p (3 * (u_dg (u_g m (m 1 2 + 1)) - 1) + (u_g m (m 1 2) - 97)) = m2 at s2 ⊢
        have f1 : m2 1 2 = m 1 2 + 3 := by rw [← hm2, zu_p (by decide), zu_self]
        have f2 : m2 1 1 = m 1 1 := by rw [← hm2, zu_p (by decide), zu_k (by decide)]
        have f3 : u_g m2 = u_g m := by rw [← hm2]; exact (u_g_eq (zu_rowne (by decide)) (zu_p (by decide)) (zu_p (by decide))).trans u_g_at
        have f4 : m2 10 p = u_rm (u_g m) (m 1 2) := by rw [← hm2, zu_self]; rfl
        obtain ⟨m', a1, a2, a3, a4⟩ := c_d6 hp (u_g m (m 1 2) - 97) (u_dg (u_g m (m 1 2 + 1)) - 1) 6 0 (9, 0) m2 (by decide) (by omega) (by omega) (by omega)
        rw [f3, f1] at a1 a2 a3
        have e : m' 10 p = m2 10 p := a4 10 p fun q hq ⟨e1, e2, e3⟩ => by
          simp only [List.mem_cons, List.not_mem_nil, or_false] at hq
          rcases hq with rfl | rfl
          · exact absurd e1 (show ¬ (1 : Nat) = 10 by decide)
          · exact absurd e1 (show ¬ (11 : Nat) = 10 by decide)
        refine ⟨m', a1, a2, fun z => ⟨e.trans f4, fun j hj => a3 z j hj⟩, s2.tr (fun p' k' hn => a4 p' k' fun q hq ⟨e1, e2, e3⟩ => ?_)⟩
        simp only [List.mem_cons, List.not_mem_nil, or_false] at hq
        rcases hq with rfl | rfl
        · exact hn (1, 2, 2) List.mem_cons_self ⟨e1, e2, e3⟩
        · exact hn (11, 6 * p, 6 * p + 5) (List.mem_cons_of_mem _ (List.mem_cons_of_mem _ List.mem_cons_self)) ⟨e1, by simp only at e2 ⊢; omega, e3⟩
      · rw [if_neg c3, if_pos c3]
        show ∃ m', z_R 37 (z_up m 1 2 (m 1 2 + 2), 74, [(2, 3), (2, 1), (0, (p : Int)), (0, u_g m (m 1 2) - 97), (0, u_dg (u_g m (m 1 2 + 1)) - 1), (9, 0), (9, 0)], [(0, 0)]) = _ ∧ _
        rw [s_line_74, if_pos rfl]
        exact ⟨_, rfl, zu_self, (fun z => by cases z), hs1 _⟩
    · have hn : ∃ m', (z_R 26 (z_up m 1 2 (m 1 2 + 1), 0, [(2, 1), (0, 0)], [])).bind (fun r => z_R 37 (r.1, 65, [(2, 3), (2, 1), (0, (p : Int)), (0, u_g m (m 1 2) - 97), (0, u_dg (u_g m (m 1 2 + 1)) - 1), (9, 0), (9, 0)], r.2.toList ++ [])) = some (m', some (0, 0)) ∧ m' = z_up m 1 2 (m 1 2 + 1) := by
        rw [c_step0]
        exact ⟨_, by show z_R 37 (z_up m 1 2 (m 1 2 + 1), 65, [(2, 3), (2, 1), (0, (p : Int)), (0, u_g m (m 1 2) - 97), (0, u_dg (u_g m (m 1 2 + 1)) - 1), (9, 0), (9, 0)], [(0, 0)]) = _; rw [s_line_65, if_pos rfl], rfl⟩
      obtain ⟨m', e, rfl⟩ := hn
      rw [if_pos c2]
      by_cases c4 : u_dg (u_g m (m 1 2 + 1)) - 1 < 0
      · rw [if_pos c4]
        exact ⟨_, e, zu_self, (fun z => by cases z), hs1 _⟩
      · rw [if_neg c4, if_pos (show m 3 9 ≤ u_dg (u_g m (m 1 2 + 1)) - 1 by omega)]
        exact ⟨_, e, zu_self, (fun z => by cases z), hs1 _⟩
  · have e : (z_R 26 (m, 0, [(2, 1), (0, 0)], [])).bind (fun r => z_R 37 (r.1, 29, [(2, 3), (2, 1), (0, (p : Int)), (0, u_g m (m 1 2) - 97), (9, 0), (9, 0), (9, 0)], r.2.toList ++ [])) = some (m, some (0, 0)) := by
      rw [c_step0]
      show z_R 37 (m, 29, [(2, 3), (2, 1), (0, (p : Int)), (0, u_g m (m 1 2) - 97), (9, 0), (9, 0), (9, 0)], [(0, 0)]) = _
      rw [s_line_29, if_pos rfl]
    rw [if_pos c1]
    by_cases c4 : u_g m (m 1 2) - 97 < 0
    · rw [if_pos c4]
      exact ⟨m, e, rfl, (fun z => by cases z), z_same.rf⟩
    · rw [if_neg c4, if_pos (show m 3 8 ≤ u_g m (m 1 2) - 97 by omega)]
      exact ⟨m, e, rfl, (fun z => by cases z), z_same.rf⟩
/-- LINES: whether all of them can be read, where reading stands, how many -/
def u_ls (g : Int → Int) (c s n : Int) : Nat → Int → Nat → Bool × Int × Nat
  | 0, i, j => (false, i, j)
  | f + 1, i, j => if (u_line g c s i).1 = false then (false, (u_line g c s i).2, j) else if n ≤ (u_line g c s i).2 then (true, (u_line g c s i).2, j + 1) else if g (u_line g c s i).2 = 59 then u_ls g c s n f ((u_line g c s i).2 + 1) (j + 1) else (false, (u_line g c s i).2, j + 1)
theorem u_ls_b {g : Int → Int} (hg : u_gb g) {c s n : Int} : ∀ (f : Nat) (i : Int) (j : Nat), 0 ≤ i → i ≤ 80 → 0 ≤ (u_ls g c s n f i j).2.1 ∧ (u_ls g c s n f i j).2.1 ≤ 80 ∧ j ≤ (u_ls g c s n f i j).2.2 ∧ (u_ls g c s n f i j).2.2 ≤ j + f := by
  intro f
  induction f with
  | zero => intro i j h0 h1; exact ⟨h0, h1, Nat.le_refl _, Nat.le_refl _⟩
  | succ f ih =>
    intro i j h0 h1
    have b := u_line_b hg (c := c) (s := s) h0 h1
    unfold u_ls
    by_cases c1 : (u_line g c s i).1 = false
    · rw [if_pos c1]; exact ⟨by show 0 ≤ (u_line g c s i).2; omega, b.2.1, Nat.le_refl _, by show j ≤ j + (f + 1); omega⟩
    rw [if_neg c1]
    by_cases c2 : n ≤ (u_line g c s i).2
    · rw [if_pos c2]; exact ⟨by show 0 ≤ (u_line g c s i).2; omega, b.2.1, by show j ≤ j + 1; omega, by show j + 1 ≤ j + (f + 1); omega⟩
    rw [if_neg c2]
    by_cases c3 : g (u_line g c s i).2 = 59
    · rw [if_pos c3]
      have b3 := hg (u_line g c s i).2 (by omega)
      have := ih ((u_line g c s i).2 + 1) (j + 1) (by omega) (by omega)
      exact ⟨this.1, this.2.1, by omega, by omega⟩
    · rw [if_neg c3]; exact ⟨by show 0 ≤ (u_line g c s i).2; omega, b.2.1, by show j ≤ j + 1; omega, by show j + 1 ≤ j + (f + 1); omega⟩
def u_LP (p : Nat) : List (Nat × Nat × Nat) := [(1, 2, 2), (3, 7, 7), (10, p, 4), (11, 6 * p, 29)]
theorem u_LP_off {p : Nat} {m m' : z_M} (h : z_same (u_LP p) m m') {p' k' : Nat} (h1 : ¬ (p' = 1 ∧ k' = 2)) (h2 : ¬ (p' = 3 ∧ k' = 7)) (h3 : ¬ (p' = 10 ∧ p ≤ k')) (h4 : ¬ (p' = 11 ∧ 6 * p ≤ k')) : m' p' k' = m p' k' := h p' k' fun q hq ⟨e1, e2, e3⟩ => by
  simp only [u_LP, List.mem_cons, List.not_mem_nil, or_false] at hq
  rcases hq with rfl | rfl | rfl | rfl <;> simp only at e1 e2 e3 <;> omega
theorem u_LP_g {p : Nat} {m m' : z_M} (h : z_same (u_LP p) m m') : u_g m' = u_g m := u_g_eq (funext fun k => u_LP_off h (by omega) (by omega) (by omega) (by omega)) (u_LP_off h (by omega) (by omega) (by omega) (by omega)) (u_LP_off h (by omega) (by omega) (by omega) (by omega))
theorem u_LP_up {p : Nat} {m m' : z_M} (h : z_same (u_LP (p + 1)) m m') : z_same (u_LP p) m m' := fun p' k' hn => h p' k' fun q hq ⟨e1, e2, e3⟩ => by
  simp only [u_LP, List.mem_cons, List.not_mem_nil, or_false] at hq
  have n1 := hn (1, 2, 2) (by simp [u_LP])
  have n2 := hn (3, 7, 7) (by simp [u_LP])
  have n3 := hn (10, p, 4) (by simp [u_LP])
  have n4 := hn (11, 6 * p, 29) (by simp [u_LP])
  simp only at n1 n2 n3 n4
  rcases hq with rfl | rfl | rfl | rfl <;> simp only at e1 e2 e3 <;> omega
theorem c_ls {w h : Int} (hw : w ≤ 3) (hh : h ≤ 3) : ∀ (f p : Nat) (j : Nat) (m : z_M), p + f = 5 → j ≤ p → 0 ≤ m 1 2 → m 1 2 ≤ 80 → m 1 1 ≤ 80 → u_gr (u_g m) → m 3 8 = w → m 3 9 = h → m 3 7 = (j : Int) → ∃ m', z_R 36 (m, 25, [(2, 3), (2, 1), (0, (p : Int))], []) = some (m', some (0, if (u_ls (u_g m) w h (m 1 1) f (m 1 2) j).1 = true then 1 else 0)) ∧ m' 1 2 = (u_ls (u_g m) w h (m 1 1) f (m 1 2) j).2.1 ∧ m' 3 7 = ((u_ls (u_g m) w h (m 1 1) f (m 1 2) j).2.2 : Int) ∧ (∀ d : Nat, j + d < (u_ls (u_g m) w h (m 1 1) f (m 1 2) j).2.2 → m' 10 (p + d) = u_rm (u_g m) (m 1 2 + 10 * (d : Int)) ∧ ∀ k : Nat, k < 6 → m' 11 (6 * (p + d) + k) = u_dg (u_g m (m 1 2 + 10 * (d : Int) + 3 + (k : Int)))) ∧ z_same (u_LP p) m m' := by
  intro f
  induction f with
  | zero =>
    intro p j m hp hj h0 h0' h1 hr h8 h9 h7
    rw [s_rp_25, if_pos (by omega)]
    exact ⟨m, rfl, rfl, h7, (fun d hd => absurd hd (show ¬ j + d < j by omega)), z_same.rf⟩
  | succ f ih =>
    intro p j m hp hj h0 h0' h1 hr h8 h9 h7
    have hg : u_gb (u_g m) := u_nx_b h1
    have b := u_line_b hg (c := w) (s := h) h0 h0'
    obtain ⟨m1, a1, a2, a3, a4⟩ := c_line (p := p) (by omega) m h0 h0' h1 hr (by omega) (by omega)
    rw [h8, h9] at a1 a2 a3
    rw [s_rp_25, if_neg (by omega), a1]
    unfold u_ls
    have s1 : z_same (u_LP p) m m1 := fun p' k' hn => a4 p' k' fun q hq ⟨e1, e2, e3⟩ => by
      have n1 := hn (1, 2, 2) (by simp [u_LP])
      have n3 := hn (10, p, 4) (by simp [u_LP])
      have n4 := hn (11, 6 * p, 29) (by simp [u_LP])
      simp only [List.mem_cons, List.not_mem_nil, or_false] at hq
      simp only at n1 n3 n4
      rcases hq with rfl | rfl | rfl <;> simp only at e1 e2 e3 <;> omega
    have f7 : m1 3 7 = (j : Int) := (a4 3 7 fun q hq ⟨e1, e2, e3⟩ => by
      simp only [List.mem_cons, List.not_mem_nil, or_false] at hq
      rcases hq with rfl | rfl | rfl <;> simp only at e1 e2 e3 <;> omega).trans h7
    generalize u_line (u_g m) w h (m 1 2) = q at a1 a2 a3 b ⊢
    show ∃ m', z_R 36 (m1, 36, [(2, 3), (2, 1), (0, (p : Int))], [(0, if q.1 = true then 1 else 0)]) = _ ∧ _
    rw [s_rp_36]
    by_cases c1 : q.1 = false
    · rw [if_pos (show (if q.1 = true then (1 : Int) else 0) = 0 by rw [c1]; rfl), if_pos c1]
      exact ⟨m1, rfl, a2, f7, (fun d hd => absurd hd (show ¬ j + d < j by omega)), s1⟩
    have c1' : q.1 = true := by cases hq : q.1 <;> simp_all
    have a3 := a3 c1'
    have ej : z_add (m1 3 7) 1 = ((j + 1 : Nat) : Int) := by rw [f7, z_add_eq (by omega) (by omega)]; omega
    rw [if_neg (show ¬ (if q.1 = true then (1 : Int) else 0) = 0 by rw [c1']; decide), if_neg c1, ej, s_ended_0]
    have s2 : z_same (u_LP p) m (z_up m1 3 7 ((j + 1 : Nat) : Int)) := s1.up1 (lo := 7) (hi := 7) (by simp [u_LP]) (by decide) (by decide)
    generalize hm2 : z_up m1 3 7 ((j + 1 : Nat) : Int) = m2 at s2 ⊢
    have g12 : m2 1 2 = q.2 := by rw [← hm2, zu_p (by decide)]; exact a2
    have g37 : m2 3 7 = ((j + 1 : Nat) : Int) := by rw [← hm2, zu_self]
    have g11 : m2 1 1 = m 1 1 := u_LP_off s2 (by omega) (by omega) (by omega) (by omega)
    have gg : u_g m2 = u_g m := u_LP_g s2
    have g10 : m2 10 p = u_rm (u_g m) (m 1 2) := by rw [← hm2, zu_p (by decide)]; exact a3.1
    have gd : ∀ k : Nat, k < 6 → m2 11 (6 * p + k) = u_dg (u_g m (m 1 2 + 3 + (k : Int))) := fun k hk => by rw [← hm2, zu_p (by decide)]; exact a3.2 k hk
    have first : ∀ m' : z_M, (∀ k, k < 6 * (p + 1) → m' 11 k = m2 11 k) → m' 10 p = m2 10 p → m' 10 (p + 0) = u_rm (u_g m) (m 1 2 + 10 * ((0 : Nat) : Int)) ∧ ∀ k : Nat, k < 6 → m' 11 (6 * (p + 0) + k) = u_dg (u_g m (m 1 2 + 10 * ((0 : Nat) : Int) + 3 + (k : Int))) := fun m' e1 e2 => by
      have ez : m 1 2 + 10 * ((0 : Nat) : Int) = m 1 2 := by omega
      rw [ez]
      refine ⟨e2.trans g10, fun k hk => ?_⟩
      have := e1 (6 * p + k) (by omega)
      exact this.trans (gd k hk)
    rw [g12, g11]
    by_cases c2 : m 1 1 ≤ q.2
    · rw [if_neg (by omega), if_pos c2]
      show ∃ m', z_R 36 (m2, 55, [(2, 3), (2, 1), (0, (p : Int))], [(0, 1)]) = _ ∧ _
      rw [s_rp_55, if_neg (by decide)]
      refine ⟨m2, rfl, g12, g37, fun d hd => ?_, s2⟩
      obtain rfl : d = 0 := by have : j + d < j + 1 := hd; omega
      exact first m2 (fun _ _ => rfl) rfl
    rw [if_pos (by omega), if_neg c2]
    show ∃ m', z_R 36 (m2, 55, [(2, 3), (2, 1), (0, (p : Int))], [(0, 0)]) = _ ∧ _
    rw [s_rp_55, if_pos rfl, c_over m2 59 (by omega) (by omega) (by omega), gg, g12]
    by_cases c3 : u_g m q.2 = 59
    · have b3 := hg q.2 (by omega)
      rw [if_pos c3, if_pos c3]
      show ∃ m', z_R 36 (z_up m2 1 2 (q.2 + 1), 66, [(2, 3), (2, 1), (0, (p : Int))], [(0, 1)]) = _ ∧ _
      have en : z_add (p : Int) 1 = ((p + 1 : Nat) : Int) := by rw [z_add_eq (by omega) (by omega)]; omega
      rw [s_rp_66, if_neg (by decide), en]
      have s3 : z_same (u_LP p) m (z_up m2 1 2 (q.2 + 1)) := s2.up1 (lo := 2) (hi := 2) (by simp [u_LP]) (by decide) (by decide)
      have k12 : (z_up m2 1 2 (q.2 + 1)) 1 2 = q.2 + 1 := zu_self
      have k11 : (z_up m2 1 2 (q.2 + 1)) 1 1 = m 1 1 := (zu_k (by decide)).trans g11
      have kg : u_g (z_up m2 1 2 (q.2 + 1)) = u_g m := u_g_at.trans gg
      have e9 := b.2.2 c1'
      obtain ⟨m', d1, d2, d3, d4, d5⟩ := ih (p + 1) (j + 1) (z_up m2 1 2 (q.2 + 1)) (by omega) (by omega) (by omega) (by omega) (by omega) (by rw [kg]; exact hr) ((zu_p (by decide)).trans ((u_LP_off s2 (by omega) (by omega) (by omega) (by omega)).trans h8)) ((zu_p (by decide)).trans ((u_LP_off s2 (by omega) (by omega) (by omega) (by omega)).trans h9)) ((zu_p (by decide)).trans g37)
      rw [kg, k11, k12] at d1 d2 d3 d4
      refine ⟨m', d1, d2, d3, fun d hd => ?_, s3.tr (u_LP_up d5)⟩
      cases d with
      | zero =>
        refine first m' (fun k hk => ?_) ?_
        · exact (u_LP_off d5 (by omega) (by omega) (by omega) (by omega)).trans (zu_p (by decide))
        · exact (u_LP_off d5 (by omega) (by omega) (by omega) (by omega)).trans (zu_p (by decide))
      | succ d =>
        have := d4 d (by omega)
        rw [show p + 1 + d = p + (d + 1) by omega, show q.2 + 1 + 10 * (d : Int) = m 1 2 + 10 * ((d + 1 : Nat) : Int) by omega] at this
        exact this
    · rw [if_neg c3, if_neg c3]
      show ∃ m', z_R 36 (m2, 66, [(2, 3), (2, 1), (0, (p : Int))], [(0, 0)]) = _ ∧ _
      rw [s_rp_66, if_pos rfl]
      refine ⟨m2, rfl, g12, g37, fun d hd => ?_, s2⟩
      obtain rfl : d = 0 := by have : j + d < j + 1 := hd; omega
      exact first m2 (fun _ _ => rfl) rfl
/-- PEOPLE in the class: what it answers, what it leaves -/
theorem c_readPeople {w h : Int} (hw : w ≤ 3) (hh : h ≤ 3) (p : Nat) (hp : p ≤ 5) (m : z_M) (h0 : 0 ≤ m 1 1) (h1 : m 1 1 ≤ 80) (hr : u_gr (u_nx (m 2) (m 1 1) 76)) (h8 : m 3 8 = w) (h9 : m 3 9 = h) (h11 : m 3 11 = (p : Int)) : ∃ m', z_R 36 (m, 0, [(2, 3), (2, 1), (9, 0)], []) = some (m', some (0, if m 1 1 = 0 then 1 else if (u_ls (u_nx (m 2) (m 1 1) 76) w h (m 1 1) (5 - p) 0 0).1 = true then 1 else 0)) ∧ m' 1 2 = (if m 1 1 = 0 then 0 else (u_ls (u_nx (m 2) (m 1 1) 76) w h (m 1 1) (5 - p) 0 0).2.1) ∧ m' 3 7 = (if m 1 1 = 0 then 0 else ((u_ls (u_nx (m 2) (m 1 1) 76) w h (m 1 1) (5 - p) 0 0).2.2 : Int)) ∧ (∀ d : Nat, (d : Int) < m' 3 7 → m' 10 (p + d) = u_rm (u_nx (m 2) (m 1 1) 76) (10 * (d : Int)) ∧ ∀ k : Nat, k < 6 → m' 11 (6 * (p + d) + k) = u_dg (u_nx (m 2) (m 1 1) 76 (10 * (d : Int) + 3 + (k : Int)))) ∧ (∀ p' k', ¬ (p' = 1 ∧ k' = 3) → ¬ (p' = 1 ∧ k' = 2) → ¬ (p' = 3 ∧ k' = 7) → ¬ (p' = 10 ∧ p ≤ k') → ¬ (p' = 11 ∧ 6 * p ≤ k') → m' p' k' = m p' k') := by
  rw [s_rp_0, s_begin_0]
  show ∃ m', z_R 36 (z_up (z_up m 1 2 0) 1 3 76, 6, [(2, 3), (2, 1), (9, 0)], []) = _ ∧ _
  rw [s_rp_6, s_ended_0]
  generalize hm : z_up (z_up (z_up m 1 2 0) 1 3 76) 3 7 0 = m0
  have g12 : m0 1 2 = 0 := by rw [← hm, zu_p (by decide), zu_k (by decide), zu_self]
  have g11 : m0 1 1 = m 1 1 := by rw [← hm, zu_p (by decide), zu_k (by decide), zu_k (by decide)]
  have g13 : m0 1 3 = 76 := by rw [← hm, zu_p (by decide), zu_self]
  have g37 : m0 3 7 = 0 := by rw [← hm, zu_self]
  have gr : ∀ p' k', ¬ (p' = 1 ∧ k' = 3) → ¬ (p' = 1 ∧ k' = 2) → ¬ (p' = 3 ∧ k' = 7) → m0 p' k' = m p' k' := fun p' k' n1 n2 n3 => by
    rw [← hm]
    unfold z_up
    rw [if_neg n3, if_neg n1, if_neg n2]
  have gg : u_g m0 = u_nx (m 2) (m 1 1) 76 := by
    unfold u_g
    rw [show m0 2 = m 2 from funext fun k => gr 2 k (by omega) (by omega) (by omega), g11, g13]
  rw [g12, g11]
  by_cases c : m 1 1 = 0
  · rw [if_neg (by omega), if_pos c, if_pos c, if_pos c]
    show ∃ m', z_R 36 (m0, 15, [(2, 3), (2, 1), (9, 0)], [(0, 1)]) = _ ∧ _
    rw [s_rp_15, if_neg (by decide)]
    exact ⟨m0, rfl, g12, g37, (fun d hd => by rw [g37] at hd; omega), fun p' k' n1 n2 n3 _ _ => gr p' k' n1 n2 n3⟩
  · rw [if_pos (by omega), if_neg c, if_neg c, if_neg c]
    show ∃ m', z_R 36 (m0, 15, [(2, 3), (2, 1), (9, 0)], [(0, 0)]) = _ ∧ _
    have e11 : m0 3 11 = (p : Int) := (gr 3 11 (by omega) (by omega) (by omega)).trans h11
    rw [s_rp_15, if_pos rfl, e11]
    obtain ⟨m', d1, d2, d3, d4, d5⟩ := c_ls hw hh (5 - p) p 0 m0 (by omega) (by omega) (by omega) (by omega) (by omega) (by rw [gg]; exact hr) ((gr 3 8 (by omega) (by omega) (by omega)).trans h8) ((gr 3 9 (by omega) (by omega) (by omega)).trans h9) (by rw [g37]; rfl)
    rw [gg, g11, g12] at d1 d2 d3 d4
    refine ⟨m', d1, d2, d3, fun d hd => ?_, fun p' k' n1 n2 n3 n4 n5 => (u_LP_off d5 n2 n3 n4 n5).trans (gr p' k' n1 n2 n3)⟩
    rw [d3] at hd
    have := d4 d (by omega)
    rw [show (0 : Int) + 10 * (d : Int) = 10 * (d : Int) by omega] at this
    exact this
/-- they come in: f lines from line x on -/
theorem c_admit : ∀ (f : Nat) (x p : Nat) (m : z_M), m 3 7 = ((x + f : Nat) : Int) → m 3 11 = (p : Int) → p + f ≤ 5 → x ≤ p → ∃ m', z_R 38 (m, 2, [(2, 3), (2, 12), (0, (x : Int))], []) = some (m', none) ∧ m' 3 11 = ((p + f : Nat) : Int) ∧ (∀ k : Nat, m' 8 k = if 6 * p ≤ k ∧ k < 6 * (p + f) then m 11 k else m 8 k) ∧ (∀ k : Nat, m' 15 k = if p ≤ k ∧ k < p + f then m 10 k else m 15 k) ∧ (∀ k : Nat, m' 16 k = if p ≤ k ∧ k < p + f then 0 else m 16 k) ∧ (∀ k : Nat, m' 17 k = if p ≤ k ∧ k < p + f then 0 else m 17 k) ∧ (∀ p' k', ¬ (p' = 3 ∧ k' = 11) → ¬ p' = 8 → ¬ p' = 15 → ¬ p' = 16 → ¬ p' = 17 → m' p' k' = m p' k') := by
  intro f
  induction f with
  | zero =>
    intro x p m h7 h11 hp hx
    rw [s_admit_2, if_pos (by omega)]
    refine ⟨m, rfl, h11, fun k => ?_, fun k => ?_, fun k => ?_, fun k => ?_, fun _ _ _ _ _ _ _ => rfl⟩ <;> rw [if_neg (by omega)]
  | succ f ih =>
    intro x p m h7 h11 hp hx
    have e6 : z_mul (m 3 11) 6 = ((6 * p : Nat) : Int) := by rw [h11, z_mul_eq (by omega) (by omega)]; omega
    have ep : z_add (m 3 11) 1 = ((p + 1 : Nat) : Int) := by rw [h11, z_add_eq (by omega) (by omega)]; omega
    have ex : z_add (x : Int) 1 = ((x + 1 : Nat) : Int) := by rw [z_add_eq (by omega) (by omega)]; omega
    have h5 : 0 ≤ m 3 11 ∧ m 3 11 < ((5 : Nat) : Int) := by omega
    rw [s_admit_2, if_neg (by omega), if_neg (by omega), if_pos h5, if_pos h5, if_pos h5, if_pos h5, e6, ep, ex]
    rw [decide_eq_true (show (0 : Int) ≤ 6 by decide), decide_eq_true (show (0 : Int) ≤ ((6 * p : Nat) : Int) by omega), decide_eq_true (show ((6 * p : Nat) : Int) + (6 : Int) ≤ ((30 : Nat) : Int) by omega)]
    show ∃ m', z_R 38 (z_up (z_cp (z_up (z_up (z_up m 15 (m 3 11).toNat (m 10 (m 3 11).toNat)) 16 (m 3 11).toNat 0) 17 (m 3 11).toNat 0) 11 (((6 * p : Nat) : Int).toNat) 8 (((6 * p : Nat) : Int).toNat) 6) 3 11 ((p + 1 : Nat) : Int), 2, [(2, 3), (2, 12), (0, ((x + 1 : Nat) : Int))], []) = _ ∧ _
    rw [Int.toNat_natCast, h11, Int.toNat_natCast]
    generalize hm : z_up (z_cp (z_up (z_up (z_up m 15 p (m 10 p)) 16 p 0) 17 p 0) 11 (6 * p) 8 (6 * p) 6) 3 11 ((p + 1 : Nat) : Int) = m2
    have k311 : m2 3 11 = ((p + 1 : Nat) : Int) := by rw [← hm, zu_self]
    have k8 : ∀ k, m2 8 k = if 6 * p ≤ k ∧ k < 6 * p + 6 then m 11 k else m 8 k := fun k => by
      rw [← hm, zu_p (by decide)]
      unfold z_cp
      by_cases c : 6 * p ≤ k ∧ k < 6 * p + 6
      · rw [if_pos ⟨rfl, c.1, c.2⟩, if_pos c, show 6 * p + (k - 6 * p) = k by omega, zu_p (by decide), zu_p (by decide), zu_p (by decide)]
      · rw [if_neg (fun z => c z.2), if_neg c, zu_p (by decide), zu_p (by decide), zu_p (by decide)]
    have k15 : ∀ k, m2 15 k = if k = p then m 10 p else m 15 k := fun k => by
      rw [← hm, zu_p (by decide), zc_p (by decide), zu_p (by decide), zu_p (by decide), zu_at]
    have k16 : ∀ k, m2 16 k = if k = p then 0 else m 16 k := fun k => by
      rw [← hm, zu_p (by decide), zc_p (by decide), zu_p (by decide), zu_at, zu_p (by decide)]
    have k17 : ∀ k, m2 17 k = if k = p then 0 else m 17 k := fun k => by
      rw [← hm, zu_p (by decide), zc_p (by decide), zu_at, zu_p (by decide), zu_p (by decide)]
    have ko : ∀ p' k', ¬ (p' = 3 ∧ k' = 11) → ¬ p' = 8 → ¬ p' = 15 → ¬ p' = 16 → ¬ p' = 17 → m2 p' k' = m p' k' := fun p' k' n1 n2 n3 n4 n5 => by
      rw [← hm]
      unfold z_up
      rw [if_neg n1, zc_p n2, if_neg (fun z => n5 z.1), if_neg (fun z => n4 z.1), if_neg (fun z => n3 z.1)]
    obtain ⟨m', a1, a2, a3, a4, a5, a6, a7⟩ := ih (x + 1) (p + 1) m2 (by rw [ko 3 7 (by omega) (by omega) (by omega) (by omega) (by omega), h7]; omega) k311 (by omega) (by omega)
    refine ⟨m', a1, by rw [a2]; omega, fun k => ?_, fun k => ?_, fun k => ?_, fun k => ?_, fun p' k' n1 n2 n3 n4 n5 => (a7 p' k' n1 n2 n3 n4 n5).trans (ko p' k' n1 n2 n3 n4 n5)⟩
    · rw [a3 k, k8 k, ko 11 k (by omega) (by omega) (by omega) (by omega) (by omega)]
      by_cases c1 : 6 * (p + 1) ≤ k ∧ k < 6 * (p + 1 + f)
      · rw [if_pos c1, if_pos (show 6 * p ≤ k ∧ k < 6 * (p + (f + 1)) by omega)]
      · rw [if_neg c1]
        by_cases c2 : 6 * p ≤ k ∧ k < 6 * p + 6
        · rw [if_pos c2, if_pos (show 6 * p ≤ k ∧ k < 6 * (p + (f + 1)) by omega)]
        · rw [if_neg c2, if_neg (show ¬ (6 * p ≤ k ∧ k < 6 * (p + (f + 1))) by omega)]
    · rw [a4 k, k15 k, ko 10 k (by omega) (by omega) (by omega) (by omega) (by omega)]
      by_cases c1 : p + 1 ≤ k ∧ k < p + 1 + f
      · rw [if_pos c1, if_pos (show p ≤ k ∧ k < p + (f + 1) by omega)]
      · rw [if_neg c1]
        by_cases c2 : k = p
        · rw [if_pos c2, if_pos (show p ≤ k ∧ k < p + (f + 1) by omega), c2]
        · rw [if_neg c2, if_neg (show ¬ (p ≤ k ∧ k < p + (f + 1)) by omega)]
    · rw [a5 k, k16 k]
      by_cases c1 : p + 1 ≤ k ∧ k < p + 1 + f
      · rw [if_pos c1, if_pos (show p ≤ k ∧ k < p + (f + 1) by omega)]
      · rw [if_neg c1]
        by_cases c2 : k = p
        · rw [if_pos c2, if_pos (show p ≤ k ∧ k < p + (f + 1) by omega)]
        · rw [if_neg c2, if_neg (show ¬ (p ≤ k ∧ k < p + (f + 1)) by omega)]
    · rw [a6 k, k17 k]
      by_cases c1 : p + 1 ≤ k ∧ k < p + 1 + f
      · rw [if_pos c1, if_pos (show p ≤ k ∧ k < p + (f + 1) by omega)]
      · rw [if_neg c1]
        by_cases c2 : k = p
        · rw [if_pos c2, if_pos (show p ≤ k ∧ k < p + (f + 1) by omega)]
        · rw [if_neg c2, if_neg (show ¬ (p ≤ k ∧ k < p + (f + 1)) by omega)]
end
section
/-! PEOPLE in the reference -/
theorem t_need1 (m : z_M) (c : Int) (h : m 251 16 = -1) (hw : u_W m) : z_R 174 (m, 0, [(2, 251), (0, c)], []) = if u_q m (m 251 15) = c then some (z_up m 251 15 (m 251 15 + 1), none) else some (z_up m 251 16 (m 251 15), none) := by
  rw [t_need_0, t_pass1 m c h hw]
  by_cases k : u_q m (m 251 15) = c
  · rw [if_pos k, if_pos k]
    show z_R 174 (z_up m 251 15 (m 251 15 + 1), 5, [(2, 251), (0, c)], [(0, 1)]) = _
    rw [t_need_5, if_neg (by decide)]
  · rw [if_neg k, if_neg k]
    show z_R 174 (m, 5, [(2, 251), (0, c)], [(0, 0)]) = _
    rw [t_need_5, if_pos rfl, t_fault1 m _ h]
    exact t_need_16 _ _
theorem t_need0 (m : z_M) (c : Int) (h : ¬ m 251 16 = -1) : z_R 174 (m, 0, [(2, 251), (0, c)], []) = some (m, none) := by
  rw [t_need_0, t_pass0 m c h]
  show z_R 174 (m, 5, [(2, 251), (0, c)], [(0, 0)]) = _
  rw [t_need_5, if_pos rfl, t_fault0 m _ h]
  exact t_need_16 _ _
/-- reading changes its place, its fault, and of what was read the cells from a to b -/
def u_N (a b : Nat) : List (Nat × Nat × Nat) := [(251, 15, 16), (257, a, b)]
theorem u_N_off {a b : Nat} {m m' : z_M} (h : z_same (u_N a b) m m') {p k : Nat} (h1 : ¬ (p = 251 ∧ 15 ≤ k ∧ k ≤ 16)) (h2 : ¬ (p = 257 ∧ a ≤ k ∧ k ≤ b)) : m' p k = m p k := h p k fun q hq ⟨e1, e2, e3⟩ => by
  simp only [u_N, List.mem_cons, List.not_mem_nil, or_false] at hq
  rcases hq with rfl | rfl <;> simp only at e1 e2 e3 <;> omega
theorem u_N_wide {a b a' b' : Nat} {m m' : z_M} (h : z_same (u_N a b) m m') (h1 : a' ≤ a) (h2 : b ≤ b') : z_same (u_N a' b') m m' := fun p k hn => u_N_off h (fun z => hn (251, 15, 16) List.mem_cons_self ⟨z.1.symm, z.2.1, z.2.2⟩) (fun z => hn (257, a', b') (List.mem_cons_of_mem _ List.mem_cons_self) ⟨z.1.symm, by simp only; omega, by simp only; omega⟩)
theorem u_N_q {a b : Nat} {m m' : z_M} (h : z_same (u_N a b) m m') : u_q m' = u_q m := u_q_eq (funext fun k => u_N_off h (by omega) (by omega)) (u_N_off h (by omega) (by omega)) (u_N_off h (by omega) (by omega))
theorem u_N_W {a b : Nat} {m m' : z_M} (hw : u_W m) (h : z_same (u_N a b) m m') (h0 : 0 ≤ m' 251 15) (h1 : m' 251 15 ≤ 80) : u_W m' := by
  obtain ⟨a1, a2, a3, a4, a5⟩ := hw
  refine ⟨(u_N_off h (by omega) (by omega)).trans a1, h0, h1, by rw [u_N_off h (p := 251) (k := 13) (by omega) (by omega)]; exact a4, fun k hk => ?_⟩
  rw [u_N_off h (p := 254) (k := k) (by omega) (by omega)]
  exact a5 k hk
theorem u_N_at {a b : Nat} {m m' : z_M} {k : Nat} {v : Int} (h : z_same (u_N a b) m m') (h1 : k = 15 ∨ k = 16) : z_same (u_N a b) m (z_up m' 251 k v) := h.up1 (lo := 15) (hi := 16) List.mem_cons_self (by omega) (by omega)
theorem u_N_co {a b : Nat} {m m' : z_M} {k : Nat} {v : Int} (h : z_same (u_N a b) m m') (h1 : a ≤ k) (h2 : k ≤ b) : z_same (u_N a b) m (z_up m' 257 k v) := h.up1 (lo := a) (hi := b) (List.mem_cons_of_mem _ List.mem_cons_self) h1 h2
/-- behind a fault: nothing more is read -/
theorem t_fd6 {n : Nat} (hn : n ≤ 4) (x2 : Int) : ∀ (f k : Nat) (m : z_M), k + f = 6 → ¬ m 251 16 = -1 → ∃ m', z_R 173 (m, 39, [(2, 251), (0, ((7 * n : Nat) : Int)), (0, x2), (0, (k : Int))], []) = some (m', none) ∧ m' 251 16 = m 251 16 ∧ z_same (u_N (7 * n + 1 + k) (7 * n + 6)) m m' := by
  intro f
  induction f with
  | zero =>
    intro k m hk h
    rw [t_rp_39, if_pos (by omega)]
    exact ⟨m, rfl, rfl, z_same.rf⟩
  | succ f ih =>
    intro k m hk h
    have ek : z_add (z_add ((7 * n : Nat) : Int) 1) (k : Int) = ((7 * n + 1 + k : Nat) : Int) := by rw [z_add_eq (x := ((7 * n : Nat) : Int)) (by omega) (by omega), z_add_eq (by omega) (by omega)]; omega
    have e1 : z_add (k : Int) 1 = ((k + 1 : Nat) : Int) := by rw [z_add_eq (by omega) (by omega)]; omega
    rw [t_rp_39, if_neg (by omega), t_one0 m 48 10 h, ek]
    show ∃ m', z_R 173 (m, 62, [(2, 251), (0, ((7 * n : Nat) : Int)), (0, x2), (0, (k : Int))], [(0, 0), (0, ((7 * n + 1 + k : Nat) : Int)), (2, 257)]) = _ ∧ _
    rw [t_rp_62, e1, if_pos ⟨by omega, by omega⟩, Int.toNat_natCast]
    have g16 : (z_up m 257 (7 * n + 1 + k) 0) 251 16 = m 251 16 := zu_p (by decide)
    obtain ⟨m', a1, a2, a3⟩ := ih (k + 1) (z_up m 257 (7 * n + 1 + k) 0) (by omega) (by rw [g16]; exact h)
    exact ⟨m', a1, a2.trans g16, (u_N_co z_same.rf (Nat.le_refl _) (by omega)).tr (u_N_wide a3 (by omega) (Nat.le_refl _))⟩
theorem t_d6 {n : Nat} (hn : n ≤ 4) (x2 : Int) : ∀ (f k : Nat) (m : z_M), k + f = 6 → u_W m → m 251 16 = -1 → ∃ m', z_R 173 (m, 39, [(2, 251), (0, ((7 * n : Nat) : Int)), (0, x2), (0, (k : Int))], []) = some (m', none) ∧ z_same (u_N (7 * n + 1 + k) (7 * n + 6)) m m' ∧ ((u_d6 (u_q m) f (m 251 15)).1 = true → m' 251 16 = -1 ∧ m' 251 15 = (u_d6 (u_q m) f (m 251 15)).2 ∧ ∀ j : Nat, j < f → m' 257 (7 * n + 1 + k + j) = u_dg (u_q m (m 251 15 + (j : Int)))) ∧ ((u_d6 (u_q m) f (m 251 15)).1 = false → m' 251 16 = (u_d6 (u_q m) f (m 251 15)).2) := by
  intro f
  induction f with
  | zero =>
    intro k m hk hw h
    rw [t_rp_39, if_pos (by omega)]
    exact ⟨m, rfl, z_same.rf, (fun _ => ⟨h, rfl, fun j hj => absurd hj (Nat.not_lt_zero j)⟩), fun z => by cases z⟩
  | succ f ih =>
    intro k m hk hw h
    have hg := u_q_b hw
    obtain ⟨w1, w2, w3, w4, w5⟩ := id hw
    have ek : z_add (z_add ((7 * n : Nat) : Int) 1) (k : Int) = ((7 * n + 1 + k : Nat) : Int) := by rw [z_add_eq (x := ((7 * n : Nat) : Int)) (by omega) (by omega), z_add_eq (by omega) (by omega)]; omega
    have e1 : z_add (k : Int) 1 = ((k + 1 : Nat) : Int) := by rw [z_add_eq (by omega) (by omega)]; omega
    rw [t_rp_39, if_neg (by omega), t_one m 48 10 h hw (by decide) (by decide) (by decide), ek]
    unfold u_d6
    by_cases c : u_dg (u_q m (m 251 15)) = -1
    · rw [if_neg (fun z => u_dg_in.mp z c), if_pos c]
      show ∃ m', z_R 173 (z_up m 251 16 (m 251 15), 62, [(2, 251), (0, ((7 * n : Nat) : Int)), (0, x2), (0, (k : Int))], [(0, 0), (0, ((7 * n + 1 + k : Nat) : Int)), (2, 257)]) = _ ∧ _
      rw [t_rp_62, e1, if_pos ⟨by omega, by omega⟩, Int.toNat_natCast]
      have s1 : z_same (u_N (7 * n + 1 + k) (7 * n + 6)) m (z_up (z_up m 251 16 (m 251 15)) 257 (7 * n + 1 + k) 0) := u_N_co (u_N_at z_same.rf (Or.inr rfl)) (Nat.le_refl _) (by omega)
      have g16 : (z_up (z_up m 251 16 (m 251 15)) 257 (7 * n + 1 + k) 0) 251 16 = m 251 15 := by rw [zu_p (by decide), zu_self]
      obtain ⟨m', a1, a2, a3⟩ := t_fd6 hn x2 f (k + 1) (z_up (z_up m 251 16 (m 251 15)) 257 (7 * n + 1 + k) 0) (by omega) (by rw [g16]; omega)
      exact ⟨m', a1, s1.tr (u_N_wide a3 (by omega) (Nat.le_refl _)), (fun z => by cases z), fun _ => a2.trans g16⟩
    · have b := u_dg_b hg c
      have kk := u_dg_ne c
      rw [if_pos (u_dg_in.mpr c), if_neg c]
      show ∃ m', z_R 173 (z_up m 251 15 (m 251 15 + 1), 62, [(2, 251), (0, ((7 * n : Nat) : Int)), (0, x2), (0, (k : Int))], [(0, u_q m (m 251 15) - 48), (0, ((7 * n + 1 + k : Nat) : Int)), (2, 257)]) = _ ∧ _
      rw [t_rp_62, e1, if_pos ⟨by omega, by omega⟩, Int.toNat_natCast]
      have s1 : z_same (u_N (7 * n + 1 + k) (7 * n + 6)) m (z_up (z_up m 251 15 (m 251 15 + 1)) 257 (7 * n + 1 + k) (u_q m (m 251 15) - 48)) := u_N_co (u_N_at z_same.rf (Or.inl rfl)) (Nat.le_refl _) (by omega)
      generalize hm2 : z_up (z_up m 251 15 (m 251 15 + 1)) 257 (7 * n + 1 + k) (u_q m (m 251 15) - 48) = m2 at s1 ⊢
      have g15 : m2 251 15 = m 251 15 + 1 := by rw [← hm2, zu_p (by decide), zu_self]
      have g16 : m2 251 16 = -1 := by rw [← hm2, zu_p (by decide), zu_k (by decide)]; exact h
      have gc : m2 257 (7 * n + 1 + k) = u_dg (u_q m (m 251 15)) := by rw [← hm2, zu_self, kk.2.2]
      have gq := u_N_q s1
      obtain ⟨m', a1, a2, a3, a4⟩ := ih (k + 1) m2 (by omega) (u_N_W hw s1 (by omega) (by omega)) g16
      rw [gq, g15] at a3 a4
      refine ⟨m', a1, s1.tr (u_N_wide a2 (by omega) (Nat.le_refl _)), fun z => ⟨(a3 z).1, (a3 z).2.1, fun j hj => ?_⟩, a4⟩
      cases j with
      | zero =>
        show m' 257 (7 * n + 1 + k) = u_dg (u_q m (m 251 15 + ((0 : Nat) : Int)))
        rw [u_N_off a2 (by omega) (by omega), gc, show m 251 15 + ((0 : Nat) : Int) = m 251 15 by omega]
      | succ j =>
        have := (a3 z).2.2 j (by omega)
        rw [show 7 * n + 1 + k + (j + 1) = 7 * n + 1 + (k + 1) + j by omega, this, show m 251 15 + 1 + (j : Int) = m 251 15 + ((j + 1 : Nat) : Int) by omega]
theorem u_dg_s {c s : Int} (h0 : 0 ≤ s) (h : s ≤ 3) : (49 ≤ c ∧ c ≤ 49 + s - 1) ↔ (0 ≤ u_dg c - 1 ∧ u_dg c - 1 < s) := by
  unfold u_dg
  by_cases k : 48 ≤ c ∧ c ≤ 57
  · rw [if_pos k]; omega
  · rw [if_neg k]; omega
/-- a line, as the reference reads it -/
theorem t_line {n : Nat} (hn : n ≤ 4) {c s : Int} (hc0 : 0 ≤ c) (hc : c ≤ 3) (hs0 : 0 ≤ s) (hs : s ≤ 3) (m : z_M) (hw : u_W m) (h : m 251 16 = -1) (h1 : m 251 1 = c) (h2 : m 251 2 = s) : ∃ m', z_R 173 (m, 0, [(2, 251), (0, ((7 * n : Nat) : Int)), (9, 0), (9, 0)], []) = some (m', none) ∧ z_same (u_N (7 * n) (7 * n + 6)) m m' ∧ ((u_line (u_q m) c s (m 251 15)).1 = true → m' 251 16 = -1 ∧ m' 251 15 = (u_line (u_q m) c s (m 251 15)).2 ∧ m' 257 (7 * n) = u_rm (u_q m) (m 251 15) ∧ ∀ j : Nat, j < 6 → m' 257 (7 * n + 1 + j) = u_dg (u_q m (m 251 15 + 3 + (j : Int)))) ∧ ((u_line (u_q m) c s (m 251 15)).1 = false → m' 251 16 = (u_line (u_q m) c s (m 251 15)).2) := by
  have hg := u_q_b hw
  obtain ⟨w1, w2, w3, w4, w5⟩ := id hw
  have cs0 : z_same (u_N (7 * n) (7 * n + 6)) m m := z_same.rf
  -- behind a fault
  have bad : ∀ (m1 : z_M) (x2 s0 u : Int), z_same (u_N (7 * n) (7 * n + 6)) m m1 → ¬ m1 251 16 = -1 → ∃ m', z_R 173 (m1, 27, [(2, 251), (0, ((7 * n : Nat) : Int)), (0, x2), (9, 0)], [(0, u), (0, s0), (0, ((7 * n : Nat) : Int)), (2, 257)]) = some (m', none) ∧ z_same (u_N (7 * n) (7 * n + 6)) m m' ∧ m' 251 16 = m1 251 16 := by
    intro m1 x2 s0 u hs1 hf
    have g16 : (z_up m1 257 (7 * n) (z_add (z_mul s0 u) x2)) 251 16 = m1 251 16 := zu_p (by decide)
    rw [t_rp_27, if_pos ⟨by omega, by omega⟩, Int.toNat_natCast, t_need0 _ 58 (by rw [g16]; exact hf)]
    show ∃ m', z_R 173 (z_up m1 257 (7 * n) (z_add (z_mul s0 u) x2), 37, [(2, 251), (0, ((7 * n : Nat) : Int)), (0, x2), (9, 0)], []) = _ ∧ _
    rw [t_rp_37]
    obtain ⟨m', a1, a2, a3⟩ := t_fd6 hn x2 6 0 (z_up m1 257 (7 * n) (z_add (z_mul s0 u) x2)) (by decide) (by rw [g16]; exact hf)
    exact ⟨m', a1, (u_N_co hs1 (Nat.le_refl _) (by omega)).tr (u_N_wide a3 (by omega) (Nat.le_refl _)), a2.trans g16⟩
  rw [t_rp_0, h1, t_one m 97 c h hw (by decide) hc0 (by omega)]
  unfold u_line
  by_cases c1 : 0 ≤ u_q m (m 251 15) - 97 ∧ u_q m (m 251 15) - 97 < c
  · have b1 := hg (m 251 15) (by omega)
    rw [if_pos (show 97 ≤ u_q m (m 251 15) ∧ u_q m (m 251 15) ≤ 97 + c - 1 by omega), if_neg (not_not_intro c1)]
    show ∃ m', z_R 173 (z_up m 251 15 (m 251 15 + 1), 10, [(2, 251), (0, ((7 * n : Nat) : Int)), (9, 0), (9, 0)], [(0, u_q m (m 251 15) - 97)]) = _ ∧ _
    have hw1 := u_W_at (v := m 251 15 + 1) hw (by omega) (by omega)
    have f1 : (z_up m 251 15 (m 251 15 + 1)) 251 16 = -1 := by rw [zu_k (by decide)]; exact h
    have f2 : (z_up m 251 15 (m 251 15 + 1)) 251 2 = s := by rw [zu_k (by decide)]; exact h2
    rw [t_rp_10, f2, t_one _ 49 s f1 hw1 (by decide) hs0 (by omega), u_q_at, zu_self]
    by_cases c2 : 0 ≤ u_dg (u_q m (m 251 15 + 1)) - 1 ∧ u_dg (u_q m (m 251 15 + 1)) - 1 < s
    · have b2 := u_dg_b hg (i := m 251 15 + 1) (by omega)
      have k2 := u_dg_ne (c := u_q m (m 251 15 + 1)) (by omega)
      rw [if_pos ((u_dg_s hs0 hs).mpr c2), if_neg (not_not_intro c2), zu_zu]
      show ∃ m', z_R 173 (z_up m 251 15 (m 251 15 + 1 + 1), 27, [(2, 251), (0, ((7 * n : Nat) : Int)), (0, u_q m (m 251 15) - 97), (9, 0)], [(0, u_q m (m 251 15 + 1) - 49), (0, 3), (0, ((7 * n : Nat) : Int)), (2, 257)]) = _ ∧ _
      rw [t_rp_27, if_pos ⟨by omega, by omega⟩, Int.toNat_natCast, z_mul_eq (by omega) (by omega), z_add_eq (by omega) (by omega), show m 251 15 + 1 + 1 = m 251 15 + 2 by omega]
      have er : 3 * (u_q m (m 251 15 + 1) - 49) + (u_q m (m 251 15) - 97) = u_rm (u_q m) (m 251 15) := by unfold u_rm; omega
      rw [er]
      have s2 : z_same (u_N (7 * n) (7 * n + 6)) m (z_up (z_up m 251 15 (m 251 15 + 2)) 257 (7 * n) (u_rm (u_q m) (m 251 15))) := u_N_co (u_N_at cs0 (Or.inl rfl)) (Nat.le_refl _) (by omega)
      generalize hm2 : z_up (z_up m 251 15 (m 251 15 + 2)) 257 (7 * n) (u_rm (u_q m) (m 251 15)) = m2 at s2 ⊢
      have g15 : m2 251 15 = m 251 15 + 2 := by rw [← hm2, zu_p (by decide), zu_self]
      have g16 : m2 251 16 = -1 := by rw [← hm2, zu_p (by decide), zu_k (by decide)]; exact h
      have gc : m2 257 (7 * n) = u_rm (u_q m) (m 251 15) := by rw [← hm2, zu_self]
      have gw : u_W m2 := u_N_W hw s2 (by omega) (by omega)
      rw [t_need1 m2 58 g16 gw, u_N_q s2, g15]
      by_cases c3 : u_q m (m 251 15 + 2) = 58
      · have b3 := hg (m 251 15 + 2) (by omega)
        rw [if_pos c3, if_neg (not_not_intro c3)]
        show ∃ m', z_R 173 (z_up m2 251 15 (m 251 15 + 2 + 1), 37, [(2, 251), (0, ((7 * n : Nat) : Int)), (0, u_q m (m 251 15) - 97), (9, 0)], []) = _ ∧ _
        rw [t_rp_37, show m 251 15 + 2 + 1 = m 251 15 + 3 by omega]
        have s3 : z_same (u_N (7 * n) (7 * n + 6)) m (z_up m2 251 15 (m 251 15 + 3)) := u_N_at s2 (Or.inl rfl)
        have k15 : (z_up m2 251 15 (m 251 15 + 3)) 251 15 = m 251 15 + 3 := zu_self
        obtain ⟨m', a1, a2, a3, a4⟩ := t_d6 hn (u_q m (m 251 15) - 97) 6 0 (z_up m2 251 15 (m 251 15 + 3)) (by decide) (u_W_at gw (by omega) (by omega)) ((zu_k (by decide)).trans g16)
        rw [u_N_q s3, k15] at a3 a4
        refine ⟨m', a1, s3.tr (u_N_wide a2 (by omega) (Nat.le_refl _)), fun z => ⟨(a3 z).1, (a3 z).2.1, ?_, fun j hj => (a3 z).2.2 j hj⟩, a4⟩
        rw [u_N_off a2 (by omega) (by omega), zu_p (by decide), gc]
      · rw [if_neg c3, if_pos c3]
        show ∃ m', z_R 173 (z_up m2 251 16 (m 251 15 + 2), 37, [(2, 251), (0, ((7 * n : Nat) : Int)), (0, u_q m (m 251 15) - 97), (9, 0)], []) = _ ∧ _
        rw [t_rp_37]
        have k16 : (z_up m2 251 16 (m 251 15 + 2)) 251 16 = m 251 15 + 2 := zu_self
        obtain ⟨m', a1, a2, a3⟩ := t_fd6 hn (u_q m (m 251 15) - 97) 6 0 (z_up m2 251 16 (m 251 15 + 2)) (by decide) (by rw [k16]; omega)
        exact ⟨m', a1, (u_N_at s2 (Or.inr rfl)).tr (u_N_wide a3 (by omega) (Nat.le_refl _)), (fun z => by cases z), fun _ => a2.trans k16⟩
    · rw [if_neg (fun z => c2 ((u_dg_s hs0 hs).mp z)), if_pos c2]
      show ∃ m', z_R 173 (z_up (z_up m 251 15 (m 251 15 + 1)) 251 16 (m 251 15 + 1), 27, [(2, 251), (0, ((7 * n : Nat) : Int)), (0, u_q m (m 251 15) - 97), (9, 0)], [(0, 0), (0, 3), (0, ((7 * n : Nat) : Int)), (2, 257)]) = _ ∧ _
      obtain ⟨m', a1, a2, a3⟩ := bad (z_up (z_up m 251 15 (m 251 15 + 1)) 251 16 (m 251 15 + 1)) (u_q m (m 251 15) - 97) 3 0 (u_N_at (u_N_at cs0 (Or.inl rfl)) (Or.inr rfl)) (by rw [zu_self]; omega)
      exact ⟨m', a1, a2, (fun z => by cases z), fun _ => by rw [a3, zu_self]⟩
  · rw [if_neg (show ¬ (97 ≤ u_q m (m 251 15) ∧ u_q m (m 251 15) ≤ 97 + c - 1) by omega), if_pos c1]
    show ∃ m', z_R 173 (z_up m 251 16 (m 251 15), 10, [(2, 251), (0, ((7 * n : Nat) : Int)), (9, 0), (9, 0)], [(0, 0)]) = _ ∧ _
    have f0 : ¬ (z_up m 251 16 (m 251 15)) 251 16 = -1 := by rw [zu_self]; omega
    rw [t_rp_10, t_one0 _ 49 _ f0]
    show ∃ m', z_R 173 (z_up m 251 16 (m 251 15), 27, [(2, 251), (0, ((7 * n : Nat) : Int)), (0, 0), (9, 0)], [(0, 0), (0, 3), (0, ((7 * n : Nat) : Int)), (2, 257)]) = _ ∧ _
    obtain ⟨m', a1, a2, a3⟩ := bad (z_up m 251 16 (m 251 15)) 0 3 0 (u_N_at cs0 (Or.inr rfl)) f0
    exact ⟨m', a1, a2, (fun z => by cases z), fun _ => by rw [a3, zu_self]⟩
end
section
/-! PEOPLE in the reference: the loop over lines, and their coming in -/
theorem t_pf90 (m : z_M) (x1 x2 : Int) (h : ¬ m 251 16 = -1) : z_R 172 (m, 90, [(2, 251), (0, x1), (0, x2), (9, 0), (9, 0), (9, 0)], []) = some (m, some (0, z_sub (-1) (m 251 16))) := by
  have e : z_R 172 (m, 109, [(2, 251), (0, x1), (0, x2), (9, 0), (9, 0), (9, 0)], []) = some (m, some (0, z_sub (-1) (m 251 16))) := by
    rw [t_people_109, t_fine0 m h]
    show z_R 172 (m, 113, [(2, 251), (0, x1), (0, x2), (9, 0), (9, 0), (9, 0)], [(0, 0)]) = _
    rw [t_people_113, if_pos rfl]
  rw [t_people_90]
  by_cases c : m 251 13 ≤ m 251 15
  · rw [if_pos c]; exact e
  · rw [if_neg c, t_fault0 m _ h]
    exact e
theorem t_pf77 (m : z_M) (x1 x2 : Int) (h : ¬ m 251 16 = -1) : z_R 172 (m, 77, [(2, 251), (0, x1), (0, x2), (9, 0), (9, 0), (9, 0)], []) = some (m, some (0, z_sub (-1) (m 251 16))) := by
  rw [t_people_77, t_pass0 m _ h]
  show z_R 172 (m, 86, [(2, 251), (0, z_add x1 1), (0, x2), (9, 0), (9, 0), (9, 0)], [(0, 0)]) = _
  rw [t_people_86, t_people_37, if_pos rfl]
  exact t_pf90 m _ _ h
theorem t_ls {c s : Int} (hc0 : 0 ≤ c) (hc : c ≤ 3) (hs0 : 0 ≤ s) (hs : s ≤ 3) (p : Nat) : ∀ (f n : Nat) (m : z_M), p + n + f = 5 → u_W m → m 251 16 = -1 → m 251 1 = c → m 251 2 = s → m 251 3 = (p : Int) → ∃ m', ((u_ls (u_q m) c s (m 251 13) f (m 251 15) n).1 = true → z_R 172 (m, 37, [(2, 251), (0, (n : Int)), (0, 1), (9, 0), (9, 0), (9, 0)], []) = z_R 172 (m', 125, [(2, 251), (0, ((u_ls (u_q m) c s (m 251 13) f (m 251 15) n).2.2 : Int)), (0, 0), (0, 0), (9, 0), (9, 0)], []) ∧ ∀ d : Nat, n + d < (u_ls (u_q m) c s (m 251 13) f (m 251 15) n).2.2 → m' 257 (7 * (n + d)) = u_rm (u_q m) (m 251 15 + 10 * (d : Int)) ∧ ∀ k : Nat, k < 6 → m' 257 (7 * (n + d) + 1 + k) = u_dg (u_q m (m 251 15 + 10 * (d : Int) + 3 + (k : Int)))) ∧ ((u_ls (u_q m) c s (m 251 13) f (m 251 15) n).1 = false → z_R 172 (m, 37, [(2, 251), (0, (n : Int)), (0, 1), (9, 0), (9, 0), (9, 0)], []) = some (m', some (0, -1 - (u_ls (u_q m) c s (m 251 13) f (m 251 15) n).2.1))) ∧ z_same (u_N (7 * n) 34) m m' := by
  intro f
  induction f with
  | zero =>
    intro n m hn hw h h1 h2 h3
    obtain ⟨w1, w2, w3, w4, w5⟩ := id hw
    refine ⟨z_up m 251 16 (m 251 15), (fun z => by cases z), fun _ => ?_, u_N_at z_same.rf (Or.inr rfl)⟩
    rw [t_people_37, if_neg (by decide), t_fine1 m h]
    show z_R 172 (m, 45, [(2, 251), (0, (n : Int)), (0, 1), (9, 0), (9, 0), (9, 0)], [(0, 1)]) = _
    rw [t_people_45, if_neg (by decide), h3, z_add_eq (by omega) (by omega), if_pos (by omega), t_fault1 m _ h]
    show z_R 172 (z_up m 251 16 (m 251 15), 66, [(2, 251), (0, (n : Int)), (0, 1), (9, 0), (9, 0), (9, 0)], []) = _
    have k16 : (z_up m 251 16 (m 251 15)) 251 16 = m 251 15 := zu_self
    rw [t_people_66, t_pf77 _ _ _ (by rw [k16]; omega), k16, z_sub_eq (by omega) (by omega)]
    rfl
  | succ f ih =>
    intro n m hn hw h h1 h2 h3
    have hg := u_q_b hw
    obtain ⟨w1, w2, w3, w4, w5⟩ := id hw
    have b := u_line_b hg (c := c) (s := s) w2 w3
    obtain ⟨m1, a1, a2, a3, a4⟩ := t_line (n := n) (by omega) hc0 hc hs0 hs m hw h h1 h2
    have head : z_R 172 (m, 37, [(2, 251), (0, (n : Int)), (0, 1), (9, 0), (9, 0), (9, 0)], []) = z_R 172 (m1, 77, [(2, 251), (0, (n : Int)), (0, 1), (9, 0), (9, 0), (9, 0)], []) := by
      rw [t_people_37, if_neg (by decide), t_fine1 m h]
      show z_R 172 (m, 45, [(2, 251), (0, (n : Int)), (0, 1), (9, 0), (9, 0), (9, 0)], [(0, 1)]) = _
      have e7 : z_mul 7 (n : Int) = ((7 * n : Nat) : Int) := by rw [z_mul_eq (by omega) (by omega)]; omega
      rw [t_people_45, if_neg (by decide), h3, z_add_eq (by omega) (by omega), if_neg (by omega), e7, a1]
      rfl
    rw [head]
    unfold u_ls
    generalize u_line (u_q m) c s (m 251 15) = q at a3 a4 b ⊢
    have s1 : z_same (u_N (7 * n) 34) m m1 := u_N_wide a2 (Nat.le_refl _) (by omega)
    by_cases c1 : q.1 = false
    · rw [if_pos c1]
      have k16 := a4 c1
      refine ⟨m1, (fun z => by cases z), fun _ => ?_, s1⟩
      rw [t_pf77 _ _ _ (by rw [k16]; omega), k16, z_sub_eq (by omega) (by omega)]
    have c1' : q.1 = true := by cases hq : q.1 <;> simp_all
    obtain ⟨d1, d2, d3, d4⟩ := a3 c1'
    rw [if_neg c1]
    have gw : u_W m1 := u_N_W hw s1 (by omega) (by omega)
    have gq := u_N_q s1
    have g13 : m1 251 13 = m 251 13 := u_N_off s1 (by omega) (by omega)
    have en : z_add (n : Int) 1 = ((n + 1 : Nat) : Int) := by rw [z_add_eq (by omega) (by omega)]; omega
    have e9 := b.2.2 c1'
    have first : ∀ m' : z_M, (∀ k, k < 7 * (n + 1) → m' 257 k = m1 257 k) → m' 257 (7 * (n + 0)) = u_rm (u_q m) (m 251 15 + 10 * ((0 : Nat) : Int)) ∧ ∀ k : Nat, k < 6 → m' 257 (7 * (n + 0) + 1 + k) = u_dg (u_q m (m 251 15 + 10 * ((0 : Nat) : Int) + 3 + (k : Int))) := fun m' e1 => by
      rw [show m 251 15 + 10 * ((0 : Nat) : Int) = m 251 15 by omega]
      exact ⟨(e1 (7 * n) (by omega)).trans d3, fun k hk => (e1 (7 * n + 1 + k) (by omega)).trans (d4 k hk)⟩
    rw [t_people_77, t_pass1 m1 59 d1 gw, gq, d2, en]
    -- no more lines
    have stop : ∀ u : Int, u = 0 → z_R 172 (m1, 86, [(2, 251), (0, ((n + 1 : Nat) : Int)), (0, 1), (9, 0), (9, 0), (9, 0)], [(0, u)]) = z_R 172 (m1, 90, [(2, 251), (0, ((n + 1 : Nat) : Int)), (0, 0), (9, 0), (9, 0), (9, 0)], []) := fun u hu => by
      subst hu
      rw [t_people_86, t_people_37, if_pos rfl]
    by_cases c2 : m 251 13 ≤ q.2
    · have hn59 : ¬ u_q m q.2 = 59 := fun z => by
        have : u_q m q.2 = -1 := by unfold u_q u_nx; rw [if_neg (fun z => by omega)]
        omega
      rw [if_pos c2, if_neg hn59]
      refine ⟨m1, fun _ => ⟨?_, fun d hd => ?_⟩, (fun z => by cases z), s1⟩
      · show z_R 172 (m1, 86, [(2, 251), (0, ((n + 1 : Nat) : Int)), (0, 1), (9, 0), (9, 0), (9, 0)], [(0, 0)]) = _
        rw [stop 0 rfl, t_people_90, if_pos (by omega), t_people_109, t_fine1 m1 d1]
        show z_R 172 (m1, 113, [(2, 251), (0, ((n + 1 : Nat) : Int)), (0, 0), (9, 0), (9, 0), (9, 0)], [(0, 1)]) = _
        rw [t_people_113, if_neg (by decide)]
      · obtain rfl : d = 0 := by have : n + d < n + 1 := hd; omega
        exact first m1 (fun _ _ => rfl)
    rw [if_neg c2]
    by_cases c3 : u_q m q.2 = 59
    · have b3 := hg q.2 (by omega)
      rw [if_pos c3, if_pos c3]
      have s3 : z_same (u_N (7 * n) 34) m (z_up m1 251 15 (q.2 + 1)) := u_N_at s1 (Or.inl rfl)
      have k15 : (z_up m1 251 15 (q.2 + 1)) 251 15 = q.2 + 1 := zu_self
      have k13 : (z_up m1 251 15 (q.2 + 1)) 251 13 = m 251 13 := (zu_k (by decide)).trans g13
      obtain ⟨m', r1, r2, r3⟩ := ih (n + 1) (z_up m1 251 15 (q.2 + 1)) (by omega) (u_W_at gw (by omega) (by omega)) ((zu_k (by decide)).trans d1) ((zu_k (by decide)).trans ((u_N_off s1 (by omega) (by omega)).trans h1)) ((zu_k (by decide)).trans ((u_N_off s1 (by omega) (by omega)).trans h2)) ((zu_k (by decide)).trans ((u_N_off s1 (by omega) (by omega)).trans h3))
      rw [u_N_q s3, k15, k13] at r1 r2
      have go : (some (z_up m1 251 15 (q.2 + 1), some ((0, 1) : z_V))).bind (fun r => z_R 172 (r.1, 86, [(2, 251), (0, ((n + 1 : Nat) : Int)), (0, 1), (9, 0), (9, 0), (9, 0)], r.2.toList ++ [])) = z_R 172 (z_up m1 251 15 (q.2 + 1), 37, [(2, 251), (0, ((n + 1 : Nat) : Int)), (0, 1), (9, 0), (9, 0), (9, 0)], []) := t_people_86 _ _ _ _
      refine ⟨m', fun z => ⟨go.trans (r1 z).1, fun d hd => ?_⟩, fun z => go.trans (r2 z), s3.tr (u_N_wide r3 (by omega) (Nat.le_refl _))⟩
      cases d with
      | zero => exact first m' (fun k hk => (u_N_off r3 (by omega) (by omega)).trans (zu_p (by decide)))
      | succ d =>
        have := (r1 z).2 d (by omega)
        rw [show n + 1 + d = n + (d + 1) by omega, show q.2 + 1 + 10 * (d : Int) = m 251 15 + 10 * ((d + 1 : Nat) : Int) by omega] at this
        exact this
    · rw [if_neg c3, if_neg c3]
      refine ⟨z_up m1 251 16 q.2, (fun z => by cases z), fun _ => ?_, u_N_at s1 (Or.inr rfl)⟩
      show z_R 172 (m1, 86, [(2, 251), (0, ((n + 1 : Nat) : Int)), (0, 1), (9, 0), (9, 0), (9, 0)], [(0, 0)]) = _
      rw [stop 0 rfl, t_people_90, if_neg (by omega), t_fault1 m1 _ d1, d2]
      show z_R 172 (z_up m1 251 16 q.2, 109, [(2, 251), (0, ((n + 1 : Nat) : Int)), (0, 0), (9, 0), (9, 0), (9, 0)], []) = _
      have k16 : (z_up m1 251 16 q.2) 251 16 = q.2 := zu_self
      rw [t_people_109, t_fine0 _ (by rw [k16]; omega)]
      show z_R 172 (z_up m1 251 16 q.2, 113, [(2, 251), (0, ((n + 1 : Nat) : Int)), (0, 0), (9, 0), (9, 0), (9, 0)], [(0, 0)]) = _
      rw [t_people_113, if_pos rfl, k16, z_sub_eq (by omega) (by omega)]
end
section
/-! PEOPLE in the reference: they come in -/
theorem t_a184 {x P : Nat} (hx : x ≤ 4) (hP : P ≤ 4) (cnt x2 : Int) : ∀ (f k : Nat) (m : z_M), k + f = 6 → m 251 3 = (P : Int) → ∃ m', z_R 172 (m, 184, [(2, 251), (0, cnt), (0, x2), (0, (x : Int)), (0, ((7 * x : Nat) : Int)), (0, (k : Int))], []) = z_R 172 (m', 125, [(2, 251), (0, cnt), (0, x2), (0, ((x + 1 : Nat) : Int)), (0, ((7 * x : Nat) : Int)), (0, 6)], []) ∧ m' 251 3 = ((P + 1 : Nat) : Int) ∧ (∀ j : Nat, j < f → m' 253 (6 * P + k + j) = m 257 (7 * x + 1 + k + j)) ∧ (∀ p' k', ¬ (p' = 251 ∧ k' = 3) → ¬ (p' = 253 ∧ 6 * P + k ≤ k' ∧ k' < 6 * P + 6) → m' p' k' = m p' k') := by
  intro f
  induction f with
  | zero =>
    intro k m hk h
    have e1 : z_add (x : Int) 1 = ((x + 1 : Nat) : Int) := by rw [z_add_eq (by omega) (by omega)]; omega
    have e2 : z_add (m 251 3) 1 = ((P + 1 : Nat) : Int) := by rw [h, z_add_eq (by omega) (by omega)]; omega
    obtain rfl : k = 6 := by omega
    rw [t_people_184, if_pos (by decide), e1, e2]
    refine ⟨z_up m 251 3 ((P + 1 : Nat) : Int), rfl, zu_self, (fun j hj => absurd hj (Nat.not_lt_zero j)), fun p' k' n1 _ => ?_⟩
    unfold z_up
    rw [if_neg n1]
  | succ f ih =>
    intro k m hk h
    have e1 : z_add (z_add ((7 * x : Nat) : Int) 1) (k : Int) = ((7 * x + 1 + k : Nat) : Int) := by rw [z_add_eq (x := ((7 * x : Nat) : Int)) (by omega) (by omega), z_add_eq (by omega) (by omega)]; omega
    have e2 : z_add (z_mul 6 (m 251 3)) (k : Int) = ((6 * P + k : Nat) : Int) := by rw [h, z_mul_eq (by omega) (by omega), z_add_eq (by omega) (by omega)]; omega
    have e3 : z_add (k : Int) 1 = ((k + 1 : Nat) : Int) := by rw [z_add_eq (by omega) (by omega)]; omega
    rw [t_people_184, if_neg (by omega), e1, e2, e3, if_pos ⟨by omega, by omega⟩, if_pos ⟨by omega, by omega⟩, Int.toNat_natCast, Int.toNat_natCast]
    have o : ∀ p' k', ¬ (p' = 253 ∧ k' = 6 * P + k) → (z_up m 253 (6 * P + k) (m 257 (7 * x + 1 + k))) p' k' = m p' k' := fun p' k' n => by unfold z_up; rw [if_neg n]
    obtain ⟨m', a1, a2, a3, a4⟩ := ih (k + 1) (z_up m 253 (6 * P + k) (m 257 (7 * x + 1 + k))) (by omega) ((o 251 3 (by omega)).trans h)
    refine ⟨m', a1, a2, fun j hj => ?_, fun p' k' n1 n2 => (a4 p' k' n1 (by omega)).trans (o p' k' (by omega))⟩
    cases j with
    | zero =>
      show m' 253 (6 * P + k) = m 257 (7 * x + 1 + k)
      rw [a4 253 (6 * P + k) (by omega) (by omega), zu_self]
    | succ j =>
      have := a3 j (by omega)
      rw [o 257 _ (by omega)] at this
      rw [show 6 * P + k + (j + 1) = 6 * P + (k + 1) + j by omega, show 7 * x + 1 + k + (j + 1) = 7 * x + 1 + (k + 1) + j by omega]
      exact this
theorem t_a125 {cnt : Nat} (hc : cnt ≤ 5) (x2 : Int) : ∀ (f x P : Nat) (v4 v5 : z_V) (m : z_M), x + f = cnt → P + f ≤ 5 → m 251 3 = (P : Int) → ∃ m', z_R 172 (m, 125, [(2, 251), (0, (cnt : Int)), (0, x2), (0, (x : Int)), v4, v5], []) = some (m', some (0, (cnt : Int))) ∧ m' 251 3 = ((P + f : Nat) : Int) ∧ m' 251 52 = z_add (m 251 52) 1 ∧ (∀ d : Nat, d < f → (∀ k : Nat, k < 6 → m' 253 (6 * (P + d) + k) = m 257 (7 * (x + d) + 1 + k)) ∧ m' 252 (18 + (P + d)) = m 257 (7 * (x + d)) ∧ m' 252 (23 + (P + d)) = 0 ∧ m' 252 (28 + (P + d)) = 0) ∧ (∀ p' k', ¬ (p' = 251 ∧ (k' = 3 ∨ k' = 25 ∨ k' = 52)) → ¬ (p' = 253 ∧ 6 * P ≤ k' ∧ k' < 6 * (P + f)) → ¬ (p' = 252 ∧ 18 + P ≤ k' ∧ k' < 18 + P + f) → ¬ (p' = 252 ∧ 23 + P ≤ k' ∧ k' < 23 + P + f) → ¬ (p' = 252 ∧ 28 + P ≤ k' ∧ k' < 28 + P + f) → m' p' k' = m p' k') := by
  intro f
  induction f with
  | zero =>
    intro x P v4 v5 m hx hP h
    rw [t_people_125, if_pos (by omega)]
    refine ⟨z_up (z_up m 251 25 0) 251 52 (z_add (m 251 52) 1), rfl, ?_, zu_self, (fun d hd => absurd hd (Nat.not_lt_zero d)), fun p' k' n1 _ _ _ _ => ?_⟩
    · rw [zu_k (by decide), zu_k (by decide)]; exact h
    · unfold z_up
      rw [if_neg (by omega), if_neg (by omega)]
  | succ f ih =>
    intro x P v4 v5 m hx hP h
    have e7 : z_mul 7 (x : Int) = ((7 * x : Nat) : Int) := by rw [z_mul_eq (by omega) (by omega)]; omega
    have e1 : z_add 18 (m 251 3) = ((18 + P : Nat) : Int) := by rw [h, z_add_eq (by omega) (by omega)]; omega
    have e2 : z_add 23 (m 251 3) = ((23 + P : Nat) : Int) := by rw [h, z_add_eq (by omega) (by omega)]; omega
    have e3 : z_add 28 (m 251 3) = ((28 + P : Nat) : Int) := by rw [h, z_add_eq (by omega) (by omega)]; omega
    rw [t_people_125, if_neg (by omega), e7, e1, e2, e3, if_pos ⟨by omega, by omega⟩, if_pos ⟨by omega, by omega⟩, if_pos ⟨by omega, by omega⟩, if_pos ⟨by omega, by omega⟩, Int.toNat_natCast, Int.toNat_natCast, Int.toNat_natCast, Int.toNat_natCast]
    generalize hm : z_up (z_up (z_up m 252 (18 + P) (m 257 (7 * x))) 252 (23 + P) 0) 252 (28 + P) 0 = m1
    have o : ∀ p' k', ¬ (p' = 252 ∧ k' = 18 + P) → ¬ (p' = 252 ∧ k' = 23 + P) → ¬ (p' = 252 ∧ k' = 28 + P) → m1 p' k' = m p' k' := fun p' k' n1 n2 n3 => by
      rw [← hm]
      unfold z_up
      rw [if_neg n3, if_neg n2, if_neg n1]
    have q1 : m1 252 (18 + P) = m 257 (7 * x) := by rw [← hm, zu_k (by omega), zu_k (by omega), zu_self]
    have q2 : m1 252 (23 + P) = 0 := by rw [← hm, zu_k (by omega), zu_self]
    have q3 : m1 252 (28 + P) = 0 := by rw [← hm, zu_self]
    obtain ⟨m2, a1, a2, a3, a4⟩ := t_a184 (x := x) (P := P) (by omega) (by omega) (cnt : Int) x2 6 0 m1 (by decide) ((o 251 3 (by omega) (by omega) (by omega)).trans h)
    obtain ⟨m', b1, b2, b52, b3, b4⟩ := ih (x + 1) (P + 1) (0, ((7 * x : Nat) : Int)) (0, 6) m2 (by omega) (by omega) a2
    refine ⟨m', a1.trans b1, by rw [b2]; omega, by rw [b52, a4 251 52 (by omega) (by omega), o 251 52 (by omega) (by omega) (by omega)], fun d hd => ?_, fun p' k' n1 n2 n3 n4 n5 => ?_⟩
    · cases d with
      | zero =>
        refine ⟨fun k hk => ?_, ?_, ?_, ?_⟩
        · show m' 253 (6 * P + k) = m 257 (7 * x + 1 + k)
          rw [b4 253 (6 * P + k) (by omega) (by omega) (by omega) (by omega) (by omega)]
          have := a3 k hk
          rw [o 257 _ (by omega) (by omega) (by omega)] at this
          exact this
        · show m' 252 (18 + P) = m 257 (7 * x)
          rw [b4 252 (18 + P) (by omega) (by omega) (by omega) (by omega) (by omega), a4 252 (18 + P) (by omega) (by omega), q1]
        · show m' 252 (23 + P) = 0
          rw [b4 252 (23 + P) (by omega) (by omega) (by omega) (by omega) (by omega), a4 252 (23 + P) (by omega) (by omega), q2]
        · show m' 252 (28 + P) = 0
          rw [b4 252 (28 + P) (by omega) (by omega) (by omega) (by omega) (by omega), a4 252 (28 + P) (by omega) (by omega), q3]
      | succ d =>
        obtain ⟨c1, c2, c3, c4⟩ := b3 d (by omega)
        rw [show P + 1 + d = P + (d + 1) by omega] at c1 c2 c3 c4
        rw [show x + 1 + d = x + (d + 1) by omega] at c1 c2
        refine ⟨fun k hk => ?_, ?_, c3, c4⟩
        · rw [c1 k hk, a4 257 _ (by omega) (by omega), o 257 _ (by omega) (by omega) (by omega)]
        · rw [c2, a4 257 _ (by omega) (by omega), o 257 _ (by omega) (by omega) (by omega)]
    · rw [b4 p' k' n1 (by omega) (by omega) (by omega) (by omega), a4 p' k' (by omega) (by omega), o p' k' (by omega) (by omega) (by omega)]
end
section
/-! PEOPLE: both sides, whole -/
/-- how many come, what is answered -/
def u_pn (n : Int) (S : Bool × Int × Nat) : Nat := if n = 0 then 0 else if S.1 = true then S.2.2 else 0
def u_pa (n : Int) (S : Bool × Int × Nat) : Int := if n = 0 then 0 else if S.1 = true then (S.2.2 : Int) else -1 - S.2.1
theorem c_people {w h : Int} (hw : w ≤ 3) (hh : h ≤ 3) (p : Nat) (hp : p ≤ 5) (m : z_M) (h0 : 0 ≤ m 1 1) (h1 : m 1 1 ≤ 80) (hr : u_gr (u_nx (m 2) (m 1 1) 76)) (h8 : m 3 8 = w) (h9 : m 3 9 = h) (h11 : m 3 11 = (p : Int)) {G : Int → Int} (hG : u_nx (m 2) (m 1 1) 76 = G) {S : Bool × Int × Nat} (hS : u_ls G w h (m 1 1) (5 - p) 0 0 = S) : ∃ m', z_R 35 (m, 0, [(2, 0), (9, 0)], []) = some (m', some (0, u_pa (m 1 1) S)) ∧ m' 3 11 = ((p + u_pn (m 1 1) S : Nat) : Int) ∧ (∀ d k : Nat, d < u_pn (m 1 1) S → k < 6 → m' 8 (6 * (p + d) + k) = u_dg (G (10 * (d : Int) + 3 + (k : Int)))) ∧ (∀ j, ¬ (6 * p ≤ j ∧ j < 6 * (p + u_pn (m 1 1) S)) → m' 8 j = m 8 j) := by
  obtain ⟨m1, a1, a2, a3, a4, a5⟩ := c_readPeople hw hh p hp m h0 h1 hr h8 h9 h11
  rw [hG, hS] at a1 a2 a3
  rw [hG] at a4
  have hb := u_ls_b (g := G) (by rw [← hG]; exact u_nx_b h1) (c := w) (s := h) (n := m 1 1) (5 - p) 0 0 (by decide) (by decide)
  rw [hS] at hb
  have e8 : ∀ j, m1 8 j = m 8 j := fun j => a5 8 j (by omega) (by omega) (by omega) (by omega) (by omega)
  have e11 : m1 3 11 = (p : Int) := (a5 3 11 (by omega) (by omega) (by omega) (by omega) (by omega)).trans h11
  rw [s_people_0, a1]
  unfold u_pa u_pn
  by_cases c : m 1 1 = 0
  · rw [if_pos c] at a2 a3
    rw [if_pos c, if_pos c, if_pos c]
    show ∃ m', z_R 35 (m1, 11, [(2, 0), (9, 0)], [(0, 1)]) = _ ∧ _
    rw [s_people_11, s_empty_0]
    show ∃ m', z_R 35 (z_up m1 1 1 0, 19, [(2, 0), (0, 1)], []) = _ ∧ _
    have k37 : (z_up m1 1 1 0) 3 7 = 0 := (zu_p (by decide)).trans a3
    rw [s_people_19, if_neg (by decide), if_pos (by omega), s_people_61, k37]
    exact ⟨_, rfl, (zu_p (by decide)).trans e11, (fun d k hd => absurd hd (Nat.not_lt_zero d)), fun j _ => (zu_p (by decide)).trans (e8 j)⟩
  rw [if_neg c] at a2 a3
  rw [if_neg c, if_neg c, if_neg c]
  by_cases k : S.1 = true
  · rw [if_pos k, if_pos k, if_pos k]
    show ∃ m', z_R 35 (m1, 11, [(2, 0), (9, 0)], [(0, 1)]) = _ ∧ _
    rw [s_people_11, s_empty_0]
    show ∃ m', z_R 35 (z_up m1 1 1 0, 19, [(2, 0), (0, 1)], []) = _ ∧ _
    have k37 : (z_up m1 1 1 0) 3 7 = (S.2.2 : Int) := (zu_p (by decide)).trans a3
    rw [s_people_19, if_neg (by decide), k37]
    by_cases z : (S.2.2 : Int) ≤ 0
    · rw [if_pos z, s_people_61, k37]
      have z0 : S.2.2 = 0 := by omega
      rw [z0]
      exact ⟨_, rfl, (zu_p (by decide)).trans e11, (fun d k hd => absurd hd (Nat.not_lt_zero d)), fun j _ => (zu_p (by decide)).trans (e8 j)⟩
    · rw [if_neg z, s_admit_0]
      obtain ⟨m2, b1, b2, b3, -, -, -, b7⟩ := c_admit S.2.2 0 p (z_up m1 1 1 0) (by rw [k37, Nat.zero_add]) ((zu_p (by decide)).trans e11) (by omega) (Nat.zero_le _)
      rw [show ((0 : Nat) : Int) = 0 from rfl] at b1
      rw [b1]
      show ∃ m', z_R 35 (m2, 54, [(2, 0), (0, 1)], []) = _ ∧ _
      rw [s_people_54, s_fd_0]
      show ∃ m', z_R 35 (z_up m2 28 4 0, 61, [(2, 0), (0, 1)], []) = _ ∧ _
      have j37 : (z_up m2 28 4 0) 3 7 = (S.2.2 : Int) := (zu_p (by decide)).trans ((b7 3 7 (by omega) (by omega) (by omega) (by omega) (by omega)).trans k37)
      rw [s_people_61, j37]
      refine ⟨_, rfl, (zu_p (by decide)).trans b2, fun d k hd hk => ?_, fun j hj => ?_⟩
      · rw [zu_p (by decide), b3, if_pos ⟨by omega, by omega⟩, zu_p (by decide)]
        exact (a4 d (by rw [a3]; omega)).2 k hk
      · rw [zu_p (by decide), b3, if_neg hj, zu_p (by decide)]
        exact e8 j
  · rw [if_neg k, if_neg k, if_neg k]
    show ∃ m', z_R 35 (m1, 11, [(2, 0), (9, 0)], [(0, 0)]) = _ ∧ _
    rw [s_people_11, s_empty_0]
    show ∃ m', z_R 35 (z_up m1 1 1 0, 19, [(2, 0), (0, 0)], []) = _ ∧ _
    have k12 : (z_up m1 1 1 0) 1 2 = S.2.1 := (zu_k (by decide)).trans a2
    rw [s_people_19, if_pos rfl, k12, z_sub_eq (by omega) (by omega)]
    exact ⟨_, rfl, (zu_p (by decide)).trans e11, (fun d k hd => absurd hd (Nat.not_lt_zero d)), fun j _ => (zu_p (by decide)).trans (e8 j)⟩
theorem t_people {c s : Int} (hc0 : 0 ≤ c) (hc : c ≤ 3) (hs0 : 0 ≤ s) (hs : s ≤ 3) (p : Nat) (hp : p ≤ 5) (m : z_M) (h0 : 0 ≤ m 251 8) (h1 : m 251 8 ≤ 80) (hr : ∀ k, k < 80 → -128 ≤ m 254 k ∧ m 254 k ≤ 127) (e1 : m 251 1 = c) (e2 : m 251 2 = s) (e3 : m 251 3 = (p : Int)) {G : Int → Int} (hG : u_nx (u_t m) (m 251 8) 76 = G) {S : Bool × Int × Nat} (hS : u_ls G c s (m 251 8) (5 - p) 0 0 = S) : ∃ m', z_R 172 (m, 0, [(2, 251), (9, 0), (9, 0), (9, 0), (9, 0), (9, 0)], []) = some (m', some (0, u_pa (m 251 8) S)) ∧ m' 251 3 = ((p + u_pn (m 251 8) S : Nat) : Int) ∧ (∀ d k : Nat, d < u_pn (m 251 8) S → k < 6 → m' 253 (6 * (p + d) + k) = u_dg (G (10 * (d : Int) + 3 + (k : Int)))) ∧ (∀ j, ¬ (6 * p ≤ j ∧ j < 6 * (p + u_pn (m 251 8) S)) → m' 253 j = m 253 j) ∧ m' 251 52 = (if m 251 8 = 0 then m 251 52 else if S.1 = true then z_add (m 251 52) 1 else m 251 52) := by
  have hb := u_ls_b (g := G) (by rw [← hG]; exact u_nx_b h1) (c := c) (s := s) (n := m 251 8) (5 - p) 0 0 (by decide) (by decide)
  rw [hS] at hb
  rw [t_people_0, t_begin_0]
  have e8 : (z_up m 251 11 0) 251 8 = m 251 8 := zu_k (by decide)
  show ∃ m', z_R 172 (z_up (z_up (z_up (z_up (z_up (z_up m 251 11 0) 251 12 254) 251 13 (m 251 8)) 251 14 76) 251 15 0) 251 16 (-1), 19, [(2, 251), (9, 0), (9, 0), (9, 0), (9, 0), (9, 0)], []) = _ ∧ _
  rw [t_people_19]
  generalize hm : z_up (z_up (z_up (z_up (z_up (z_up m 251 11 0) 251 12 254) 251 13 (m 251 8)) 251 14 76) 251 15 0) 251 16 (-1) = m9
  have j13 : m9 251 13 = m 251 8 := by rw [← hm, zu_k (by decide), zu_k (by decide), zu_k (by decide), zu_self]
  have o9 : ∀ p' k', ¬ (p' = 251 ∧ 11 ≤ k' ∧ k' ≤ 16) → m9 p' k' = m p' k' := fun p' k' n => by
    rw [← hm]
    unfold z_up
    rw [if_neg (by omega), if_neg (by omega), if_neg (by omega), if_neg (by omega), if_neg (by omega), if_neg (by omega)]
  rw [j13]
  unfold u_pa u_pn
  by_cases z : m 251 8 = 0
  · rw [if_pos z, if_pos z, if_pos z]
    exact ⟨_, rfl, (zu_k (by decide)).trans ((o9 251 3 (by omega)).trans e3), (fun d k hd => absurd hd (Nat.not_lt_zero d)), (fun j _ => (zu_p (by decide)).trans (o9 253 j (by omega))), by rw [if_pos z]; exact (zu_k (by decide)).trans (o9 251 52 (by omega))⟩
  rw [if_neg z, if_neg z, if_neg z]
  generalize hm0 : z_up m9 251 8 0 = m0
  have o0 : ∀ p' k', ¬ (p' = 251 ∧ 11 ≤ k' ∧ k' ≤ 16) → ¬ (p' = 251 ∧ k' = 8) → m0 p' k' = m p' k' := fun p' k' n n' => by
    rw [← hm0]
    unfold z_up
    rw [if_neg n']
    exact o9 p' k' n
  have g12 : m0 251 12 = 254 := by rw [← hm0, zu_k (by decide), ← hm, zu_k (by decide), zu_k (by decide), zu_k (by decide), zu_k (by decide), zu_self]
  have g13 : m0 251 13 = m 251 8 := by rw [← hm0, zu_k (by decide)]; exact j13
  have g14 : m0 251 14 = 76 := by rw [← hm0, zu_k (by decide), ← hm, zu_k (by decide), zu_k (by decide), zu_self]
  have g15 : m0 251 15 = 0 := by rw [← hm0, zu_k (by decide), ← hm, zu_k (by decide), zu_self]
  have g16 : m0 251 16 = -1 := by rw [← hm0, zu_k (by decide), ← hm, zu_self]
  have gq : u_q m0 = G := by
    rw [← hG]
    unfold u_q u_t
    rw [show m0 254 = m 254 from funext fun k => o0 254 k (by omega) (by omega), g13, g14]
  obtain ⟨m1, r1, r2, r3⟩ := t_ls hc0 hc hs0 hs p (5 - p) 0 m0 (by omega) ⟨g12, by omega, by omega, by omega, fun k hk => by rw [o0 254 k (by omega) (by omega)]; exact hr k hk⟩ g16 ((o0 251 1 (by omega) (by omega)).trans e1) ((o0 251 2 (by omega) (by omega)).trans e2) ((o0 251 3 (by omega) (by omega)).trans e3)
  rw [gq, g13, g15, hS] at r1 r2
  by_cases k : S.1 = true
  · rw [if_pos k, if_pos k]
    obtain ⟨q1, q2⟩ := r1 k
    obtain ⟨m2, b1, b2, b52, b3, b4⟩ := t_a125 (cnt := S.2.2) (by omega) 0 S.2.2 0 p (9, 0) (9, 0) m1 (Nat.zero_add _) (by omega) ((u_N_off r3 (by omega) (by omega)).trans ((o0 251 3 (by omega) (by omega)).trans e3))
    refine ⟨m2, q1.trans b1, b2, fun d k hd hk => ?_, fun j hj => ?_, by rw [if_neg z, if_pos k, b52, u_N_off r3 (by omega) (by omega), o0 251 52 (by omega) (by omega)]⟩
    · rw [(b3 d hd).1 k hk]
      have := (q2 d (by omega)).2 k hk
      rw [show (0 : Int) + 10 * (d : Int) = 10 * (d : Int) by omega] at this
      exact this
    · rw [b4 253 j (by omega) (by omega) (by omega) (by omega) (by omega), u_N_off r3 (by omega) (by omega), o0 253 j (by omega) (by omega)]
  · have k' : S.1 = false := by cases hq : S.1 <;> simp_all
    rw [if_neg k, if_neg k]
    refine ⟨m1, r2 k', (u_N_off r3 (by omega) (by omega)).trans ((o0 251 3 (by omega) (by omega)).trans e3), (fun d k hd => absurd hd (Nat.not_lt_zero d)), (fun j _ => (u_N_off r3 (by omega) (by omega)).trans (o0 253 j (by omega) (by omega))), by rw [if_neg z, if_neg k]; exact (u_N_off r3 (by omega) (by omega)).trans (o0 251 52 (by omega) (by omega))⟩
end
section
/-! STEPS whose bounds are known -/
theorem z_R_ifd {y : Nat} {K : List (List a_K)} (hK : kt_at y = K) {c : Prop} [hc : Decidable c] {m : z_M} {pc p1 p2 : Nat} {ls : z_L} {st st' : List z_V} {q : a_K} {A B : Option z_Q} (hq : k_get K pc = some q) (hk : z_kd q.2.1 q.2.2.2.2 = 0) (hs : z_step q (m, pc, ls, st) = some (m, bif decide c then p1 else p2, ls, st')) (h1 : c → z_R y (m, p1, ls, st') = A) (h2 : ¬ c → z_R y (m, p2, ls, st') = B) : z_R y (m, pc, ls, st) = if c then A else B := by
  rw [z_R_st hK (g := (m, pc, ls, st)) hq hk hs, z_R_pc, z_bif]
  by_cases h : c
  · rw [if_pos h, if_pos h, h1 h]
  · rw [if_neg h, if_neg h, h2 h]
theorem z_R_ifnd {y : Nat} {K : List (List a_K)} (hK : kt_at y = K) {c : Prop} [hc : Decidable c] {m : z_M} {pc p1 p2 : Nat} {ls : z_L} {st st' : List z_V} {q : a_K} {A B : Option z_Q} (hq : k_get K pc = some q) (hk : z_kd q.2.1 q.2.2.2.2 = 0) (hs : z_step q (m, pc, ls, st) = some (m, bif !decide c then p1 else p2, ls, st')) (h1 : ¬ c → z_R y (m, p1, ls, st') = A) (h2 : c → z_R y (m, p2, ls, st') = B) : z_R y (m, pc, ls, st) = if c then B else A := by
  rw [z_R_st hK (g := (m, pc, ls, st)) hq hk hs, z_R_pc, z_bif_n]
  by_cases h : c
  · rw [if_pos h, if_pos h, h2 h]
  · rw [if_neg h, if_neg h, h1 h]
theorem z_R_if1 {y : Nat} {K : List (List a_K)} (hK : kt_at y = K) {c : Prop} [hc : Decidable c] {m : z_M} {pc p1 p2 : Nat} {ls : z_L} {st st' : List z_V} {q : a_K} {A : Option z_Q} (hq : k_get K pc = some q) (hk : z_kd q.2.1 q.2.2.2.2 = 0) (hs : z_step q (m, pc, ls, st) = some (m, bif decide c then p1 else p2, ls, st')) (hd : c) (h1 : z_R y (m, p1, ls, st') = A) : z_R y (m, pc, ls, st) = A := by
  rw [z_R_st hK (g := (m, pc, ls, st)) hq hk hs, z_R_pc, z_bif, if_pos hd, h1]
theorem z_R_if0 {y : Nat} {K : List (List a_K)} (hK : kt_at y = K) {c : Prop} [hc : Decidable c] {m : z_M} {pc p1 p2 : Nat} {ls : z_L} {st st' : List z_V} {q : a_K} {A : Option z_Q} (hq : k_get K pc = some q) (hk : z_kd q.2.1 q.2.2.2.2 = 0) (hs : z_step q (m, pc, ls, st) = some (m, bif decide c then p1 else p2, ls, st')) (hd : ¬ c) (h1 : z_R y (m, p2, ls, st') = A) : z_R y (m, pc, ls, st) = A := by
  rw [z_R_st hK (g := (m, pc, ls, st)) hq hk hs, z_R_pc, z_bif, if_neg hd, h1]
theorem z_R_ifn1 {y : Nat} {K : List (List a_K)} (hK : kt_at y = K) {c : Prop} [hc : Decidable c] {m : z_M} {pc p1 p2 : Nat} {ls : z_L} {st st' : List z_V} {q : a_K} {A : Option z_Q} (hq : k_get K pc = some q) (hk : z_kd q.2.1 q.2.2.2.2 = 0) (hs : z_step q (m, pc, ls, st) = some (m, bif !decide c then p1 else p2, ls, st')) (hd : c) (h1 : z_R y (m, p2, ls, st') = A) : z_R y (m, pc, ls, st) = A := by
  rw [z_R_st hK (g := (m, pc, ls, st)) hq hk hs, z_R_pc, z_bif_n, if_pos hd, h1]
theorem z_R_ifn0 {y : Nat} {K : List (List a_K)} (hK : kt_at y = K) {c : Prop} [hc : Decidable c] {m : z_M} {pc p1 p2 : Nat} {ls : z_L} {st st' : List z_V} {q : a_K} {A : Option z_Q} (hq : k_get K pc = some q) (hk : z_kd q.2.1 q.2.2.2.2 = 0) (hs : z_step q (m, pc, ls, st) = some (m, bif !decide c then p1 else p2, ls, st')) (hd : ¬ c) (h1 : z_R y (m, p1, ls, st') = A) : z_R y (m, pc, ls, st) = A := by
  rw [z_R_st hK (g := (m, pc, ls, st)) hq hk hs, z_R_pc, z_bif_n, if_neg hd, h1]
theorem z_ix_t {i : Int} {n : Nat} (h : 0 ≤ i ∧ i < (n : Int)) : z_ix i n = true := by unfold z_ix; rw [decide_eq_true h.1, decide_eq_true h.2]; rfl
theorem z_ix_f {i : Int} {n : Nat} (h : ¬ (0 ≤ i ∧ i < (n : Int))) : z_ix i n = false := by
  unfold z_ix
  by_cases h0 : 0 ≤ i
  · rw [decide_eq_true h0, decide_eq_false (fun z => h ⟨h0, z⟩)]; rfl
  · rw [decide_eq_false h0]; rfl
theorem z_R_ixT {y : Nat} {K : List (List a_K)} (hK : kt_at y = K) {i : Int} {n : Nat} {m : z_M} {pc : Nat} {ls : z_L} {st : List z_V} {g' : z_G} {q : a_K} {A : Option z_Q} (hq : k_get K pc = some q) (hk : z_kd q.2.1 q.2.2.2.2 = 0) (hs : z_step q (m, pc, ls, st) = bif z_ix i n then some g' else none) (hi : 0 ≤ i ∧ i < (n : Int)) (h1 : z_R y g' = A) : z_R y (m, pc, ls, st) = A := by
  rw [z_ix_t hi] at hs
  exact (z_R_st hK (g := (m, pc, ls, st)) hq hk hs).trans h1
theorem z_ga_t {m : z_M} {q k : Nat} : z_ga m q k = (2, (z_ga m q k).2) := by
  unfold z_ga
  cases Nat.beq (h_ty q k).1 1 <;> rfl
theorem z_R_ixG {y : Nat} {K : List (List a_K)} (hK : kt_at y = K) {i : Int} {n Q pc' : Nat} {m : z_M} {pc : Nat} {ls : z_L} {st r : List z_V} {q : a_K} {A : Option z_Q} (hq : k_get K pc = some q) (hk : z_kd q.2.1 q.2.2.2.2 = 0) (hs : z_step q (m, pc, ls, st) = bif z_ix i n then some (m, pc', ls, z_ga m Q i.toNat :: r) else none) (hi : 0 ≤ i ∧ i < (n : Int)) (h1 : z_R y (m, pc', ls, (2, (z_ga m Q i.toNat).2) :: r) = A) : z_R y (m, pc, ls, st) = A := by
  rw [z_ix_t hi, z_ga_t] at hs
  exact (z_R_st hK (g := (m, pc, ls, st)) hq hk hs).trans h1
theorem z_R_ixD {y : Nat} {K : List (List a_K)} (hK : kt_at y = K) {i : Int} {n : Nat} {m : z_M} {pc : Nat} {ls : z_L} {st : List z_V} {g' : z_G} {q : a_K} {A : Option z_Q} (hq : k_get K pc = some q) (hk : z_kd q.2.1 q.2.2.2.2 = 0) (hs : z_step q (m, pc, ls, st) = bif z_ix i n then some g' else none) (h1 : 0 ≤ i ∧ i < (n : Int) → z_R y g' = A) : z_R y (m, pc, ls, st) = if 0 ≤ i ∧ i < (n : Int) then A else none := by
  by_cases h : 0 ≤ i ∧ i < (n : Int)
  · rw [if_pos h]; exact z_R_ixT hK hq hk hs h (h1 h)
  · rw [z_ix_f h] at hs
    rw [if_neg h]
    exact z_R_bad hK (g := (m, pc, ls, st)) hq hk hs
theorem z_R_ixTS {y : Nat} {K : List (List a_K)} (hK : kt_at y = K) {i : Int} {n Q pc' : Nat} {m : z_M} {pc : Nat} {ls : z_L} {st r : List z_V} {q : a_K} {A : Option z_Q} (hq : k_get K pc = some q) (hk : z_kd q.2.1 q.2.2.2.2 = 0) (hs : z_step q (m, pc, ls, st) = bif z_ix i (z_ln Q) then some (m, pc', ls, (0, z_rd m Q i.toNat) :: r) else none) (hn : z_ln Q = n) (hr : ∀ (m : z_M) (j : Nat), z_rd m Q j = m Q j) (hi : 0 ≤ i ∧ i < (n : Int)) (h1 : z_R y (m, pc', ls, (0, m Q i.toNat) :: r) = A) : z_R y (m, pc, ls, st) = A := by
  rw [hn, z_ix_t hi, hr] at hs
  exact (z_R_st hK (g := (m, pc, ls, st)) hq hk hs).trans h1
theorem z_R_ixDS {y : Nat} {K : List (List a_K)} (hK : kt_at y = K) {i : Int} {n Q pc' : Nat} {m : z_M} {pc : Nat} {ls : z_L} {st r : List z_V} {q : a_K} {A : Option z_Q} (hq : k_get K pc = some q) (hk : z_kd q.2.1 q.2.2.2.2 = 0) (hs : z_step q (m, pc, ls, st) = bif z_ix i (z_ln Q) then some (m, pc', ls, (0, z_rd m Q i.toNat) :: r) else none) (hn : z_ln Q = n) (hr : ∀ (m : z_M) (j : Nat), z_rd m Q j = m Q j) (h1 : 0 ≤ i ∧ i < (n : Int) → z_R y (m, pc', ls, (0, m Q i.toNat) :: r) = A) : z_R y (m, pc, ls, st) = if 0 ≤ i ∧ i < (n : Int) then A else none := by
  by_cases h : 0 ≤ i ∧ i < (n : Int)
  · rw [if_pos h]; exact z_R_ixTS hK hq hk hs hn hr h (h1 h)
  · rw [hn, z_ix_f h] at hs
    rw [if_neg h]
    exact z_R_bad hK (g := (m, pc, ls, st)) hq hk hs
theorem z_R_stTS {y : Nat} {K : List (List a_K)} (hK : kt_at y = K) {i v : Int} {n Q pc' : Nat} {m : z_M} {pc : Nat} {ls : z_L} {st r : List z_V} {q : a_K} {A : Option z_Q} (hq : k_get K pc = some q) (hk : z_kd q.2.1 q.2.2.2.2 = 0) (hs : z_step q (m, pc, ls, st) = bif z_ix i (h_ln Q) then some (z_up m Q i.toNat v, pc', ls, r) else none) (hn : h_ln Q = n) (hi : 0 ≤ i ∧ i < (n : Int)) (h1 : z_R y (z_up m Q i.toNat v, pc', ls, r) = A) : z_R y (m, pc, ls, st) = A := by
  rw [hn, z_ix_t hi] at hs
  exact (z_R_st hK (g := (m, pc, ls, st)) hq hk hs).trans h1
theorem z_R_stDS {y : Nat} {K : List (List a_K)} (hK : kt_at y = K) {i v : Int} {n Q pc' : Nat} {m : z_M} {pc : Nat} {ls : z_L} {st r : List z_V} {q : a_K} {A : Option z_Q} (hq : k_get K pc = some q) (hk : z_kd q.2.1 q.2.2.2.2 = 0) (hs : z_step q (m, pc, ls, st) = bif z_ix i (h_ln Q) then some (z_up m Q i.toNat v, pc', ls, r) else none) (hn : h_ln Q = n) (h1 : 0 ≤ i ∧ i < (n : Int) → z_R y (z_up m Q i.toNat v, pc', ls, r) = A) : z_R y (m, pc, ls, st) = if 0 ≤ i ∧ i < (n : Int) then A else none := by
  by_cases h : 0 ≤ i ∧ i < (n : Int)
  · rw [if_pos h]; exact z_R_stTS hK hq hk hs hn h (h1 h)
  · rw [hn, z_ix_f h] at hs
    rw [if_neg h]
    exact z_R_bad hK (g := (m, pc, ls, st)) hq hk hs
theorem z_R_gf {y : Nat} {K : List (List a_K)} (hK : kt_at y = K) {m : z_M} {pc pc' s ci k : Nat} {ls : z_L} {st r : List z_V} {q : a_K} {v : z_V} {A : Option z_Q} (hq : k_get K pc = some q) (hk : z_kd q.2.1 q.2.2.2.2 = 0) (hs : z_step q (m, pc, ls, st) = some (m, pc', ls, z_gf m s ci k :: r)) (hv : z_gf m s ci k = v) (h1 : z_R y (m, pc', ls, v :: r) = A) : z_R y (m, pc, ls, st) = A := by
  rw [hv] at hs
  exact (z_R_st hK (g := (m, pc, ls, st)) hq hk hs).trans h1
theorem z_R_dvT {y : Nat} {K : List (List a_K)} (hK : kt_at y = K) {d : Int} {m : z_M} {pc : Nat} {ls : z_L} {st : List z_V} {g' : z_G} {q : a_K} {A : Option z_Q} (hq : k_get K pc = some q) (hk : z_kd q.2.1 q.2.2.2.2 = 0) (hs : z_step q (m, pc, ls, st) = if d = 0 then none else some g') (hd : ¬ d = 0) (h1 : z_R y g' = A) : z_R y (m, pc, ls, st) = A := by
  rw [if_neg hd] at hs
  exact (z_R_st hK (g := (m, pc, ls, st)) hq hk hs).trans h1
theorem z_R_dvD {y : Nat} {K : List (List a_K)} (hK : kt_at y = K) {d : Int} {m : z_M} {pc : Nat} {ls : z_L} {st : List z_V} {g' : z_G} {q : a_K} {A : Option z_Q} (hq : k_get K pc = some q) (hk : z_kd q.2.1 q.2.2.2.2 = 0) (hs : z_step q (m, pc, ls, st) = if d = 0 then none else some g') (h1 : ¬ d = 0 → z_R y g' = A) : z_R y (m, pc, ls, st) = if d = 0 then none else A := by
  by_cases h : d = 0
  · rw [if_pos h] at hs ⊢
    exact z_R_bad hK (g := (m, pc, ls, st)) hq hk hs
  · rw [if_neg h]
    exact z_R_dvT hK hq hk hs h (h1 h)
theorem z_R_cs {y : Nat} {K : List (List a_K)} (hK : kt_at y = K) {m m' : z_M} {pc pc' : Nat} {ls : z_L} {st : List z_V} {q : a_K} {y2 : Nat} {as rest : List z_V} {fr : z_L} {v : Option z_V} {A : Option z_Q} (hq : k_get K pc = some q) (hk : z_kd q.2.1 q.2.2.2.2 = 2) (hc : z_call q st = some (y2, as, rest)) (hf : z_fr y2 as = fr) (hp : pc + 3 = pc') (hT : z_R y2 (m, 0, fr, []) = some (m', v)) (h1 : z_R y (m', pc', ls, v.toList ++ rest) = A) : z_R y (m, pc, ls, st) = A := by
  rw [z_R_call hK hq hk hc hf hp, hT]
  exact h1
theorem z_R_cif {y : Nat} {K : List (List a_K)} (hK : kt_at y = K) {m m1 m2 : z_M} {pc pc' : Nat} {ls : z_L} {st : List z_V} {q : a_K} {y2 : Nat} {as rest : List z_V} {fr : z_L} {v1 v2 : Option z_V} {A B : Option z_Q} {c : Prop} [hdc : Decidable c] (hq : k_get K pc = some q) (hk : z_kd q.2.1 q.2.2.2.2 = 2) (hc : z_call q st = some (y2, as, rest)) (hf : z_fr y2 as = fr) (hp : pc + 3 = pc') (hT : z_R y2 (m, 0, fr, []) = if c then some (m1, v1) else some (m2, v2)) (h1 : c → z_R y (m1, pc', ls, v1.toList ++ rest) = A) (h2 : ¬ c → z_R y (m2, pc', ls, v2.toList ++ rest) = B) : z_R y (m, pc, ls, st) = if c then A else B := by
  rw [z_R_call hK hq hk hc hf hp, hT]
  by_cases h : c
  · rw [if_pos h, if_pos h]; exact h1 h
  · rw [if_neg h, if_neg h]; exact h2 h
theorem z_div_nn {x y : Int} (h1 : 0 ≤ x) (h2 : x ≤ 2147483647) (h3 : 0 < y) (h4 : y ≤ 2147483647) : z_div x y = x / y := by
  rw [z_div_eq (by omega) h2 (by omega) h4 (by omega)]
  exact Int.tdiv_eq_ediv_of_nonneg h1
theorem z_rem_nn {x y : Int} (h1 : 0 ≤ x) (h2 : x ≤ 2147483647) (h3 : 0 < y) (h4 : y ≤ 2147483647) : z_rem x y = x % y := by
  rw [z_rem_eq (by omega) h2 (by omega) h4]
  exact Int.tmod_eq_emod_of_nonneg h1
/-- what a call gave, behind it -/
theorem zb_v {y pc : Nat} {m : z_M} {v : z_V} {ls : z_L} {rest : List z_V} : ((some (m, some v) : Option z_Q).bind fun qq => z_R y (qq.1, pc, ls, qq.2.toList ++ rest)) = z_R y (m, pc, ls, v :: rest) := rfl
theorem zb_n {y pc : Nat} {m : z_M} {ls : z_L} {rest : List z_V} : ((some (m, none) : Option z_Q).bind fun qq => z_R y (qq.1, pc, ls, qq.2.toList ++ rest)) = z_R y (m, pc, ls, rest) := rfl
theorem z_dite {α : Type} {X A B : α} {c : Prop} [hc : Decidable c] (h1 : c → X = A) (h2 : ¬ c → X = B) : X = if c then A else B := by
  by_cases h : c
  · rw [if_pos h]; exact h1 h
  · rw [if_neg h]; exact h2 h
theorem z_R_tgi {y pc : Nat} {m : z_M} {ls : z_L} {st : List z_V} {c : Prop} [hc : Decidable c] {o o' : Int} {A B : Option z_Q} (h1 : c → z_R y (m, z_tgt pc o, ls, st) = A) (h2 : ¬ c → z_R y (m, z_tgt pc o', ls, st) = B) : z_R y (m, z_tgt pc (if c then o else o'), ls, st) = if c then A else B := by
  by_cases h : c
  · rw [if_pos h, if_pos h]; exact h1 h
  · rw [if_neg h, if_neg h]; exact h2 h
theorem z_R_tbk {y pc : Nat} {m : z_M} {ls : z_L} {st : List z_V} {d lo hi x k o : Int} {os : List Int} {A : Option z_Q} (h : x = k) (he : z_tbo d lo hi os k = o) (h1 : z_R y (m, z_tgt pc o, ls, st) = A) : z_R y (m, z_tgt pc (z_tbo d lo hi os x), ls, st) = A := by
  rw [h, he]; exact h1
theorem z_R_tbd {y pc : Nat} {m : z_M} {ls : z_L} {st : List z_V} {d lo hi x : Int} {os : List Int} {A : Option z_Q} (h : ¬ (lo ≤ x ∧ x ≤ hi)) (h1 : z_R y (m, z_tgt pc d, ls, st) = A) : z_R y (m, z_tgt pc (z_tbo d lo hi os x), ls, st) = A := by
  unfold z_tbo
  rw [if_neg h]; exact h1
/-! places of States, of rows of 37 -/
def z_stL : List Nat := [12, 18, 32, 38, 44, 50, 56, 62, 68, 74, 80, 86, 92, 98, 104, 110, 123, 129, 141, 147, 157, 163, 169, 175, 181, 187, 196, 202, 208, 214, 220, 226, 232, 238, 244]
def z_st (s : Nat) : Prop := s ∈ z_stL ∧ (s = 12 ∨ s = 18 ∨ (32 ≤ s ∧ s ≤ 110) ∨ s = 123 ∨ s = 129 ∨ s = 141 ∨ s = 147 ∨ (157 ≤ s ∧ s ≤ 187) ∨ (196 ≤ s ∧ s ≤ 244))
def st_n (k : Nat) : Nat := if k < 3 then 9 else 5
noncomputable def st_ck (s : Nat) : Bool := (List.range 5).all (fun k => Nat.beq (h_ty s k).1 1 && (i_eq (h_ty s k).2.1 ((s + (k + 1) : Nat) : Int) && (Nat.beq (z_ln (s + (k + 1))) (st_n (k + 1)) && (Nat.beq (h_ln (s + (k + 1))) (st_n (k + 1)) && Nat.blt (s + (k + 1)) h_N)))) && (List.range 9).all (fun k => Nat.blt k 5 || (!(Nat.beq (h_ty s k).1 1) && Nat.beq (z_ft (a_ty 8 k)) 0))
theorem st_cks : z_stL.all st_ck = true := by decide +kernel
theorem st_c1 {s k : Nat} (h : z_st s) (hk : k < 5) : (h_ty s k).1 = 1 ∧ (h_ty s k).2.1 = ((s + (k + 1) : Nat) : Int) ∧ z_ln (s + (k + 1)) = st_n (k + 1) ∧ h_ln (s + (k + 1)) = st_n (k + 1) ∧ s + (k + 1) < h_N := by
  have h1 := List.all_eq_true.mp st_cks s h.1
  obtain ⟨h2, -⟩ := Bool.and_eq_true _ _ |>.mp h1
  have h3 := List.all_eq_true.mp h2 k (List.mem_range.mpr hk)
  obtain ⟨a1, h3⟩ := Bool.and_eq_true _ _ |>.mp h3
  obtain ⟨a2, h3⟩ := Bool.and_eq_true _ _ |>.mp h3
  obtain ⟨a3, h3⟩ := Bool.and_eq_true _ _ |>.mp h3
  obtain ⟨a4, a5⟩ := Bool.and_eq_true _ _ |>.mp h3
  exact ⟨Nat.eq_of_beq_eq_true a1, i_eq_iff.mp a2, Nat.eq_of_beq_eq_true a3, Nat.eq_of_beq_eq_true a4, Nat.le_of_ble_eq_true a5⟩
theorem st_c2 {s k : Nat} (h : z_st s) (hk : k < 9) (h5 : 5 ≤ k) : Nat.beq (h_ty s k).1 1 = false ∧ z_ft (a_ty 8 k) = 0 := by
  have h1 := List.all_eq_true.mp st_cks s h.1
  obtain ⟨-, h2⟩ := Bool.and_eq_true _ _ |>.mp h1
  have h3 := List.all_eq_true.mp h2 k (List.mem_range.mpr hk)
  have hb : Nat.blt k 5 = false := by
    cases e : Nat.blt k 5 with
    | false => rfl
    | true => exact absurd (Nat.le_of_ble_eq_true e) (by omega)
  rw [hb, Bool.false_or] at h3
  obtain ⟨a1, a2⟩ := Bool.and_eq_true _ _ |>.mp h3
  refine ⟨?_, Nat.eq_of_beq_eq_true a2⟩
  cases e : Nat.beq (h_ty s k).1 1 with
  | false => rfl
  | true => rw [e] at a1; cases a1
theorem st_ga {m : z_M} {s ci : Nat} (h : z_st s) (k : Nat) (hk : k < 5) : z_gf m s ci k = (2, ((s + (k + 1) : Nat) : Int)) := by
  obtain ⟨h1, h2, -⟩ := st_c1 h hk
  unfold z_gf
  rw [h1, h2]
  rfl
theorem st_gi {m : z_M} {s : Nat} (h : z_st s) (k : Nat) (hk : k < 9) (h5 : 5 ≤ k) : z_gf m s 8 k = (0, m s k) := by
  obtain ⟨h1, h2⟩ := st_c2 h hk h5
  unfold z_gf
  rw [h1, h2]
  rfl
theorem st_ln {s : Nat} (h : z_st s) (k : Nat) (h1 : 1 ≤ k) (h2 : k ≤ 5) : z_ln (s + k) = st_n k := by
  obtain ⟨j, rfl⟩ : ∃ j, k = j + 1 := ⟨k - 1, by omega⟩
  exact (st_c1 h (k := j) (by omega)).2.2.1
theorem st_hl {s : Nat} (h : z_st s) (k : Nat) (h1 : 1 ≤ k) (h2 : k ≤ 5) : h_ln (s + k) = st_n k := by
  obtain ⟨j, rfl⟩ : ∃ j, k = j + 1 := ⟨k - 1, by omega⟩
  exact (st_c1 h (k := j) (by omega)).2.2.2.1
theorem z_rd_sm {q : Nat} (h : q < h_N) (m : z_M) (j : Nat) : z_rd m q j = m q j := by
  unfold z_rd
  rw [show Nat.blt q h_N = true from Nat.ble_eq_true_of_le h]
  rfl
theorem st_rd {s : Nat} (h : z_st s) (k : Nat) (h1 : 1 ≤ k) (h2 : k ≤ 5) (m : z_M) (j : Nat) : z_rd m (s + k) j = m (s + k) j := by
  obtain ⟨i, rfl⟩ : ∃ i, k = i + 1 := ⟨k - 1, by omega⟩
  exact z_rd_sm (st_c1 h (k := i) (by omega)).2.2.2.2 m j
noncomputable def z_A (n a : Nat) : Prop := z_ln a = n ∧ h_ln a = n ∧ ∀ (m : z_M) (j : Nat), z_rd m a j = m a j
def z_ab (a : Nat) : Prop := a = 252 ∨ a = 264
theorem z_A_252 : z_A 37 252 := ⟨by decide +kernel, by decide +kernel, z_rd_sm (by decide +kernel)⟩
theorem z_A_264 : z_A 37 264 := ⟨by decide +kernel, by decide +kernel, z_rd_sm (by decide +kernel)⟩
/-! a cell that is left: with places told by a name -/
def z_of : List (Nat × Nat × Nat) → Nat → Nat → Prop
  | [], _, _ => True
  | (a, b, c) :: L, p, k => ¬ (a = p ∧ b ≤ k ∧ k ≤ c) ∧ z_of L p k
theorem z_of_c {a b c p k : Nat} {L : List (Nat × Nat × Nat)} (h : ¬ (a = p ∧ b ≤ k ∧ k ≤ c)) (t : z_of L p k) : z_of ((a, b, c) :: L) p k := ⟨h, t⟩
def z_ofr : List (Nat × Nat × Nat) → Nat → Prop
  | [], _ => True
  | (a, _, _) :: L, p => ¬ a = p ∧ z_ofr L p
theorem z_ofr_c {a b c p : Nat} {L : List (Nat × Nat × Nat)} (h : ¬ a = p) (t : z_ofr L p) : z_ofr ((a, b, c) :: L) p := ⟨h, t⟩
def z_on : List (Nat × Nat × Nat) → Nat → Nat → Prop
  | [], _, _ => False
  | (a, b, c) :: L, p, k => (a = p ∧ b ≤ k ∧ k ≤ c) ∨ z_on L p k
theorem z_on_h {a b c p k : Nat} {L : List (Nat × Nat × Nat)} (h : a = p) (h1 : b ≤ k) (h2 : k ≤ c) : z_on ((a, b, c) :: L) p k := Or.inl ⟨h, h1, h2⟩
theorem z_on_t {a b c p k : Nat} {L : List (Nat × Nat × Nat)} (h : z_on L p k) : z_on ((a, b, c) :: L) p k := Or.inr h
theorem z_of_ok : ∀ {L : List (Nat × Nat × Nat)} {p k : Nat}, z_of L p k → ∀ q ∈ L, ¬ (q.1 = p ∧ q.2.1 ≤ k ∧ k ≤ q.2.2)
  | [], _, _, _, q, h => absurd h List.not_mem_nil
  | (a, b, c) :: L, p, k, h, q', h' => by
    rcases List.mem_cons.mp h' with rfl | h'
    · exact h.1
    · exact z_of_ok h.2 q' h'
theorem z_ofr_ok : ∀ {L : List (Nat × Nat × Nat)} {p k : Nat}, z_ofr L p → ∀ q ∈ L, ¬ (q.1 = p ∧ q.2.1 ≤ k ∧ k ≤ q.2.2)
  | [], _, _, _, q, h => absurd h List.not_mem_nil
  | (a, b, c) :: L, p, k, h, q', h' => by
    rcases List.mem_cons.mp h' with rfl | h'
    · exact fun z => h.1 z.1
    · exact z_ofr_ok h.2 q' h'
theorem z_on_ok : ∀ {L : List (Nat × Nat × Nat)} {p k : Nat}, z_on L p k → ∃ q ∈ L, q.1 = p ∧ q.2.1 ≤ k ∧ k ≤ q.2.2
  | [], _, _, h => absurd h id
  | (a, b, c) :: L, p, k, h => by
    rcases h with h | h
    · exact ⟨(a, b, c), List.mem_cons_self, h⟩
    · obtain ⟨q', h1, h2⟩ := z_on_ok h
      exact ⟨q', List.mem_cons_of_mem _ h1, h2⟩
theorem z_same.of {L : List (Nat × Nat × Nat)} {m m' : z_M} (h : z_same L m m') {p k : Nat} (ho : z_of L p k) : m' p k = m p k := h p k (z_of_ok ho)
theorem z_same.ofr {L : List (Nat × Nat × Nat)} {m m' : z_M} (h : z_same L m m') {p : Nat} (ho : z_ofr L p) : m' p = m p := funext fun k => h p k (z_ofr_ok ho)
theorem z_same.upo {L : List (Nat × Nat × Nat)} {m m' : z_M} {p k : Nat} {v : Int} (h : z_same L m m') (hq : z_on L p k) : z_same L m (z_up m' p k v) := h.up (z_on_ok hq)
def z_sbo : List (Nat × Nat × Nat) → List (Nat × Nat × Nat) → Prop
  | [], _ => True
  | (a, b, c) :: L, L' => (∀ k, b ≤ k → k ≤ c → z_on L' a k) ∧ z_sbo L L'
theorem z_sbo_c {a b c : Nat} {L L' : List (Nat × Nat × Nat)} (h : ∀ k, b ≤ k → k ≤ c → z_on L' a k) (t : z_sbo L L') : z_sbo ((a, b, c) :: L) L' := ⟨h, t⟩
theorem z_sbo_ok : ∀ {L L' : List (Nat × Nat × Nat)}, z_sbo L L' → ∀ q ∈ L, ∀ k, q.2.1 ≤ k → k ≤ q.2.2 → z_on L' q.1 k
  | [], _, _, q, h => absurd h List.not_mem_nil
  | (a, b, c) :: L, L', h, q', h' => by
    rcases List.mem_cons.mp h' with rfl | h'
    · exact h.1
    · exact z_sbo_ok h.2 q' h'
theorem z_same.subo {L L' : List (Nat × Nat × Nat)} {m m' : z_M} (h : z_same L m m') (hs : z_sbo L L') : z_same L' m m' := fun p k hn => h p k fun q hq ⟨e1, e2, e3⟩ => by
  obtain ⟨u, u1, u2⟩ := z_on_ok (z_sbo_ok hs q hq k e2 e3)
  exact hn u u1 ⟨u2.1.trans e1, u2.2⟩
end
