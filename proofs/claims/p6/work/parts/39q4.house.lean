section
/-! HOUSE in plain numbers -/
def u_L : List (Nat × Nat × Nat) := [(1, 2, 2), (3, 5, 5), (9, 0, 8)]
def u_P (m m' : z_M) (S : u_S) : Prop := m' 3 5 = S.2.1 ∧ m' 1 2 = S.2.2.1 ∧ m' 9 = S.2.2.2 ∧ z_same u_L m m'
theorem u_P.tr {m m1 m' : z_M} {S : u_S} (h : z_same u_L m m1) (hp : u_P m1 m' S) : u_P m m' S := ⟨hp.1, hp.2.1, hp.2.2.1, h.tr hp.2.2.2⟩
theorem u_g_sm {m m' : z_M} (h : z_same u_L m m') : u_g m' = u_g m := u_g_eq (h.row (by decide)) (h.at (by decide)) (h.at (by decide))
theorem c_sto {y : Int} (hy0 : 0 ≤ y) (hy : y ≤ 2) : ∀ (f : Nat) (x : Int) (v4 : z_V) (m : z_M), 0 ≤ x → x + (f : Int) = 3 → 0 ≤ m 1 2 → m 1 2 ≤ 80 → m 1 1 ≤ 80 → 1 ≤ m 3 5 → m 3 5 ≤ 3 → ∃ m', z_R 21 (m, 2, [(2, 3), (2, 1), (0, y), (0, x), v4], []) = some (m', some (0, if (u_sto (u_g m) y f x (m 3 5) (m 1 2) (m 9)).1 then 1 else 0)) ∧ u_P m m' (u_sto (u_g m) y f x (m 3 5) (m 1 2) (m 9)) := by
  intro f
  induction f with
  | zero =>
    intro x v4 m hx0 hx h0 h0' h1 hw0 hw
    rw [s_sto_2, if_pos (by omega)]
    exact ⟨m, rfl, rfl, rfl, rfl, z_same.rf⟩
  | succ f ih =>
    intro x v4 m hx0 hx h0 h0' h1 hw0 hw
    have hg : u_gb (u_g m) := u_nx_b h1
    have b := u_ic_b hg h0 h0'
    rw [s_sto_2]
    unfold u_sto
    by_cases c1 : m 3 5 ≤ x
    · rw [if_pos c1, if_pos c1]
      exact ⟨m, rfl, rfl, rfl, rfl, z_same.rf⟩
    rw [if_neg c1, if_neg c1, c_ice m h0 h1 h0']
    generalize u_ic (u_g m) (m 1 2) = q at b ⊢
    show ∃ m', z_R 21 (z_up m 1 2 q.1, 14, [(2, 3), (2, 1), (0, y), (0, x), v4], [(0, q.2)]) = _ ∧ _
    rw [s_sto_14]
    have s1 : z_same u_L m (z_up m 1 2 q.1) := z_same.rf.up1 (lo := 2) (hi := 2) (by decide) (by decide) (by decide)
    by_cases c2 : q.2 = -1
    · rw [if_pos c2, if_pos c2]
      exact ⟨_, rfl, zu_p (by decide), zu_self, zu_rowne (by decide), s1⟩
    have ek : z_add (z_mul 3 y) x = 3 * y + x := by rw [z_mul_eq (by omega) (by omega), z_add_eq (by omega) (by omega)]
    have ex : z_add x 1 = x + 1 := z_add_eq (by omega) (by omega)
    rw [if_neg c2, if_neg c2, ek, ex, if_pos ⟨by omega, by omega⟩]
    have e35 : (z_up m 1 2 q.1) 3 5 = m 3 5 := zu_p (by decide)
    rw [e35]
    have s2 : z_same u_L m (z_up (z_up m 1 2 q.1) 9 (3 * y + x).toNat q.2) := s1.up1 (lo := 0) (hi := 8) (by decide) (by omega) (by omega)
    generalize hm2 : z_up (z_up m 1 2 q.1) 9 (3 * y + x).toNat q.2 = m2 at s2 ⊢
    have f1 : m2 1 2 = q.1 := by rw [← hm2, zu_p (by decide), zu_self]
    have f2 : m2 9 = u_up (m 9) (3 * y + x).toNat q.2 := by rw [← hm2, zu_row, zu_rowne (by decide)]
    have f3 : m2 3 5 = m 3 5 := by rw [← hm2, zu_p (by decide), zu_p (by decide)]
    have f4 : m2 1 1 = m 1 1 := s2.at (by decide)
    have f5 := u_g_sm s2
    by_cases c3 : m 3 5 ≤ x + 1
    · rw [if_pos c3, if_pos c3]
      obtain ⟨m', a1, a2⟩ := ih (x + 1) (0, q.2) m2 (by omega) (by omega) (by omega) (by omega) (by omega) (by omega) (by omega)
      rw [f5, f3, f1, f2] at a1 a2
      exact ⟨m', a1, a2.tr s2⟩
    rw [if_neg c3, if_neg c3, c_over m2 44 (by omega) (by omega) (by omega), f5, f1]
    by_cases c4 : u_g m q.1 = 44
    · rw [if_pos c4, if_pos c4]
      show ∃ m', z_R 21 (z_up m2 1 2 (q.1 + 1), 52, [(2, 3), (2, 1), (0, y), (0, x), (0, q.2)], [(0, 1)]) = _ ∧ _
      have hb := hg q.1 (by omega)
      have s3 : z_same u_L m (z_up m2 1 2 (q.1 + 1)) := s2.up1 (lo := 2) (hi := 2) (by decide) (by decide) (by decide)
      rw [s_sto_52, if_neg (by decide), ex]
      have g1 : (z_up m2 1 2 (q.1 + 1)) 1 2 = q.1 + 1 := zu_self
      have g2 : (z_up m2 1 2 (q.1 + 1)) 9 = u_up (m 9) (3 * y + x).toNat q.2 := (zu_rowne (by decide)).trans f2
      have g3 : (z_up m2 1 2 (q.1 + 1)) 3 5 = m 3 5 := (zu_p (by decide)).trans f3
      have g4 : (z_up m2 1 2 (q.1 + 1)) 1 1 = m 1 1 := s3.at (by decide)
      obtain ⟨m', a1, a2⟩ := ih (x + 1) (0, q.2) (z_up m2 1 2 (q.1 + 1)) (by omega) (by omega) (by omega) (by omega) (by omega) (by omega) (by omega)
      rw [u_g_sm s3, g3, g1, g2] at a1 a2
      exact ⟨m', a1, a2.tr s3⟩
    rw [if_neg c4, if_neg c4]
    show ∃ m', z_R 21 (m2, 52, [(2, 3), (2, 1), (0, y), (0, x), (0, q.2)], [(0, 0)]) = _ ∧ _
    rw [s_sto_52, if_pos rfl, ex]
    by_cases c5 : y ≤ 0
    · rw [if_pos c5, if_pos c5]
      have s3 : z_same u_L m (z_up m2 3 5 (x + 1)) := s2.up1 (lo := 5) (hi := 5) (by decide) (by decide) (by decide)
      have g1 : (z_up m2 3 5 (x + 1)) 1 2 = q.1 := (zu_p (by decide)).trans f1
      have g2 : (z_up m2 3 5 (x + 1)) 9 = u_up (m 9) (3 * y + x).toNat q.2 := (zu_rowne (by decide)).trans f2
      have g3 : (z_up m2 3 5 (x + 1)) 3 5 = x + 1 := zu_self
      have g4 : (z_up m2 3 5 (x + 1)) 1 1 = m 1 1 := s3.at (by decide)
      obtain ⟨m', a1, a2⟩ := ih (x + 1) (0, q.2) (z_up m2 3 5 (x + 1)) (by omega) (by omega) (by omega) (by omega) (by omega) (by omega) (by omega)
      rw [u_g_sm s3, g3, g1, g2] at a1 a2
      exact ⟨m', a1, a2.tr s3⟩
    · rw [if_neg c5, if_neg c5]
      exact ⟨m2, rfl, f3, f1, f2, s2⟩
def u_L2 : List (Nat × Nat × Nat) := [(1, 2, 3), (3, 5, 6), (9, 0, 8)]
def u_P2 (m m' : z_M) (S : u_H) : Prop := m' 3 5 = S.2.1 ∧ (S.1 = true → m' 3 6 = S.2.2.1) ∧ m' 1 2 = S.2.2.2.1 ∧ m' 9 = S.2.2.2.2 ∧ z_same u_L2 m m'
theorem u_L_12 {m m' : z_M} (h : z_same u_L m m') : z_same u_L2 m m' := h.sub (by decide)
theorem u_P2.tr {m m1 m' : z_M} {S : u_H} (h : z_same u_L2 m m1) (hp : u_P2 m1 m' S) : u_P2 m m' S := ⟨hp.1, hp.2.1, hp.2.2.1, hp.2.2.2.1, h.tr hp.2.2.2.2⟩
theorem c_hou : ∀ (f : Nat) (y : Int) (m : z_M), 0 ≤ y → y + (f : Int) = 3 → 0 ≤ m 1 2 → m 1 2 ≤ 80 → m 1 1 ≤ 80 → 1 ≤ m 3 5 → m 3 5 ≤ 3 → ∃ m', z_R 19 (m, 13, [(2, 3), (2, 1), (0, y)], []) = some (m', some (0, if (u_hou (u_g m) (m 1 1) f y (m 3 5) (m 1 2) (m 9)).1 then 1 else 0)) ∧ u_P2 m m' (u_hou (u_g m) (m 1 1) f y (m 3 5) (m 1 2) (m 9)) := by
  intro f
  induction f with
  | zero =>
    intro y m hy0 hy h0 h0' h1 hw0 hw
    rw [s_rh_13, if_pos (by omega)]
    exact ⟨m, rfl, rfl, (fun z => by cases z), rfl, rfl, z_same.rf⟩
  | succ f ih =>
    intro y m hy0 hy h0 h0' h1 hw0 hw
    have hg : u_gb (u_g m) := u_nx_b h1
    have ey : z_add y 1 = y + 1 := z_add_eq (by omega) (by omega)
    rw [s_rh_13, if_neg (by omega), ey, s_sto_0]
    have s0 : z_same u_L2 m (z_up m 3 6 (y + 1)) := z_same.rf.up1 (lo := 5) (hi := 6) (by decide) (by decide) (by decide)
    have e1 : (z_up m 3 6 (y + 1)) 1 2 = m 1 2 := zu_p (by decide)
    have e2 : (z_up m 3 6 (y + 1)) 1 1 = m 1 1 := zu_p (by decide)
    have e3 : (z_up m 3 6 (y + 1)) 3 5 = m 3 5 := zu_k (by decide)
    have e4 : (z_up m 3 6 (y + 1)) 9 = m 9 := zu_rowne (by decide)
    have e5 : u_g (z_up m 3 6 (y + 1)) = u_g m := u_g_eq (zu_rowne (by decide)) (zu_p (by decide)) (zu_p (by decide))
    obtain ⟨m1, a1, a2, a3, a4, a5⟩ := c_sto hy0 (by omega) 3 0 (9, 0) (z_up m 3 6 (y + 1)) (by decide) (by decide) (by omega) (by omega) (by omega) (by omega) (by omega)
    rw [e5, e3, e1, e4] at a1 a2 a3 a4
    have hb := u_sto_b hg (y := y) 3 0 (m 3 5) (m 1 2) (m 9) (by decide) hw0 hw h0 h0'
    unfold u_hou
    generalize u_sto (u_g m) y 3 0 (m 3 5) (m 1 2) (m 9) = S at a1 a2 a3 a4 hb ⊢
    obtain ⟨ok, w1, i1, b1⟩ := S
    simp only at a1 a2 a3 a4 hb ⊢
    have s1 : z_same u_L2 m m1 := s0.tr (u_L_12 a5)
    have e6 : m1 3 6 = y + 1 := (a5.at (by decide)).trans zu_self
    have e7 : m1 1 1 = m 1 1 := s1.at (by decide)
    have e8 : u_g m1 = u_g m := (u_g_sm a5).trans e5
    rw [a1]
    show ∃ m', z_R 19 (m1, 31, [(2, 3), (2, 1), (0, y)], [(0, if ok = true then 1 else 0)]) = _ ∧ _
    rw [s_rh_31]
    by_cases c1 : ok = false
    · subst c1
      exact ⟨m1, rfl, a2, (fun z => by cases z), a3, a4, s1⟩
    have c1' : ok = true := by cases ok <;> simp_all
    subst c1'
    rw [if_neg c1, if_neg (by decide), s_ended_0, a3, e7]
    by_cases c2 : m 1 1 ≤ i1
    · rw [if_pos c2, if_neg (by omega)]
      show ∃ m', z_R 19 (m1, 40, [(2, 3), (2, 1), (0, y)], [(0, 1)]) = _ ∧ _
      rw [s_rh_40, if_neg (by decide)]
      exact ⟨m1, rfl, a2, (fun _ => e6), a3, a4, s1⟩
    rw [if_neg c2, if_pos (by omega)]
    show ∃ m', z_R 19 (m1, 40, [(2, 3), (2, 1), (0, y)], [(0, 0)]) = _ ∧ _
    rw [s_rh_40, if_pos rfl, e6]
    by_cases c3 : 3 ≤ y + 1
    · rw [if_pos c3, if_pos c3, ey, s_rh_13, if_pos c3]
      exact ⟨m1, rfl, a2, (fun z => by cases z), a3, a4, s1⟩
    rw [if_neg c3, if_neg c3, c_over m1 47 (by omega) (by omega) (by omega), e8, a3]
    by_cases c4 : u_g m i1 = 47
    · rw [if_pos c4, if_pos c4]
      show ∃ m', z_R 19 (z_up m1 1 2 (i1 + 1), 59, [(2, 3), (2, 1), (0, y)], [(0, 1)]) = _ ∧ _
      have hb2 := hg i1 (by omega)
      have s3 : z_same u_L2 m (z_up m1 1 2 (i1 + 1)) := s1.up1 (lo := 2) (hi := 3) (by decide) (by decide) (by decide)
      have g1 : (z_up m1 1 2 (i1 + 1)) 1 2 = i1 + 1 := zu_self
      have g2 : (z_up m1 1 2 (i1 + 1)) 9 = b1 := (zu_rowne (by decide)).trans a4
      have g3 : (z_up m1 1 2 (i1 + 1)) 3 5 = w1 := (zu_p (by decide)).trans a2
      have g4 : (z_up m1 1 2 (i1 + 1)) 1 1 = m 1 1 := (zu_k (by decide)).trans e7
      have g5 : u_g (z_up m1 1 2 (i1 + 1)) = u_g m := u_g_at.trans e8
      rw [s_rh_59, if_neg (by decide), ey]
      obtain ⟨m', d1, d2⟩ := ih (y + 1) (z_up m1 1 2 (i1 + 1)) (by omega) (by omega) (by omega) (by omega) (by omega) (by omega) (by omega)
      rw [g5, g4, g3, g1, g2] at d1 d2
      exact ⟨m', d1, d2.tr s3⟩
    · rw [if_neg c4, if_neg c4]
      show ∃ m', z_R 19 (m1, 59, [(2, 3), (2, 1), (0, y)], [(0, 0)]) = _ ∧ _
      rw [s_rh_59, if_pos rfl]
      exact ⟨m1, rfl, a2, (fun z => by cases z), a3, a4, s1⟩
theorem c_readHouse (m : z_M) (h1 : m 1 1 ≤ 80) : ∃ m', z_R 19 (m, 0, [(2, 3), (2, 1), (9, 0)], []) = some (m', some (0, if (u_hou (u_nx (m 2) (m 1 1) 80) (m 1 1) 3 0 3 0 (m 9)).1 then 1 else 0)) ∧ u_P2 m m' (u_hou (u_nx (m 2) (m 1 1) 80) (m 1 1) 3 0 3 0 (m 9)) := by
  rw [s_rh_0, s_begin_0]
  show ∃ m', z_R 19 (z_up (z_up m 1 2 0) 1 3 80, 6, [(2, 3), (2, 1), (9, 0)], []) = _ ∧ _
  rw [s_rh_6]
  have s0 : z_same u_L2 m (z_up (z_up (z_up m 1 2 0) 1 3 80) 3 5 3) := ((z_same.rf.up1 (lo := 2) (hi := 3) (by decide) (by decide) (by decide)).up1 (lo := 2) (hi := 3) (by decide) (by decide) (by decide)).up1 (lo := 5) (hi := 6) (by decide) (by decide) (by decide)
  generalize hm : z_up (z_up (z_up m 1 2 0) 1 3 80) 3 5 3 = m0 at s0 ⊢
  have g1 : m0 1 2 = 0 := by rw [← hm, zu_p (by decide), zu_k (by decide), zu_self]
  have g2 : m0 9 = m 9 := by rw [← hm, zu_rowne (by decide), zu_rowne (by decide), zu_rowne (by decide)]
  have g3 : m0 3 5 = 3 := by rw [← hm, zu_self]
  have g4 : m0 1 1 = m 1 1 := s0.at (by decide)
  have g5 : u_g m0 = u_nx (m 2) (m 1 1) 80 := by
    unfold u_g
    rw [s0.row (by decide), g4, show m0 1 3 = 80 by rw [← hm, zu_p (by decide), zu_self]]
  obtain ⟨m', d1, d2⟩ := c_hou 3 0 m0 (by decide) (by decide) (by omega) (by omega) (by omega) (by omega) (by omega)
  rw [g5, g4, g3, g1, g2] at d1 d2
  exact ⟨m', d1, d2.tr s0⟩
/-! building it: columns and storeys stand -/
theorem c_clear : ∀ (f : Nat) (x : Int) (m : z_M), 0 ≤ x → x + (f : Int) = 9 → ∃ m', z_R 31 (m, 2, [(2, 12), (0, x)], []) = some (m', none) ∧ z_same [(12, 5, 7), (13, 0, 8), (14, 0, 8)] m m' := by
  intro f
  induction f with
  | zero =>
    intro x m h0 h
    rw [s_clear_2, if_pos (by omega)]
    exact ⟨_, rfl, ((z_same.rf.up1 (lo := 5) (hi := 7) (by decide) (by decide) (by decide)).up1 (lo := 5) (hi := 7) (by decide) (by decide) (by decide)).up1 (lo := 5) (hi := 7) (by decide) (by decide) (by decide)⟩
  | succ f ih =>
    intro x m h0 h
    rw [s_clear_2, if_neg (by omega), if_pos ⟨h0, by omega⟩, if_pos ⟨h0, by omega⟩, z_add_eq (by omega) (by omega)]
    obtain ⟨m', a1, a2⟩ := ih (x + 1) (z_up (z_up m 13 x.toNat 0) 14 x.toNat 0) (by omega) (by omega)
    exact ⟨m', a1, ((z_same.rf.up1 (lo := 0) (hi := 8) (by decide) (by omega) (by omega)).up1 (lo := 0) (hi := 8) (by decide) (by omega) (by omega)).tr a2⟩
theorem c_has (m : z_M) (a : Int) : ∃ v, z_R 32 (m, 0, [(2, 3), (0, a)], []) = some (m, some (0, v)) := by
  rw [s_has_0]
  by_cases h1 : a < 0
  · rw [if_pos h1]; exact ⟨_, rfl⟩
  rw [if_neg h1]
  by_cases h2 : 9 ≤ a
  · rw [if_pos h2]; exact ⟨_, rfl⟩
  rw [if_neg h2]
  by_cases h3 : m 3 8 ≤ z_rem a 3
  · rw [if_pos h3]; exact ⟨_, rfl⟩
  rw [if_neg h3]
  by_cases h4 : m 3 9 ≤ z_div a 3
  · rw [if_pos h4]; exact ⟨_, rfl⟩
  · rw [if_neg h4]; exact ⟨_, rfl⟩
theorem c_build1 : ∀ (f : Nat) (x : Int) (m : z_M), 0 ≤ x → x + (f : Int) = 9 → ∃ m', z_R 30 (m, 32, [(2, 3), (2, 12), (0, x)], []) = some (m', some (0, z_mul (m 3 8) (m 3 9))) ∧ z_same [(3, 10, 10), (13, 0, 8)] m m' := by
  intro f
  induction f with
  | zero =>
    intro x m h0 h
    rw [s_build_32, if_pos (by omega)]
    exact ⟨m, rfl, z_same.rf⟩
  | succ f ih =>
    intro x m h0 h
    obtain ⟨v, hv⟩ := c_has m x
    rw [s_build_32, if_neg (by omega), hv]
    show ∃ m', z_R 30 (m, 43, [(2, 3), (2, 12), (0, x)], [(0, v)]) = _ ∧ _
    rw [s_build_43, z_add_eq (by omega) (by omega)]
    by_cases c : v = 0
    · rw [if_pos c]
      exact ih (x + 1) m (by omega) (by omega)
    · rw [if_neg c, if_pos ⟨h0, by omega⟩, if_pos ⟨h0, by omega⟩]
      have s1 : z_same [(3, 10, 10), (13, 0, 8)] m (z_up (z_up m 13 x.toNat (m 9 x.toNat)) 3 10 (z_or (m 3 10) (z_shl 1 x))) := (z_same.rf.up1 (lo := 0) (hi := 8) (by decide) (by omega) (by omega)).up1 (lo := 10) (hi := 10) (by decide) (by decide) (by decide)
      obtain ⟨m', a1, a2⟩ := ih (x + 1) (z_up (z_up m 13 x.toNat (m 9 x.toNat)) 3 10 (z_or (m 3 10) (z_shl 1 x))) (by omega) (by omega)
      rw [s1.at (p := 3) (k := 8) (by decide), s1.at (p := 3) (k := 9) (by decide)] at a1
      exact ⟨m', a1, s1.tr a2⟩
theorem c_build (m : z_M) : ∃ m', z_R 30 (m, 0, [(2, 3), (2, 12), (9, 0)], []) = some (m', some (0, z_mul (m 3 5) (m 3 6))) ∧ m' 3 8 = m 3 5 ∧ m' 3 9 = m 3 6 ∧ m' 3 11 = 0 ∧ z_same [(3, 8, 11), (12, 5, 7), (13, 0, 8), (14, 0, 8)] m m' := by
  rw [s_build_0, s_clear_0]
  have s0 : z_same [(3, 8, 11), (12, 5, 7), (13, 0, 8), (14, 0, 8)] m (z_up (z_up (z_up (z_up m 3 8 (m 3 5)) 3 9 (m 3 6)) 3 11 0) 3 10 0) := (((z_same.rf.up1 (lo := 8) (hi := 11) (by decide) (by decide) (by decide)).up1 (lo := 8) (hi := 11) (by decide) (by decide) (by decide)).up1 (lo := 8) (hi := 11) (by decide) (by decide) (by decide)).up1 (lo := 8) (hi := 11) (by decide) (by decide) (by decide)
  generalize hm : z_up (z_up (z_up (z_up m 3 8 (m 3 5)) 3 9 (m 3 6)) 3 11 0) 3 10 0 = m0 at s0 ⊢
  have g8 : m0 3 8 = m 3 5 := by rw [← hm, zu_k (by decide), zu_k (by decide), zu_k (by decide), zu_self]
  have g9 : m0 3 9 = m 3 6 := by rw [← hm, zu_k (by decide), zu_k (by decide), zu_self]
  have g11 : m0 3 11 = 0 := by rw [← hm, zu_k (by decide), zu_self]
  obtain ⟨m1, a1, a2⟩ := c_clear 9 0 m0 (by decide) (by decide)
  rw [a1]
  show ∃ m', z_R 30 (m1, 30, [(2, 3), (2, 12), (9, 0)], []) = _ ∧ _
  rw [s_build_30]
  obtain ⟨m2, b1, b2⟩ := c_build1 9 0 m1 (by decide) (by decide)
  have k8 := a2.at (p := 3) (k := 8) (by decide)
  have k9 := a2.at (p := 3) (k := 9) (by decide)
  rw [k8, k9, g8, g9] at b1
  exact ⟨m2, b1, (b2.at (by decide)).trans (k8.trans g8), (b2.at (by decide)).trans (k9.trans g9), (b2.at (by decide)).trans ((a2.at (by decide)).trans g11), (s0.tr (a2.sub (by decide))).tr (b2.sub (by decide))⟩
theorem c_fk : ∀ (f : Nat) (x : Int) (m : z_M), 0 ≤ x → x + (f : Int) = 2 → ∃ m', z_R 34 (m, 2, [(2, 28), (0, x)], []) = some (m', none) ∧ z_same [(31, 0, 1)] m m' ∧ ∀ k : Nat, (k : Int) < 2 → m' 31 k = if x ≤ (k : Int) then -1 else m 31 k := by
  intro f
  induction f with
  | zero =>
    intro x m h0 h
    rw [s_fk_2, if_pos (by omega)]
    exact ⟨_, rfl, z_same.rf, fun k hk => by rw [if_neg (by omega)]⟩
  | succ f ih =>
    intro x m h0 h
    rw [s_fk_2, if_neg (by omega), if_pos ⟨h0, by omega⟩, z_add_eq (by omega) (by omega)]
    obtain ⟨m', a1, a2, a3⟩ := ih (x + 1) (z_up m 31 x.toNat (-1)) (by omega) (by omega)
    refine ⟨m', a1, (z_same.rf.up1 (lo := 0) (hi := 1) (by decide) (by omega) (by omega)).tr a2, fun k hk => ?_⟩
    rw [a3 k hk, zu_at]
    by_cases c : x + 1 ≤ (k : Int)
    · rw [if_pos c, if_pos (show x ≤ (k : Int) by omega)]
    · rw [if_neg c]
      by_cases c' : k = x.toNat
      · rw [if_pos c', if_pos (show x ≤ (k : Int) by omega)]
      · rw [if_neg c', if_neg (show ¬ x ≤ (k : Int) by omega)]
theorem u_hou_b {g : Int → Int} (hg : u_gb g) {n : Int} : ∀ (f : Nat) (y w i : Int) (a : Nat → Int), 0 ≤ y → y + (f : Int) ≤ 3 → 1 ≤ w → w ≤ 3 → 0 ≤ i → i ≤ 80 → 1 ≤ (u_hou g n f y w i a).2.1 ∧ (u_hou g n f y w i a).2.1 ≤ 3 ∧ 0 ≤ (u_hou g n f y w i a).2.2.1 ∧ (u_hou g n f y w i a).2.2.1 ≤ 3 ∧ 0 ≤ (u_hou g n f y w i a).2.2.2.1 ∧ (u_hou g n f y w i a).2.2.2.1 ≤ 80 := by
  intro f
  induction f with
  | zero => intro y w i a h0 h1 h2 h3 h4 h5; exact ⟨h2, h3, h0, by show y ≤ 3; omega, h4, h5⟩
  | succ f ih =>
    intro y w i a h0 h1 h2 h3 h4 h5
    have b := u_sto_b hg (y := y) 3 0 w i a (by decide) h2 h3 h4 h5
    unfold u_hou
    generalize u_sto g y 3 0 w i a = S at b ⊢
    obtain ⟨ok, w1, i1, b1⟩ := S
    simp only at b ⊢
    by_cases c1 : ok = false
    · rw [if_pos c1]; exact ⟨b.1, b.2.1, by show 0 ≤ y + 1; omega, by show y + 1 ≤ 3; omega, b.2.2.1, b.2.2.2⟩
    rw [if_neg c1]
    by_cases c2 : n ≤ i1
    · rw [if_pos c2]; exact ⟨b.1, b.2.1, by show 0 ≤ y + 1; omega, by show y + 1 ≤ 3; omega, b.2.2.1, b.2.2.2⟩
    rw [if_neg c2]
    by_cases c3 : 3 ≤ y + 1
    · rw [if_pos c3]; exact ⟨b.1, b.2.1, by show 0 ≤ y + 1; omega, by show y + 1 ≤ 3; omega, b.2.2.1, b.2.2.2⟩
    rw [if_neg c3]
    by_cases c4 : g i1 = 47
    · rw [if_pos c4]
      have := hg i1 (by omega)
      exact ih _ _ _ _ (by omega) (by omega) b.1 b.2.1 (by omega) (by omega)
    · rw [if_neg c4]; exact ⟨b.1, b.2.1, by show 0 ≤ y + 1; omega, by show y + 1 ≤ 3; omega, b.2.2.1, b.2.2.2⟩
theorem u_mul3 {a b : Int} (h0 : 1 ≤ a) (h1 : a ≤ 3) (h2 : 0 ≤ b) (h3 : b ≤ 3) : z_mul a b = a * b := by
  rcases (show a = 1 ∨ a = 2 ∨ a = 3 by omega) with rfl | rfl | rfl <;> exact z_mul_eq (by omega) (by omega)
/-- what house leaves of the rooms and persons: by (columns, storeys, persons) before and behind -/
def u_after (S : u_H) (a b : Int × Int × Int) : Prop := b = if S.1 = true then (S.2.1, S.2.2.1, 0) else a
/-- what is kept is gone (v stands there) if the house stands -/
def u_gone (S : u_H) (v : Int) (a b : Nat → Int) : Prop := (S.1 = true → b 0 = v ∧ b 1 = v) ∧ (S.1 = false → b = a)
def u_csp (m : z_M) : Int × Int × Int := (m 3 8, m 3 9, m 3 11)
def u_rsp (m : z_M) : Int × Int × Int := (m 251 1, m 251 2, m 251 3)
theorem c_house (m : z_M) (h0 : 0 ≤ m 1 1) (h1 : m 1 1 ≤ 80) : ∃ m', z_R 18 (m, 0, [(2, 0), (9, 0), (9, 0)], []) = some (m', some (0, u_ans (u_hou (u_nx (m 2) (m 1 1) 80) (m 1 1) 3 0 3 0 (m 9)))) ∧ u_after (u_hou (u_nx (m 2) (m 1 1) 80) (m 1 1) 3 0 3 0 (m 9)) (u_csp m) (u_csp m') ∧ u_gone (u_hou (u_nx (m 2) (m 1 1) 80) (m 1 1) 3 0 3 0 (m 9)) (-1) (m 31) (m' 31) := by
  have b := u_hou_b (u_nx_b h1) (n := m 1 1) 3 0 3 0 (m 9) (g := u_nx (m 2) (m 1 1) 80) (by decide) (by decide) (by decide) (by decide) (by decide) (by decide)
  obtain ⟨m1, a1, a2⟩ := c_readHouse m h1
  generalize u_hou (u_nx (m 2) (m 1 1) 80) (m 1 1) 3 0 3 0 (m 9) = S at a1 a2 b ⊢
  obtain ⟨ok, w, h, i, a⟩ := S
  obtain ⟨p1, p2, p3, p4, p5⟩ := a2
  simp only at a1 p1 p2 p3 p4 b
  unfold u_ans u_after u_gone
  simp only
  rw [s_house_0, a1]
  show ∃ m', z_R 18 (m1, 11, [(2, 0), (9, 0), (9, 0)], [(0, if ok = true then 1 else 0)]) = _ ∧ _
  rw [s_house_11, s_empty_0]
  show ∃ m', z_R 18 (z_up m1 1 1 0, 19, [(2, 0), (0, if ok = true then 1 else 0), (9, 0)], []) = _ ∧ _
  rw [s_house_19]
  by_cases c : ok = true
  · rw [if_pos c, if_neg (by decide), if_pos c, if_pos c]
    obtain ⟨m2, d1, d2, d3, d4, d5⟩ := c_build (z_up m1 1 1 0)
    have e1 : (z_up m1 1 1 0) 3 5 = w := (zu_p (by decide)).trans p1
    have e2 : (z_up m1 1 1 0) 3 6 = h := (zu_p (by decide)).trans (p2 c)
    rw [e1, e2] at d1
    rw [e1] at d2
    rw [e2] at d3
    rw [d1]
    show ∃ m', z_R 18 (m2, 44, [(2, 0), (0, 1), (9, 0)], [(0, z_mul w h)]) = _ ∧ _
    rw [s_house_44, s_fd_0]
    show ∃ m', z_R 18 (z_up m2 28 4 0, 52, [(2, 0), (0, 1), (0, z_mul w h)], []) = _ ∧ _
    rw [s_house_52, s_fk_0]
    obtain ⟨m3, f1, f2, f3⟩ := c_fk 2 0 (z_up m2 28 4 0) (by decide) (by decide)
    rw [f1]
    refine ⟨m3, (s_house_59 _ _ _).trans (by rw [u_mul3 b.1 b.2.1 b.2.2.1 b.2.2.2.1]), ?_, fun _ => ⟨(f3 0 (by decide)).trans (if_pos (by decide)), (f3 1 (by decide)).trans (if_pos (by decide))⟩, fun z => absurd (c.symm.trans z) (by decide)⟩
    unfold u_csp
    rw [f2.at (p := 3) (k := 8) (by decide), f2.at (p := 3) (k := 9) (by decide), f2.at (p := 3) (k := 11) (by decide), zu_p (by decide), zu_p (by decide), zu_p (by decide), d2, d3, d4]
  · rw [if_neg c, if_pos rfl, if_neg c, if_neg c]
    have e1 : (z_up m1 1 1 0) 1 2 = i := (zu_k (by decide)).trans p3
    rw [e1, z_sub_eq (by omega) (by omega)]
    refine ⟨_, rfl, ?_, fun z => absurd z c, fun _ => (zu_rowne (by decide)).trans (p5.row (by decide))⟩
    unfold u_csp
    rw [zu_p (by decide), zu_p (by decide), zu_p (by decide), p5.at (p := 3) (k := 8) (by decide), p5.at (p := 3) (k := 9) (by decide), p5.at (p := 3) (k := 11) (by decide)]
/-! the same in the reference -/
def u_M : List (Nat × Nat × Nat) := [(251, 15, 16), (256, 0, 8)]
theorem u_q_sm {m m' : z_M} (h : z_same u_M m m') : u_q m' = u_q m := u_q_eq (h.row (by decide)) (h.at (by decide)) (h.at (by decide))
theorem u_W_sm {m m' : z_M} (hw : u_W m) (h : z_same u_M m m') (h0 : 0 ≤ m' 251 15) (h1 : m' 251 15 ≤ 80) : u_W m' := by
  obtain ⟨a1, a2, a3, a4, a5⟩ := hw
  refine ⟨(h.at (by decide)).trans a1, h0, h1, by rw [h.at (p := 251) (k := 13) (by decide)]; exact a4, fun k hk => ?_⟩
  rw [h.row (p := 254) (by decide)]
  exact a5 k hk
theorem t_f162 (m : z_M) (x1 x2 x3 : Int) (v4 v5 : z_V) (h : ¬ m 251 16 = -1) : z_R 163 (m, 162, [(2, 251), (0, x1), (0, x2), (0, x3), v4, v5], []) = some (m, some (0, z_sub (-1) (m 251 16))) := by
  have e : z_R 163 (m, 185, [(2, 251), (0, x1), (0, x2), (0, x3), v4, v5], [(0, 0)]) = some (m, some (0, z_sub (-1) (m 251 16))) := by rw [t_house_185, if_pos rfl]
  rw [t_house_162]
  by_cases c : m 251 13 ≤ m 251 15
  · rw [if_pos c, t_fine0 m h]
    exact e
  · rw [if_neg c, t_fault0 m _ h]
    show z_R 163 (m, 181, [(2, 251), (0, x1), (0, x2), (0, x3), v4, v5], []) = _
    rw [t_house_181, t_fine0 m h]
    exact e
theorem t_f30 (m : z_M) (x1 x2 x3 : Int) (v4 v5 : z_V) (h : ¬ m 251 16 = -1) : z_R 163 (m, 30, [(2, 251), (0, x1), (0, x2), (0, x3), v4, v5], []) = some (m, some (0, z_sub (-1) (m 251 16))) := by
  rw [t_house_30]
  by_cases c : x3 = 0
  · rw [if_pos c]; exact t_f162 m _ _ _ _ _ h
  · rw [if_neg c, t_fine0 m h]
    show z_R 163 (m, 38, [(2, 251), (0, x1), (0, x2), (0, x3), v4, v5], [(0, 0)]) = _
    rw [t_house_38, if_pos rfl]
    exact t_f162 m _ _ _ _ _ h
theorem t_f136 (m : z_M) (x1 x2 x3 x4 x5 : Int) (h : ¬ m 251 16 = -1) : z_R 163 (m, 136, [(2, 251), (0, x1), (0, x2), (0, x3), (0, x4), (0, x5)], []) = some (m, some (0, z_sub (-1) (m 251 16))) := by
  rw [t_house_136]
  by_cases c : 3 ≤ z_add x2 1
  · rw [if_pos c]; exact t_f30 m _ _ _ _ _ h
  · rw [if_neg c, t_pass0 m _ h]
    show z_R 163 (m, 150, [(2, 251), (0, x1), (0, z_add x2 1), (0, x3), (0, x4), (0, x5)], [(0, 0)]) = _
    rw [t_house_150, if_pos rfl]
    exact t_f30 m _ _ _ _ _ h
theorem t_f129 (m : z_M) (x1 x2 x3 x4 x5 : Int) (h : ¬ m 251 16 = -1) : z_R 163 (m, 129, [(2, 251), (0, x1), (0, x2), (0, x3), (0, x4), (0, x5)], []) = some (m, some (0, z_sub (-1) (m 251 16))) := by
  rw [t_house_129]
  by_cases c : x2 = 0
  · rw [if_pos c]; exact t_f136 m _ _ _ _ _ h
  · rw [if_neg c]; exact t_f136 m _ _ _ _ _ h
theorem t_f47 (m : z_M) (x1 x2 x3 x4 x5 : Int) (h : ¬ m 251 16 = -1) : z_R 163 (m, 47, [(2, 251), (0, x1), (0, x2), (0, x3), (0, x4), (0, x5)], []) = some (m, some (0, z_sub (-1) (m 251 16))) := by
  have e : z_R 163 (m, 111, [(2, 251), (0, x1), (0, x2), (0, x3), (0, x4), (0, x5)], []) = some (m, some (0, z_sub (-1) (m 251 16))) := by
    rw [t_house_111]
    by_cases c : x2 ≤ 0
    · rw [if_pos c]; exact t_f129 m _ _ _ _ _ h
    rw [if_neg c]
    by_cases c' : x1 ≤ x4
    · rw [if_pos c']; exact t_f129 m _ _ _ _ _ h
    · rw [if_neg c', t_fault0 m _ h]
      exact t_f129 m _ _ _ _ _ h
  rw [t_house_47]
  by_cases c : x5 = 0
  · rw [if_pos c]; exact e
  · rw [if_neg c, t_fine0 m h]
    show z_R 163 (m, 56, [(2, 251), (0, x1), (0, x2), (0, x3), (0, x4), (0, x5)], [(0, 0)]) = _
    rw [t_house_56, if_pos rfl]
    exact e
theorem t_f74 (m : z_M) (x1 x2 x3 x4 x5 s0 u : Int) (h : ¬ m 251 16 = -1) (h0 : 0 ≤ s0) (h1 : s0 < 9) : ∃ m', z_R 163 (m, 74, [(2, 251), (0, x1), (0, x2), (0, x3), (0, x4), (0, x5)], [(0, u), (0, s0), (2, 256)]) = some (m', some (0, z_sub (-1) (m 251 16))) ∧ z_same u_M m m' := by
  have hs : z_same u_M m (z_up m 256 s0.toNat u) := z_same.rf.up1 (lo := 0) (hi := 8) (by decide) (by omega) (by omega)
  rw [t_house_74, if_pos ⟨h0, by omega⟩]
  have hm : (z_up m 256 s0.toNat u) 251 16 = m 251 16 := zu_p (by decide)
  have hm' : ¬ (z_up m 256 s0.toNat u) 251 16 = -1 := by rw [hm]; exact h
  have e : ∀ x4 x5 : Int, z_R 163 (z_up m 256 s0.toNat u, 98, [(2, 251), (0, x1), (0, x2), (0, x3), (0, x4), (0, x5)], [(0, 0)]) = some (z_up m 256 s0.toNat u, some (0, z_sub (-1) (m 251 16))) := by
    intro x4 x5
    rw [t_house_98, if_pos rfl, t_f47 _ _ _ _ _ _ hm', hm]
  by_cases c : x2 = 0
  · rw [if_pos c]
    by_cases c' : 3 ≤ z_add x4 1
    · rw [if_pos c', t_f47 _ _ _ _ _ _ hm', hm]; exact ⟨_, rfl, hs⟩
    · rw [if_neg c', t_pass0 _ _ hm']; exact ⟨_, e _ _, hs⟩
  · rw [if_neg c]
    by_cases c' : x1 ≤ z_add x4 1
    · rw [if_pos c', t_f47 _ _ _ _ _ _ hm', hm]; exact ⟨_, rfl, hs⟩
    · rw [if_neg c', t_pass0 _ _ hm']; exact ⟨_, e _ _, hs⟩
/-- behind a storey's last ICE -/
theorem t_ok111 {y : Int} (hy0 : 0 ≤ y) (x1 x3 x4 : Int) (m : z_M) (hx : ¬ y = 0 → x4 = x1) : z_R 163 (m, 47, [(2, 251), (0, x1), (0, y), (0, x3), (0, x4), (0, 0)], []) = z_R 163 (m, 136, [(2, 251), (0, x4), (0, y), (0, x3), (0, x4), (0, 0)], []) := by
  rw [t_house_47, if_pos rfl, t_house_111]
  by_cases c : y = 0
  · rw [if_pos (by omega), t_house_129, if_pos c]
  · rw [if_neg (by omega), if_pos (by rw [hx c]; exact Int.le_refl _), t_house_129, if_neg c, hx c]
/-- a storey -/
theorem t_sto {y : Int} (hy0 : 0 ≤ y) (hy : y ≤ 2) : ∀ (f : Nat) (x x1 x3 w : Int) (m : z_M), u_W m → m 251 16 = -1 → 0 ≤ x → x + (f : Int) = 3 → x < w → w ≤ 3 → (y = 0 → w = 3) → (¬ y = 0 → w = x1) → ∃ m' x4, z_R 163 (m, 47, [(2, 251), (0, x1), (0, y), (0, x3), (0, x), (0, 1)], []) = (if (u_sto (u_q m) y f x w (m 251 15) (m 256)).1 = true then z_R 163 (m', 136, [(2, 251), (0, (u_sto (u_q m) y f x w (m 251 15) (m 256)).2.1), (0, y), (0, x3), (0, x4), (0, 0)], []) else some (m', some (0, -1 - (u_sto (u_q m) y f x w (m 251 15) (m 256)).2.2.1))) ∧ ((u_sto (u_q m) y f x w (m 251 15) (m 256)).1 = true → m' 251 16 = -1 ∧ m' 251 15 = (u_sto (u_q m) y f x w (m 251 15) (m 256)).2.2.1 ∧ m' 256 = (u_sto (u_q m) y f x w (m 251 15) (m 256)).2.2.2) ∧ z_same u_M m m' := by
  intro f
  induction f with
  | zero => intro x x1 x3 w m hw hf hx0 hx hxw hw3; omega
  | succ f ih =>
    intro x x1 x3 w m hw hf hx0 hx hxw hw3 hwy hwn
    have hg := u_q_b hw
    obtain ⟨w1, w2, w3, w4, w5⟩ := id hw
    have b := u_ic_b hg w2 w3
    have ek : z_add (z_mul 3 y) x = 3 * y + x := by rw [z_mul_eq (by omega) (by omega), z_add_eq (by omega) (by omega)]
    have ex : z_add x 1 = x + 1 := z_add_eq (by omega) (by omega)
    rw [t_house_47, if_neg (by decide), t_fine1 m hf]
    show ∃ m' x4, z_R 163 (m, 56, [(2, 251), (0, x1), (0, y), (0, x3), (0, x), (0, 1)], [(0, 1)]) = _ ∧ _
    rw [t_house_56, if_neg (by decide), t_num2 m hf hw, ek]
    unfold u_sto
    rw [if_neg (show ¬ w ≤ x by omega)]
    generalize u_ic (u_q m) (m 251 15) = q at b ⊢
    by_cases c2 : q.2 = -1
    · rw [if_pos c2, if_pos c2]
      obtain ⟨m', e, es⟩ := t_f74 (z_up m 251 16 q.1) x1 y x3 x 1 (3 * y + x) 0 (by rw [zu_self]; omega) (by omega) (by omega)
      rw [zu_self, z_sub_eq (by omega) (by omega)] at e
      exact ⟨m', 0, e, (fun z => by cases z), (z_same.rf.up1 (lo := 15) (hi := 16) (by decide) (by decide) (by decide)).tr es⟩
    rw [if_neg c2, if_neg c2]
    show ∃ m' x4, z_R 163 (z_up m 251 15 q.1, 74, [(2, 251), (0, x1), (0, y), (0, x3), (0, x), (0, 1)], [(0, q.2), (0, 3 * y + x), (2, 256)]) = _ ∧ _
    rw [t_house_74, if_pos ⟨by omega, by omega⟩, ex]
    have s2 : z_same u_M m (z_up (z_up m 251 15 q.1) 256 (3 * y + x).toNat q.2) := (z_same.rf.up1 (lo := 15) (hi := 16) (by decide) (by decide) (by decide)).up1 (lo := 0) (hi := 8) (by decide) (by omega) (by omega)
    generalize hm2 : z_up (z_up m 251 15 q.1) 256 (3 * y + x).toNat q.2 = m2 at s2 ⊢
    have f1 : m2 251 15 = q.1 := by rw [← hm2, zu_p (by decide), zu_self]
    have f2 : m2 256 = u_up (m 256) (3 * y + x).toNat q.2 := by rw [← hm2, zu_row, zu_rowne (by decide)]
    have f3 : m2 251 16 = -1 := by rw [← hm2, zu_p (by decide), zu_k (by decide)]; exact hf
    have f5 := u_q_sm s2
    have f6 : u_W m2 := u_W_sm hw s2 (by omega) (by omega)
    have last : ∀ z : ¬ y = 0 → x + 1 = x1, z_R 163 (m2, 47, [(2, 251), (0, x1), (0, y), (0, x3), (0, x + 1), (0, 0)], []) = z_R 163 (m2, 136, [(2, 251), (0, x + 1), (0, y), (0, x3), (0, x + 1), (0, 0)], []) := fun z => t_ok111 hy0 x1 x3 (x + 1) m2 z
    by_cases c3 : w ≤ x + 1
    · have hwx : w = x + 1 := by omega
      rw [if_pos c3, u_sto_done c3]
      refine ⟨m2, x + 1, ?_, fun _ => ⟨f3, f1, f2⟩, s2⟩
      show _ = z_R 163 (m2, 136, [(2, 251), (0, w), (0, y), (0, x3), (0, x + 1), (0, 0)], [])
      by_cases cy : y = 0
      · have := hwy cy
        rw [if_pos cy, if_pos (by omega), last (fun z => absurd cy z), hwx]
      · have := hwn cy
        rw [if_neg cy, if_pos (by omega), last (fun _ => by omega), hwx]
    rw [if_neg c3]
    have hpass : (if y = 0 then if 3 ≤ x + 1 then z_R 163 (m2, 47, [(2, 251), (0, x1), (0, y), (0, x3), (0, x + 1), (0, 0)], []) else (z_R 170 (m2, 0, [(2, 251), (0, 44)], [])).bind fun r => z_R 163 (r.1, 98, [(2, 251), (0, x1), (0, y), (0, x3), (0, x + 1), (0, 1)], r.2.toList ++ []) else if x1 ≤ x + 1 then z_R 163 (m2, 47, [(2, 251), (0, x1), (0, y), (0, x3), (0, x + 1), (0, 0)], []) else (z_R 170 (m2, 0, [(2, 251), (0, 44)], [])).bind fun r => z_R 163 (r.1, 98, [(2, 251), (0, x1), (0, y), (0, x3), (0, x + 1), (0, 1)], r.2.toList ++ [])) = (z_R 170 (m2, 0, [(2, 251), (0, 44)], [])).bind fun r => z_R 163 (r.1, 98, [(2, 251), (0, x1), (0, y), (0, x3), (0, x + 1), (0, 1)], r.2.toList ++ []) := by
      by_cases cy : y = 0
      · have := hwy cy
        rw [if_pos cy, if_neg (by omega)]
      · have := hwn cy
        rw [if_neg cy, if_neg (by omega)]
    rw [hpass, t_pass1 m2 44 f3 f6, f5, f1]
    by_cases c4 : u_q m q.1 = 44
    · rw [if_pos c4, if_pos c4]
      show ∃ m' x4, z_R 163 (z_up m2 251 15 (q.1 + 1), 98, [(2, 251), (0, x1), (0, y), (0, x3), (0, x + 1), (0, 1)], [(0, 1)]) = _ ∧ _
      have hb := hg q.1 (by omega)
      have s3 : z_same u_M m (z_up m2 251 15 (q.1 + 1)) := s2.up1 (lo := 15) (hi := 16) (by decide) (by decide) (by decide)
      have g1 : (z_up m2 251 15 (q.1 + 1)) 251 15 = q.1 + 1 := zu_self
      have g2 : (z_up m2 251 15 (q.1 + 1)) 256 = u_up (m 256) (3 * y + x).toNat q.2 := (zu_rowne (by decide)).trans f2
      have g3 : (z_up m2 251 15 (q.1 + 1)) 251 16 = -1 := (zu_k (by decide)).trans f3
      rw [t_house_98, if_neg (by decide)]
      obtain ⟨m', x4, a1, a2, a3⟩ := ih (x + 1) x1 x3 w (z_up m2 251 15 (q.1 + 1)) (u_W_sm hw s3 (by omega) (by omega)) g3 (by omega) (by omega) (by omega) hw3 hwy hwn
      rw [u_q_sm s3, g1, g2] at a1 a2
      exact ⟨m', x4, a1, a2, s3.tr a3⟩
    rw [if_neg c4, if_neg c4]
    show ∃ m' x4, z_R 163 (m2, 98, [(2, 251), (0, x1), (0, y), (0, x3), (0, x + 1), (0, 1)], [(0, 0)]) = _ ∧ _
    rw [t_house_98, if_pos rfl]
    by_cases c5 : y ≤ 0
    · rw [if_pos c5, u_sto_done (Int.le_refl _)]
      exact ⟨m2, x + 1, last (fun z => absurd (by omega) z), fun _ => ⟨f3, f1, f2⟩, s2⟩
    · have := hwn (by omega)
      rw [if_neg c5, t_house_47, if_pos rfl, t_house_111, if_neg c5, if_neg (by omega), t_fault1 m2 _ f3, f1]
      show ∃ m' x4, z_R 163 (z_up m2 251 16 q.1, 129, [(2, 251), (0, x1), (0, y), (0, x3), (0, x + 1), (0, 0)], []) = _ ∧ _
      have hz : ¬ (z_up m2 251 16 q.1) 251 16 = -1 := by rw [zu_self]; omega
      rw [t_f129 _ _ _ _ _ _ hz, zu_self, z_sub_eq (by omega) (by omega)]
      exact ⟨_, 0, rfl, (fun z => by cases z), s2.up1 (lo := 15) (hi := 16) (by decide) (by decide) (by decide)⟩
/-! it stands: what is left gives columns by storeys -/
def u_K : List (Nat × Nat × Nat) := [(251, 25, 25), (252, 0, 36), (276, 0, 1)]
def u_K3 : List (Nat × Nat × Nat) := [(251, 3, 3), (251, 25, 25), (252, 0, 36), (276, 0, 1)]
theorem t_l307 : ∀ (f : Nat) (x5 x1 x2 x3 x4 : Int) (m : z_M), 0 ≤ x5 → x5 + (f : Int) = 2 → ∃ m', z_R 163 (m, 307, [(2, 251), (0, x1), (0, x2), (0, x3), (0, x4), (0, x5)], []) = some (m', some (0, z_mul x1 x2)) ∧ z_same u_K m m' ∧ ∀ k : Nat, (k : Int) < 2 → m' 276 k = if x5 ≤ (k : Int) then 0 else m 276 k := by
  intro f
  induction f with
  | zero =>
    intro x5 x1 x2 x3 x4 m h0 h
    rw [t_house_307, if_pos (by omega)]
    exact ⟨_, rfl, z_same.rf, fun k hk => by rw [if_neg (by omega)]⟩
  | succ f ih =>
    intro x5 x1 x2 x3 x4 m h0 h
    rw [t_house_307, if_neg (by omega), if_pos ⟨h0, by omega⟩, z_add_eq (by omega) (by omega)]
    obtain ⟨m', a1, a2, a3⟩ := ih (x5 + 1) x1 x2 x3 x4 (z_up m 276 x5.toNat (z_bo 0)) (by omega) (by omega)
    refine ⟨m', a1, (z_same.rf.up1 (lo := 0) (hi := 1) (by decide) (by omega) (by omega)).tr a2, fun k hk => ?_⟩
    rw [a3 k hk, zu_at, show z_bo 0 = 0 by decide +kernel]
    by_cases c : x5 + 1 ≤ (k : Int)
    · rw [if_pos c, if_pos (show x5 ≤ (k : Int) by omega)]
    · rw [if_neg c]
      by_cases c' : k = x5.toNat
      · rw [if_pos c', if_pos (show x5 ≤ (k : Int) by omega)]
      · rw [if_neg c', if_neg (show ¬ x5 ≤ (k : Int) by omega)]
theorem t_room (m : z_M) (a : Int) : ∃ v, z_R 171 (m, 0, [(2, 251), (0, a)], []) = some (m, some (0, v)) := by
  rw [t_room_0, t_in]
  show ∃ v, z_R 171 (m, 7, [(2, 251), (0, a)], [(0, if 0 ≤ a ∧ a ≤ 8 then 1 else 0)]) = _
  rw [t_room_7]
  generalize (if 0 ≤ a ∧ a ≤ 8 then (1 : Int) else 0) = u
  by_cases h1 : u = 0
  · rw [if_pos h1]; exact ⟨_, rfl⟩
  rw [if_neg h1]
  by_cases h3 : m 251 1 ≤ z_rem a 3
  · rw [if_pos h3]; exact ⟨_, rfl⟩
  rw [if_neg h3]
  by_cases h4 : m 251 2 ≤ z_div a 3
  · rw [if_pos h4]; exact ⟨_, rfl⟩
  · rw [if_neg h4]; exact ⟨_, rfl⟩
theorem t_l241 : ∀ (f : Nat) (x5 x1 x2 x3 x4 : Int) (m : z_M), 0 ≤ x5 → x5 + (f : Int) = 9 → ∃ m', z_R 163 (m, 241, [(2, 251), (0, x1), (0, x2), (0, x3), (0, x4), (0, x5)], []) = some (m', some (0, z_mul x1 x2)) ∧ m' 251 3 = 0 ∧ z_same u_K3 m m' ∧ (m' 276 0 = 0 ∧ m' 276 1 = 0) := by
  intro f
  induction f with
  | zero =>
    intro x5 x1 x2 x3 x4 m h0 h
    rw [t_house_241, if_pos (by omega)]
    obtain ⟨m', a1, a2, a3⟩ := t_l307 2 0 x1 x2 x3 x4 (z_up (z_up (z_up (z_up m 252 34 (-1)) 252 36 x4) 251 3 0) 251 25 0) (by decide) (by decide)
    refine ⟨m', a1, ?_, ((((z_same.rf.up1 (lo := 0) (hi := 36) (by decide) (by decide) (by decide)).up1 (lo := 0) (hi := 36) (by decide) (by decide) (by decide)).up1 (lo := 3) (hi := 3) (by decide) (by decide) (by decide)).up1 (lo := 25) (hi := 25) (by decide) (by decide) (by decide)).tr (a2.sub (by decide)), (a3 0 (by decide)).trans (if_pos (by decide)), (a3 1 (by decide)).trans (if_pos (by decide))⟩
    rw [a2.at (p := 251) (k := 3) (by decide), zu_k (by decide), zu_self]
  | succ f ih =>
    intro x5 x1 x2 x3 x4 m h0 h
    obtain ⟨v, hv⟩ := t_room m x5
    rw [t_house_241, if_neg (by omega), hv]
    show ∃ m', z_R 163 (m, 254, [(2, 251), (0, x1), (0, x2), (0, x3), (0, x4), (0, x5)], [(0, v)]) = _ ∧ _
    rw [t_house_254, z_add_eq (by omega) (by omega)]
    by_cases c : v = 0
    · rw [if_pos c]; exact ih _ _ _ _ _ _ (by omega) (by omega)
    · rw [if_neg c, if_pos ⟨h0, by omega⟩, if_pos ⟨h0, by omega⟩]
      obtain ⟨m', a1, a2, a3, a4⟩ := ih (x5 + 1) x1 x2 x3 x4 (z_up m 252 x5.toNat (m 256 x5.toNat)) (by omega) (by omega)
      exact ⟨m', a1, a2, (z_same.rf.up1 (lo := 0) (hi := 36) (by decide) (by omega) (by omega)).tr a3, a4⟩
theorem t_l217 : ∀ (f : Nat) (x5 x1 x2 x3 x4 : Int) (m : z_M), 0 ≤ x5 → x5 + (f : Int) = 37 → ∃ m', z_R 163 (m, 217, [(2, 251), (0, x1), (0, x2), (0, x3), (0, x4), (0, x5)], []) = some (m', some (0, z_mul x1 x2)) ∧ m' 251 3 = 0 ∧ z_same u_K3 m m' ∧ (m' 276 0 = 0 ∧ m' 276 1 = 0) := by
  intro f
  induction f with
  | zero =>
    intro x5 x1 x2 x3 x4 m h0 h
    rw [t_house_217, if_pos (by omega)]
    exact t_l241 9 0 _ _ _ _ _ (by decide) (by decide)
  | succ f ih =>
    intro x5 x1 x2 x3 x4 m h0 h
    rw [t_house_217, if_neg (by omega), if_pos ⟨h0, by omega⟩, z_add_eq (by omega) (by omega)]
    obtain ⟨m', a1, a2, a3, a4⟩ := ih (x5 + 1) x1 x2 x3 x4 (z_up m 252 x5.toNat 0) (by omega) (by omega)
    exact ⟨m', a1, a2, (z_same.rf.up1 (lo := 0) (hi := 36) (by decide) (by omega) (by omega)).tr a3, a4⟩
theorem t_ok162 (m : z_M) (x1 x2 x3 : Int) (v4 v5 : z_V) (h : m 251 16 = -1) (hl : m 251 13 ≤ m 251 15) : ∃ m', z_R 163 (m, 162, [(2, 251), (0, x1), (0, x2), (0, x3), v4, v5], []) = some (m', some (0, z_mul x1 x2)) ∧ u_rsp m' = (x1, x2, 0) ∧ (m' 276 0 = 0 ∧ m' 276 1 = 0) := by
  rw [t_house_162, if_pos hl, t_fine1 m h]
  show ∃ m', z_R 163 (m, 185, [(2, 251), (0, x1), (0, x2), (0, x3), v4, v5], [(0, 1)]) = _ ∧ _
  rw [t_house_185, if_neg (by decide)]
  obtain ⟨m', a1, a2, a3, a4⟩ := t_l217 37 0 x1 x2 x3 (m 252 36) (z_up (z_up m 251 1 x1) 251 2 x2) (by decide) (by decide)
  refine ⟨m', a1, ?_, a4⟩
  unfold u_rsp
  rw [a2, a3.at (p := 251) (k := 1) (by decide), a3.at (p := 251) (k := 2) (by decide), zu_self, zu_k (by decide), zu_self]
theorem t_no162 (m : z_M) (x1 x2 x3 : Int) (v4 v5 : z_V) (h : m 251 16 = -1) (hl : ¬ m 251 13 ≤ m 251 15) (h0 : 0 ≤ m 251 15) (h1 : m 251 15 ≤ 80) : ∃ m', z_R 163 (m, 162, [(2, 251), (0, x1), (0, x2), (0, x3), v4, v5], []) = some (m', some (0, -1 - m 251 15)) ∧ z_same u_M m m' := by
  have hz : ¬ (z_up m 251 16 (m 251 15)) 251 16 = -1 := by rw [zu_self]; omega
  rw [t_house_162, if_neg hl, t_fault1 m _ h]
  show ∃ m', z_R 163 (z_up m 251 16 (m 251 15), 181, [(2, 251), (0, x1), (0, x2), (0, x3), v4, v5], []) = _ ∧ _
  rw [t_house_181, t_fine0 _ hz]
  show ∃ m', z_R 163 (z_up m 251 16 (m 251 15), 185, [(2, 251), (0, x1), (0, x2), (0, x3), v4, v5], [(0, 0)]) = _ ∧ _
  rw [t_house_185, if_pos rfl, zu_self, z_sub_eq (by omega) (by omega)]
  exact ⟨_, rfl, z_same.rf.up1 (lo := 15) (hi := 16) (by decide) (by decide) (by decide)⟩
theorem t_hou : ∀ (f : Nat) (y x1 w : Int) (v4 v5 : z_V) (m : z_M), u_W m → m 251 16 = -1 → 0 ≤ y → y + (f : Int) = 3 → y < 3 → 1 ≤ w → w ≤ 3 → (y = 0 → w = 3) → (¬ y = 0 → w = x1) → ∃ m', z_R 163 (m, 30, [(2, 251), (0, x1), (0, y), (0, 1), v4, v5], []) = some (m', some (0, u_ans (u_hou (u_q m) (m 251 13) f y w (m 251 15) (m 256)))) ∧ u_after (u_hou (u_q m) (m 251 13) f y w (m 251 15) (m 256)) (u_rsp m) (u_rsp m') ∧ u_gone (u_hou (u_q m) (m 251 13) f y w (m 251 15) (m 256)) 0 (m 276) (m' 276) := by
  intro f
  induction f with
  | zero => intro y x1 w v4 v5 m hw hf hy0 hy hy3; omega
  | succ f ih =>
    intro y x1 w v4 v5 m hw hf hy0 hy hy3 hw0 hw3 hwy hwn
    have hg := u_q_b hw
    obtain ⟨w1, w2, w3, w4, w5⟩ := id hw
    have ey : z_add y 1 = y + 1 := z_add_eq (by omega) (by omega)
    rw [t_house_30, if_neg (by decide), t_fine1 m hf]
    show ∃ m', z_R 163 (m, 38, [(2, 251), (0, x1), (0, y), (0, 1), v4, v5], [(0, 1)]) = _ ∧ _
    rw [t_house_38, if_neg (by decide)]
    obtain ⟨m1, x4, a1, a2, d4⟩ := t_sto hy0 (by omega) 3 0 x1 1 w m hw hf (by decide) (by decide) (by omega) hw3 hwy hwn
    rw [a1]
    have b := u_sto_b hg (y := y) 3 0 w (m 251 15) (m 256) (by decide) hw0 hw3 w2 w3
    unfold u_hou
    generalize u_sto (u_q m) y 3 0 w (m 251 15) (m 256) = S at a2 b ⊢
    obtain ⟨ok, c1, i1, b1⟩ := S
    simp only at a2 b ⊢
    have er : u_rsp m1 = u_rsp m := by unfold u_rsp; rw [d4.at (p := 251) (k := 1) (by decide), d4.at (p := 251) (k := 2) (by decide), d4.at (p := 251) (k := 3) (by decide)]
    by_cases k1 : ok = false
    · subst k1
      rw [if_neg (by decide), if_pos rfl]
      exact ⟨m1, rfl, er, (fun z => by cases z), fun _ => d4.row (by decide)⟩
    have k1' : ok = true := by cases ok <;> simp_all
    obtain ⟨d1, d2, d3⟩ := a2 k1'
    have hw1 : u_W m1 := u_W_sm hw d4 (by omega) (by omega)
    have e13 : m1 251 13 = m 251 13 := d4.at (by decide)
    rw [if_pos k1', if_neg k1, t_house_136, ey]
    by_cases k2 : m 251 13 ≤ i1
    · rw [if_pos k2]
      have fin : ∀ x3 : Int, ∃ m', z_R 163 (m1, 30, [(2, 251), (0, c1), (0, y + 1), (0, 0), (0, x4), (0, 0)], []) = some (m', some (0, u_ans (true, c1, y + 1, i1, b1))) ∧ u_after (true, c1, y + 1, i1, b1) (u_rsp m) (u_rsp m') ∧ u_gone (true, c1, y + 1, i1, b1) 0 (m 276) (m' 276) := fun _ => by
        rw [t_house_30, if_pos rfl]
        obtain ⟨m', z, z', z''⟩ := t_ok162 m1 c1 (y + 1) 0 (0, x4) (0, 0) d1 (by omega)
        refine ⟨m', ?_, z', (fun _ => z''), fun w => by cases w⟩
        rw [z, u_mul3 (by omega) (by omega) (by omega) (by omega)]
        rfl
      by_cases k3 : 3 ≤ y + 1
      · rw [if_pos k3]; exact fin 0
      · have hn : ¬ u_q m1 (m1 251 15) = 47 := fun z => by
          have : u_q m1 (m1 251 15) = -1 := by
            unfold u_q u_nx
            rw [if_neg (fun z => by omega)]
          omega
        rw [if_neg k3, t_pass1 m1 47 d1 hw1, if_neg hn]
        show ∃ m', z_R 163 (m1, 150, [(2, 251), (0, c1), (0, y + 1), (0, 1), (0, x4), (0, 0)], [(0, 0)]) = _ ∧ _
        rw [t_house_150, if_pos rfl]
        exact fin 0
    rw [if_neg k2]
    have nofin : ∃ m', z_R 163 (m1, 30, [(2, 251), (0, c1), (0, y + 1), (0, 0), (0, x4), (0, 0)], []) = some (m', some (0, u_ans (false, c1, y + 1, i1, b1))) ∧ u_after (false, c1, y + 1, i1, b1) (u_rsp m) (u_rsp m') ∧ u_gone (false, c1, y + 1, i1, b1) 0 (m 276) (m' 276) := by
      rw [t_house_30, if_pos rfl]
      obtain ⟨m', z, z'⟩ := t_no162 m1 c1 (y + 1) 0 (0, x4) (0, 0) d1 (by omega) (by omega) (by omega)
      refine ⟨m', ?_, ?_, (fun w => by cases w), fun _ => (z'.row (by decide)).trans (d4.row (by decide))⟩
      · rw [z, d2]
        rfl
      · show u_rsp m' = u_rsp m
        rw [← er]
        unfold u_rsp
        rw [z'.at (p := 251) (k := 1) (by decide), z'.at (p := 251) (k := 2) (by decide), z'.at (p := 251) (k := 3) (by decide)]
    by_cases k3 : 3 ≤ y + 1
    · rw [if_pos k3, if_pos k3]; exact nofin
    rw [if_neg k3, if_neg k3, t_pass1 m1 47 d1 hw1, u_q_sm d4, d2]
    by_cases k4 : u_q m i1 = 47
    · rw [if_pos k4, if_pos k4]
      show ∃ m', z_R 163 (z_up m1 251 15 (i1 + 1), 150, [(2, 251), (0, c1), (0, y + 1), (0, 1), (0, x4), (0, 0)], [(0, 1)]) = _ ∧ _
      have hb := hg i1 (by omega)
      rw [t_house_150, if_neg (by decide)]
      have g1 : (z_up m1 251 15 (i1 + 1)) 251 15 = i1 + 1 := zu_self
      have g2 : (z_up m1 251 15 (i1 + 1)) 256 = b1 := (zu_rowne (by decide)).trans d3
      have g3 : (z_up m1 251 15 (i1 + 1)) 251 16 = -1 := (zu_k (by decide)).trans d1
      have g4 : (z_up m1 251 15 (i1 + 1)) 251 13 = m 251 13 := (zu_k (by decide)).trans e13
      have er' : u_rsp (z_up m1 251 15 (i1 + 1)) = u_rsp m := by
        rw [← er]
        unfold u_rsp
        rw [zu_k (by decide), zu_k (by decide), zu_k (by decide)]
      obtain ⟨m', z, z', z''⟩ := ih (y + 1) c1 c1 (0, x4) (0, 0) (z_up m1 251 15 (i1 + 1)) (u_W_at hw1 (by omega) (by omega)) g3 (by omega) (by omega) (by omega) b.1 b.2.1 (fun z => by omega) (fun _ => rfl)
      rw [u_q_at, u_q_sm d4, g4, g1, g2] at z z' z''
      rw [er'] at z'
      rw [show (z_up m1 251 15 (i1 + 1)) 276 = m 276 from (zu_rowne (by decide)).trans (d4.row (by decide))] at z''
      exact ⟨m', z, z', z''⟩
    · rw [if_neg k4, if_neg k4]
      show ∃ m', z_R 163 (m1, 150, [(2, 251), (0, c1), (0, y + 1), (0, 1), (0, x4), (0, 0)], [(0, 0)]) = _ ∧ _
      rw [t_house_150, if_pos rfl]
      exact nofin
theorem t_house (m : z_M) (h0 : 0 ≤ m 251 8) (h1 : m 251 8 ≤ 80) (hr : ∀ k, k < 80 → -128 ≤ m 254 k ∧ m 254 k ≤ 127) : ∃ m', z_R 163 (m, 0, [(2, 251), (9, 0), (9, 0), (9, 0), (9, 0), (9, 0)], []) = some (m', some (0, u_ans (u_hou (u_nx (u_t m) (m 251 8) 80) (m 251 8) 3 0 3 0 (m 256)))) ∧ u_after (u_hou (u_nx (u_t m) (m 251 8) 80) (m 251 8) 3 0 3 0 (m 256)) (u_rsp m) (u_rsp m') ∧ u_gone (u_hou (u_nx (u_t m) (m 251 8) 80) (m 251 8) 3 0 3 0 (m 256)) 0 (m 276) (m' 276) := by
  rw [t_house_0, t_begin_0]
  have e8 : (z_up m 251 11 0) 251 8 = m 251 8 := zu_k (by decide)
  show ∃ m', z_R 163 (z_up (z_up (z_up (z_up (z_up (z_up m 251 11 0) 251 12 254) 251 13 (m 251 8)) 251 14 80) 251 15 0) 251 16 (-1), 19, [(2, 251), (9, 0), (9, 0), (9, 0), (9, 0), (9, 0)], []) = _ ∧ _
  rw [t_house_19]
  generalize hm : z_up (z_up (z_up (z_up (z_up (z_up (z_up m 251 11 0) 251 12 254) 251 13 (m 251 8)) 251 14 80) 251 15 0) 251 16 (-1)) 251 8 0 = m0
  have r : ∀ p, ¬ p = 251 → m0 p = m p := fun p hp => by rw [← hm, zu_rowne hp, zu_rowne hp, zu_rowne hp, zu_rowne hp, zu_rowne hp, zu_rowne hp, zu_rowne hp]
  have g12 : m0 251 12 = 254 := by rw [← hm, zu_k (by decide), zu_k (by decide), zu_k (by decide), zu_k (by decide), zu_k (by decide), zu_self]
  have g13 : m0 251 13 = m 251 8 := by rw [← hm, zu_k (by decide), zu_k (by decide), zu_k (by decide), zu_k (by decide), zu_self]
  have g14 : m0 251 14 = 80 := by rw [← hm, zu_k (by decide), zu_k (by decide), zu_k (by decide), zu_self]
  have g15 : m0 251 15 = 0 := by rw [← hm, zu_k (by decide), zu_k (by decide), zu_self]
  have g16 : m0 251 16 = -1 := by rw [← hm, zu_k (by decide), zu_self]
  have gq : u_q m0 = u_nx (u_t m) (m 251 8) 80 := by
    unfold u_q u_t
    rw [r 254 (by decide), g13, g14]
  have gr : u_rsp m0 = u_rsp m := by
    unfold u_rsp
    rw [← hm]
    rw [zu_k (by decide), zu_k (by decide), zu_k (by decide), zu_k (by decide), zu_k (by decide), zu_k (by decide), zu_k (by decide)]
    rw [zu_k (by decide), zu_k (by decide), zu_k (by decide), zu_k (by decide), zu_k (by decide), zu_k (by decide), zu_k (by decide)]
    rw [zu_k (by decide), zu_k (by decide), zu_k (by decide), zu_k (by decide), zu_k (by decide), zu_k (by decide), zu_k (by decide)]
  obtain ⟨m', z, z', z''⟩ := t_hou 3 0 0 3 (9, 0) (9, 0) m0 ⟨g12, by omega, by omega, by omega, fun k hk => by rw [r 254 (by decide)]; exact hr k hk⟩ g16 (by decide) (by decide) (by decide) (by decide) (by decide) (fun _ => rfl) (fun z => absurd rfl z)
  rw [gq, g13, g15, r 256 (by decide)] at z z' z''
  rw [gr] at z'
  rw [r 276 (by decide)] at z''
  exact ⟨m', z, z', z''⟩
end
section
/-! THE TEXTS ARE ALIKE, sign by sign: what each call does to that -/
def u_R (m : z_M) : Prop := m 1 1 = m 251 8 ∧ ∀ k : Nat, (k : Int) < m 1 1 → m 2 k = z_and (m 254 k) 255
def Rel_T (σ : m_H) : Prop := u_R (z_m σ)
theorem u_R_sm {m m' : z_M} (h : u_R m) (h1 : m' 1 1 = m 1 1) (h2 : m' 251 8 = m 251 8) (h3 : m' 2 = m 2) (h4 : m' 254 = m 254) : u_R m' := by
  refine ⟨by rw [h1, h2]; exact h.1, fun k hk => ?_⟩
  rw [h3, h4]
  exact h.2 k (by rw [← h1]; exact hk)
theorem u_R_zero {m : z_M} (h1 : m 1 1 = 0) (h2 : m 251 8 = 0) : u_R m := ⟨by rw [h1, h2], fun k hk => by omega⟩
noncomputable def rel_offb (y : Nat) : Bool := md_off y 1 1 && (md_off y 251 8 && (md_offr y 2 && md_offr y 254))
theorem rel_offb_ok {y : Nat} (h : rel_offb y = true) {C : A_C} (hC : C ∈ cs_at y) {T : Int} {ρ : List Int} {σ σ' : m_H} {r : Option Value} (hp : c_post C.2.2.2.2.2.2.2.1 C.2.2.2.2.1 T ρ σ r σ') (hR : Rel_T σ) : Rel_T σ' := by
  obtain ⟨h1, h⟩ := Bool.and_eq_true _ _ |>.mp h
  obtain ⟨h2, h⟩ := Bool.and_eq_true _ _ |>.mp h
  obtain ⟨h3, h4⟩ := Bool.and_eq_true _ _ |>.mp h
  exact u_R_sm hR (md_off_ok h1 hC hp) (md_off_ok h2 hC hp) (md_offr_ok h3 hC hp) (md_offr_ok h4 hC hp)
theorem R_off {c : l_C} (h : (rel_offb c.2.2.1 && (rel_offb c.2.2.2.2.2.2.2 && !c.2.2.2.2.1)) = true) : l_rel2 Rel_T c := by
  obtain ⟨h1, h⟩ := Bool.and_eq_true _ _ |>.mp h
  obtain ⟨h2, h5⟩ := Bool.and_eq_true _ _ |>.mp h
  intro M1 M2 M3 σ σ1 σ2 as v1 v2 C1 C2 ρ1 ρ2 ha hR hh hM1 hC1 hp1 hE1 hC2 hp2 hE2
  exact ⟨rel_offb_ok h2 hC2 hp2 (rel_offb_ok h1 hC1 hp1 hR), fun z => by rw [z] at h5; cases h5⟩
theorem R_zero {c : l_C} (h : (md_zero c.2.2.1 1 1 && (md_zero c.2.2.2.2.2.2.2 251 8 && (md_off c.2.2.2.2.2.2.2 1 1 && !c.2.2.2.2.1))) = true) : l_rel2 Rel_T c := by
  obtain ⟨h1, h⟩ := Bool.and_eq_true _ _ |>.mp h
  obtain ⟨h2, h⟩ := Bool.and_eq_true _ _ |>.mp h
  obtain ⟨h3, h5⟩ := Bool.and_eq_true _ _ |>.mp h
  intro M1 M2 M3 σ σ1 σ2 as v1 v2 C1 C2 ρ1 ρ2 ha hR hh hM1 hC1 hp1 hE1 hC2 hp2 hE2
  exact ⟨u_R_zero ((md_off_ok h3 hC2 hp2).trans (md_zero_ok h1 hC1 hp1)) (md_zero_ok h2 hC2 hp2), fun z => by rw [z] at h5; cases h5⟩
theorem R_end : l_rel2 Rel_T (244, 31, 16, 1, false, 255, 35, 161) := by
  intro M1 M2 M3 σ σ1 σ2 as v1 v2 C1 C2 ρ1 ρ2 ha hR hh hM1 hC1 hp1 hE1 hC2 hp2 hE2
  obtain ⟨a, rfl⟩ := as_one ha
  have hE1 : z_R 16 (z_m σ, 0, [(2, 0), (0, a.toInt)], []) = some (z_m σ1, some (0, v1.toInt)) := z_R_iff.mpr hE1
  have hE2 : z_R 161 (z_m σ1, 0, [(2, 251), (0, a.toInt)], []) = some (z_m σ2, some (0, v2.toInt)) := z_R_iff.mpr hE2
  rw [r_end] at hE1
  rw [q_end] at hE2
  have hR' : u_R (z_m σ) := hR
  show u_R (z_m σ2) ∧ _
  by_cases h : 0 ≤ a.toInt ∧ a.toInt ≤ z_m σ 1 1
  · rw [if_pos h] at hE1
    have hE1 := Option.some.inj hE1
    have k1 : z_m σ1 = z_up (z_m σ) 1 1 a.toInt := (congrArg Prod.fst hE1).symm
    have k2 : v1.toInt = 1 := (congrArg (fun z : z_Q => (z.2.getD (0, 0)).2) hE1).symm
    have k3 : z_m σ1 251 8 = z_m σ 251 8 := by rw [k1]; exact zu_p (by decide)
    have k4 := hR'.1
    rw [if_pos (by omega)] at hE2
    have hE2 := Option.some.inj hE2
    have l1 : z_m σ2 = z_up (z_up (z_m σ1) 251 11 0) 251 8 a.toInt := (congrArg Prod.fst hE2).symm
    have l2 : v2.toInt = 1 := (congrArg (fun z : z_Q => (z.2.getD (0, 0)).2) hE2).symm
    refine ⟨⟨?_, fun k hk => ?_⟩, fun _ => Int32.toInt_inj.mp (by omega)⟩
    · rw [l1, zu_self, zu_p (by decide), zu_p (by decide), k1, zu_self]
    · have e11 : z_m σ2 1 1 = a.toInt := by rw [l1, zu_p (by decide), zu_p (by decide), k1, zu_self]
      have e2 : z_m σ2 2 = z_m σ 2 := by rw [l1, zu_rowne (by decide), zu_rowne (by decide), k1, zu_rowne (by decide)]
      have e4 : z_m σ2 254 = z_m σ 254 := by rw [l1, zu_rowne (by decide), zu_rowne (by decide), k1, zu_rowne (by decide)]
      rw [e2, e4]
      exact hR'.2 k (by omega)
  · rw [if_neg h] at hE1
    have hE1 := Option.some.inj hE1
    have k1 : z_m σ1 = z_m σ := (congrArg Prod.fst hE1).symm
    have k2 : v1.toInt = 0 := (congrArg (fun z : z_Q => (z.2.getD (0, 0)).2) hE1).symm
    have k4 := hR'.1
    rw [if_neg (by rw [k1]; omega)] at hE2
    have hE2 := Option.some.inj hE2
    have l1 : z_m σ2 = z_up (z_m σ1) 251 11 0 := (congrArg Prod.fst hE2).symm
    have l2 : v2.toInt = 0 := (congrArg (fun z : z_Q => (z.2.getD (0, 0)).2) hE2).symm
    refine ⟨?_, fun _ => Int32.toInt_inj.mp (by omega)⟩
    rw [l1, k1]
    exact u_R_sm hR' (zu_p (by decide)) (zu_k (by decide)) (zu_rowne (by decide)) (zu_rowne (by decide))
theorem R_sign : l_rel2 Rel_T (219, 26, 14, 1, false, 230, 30, 160) := by
  intro M1 M2 M3 σ σ1 σ2 as v1 v2 C1 C2 ρ1 ρ2 ha hR hh hM1 hC1 hp1 hE1 hC2 hp2 hE2
  obtain ⟨a, rfl⟩ := as_one ha
  have hE1 : z_R 14 (z_m σ, 0, [(2, 0), (0, a.toInt)], []) = some (z_m σ1, some (0, v1.toInt)) := z_R_iff.mpr hE1
  have hE2 : z_R 160 (z_m σ1, 0, [(2, 251), (0, a.toInt), (9, 0)], []) = some (z_m σ2, some (0, v2.toInt)) := z_R_iff.mpr hE2
  obtain ⟨r1, r2⟩ := z_rng hh (p := 1) (k := 1) (lo := 0) (hi := 80) (by decide) (by decide +kernel) (by decide +kernel)
  have hR' : u_R (z_m σ) := hR
  have k4 := hR'.1
  show u_R (z_m σ2) ∧ _
  by_cases h : z_m σ 1 1 ≤ 76
  · obtain ⟨m1, d1, d2, d3, d4, d5⟩ := r_sign4 (z_m σ) a.toInt r1 h
    rw [d1] at hE1
    have hE1 := Option.some.inj hE1
    have k1 : m1 = z_m σ1 := congrArg Prod.fst hE1
    have k2 : z_m σ 1 1 + 4 = v1.toInt := congrArg (fun z : z_Q => (z.2.getD (0, 0)).2) hE1
    subst k1
    obtain ⟨m2, f1, f2, f3, f4, f5⟩ := q_sign4 (z_m σ1) a.toInt (by omega) (by omega)
    rw [f1] at hE2
    have hE2 := Option.some.inj hE2
    have l1 : m2 = z_m σ2 := congrArg Prod.fst hE2
    have l2 : z_m σ1 251 8 + 4 = v2.toInt := congrArg (fun z : z_Q => (z.2.getD (0, 0)).2) hE2
    subst l1
    refine ⟨⟨by omega, fun k hk => ?_⟩, fun _ => Int32.toInt_inj.mp (by omega)⟩
    rw [f4, f5, d4, d5, d2, ← k4]
    exact u_up4_eq (fun j hj => hR'.2 j (by omega)) (u_sign_eq a (Or.inl rfl)).1 (u_sign_eq a (Or.inr (Or.inl rfl))).1 (u_sign_eq a (Or.inr (Or.inr (Or.inl rfl)))).1 (u_sign_eq a (Or.inr (Or.inr (Or.inr rfl)))).1 (by omega)
  · rw [r_sign0 _ _ h] at hE1
    have hE1 := Option.some.inj hE1
    have k1 : z_m σ = z_m σ1 := congrArg Prod.fst hE1
    have k2 : -1 = v1.toInt := congrArg (fun z : z_Q => (z.2.getD (0, 0)).2) hE1
    rw [← k1, q_sign0 _ _ (by omega) (by omega)] at hE2
    have hE2 := Option.some.inj hE2
    have l1 : z_up (z_m σ) 251 11 0 = z_m σ2 := congrArg Prod.fst hE2
    have l2 : -1 = v2.toInt := congrArg (fun z : z_Q => (z.2.getD (0, 0)).2) hE2
    refine ⟨?_, fun _ => Int32.toInt_inj.mp (by omega)⟩
    rw [← l1]
    exact u_R_sm hR' (zu_p (by decide)) (zu_k (by decide)) (zu_rowne (by decide)) (zu_rowne (by decide))
theorem u_nx_R {m : z_M} (h : u_R m) {s : Int} : u_nx (m 2) (m 1 1) s = u_nx (u_t m) (m 251 8) s := by
  funext i
  unfold u_nx u_t
  rw [← h.1]
  by_cases c : 0 ≤ i ∧ i < m 1 1 ∧ i < s
  · rw [if_pos c, if_pos c]
    exact h.2 _ (by omega)
  · rw [if_neg c, if_neg c]
/-- house: the texts stay alike, the answers are, and columns, storeys, persons come alike or stay -/
theorem H_house (M1 M2 M3 : Int) (σ σ1 σ2 : m_H) (as : List Int32) (v1 v2 : Int32) (C1 C2 : A_C) (ρ1 ρ2 : List Int) (ha : as.length = 0) (hR : Rel_T σ) (hh : h_ok M1 σ) (hC1 : C1 ∈ cs_at 18) (hp1 : c_post C1.2.2.2.2.2.2.2.1 C1.2.2.2.2.1 M2 ρ1 σ (some (.int v1)) σ1) (hE1 : z_R 18 (z_m σ, 0, [(2, 0), (9, 0), (9, 0)], []) = some (z_m σ1, some (0, v1.toInt))) (hC2 : C2 ∈ cs_at 163) (hp2 : c_post C2.2.2.2.2.2.2.2.1 C2.2.2.2.2.1 M3 ρ2 σ1 (some (.int v2)) σ2) (hE2 : z_R 163 (z_m σ1, 0, [(2, 251), (9, 0), (9, 0), (9, 0), (9, 0), (9, 0)], []) = some (z_m σ2, some (0, v2.toInt))) :
    (Rel_T σ2 ∧ v1 = v2) ∧ ∃ b : Option (Int × Int × Int), u_csp (z_m σ2) = b.getD (u_csp (z_m σ)) ∧ u_rsp (z_m σ2) = b.getD (u_rsp (z_m σ)) ∧ (b = none → z_m σ2 31 = z_m σ 31 ∧ z_m σ2 276 = z_m σ 276) ∧ (¬ b = none → (z_m σ2 31 0 = -1 ∧ z_m σ2 31 1 = -1) ∧ z_m σ2 276 0 = 0 ∧ z_m σ2 276 1 = 0) := by
  obtain ⟨r1, r2⟩ := z_rng hh (p := 1) (k := 1) (lo := 0) (hi := 80) (by decide) (by decide +kernel) (by decide +kernel)
  have hR' : u_R (z_m σ) := hR
  have o1 : z_m σ1 251 8 = z_m σ 251 8 := md_off_ok (y := 18) (by decide +kernel) hC1 hp1
  have o2 : z_m σ1 254 = z_m σ 254 := md_offr_ok (y := 18) (by decide +kernel) hC1 hp1
  have rb : ∀ k, k < 80 → -128 ≤ z_m σ 254 k ∧ z_m σ 254 k ≤ 127 := fun k hk => z_rng hh (p := 254) (k := k) (lo := -128) (hi := 127) (by decide) (by rw [show h_ln 254 = 80 by decide +kernel]; exact hk) (h_ty_254 k)
  obtain ⟨m1, d1, d2, d3⟩ := c_house (z_m σ) r1 r2
  rw [d1] at hE1
  have k1 : m1 = z_m σ1 := congrArg Prod.fst (Option.some.inj hE1)
  have k2 := (congrArg (fun z : z_Q => (z.2.getD (0, 0)).2) (Option.some.inj hE1)).symm
  obtain ⟨m2, f1, f2, f3⟩ := t_house (z_m σ1) (by rw [o1, ← hR'.1]; exact r1) (by rw [o1, ← hR'.1]; exact r2) (fun k hk => by rw [o2]; exact rb k hk)
  rw [f1] at hE2
  have l1 : m2 = z_m σ2 := congrArg Prod.fst (Option.some.inj hE2)
  have l2 := (congrArg (fun z : z_Q => (z.2.getD (0, 0)).2) (Option.some.inj hE2)).symm
  have eg : u_nx (u_t (z_m σ1)) (z_m σ1 251 8) 80 = u_nx (z_m σ 2) (z_m σ 1 1) 80 := by
    rw [u_nx_R hR']
    unfold u_t
    rw [o1, o2]
  simp only [Option.getD_some] at k2 l2
  rw [eg, o1, ← hR'.1] at l2 f2 f3
  have ee := u_hou_e (g := u_nx (z_m σ 2) (z_m σ 1 1) 80) (n := z_m σ 1 1) 3 0 3 0 (z_m σ 9) (z_m σ1 256)
  rw [k1] at d2 d3
  rw [l1] at f2 f3
  refine ⟨⟨u_R_zero ((md_off_ok (y := 163) (by decide +kernel) hC2 hp2).trans (md_zero_ok (y := 18) (by decide +kernel) hC1 hp1)) (md_zero_ok (y := 163) (by decide +kernel) hC2 hp2), Int32.toInt_inj.mp (by rw [k2, l2]; exact ee.ans)⟩, ?_⟩
  have n1 : u_csp (z_m σ2) = u_csp (z_m σ1) := by
    unfold u_csp
    rw [md_off_ok (y := 163) (p := 3) (k := 8) (by decide +kernel) hC2 hp2, md_off_ok (y := 163) (p := 3) (k := 9) (by decide +kernel) hC2 hp2, md_off_ok (y := 163) (p := 3) (k := 11) (by decide +kernel) hC2 hp2]
  have n2 : u_rsp (z_m σ1) = u_rsp (z_m σ) := by
    unfold u_rsp
    rw [md_off_ok (y := 18) (p := 251) (k := 1) (by decide +kernel) hC1 hp1, md_off_ok (y := 18) (p := 251) (k := 2) (by decide +kernel) hC1 hp1, md_off_ok (y := 18) (p := 251) (k := 3) (by decide +kernel) hC1 hp1]
  have n3 : z_m σ2 31 = z_m σ1 31 := md_offr_ok (y := 163) (by decide +kernel) hC2 hp2
  have n4 : z_m σ1 276 = z_m σ 276 := md_offr_ok (y := 18) (by decide +kernel) hC1 hp1
  unfold u_gone at d3 f3
  rw [← ee.1] at f3
  rw [n4] at f3
  rw [n3]
  unfold u_after at d2 f2
  rw [n2, ← ee.1, ← ee.2.1, ← ee.2.2.1] at f2
  rw [n1, d2, f2]
  by_cases c : (u_hou (u_nx (z_m σ 2) (z_m σ 1 1) 80) (z_m σ 1 1) 3 0 3 0 (z_m σ 9)).1 = true
  · exact ⟨some ((u_hou (u_nx (z_m σ 2) (z_m σ 1 1) 80) (z_m σ 1 1) 3 0 3 0 (z_m σ 9)).2.1, (u_hou (u_nx (z_m σ 2) (z_m σ 1 1) 80) (z_m σ 1 1) 3 0 3 0 (z_m σ 9)).2.2.1, 0), by rw [if_pos c]; rfl, by rw [if_pos c]; rfl, (fun z => by cases z), fun _ => ⟨d3.1 c, f3.1 c⟩⟩
  · exact ⟨none, by rw [if_neg c]; rfl, by rw [if_neg c]; rfl, (fun _ => ⟨d3.2 (Bool.eq_false_iff.mpr c), f3.2 (Bool.eq_false_iff.mpr c)⟩), fun z => absurd rfl z⟩
theorem R_house : l_rel2 Rel_T (263, 36, 18, 0, false, 268, 40, 163) := by
  intro M1 M2 M3 σ σ1 σ2 as v1 v2 C1 C2 ρ1 ρ2 ha hR hh hM1 hC1 hp1 hE1 hC2 hp2 hE2
  obtain rfl := as_nil ha
  have z := (H_house M1 M2 M3 σ σ1 σ2 [] v1 v2 C1 C2 ρ1 ρ2 rfl hR hh hC1 hp1 (z_R_iff.mpr hE1) hC2 hp2 (z_R_iff.mpr hE2)).1
  exact ⟨z.1, fun _ => z.2⟩
theorem R_rule (h0 : ((289, 45, 39, 0, true, 293, 48, 175) : l_C).2.2.2.2.1 = false) : l_rel2 Rel_T (289, 45, 39, 0, true, 293, 48, 175) := by
  intro M1 M2 M3 σ σ1 σ2 as v1 v2 C1 C2 ρ1 ρ2 ha hR hh hM1 hC1 hp1 hE1 hC2 hp2 hE2
  obtain rfl := as_nil ha
  have hE1 : z_R 39 (z_m σ, 0, [(2, 0), (9, 0)], []) = some (z_m σ1, some (0, v1.toInt)) := z_R_iff.mpr hE1
  exact ⟨u_R_zero ((md_off_ok (y := 175) (by decide +kernel) hC2 hp2).trans (r_rule0 _ hE1)) (md_zero_ok (y := 175) (by decide +kernel) hC2 hp2), fun z => absurd (h0.symm.trans z) (by decide)⟩
theorem R_start : ∀ σ, xs_is σ → Rel_T σ := fun σ h => by
  have := xs_ck_ok (f := fun σ => match c_at σ 1 1, c_at σ 251 8 with
    | some v, some w => i_eq (z_vn v) 0 && i_eq (z_vn w) 0
    | _, _ => false) (by decide +kernel) h
  split at this
  · rename_i v w e1 e2
    obtain ⟨a1, a2⟩ := Bool.and_eq_true _ _ |>.mp this
    refine u_R_zero ?_ ?_
    · unfold z_m
      rw [e1]
      exact i_eq_iff.mp a1
    · unfold z_m
      rw [e2]
      exact i_eq_iff.mp a2
  · cases this
theorem R3_off {y n : Nat} (h : rel_offb y = true) : l_rel3 Rel_T y n := by
  intro M1 M2 M3 σ σ1 σ2 as v C2 ρ2 ha hR hh hM1 hf hh1 hC2 hp2 hE2
  have hz : ∀ p k, (¬ p = 6 ∧ ¬ p = 7 ∧ ¬ p = 278) → z_m σ1 p k = z_m σ p k := fun p k hp => by
    have e := hf p k (fun ⟨q, q1, q2, _⟩ => by
      simp only [List.mem_cons, List.not_mem_nil, or_false] at q1
      rcases q1 with rfl | rfl | rfl <;> simp only at q2 <;> omega)
    unfold z_m
    rw [e]
  have hr : ∀ p, (¬ p = 6 ∧ ¬ p = 7 ∧ ¬ p = 278) → z_m σ1 p = z_m σ p := fun p hp => funext fun k => hz p k hp
  exact rel_offb_ok h hC2 hp2 (u_R_sm hR (hz 1 1 (by decide)) (hz 251 8 (by decide)) (hr 2 (by decide)) (hr 254 (by decide)))
/-! CELLS THAT ARE ALIKE: place, cell, place, cell, how many -/
abbrev u_X : Type := Nat × Nat × Nat × Nat × Nat
def u_E (L : List u_X) (m : z_M) : Prop := ∀ e ∈ L, ∀ j, j < e.2.2.2.2 → m e.1 (e.2.1 + j) = m e.2.2.1 (e.2.2.2.1 + j)
theorem u_E_nil {m : z_M} : u_E [] m := fun e h => absurd h List.not_mem_nil
theorem u_E_cons {e : u_X} {L : List u_X} {m : z_M} : u_E (e :: L) m ↔ (∀ j, j < e.2.2.2.2 → m e.1 (e.2.1 + j) = m e.2.2.1 (e.2.2.2.1 + j)) ∧ u_E L m := by
  constructor
  · intro h
    exact ⟨h e List.mem_cons_self, fun e' h' => h e' (List.mem_cons_of_mem _ h')⟩
  · rintro ⟨h1, h2⟩ e' h'
    rcases List.mem_cons.mp h' with rfl | h'
    · exact h1
    · exact h2 e' h'
theorem u_E_one {p k p' k' : Nat} {L : List u_X} {m : z_M} (h1 : m p k = m p' k') (h2 : u_E L m) : u_E ((p, k, p', k', 1) :: L) m := u_E_cons.mpr ⟨fun j hj => by
  obtain rfl : j = 0 := by simp only at hj; omega
  exact h1, h2⟩
noncomputable def md_offg (y p k n : Nat) : Bool := (cs_at y).all fun C => C.2.2.2.2.1.all fun q => !(Nat.beq q.1 p && (Nat.blt q.2.1 (k + n) && Nat.ble k q.2.2))
theorem md_offg_ok {y p k n : Nat} (h : md_offg y p k n = true) {C : A_C} (hC : C ∈ cs_at y) {alts : List A_A} {T : Int} {ρ : List Int} {σ σ' : m_H} {r : Option Value} (hp : c_post alts C.2.2.2.2.1 T ρ σ r σ') {j : Nat} (hj : j < n) : z_m σ' p (k + j) = z_m σ p (k + j) := by
  have e := (c_post_h hp).2 p (k + j) (fun ⟨q, q1, q2, q3, q4⟩ => by
    have := List.all_eq_true.mp (List.all_eq_true.mp h C hC) q q1
    have hb : Nat.beq p p = true := Nat.beq_refl p
    have h2 : Nat.blt q.2.1 (k + n) = true := Nat.ble_eq_true_of_le (show q.2.1 + 1 ≤ k + n by omega)
    rw [q2, hb, h2, Nat.ble_eq_true_of_le (show k ≤ q.2.2 by omega)] at this
    cases this)
  unfold z_m
  rw [e]
noncomputable def E_off (y : Nat) (L : List u_X) : Bool := L.all fun e => md_offg y e.1 e.2.1 e.2.2.2.2 && md_offg y e.2.2.1 e.2.2.2.1 e.2.2.2.2
theorem E_off_ok {y : Nat} {L : List u_X} (h : E_off y L = true) {C : A_C} (hC : C ∈ cs_at y) {alts : List A_A} {T : Int} {ρ : List Int} {σ σ' : m_H} {r : Option Value} (hp : c_post alts C.2.2.2.2.1 T ρ σ r σ') (hE : u_E L (z_m σ)) : u_E L (z_m σ') := fun e he j hj => by
  obtain ⟨h1, h2⟩ := Bool.and_eq_true _ _ |>.mp (List.all_eq_true.mp h e he)
  rw [md_offg_ok h1 hC hp hj, md_offg_ok h2 hC hp hj]
  exact hE e he j hj
/-- cells that no call of the case changes stay alike -/
theorem E_part {A : m_H → Prop} {L : List u_X} {c : l_C} (h1 : l_rel2 A c) (h : (E_off c.2.2.1 L && E_off c.2.2.2.2.2.2.2 L) = true) : l_rel2 (fun σ => A σ ∧ u_E L (z_m σ)) c := by
  obtain ⟨g1, g2⟩ := Bool.and_eq_true _ _ |>.mp h
  intro M1 M2 M3 σ σ1 σ2 as v1 v2 C1 C2 ρ1 ρ2 ha hR hh hM1 hC1 hp1 hE1 hC2 hp2 hE2
  have z := h1 M1 M2 M3 σ σ1 σ2 as v1 v2 C1 C2 ρ1 ρ2 ha hR.1 hh hM1 hC1 hp1 hE1 hC2 hp2 hE2
  exact ⟨⟨z.1, E_off_ok g2 hC2 hp2 (E_off_ok g1 hC1 hp1 hR.2)⟩, z.2⟩
/-- cells that room, person, row of the class leave -/
def E_far (L : List u_X) : Bool := L.all fun e => !(Nat.beq e.1 6 || (Nat.beq e.1 7 || (Nat.beq e.1 278 || (Nat.beq e.2.2.1 6 || (Nat.beq e.2.2.1 7 || Nat.beq e.2.2.1 278)))))
theorem E_part3 {A : m_H → Prop} {L : List u_X} {y n : Nat} (h1 : l_rel3 A y n) (h : (E_off y L && E_far L) = true) : l_rel3 (fun σ => A σ ∧ u_E L (z_m σ)) y n := by
  obtain ⟨g1, g2⟩ := Bool.and_eq_true _ _ |>.mp h
  intro M1 M2 M3 σ σ1 σ2 as v C2 ρ2 ha hR hh hM1 hf hh1 hC2 hp2 hE2
  have hz : ∀ p k, (¬ p = 6 ∧ ¬ p = 7 ∧ ¬ p = 278) → z_m σ1 p k = z_m σ p k := fun p k hp => by
    have e := hf p k (fun ⟨q, q1, q2, _⟩ => by
      simp only [List.mem_cons, List.not_mem_nil, or_false] at q1
      rcases q1 with rfl | rfl | rfl <;> simp only at q2 <;> omega)
    unfold z_m
    rw [e]
  refine ⟨h1 M1 M2 M3 σ σ1 σ2 as v C2 ρ2 ha hR.1 hh hM1 hf hh1 hC2 hp2 hE2, E_off_ok g1 hC2 hp2 fun e he j hj => ?_⟩
  have hb := List.all_eq_true.mp g2 e he
  have hn : ¬ e.1 = 6 ∧ ¬ e.1 = 7 ∧ ¬ e.1 = 278 ∧ ¬ e.2.2.1 = 6 ∧ ¬ e.2.2.1 = 7 ∧ ¬ e.2.2.1 = 278 := by
    refine ⟨fun z => ?_, fun z => ?_, fun z => ?_, fun z => ?_, fun z => ?_, fun z => ?_⟩ <;> (rw [z] at hb; simp at hb)
  rw [hz _ _ ⟨hn.1, hn.2.1, hn.2.2.1⟩, hz _ _ ⟨hn.2.2.2.1, hn.2.2.2.2.1, hn.2.2.2.2.2⟩]
  exact hR.2 e he j hj
/-- alike, as the cells stand -/
noncomputable def E_ck (L : List u_X) (σ : m_H) : Bool := L.all fun e => (List.range e.2.2.2.2).all fun j => match c_at σ e.1 (e.2.1 + j), c_at σ e.2.2.1 (e.2.2.2.1 + j) with
  | some v, some w => i_eq (z_vn v) (z_vn w)
  | _, _ => false
theorem E_ck_ok {L : List u_X} {σ : m_H} (h : E_ck L σ = true) : u_E L (z_m σ) := fun e he j hj => by
  have := List.all_eq_true.mp (List.all_eq_true.mp h e he) j (List.mem_range.mpr hj)
  split at this
  · rename_i v w e1 e2
    unfold z_m
    rw [e1, e2]
    exact i_eq_iff.mp this
  · cases this
end
section
/-! SHEET in plain numbers -/
def u_hs (w h a : Int) : Int := if a < 0 then 0 else if 9 ≤ a then 0 else if w ≤ z_rem a 3 then 0 else if h ≤ z_div a 3 then 0 else 1
theorem c_hasv (m : z_M) (a : Int) : z_R 32 (m, 0, [(2, 3), (0, a)], []) = some (m, some (0, u_hs (m 3 8) (m 3 9) a)) := by
  rw [s_has_0]
  unfold u_hs
  by_cases h1 : a < 0
  · rw [if_pos h1, if_pos h1]
  rw [if_neg h1, if_neg h1]
  by_cases h2 : 9 ≤ a
  · rw [if_pos h2, if_pos h2]
  rw [if_neg h2, if_neg h2]
  by_cases h3 : m 3 8 ≤ z_rem a 3
  · rw [if_pos h3, if_pos h3]
  rw [if_neg h3, if_neg h3]
  by_cases h4 : m 3 9 ≤ z_div a 3
  · rw [if_pos h4, if_pos h4]
  · rw [if_neg h4, if_neg h4]
theorem t_roomv (m : z_M) (a : Int) : z_R 171 (m, 0, [(2, 251), (0, a)], []) = some (m, some (0, u_hs (m 251 1) (m 251 2) a)) := by
  rw [t_room_0, t_in]
  show z_R 171 (m, 7, [(2, 251), (0, a)], [(0, if 0 ≤ a ∧ a ≤ 8 then 1 else 0)]) = _
  rw [t_room_7]
  unfold u_hs
  by_cases h1 : a < 0
  · rw [if_neg (show ¬ (0 ≤ a ∧ a ≤ 8) by omega), if_pos rfl, if_pos h1]
  rw [if_neg h1]
  by_cases h2 : 9 ≤ a
  · rw [if_neg (show ¬ (0 ≤ a ∧ a ≤ 8) by omega), if_pos rfl, if_pos h2]
  rw [if_neg h2, if_pos (show 0 ≤ a ∧ a ≤ 8 by omega), if_neg (by decide)]
  by_cases h3 : m 251 1 ≤ z_rem a 3
  · rw [if_pos h3, if_pos h3]
  rw [if_neg h3, if_neg h3]
  by_cases h4 : m 251 2 ≤ z_div a 3
  · rw [if_pos h4, if_pos h4]
  · rw [if_neg h4, if_neg h4]
def u_cap (e : Int) : Int := if 0 < if e < 99 then e else 99 then if e < 99 then e else 99 else 0
theorem u_cap_b (e : Int) : 0 ≤ u_cap e ∧ u_cap e ≤ 99 := by
  unfold u_cap
  by_cases h : e < 99
  · rw [if_pos h]
    by_cases h' : 0 < e
    · rw [if_pos h']; omega
    · rw [if_neg h']; omega
  · rw [if_neg h, if_pos (by decide)]; omega
def u_conv (kind v : Int) : Int := if kind = 0 then z_i2b v else if kind = 1 then z_i2s v else v
theorem c_entry (m : z_M) (a b : Int) : z_R 57 (m, 0, [(0, a), (0, b), (9, 0)], []) = some (m, some (0, u_cap (u_conv a b))) := by
  rw [s_entry_0]
  unfold u_conv
  by_cases h1 : a = 0
  · rw [if_pos h1, if_pos h1]; rfl
  rw [if_neg h1, if_neg h1]
  by_cases h2 : a = 1
  · rw [if_pos h2, if_pos h2]; rfl
  · rw [if_neg h2, if_neg h2]; rfl
/-- what a room gets -/
def u_val (kind n told v : Int) : Int := if kind = 3 ∨ n ≤ told then 0 else u_cap (u_conv kind v)
theorem u_val_b (kind n told v : Int) : 0 ≤ u_val kind n told v ∧ u_val kind n told v ≤ 99 := by
  unfold u_val
  by_cases h : kind = 3 ∨ n ≤ told
  · rw [if_pos h]; omega
  · rw [if_neg h]; exact u_cap_b _
/-- the sum -/
def u_sh (w h kind n a d : Int) : Nat → Int → Int → Int → Int
  | 0, _, _, s => s
  | f + 1, r, k, s => if u_hs w h r = 0 then u_sh w h kind n a d f (r + 1) k s else u_sh w h kind n a d f (r + 1) (k + 1) (s + u_val kind n k (z_add a (z_mul k d)))
theorem c_sh {w h kind n a d x5 : Int} (hx : x5 = if kind = 3 then 1 else 0) : ∀ (f : Nat) (r k s : Int) (v9 : z_V) (m : z_M), 0 ≤ r → r + (f : Int) = 9 → 0 ≤ k → k ≤ r → 0 ≤ s → s ≤ 99 * k → m 3 8 = w → m 3 9 = h → ∃ m', z_R 56 (m, 50, [(2, 0), (0, kind), (0, n), (0, a), (0, d), (0, x5), (0, k), (0, s), (0, r), v9], []) = some (m', some (0, if kind = 3 then -3 else u_sh w h kind n a d f r k s)) := by
  intro f
  induction f with
  | zero =>
    intro r k s v9 m h0 h1 h2 h3 h4 h5 hw hh
    rw [s_sheet_50, if_pos (by omega)]
    by_cases c : kind = 3
    · rw [if_pos c] at hx
      rw [if_pos c, if_neg (by omega)]; exact ⟨_, rfl⟩
    · rw [if_neg c] at hx
      rw [if_neg c, if_pos hx]; exact ⟨_, rfl⟩
  | succ f ih =>
    intro r k s v9 m h0 h1 h2 h3 h4 h5 hw hh
    rw [s_sheet_50, if_neg (by omega), c_hasv, hw, hh]
    show ∃ m', z_R 56 (m, 66, [(2, 0), (0, kind), (0, n), (0, a), (0, d), (0, x5), (0, k), (0, s), (0, r), v9], [(0, u_hs w h r)]) = _
    rw [s_sheet_66, z_add_eq (x := r) (by omega) (by omega)]
    unfold u_sh
    by_cases c : u_hs w h r = 0
    · rw [if_pos c, if_pos c]
      exact ih (r + 1) k s v9 m (by omega) (by omega) h2 (by omega) h4 h5 hw hh
    rw [if_neg c, if_neg c]
    have hb := u_val_b kind n k (z_add a (z_mul k d))
    have go : ∀ u : Int, u = u_val kind n k (z_add a (z_mul k d)) → ∃ m', z_R 56 (m, 95, [(2, 0), (0, kind), (0, n), (0, a), (0, d), (0, x5), (0, k), (0, s), (0, r), v9], [(0, u)]) = some (m', some (0, if kind = 3 then -3 else u_sh w h kind n a d f (r + 1) (k + 1) (s + u_val kind n k (z_add a (z_mul k d))))) := by
      intro u hu
      rw [s_sheet_95, if_pos ⟨h0, by omega⟩, z_add_eq (x := k) (by omega) (by omega), z_add_eq (x := s) (by omega) (by omega), z_add_eq (x := r) (by omega) (by omega), hu]
      exact ih (r + 1) (k + 1) _ _ _ (by omega) (by omega) (by omega) (by omega) (by omega) (by omega) ((zu_p (by decide)).trans hw) ((zu_p (by decide)).trans hh)
    by_cases c3 : kind = 3
    · rw [if_pos c3] at hx
      rw [if_neg (by omega)]
      exact go 0 (by unfold u_val; rw [if_pos (Or.inl c3)])
    · rw [if_neg c3] at hx
      rw [if_pos hx]
      by_cases c4 : n ≤ k
      · rw [if_pos c4]
        exact go 0 (by unfold u_val; rw [if_pos (Or.inr c4)])
      · rw [if_neg c4, c_entry]
        show ∃ m', z_R 56 (m, 91, [(2, 0), (0, kind), (0, n), (0, a), (0, d), (0, x5), (0, k), (0, s), (0, r), v9], [(0, u_cap (u_conv kind (z_add a (z_mul k d))))]) = _
        rw [s_sheet_91]
        exact go _ (by unfold u_val; rw [if_neg (fun z => z.elim c3 c4)])
/-- what sheet answers -/
def u_sheet (w h kind n a d : Int) : Int := if kind < 0 then -1 else if 3 < kind then -1 else if 9 < n then -1 else if kind = 3 then -3 else if n < 0 then -2 else u_sh w h kind n a d 9 0 0 0
theorem c_sheet (m : z_M) (kind n a d : Int) : ∃ m', z_R 56 (m, 0, [(2, 0), (0, kind), (0, n), (0, a), (0, d), (9, 0), (9, 0), (9, 0), (9, 0), (9, 0)], []) = some (m', some (0, u_sheet (m 3 8) (m 3 9) kind n a d)) := by
  rw [s_sheet_0]
  unfold u_sheet
  by_cases h1 : kind < 0
  · rw [if_pos h1, if_pos h1]; exact ⟨_, rfl⟩
  rw [if_neg h1, if_neg h1]
  by_cases h2 : 3 < kind
  · rw [if_pos h2, if_pos h2]; exact ⟨_, rfl⟩
  rw [if_neg h2, if_neg h2]
  by_cases h3 : 9 < n
  · rw [if_neg (by omega), if_pos h3]; exact ⟨_, rfl⟩
  rw [if_pos (by omega), if_neg h3]
  by_cases h4 : kind = 3
  · rw [if_pos h4, if_pos h4, s_sheet_41]
    obtain ⟨m', e⟩ := c_sh (w := m 3 8) (h := m 3 9) (kind := kind) (n := n) (a := a) (d := d) (x5 := 1) (by rw [if_pos h4]) 9 0 0 0 (9, 0) m (by decide) (by decide) (by decide) (by decide) (by decide) (by decide) rfl rfl
    rw [if_pos h4] at e
    exact ⟨m', e⟩
  rw [if_neg h4, if_neg h4]
  by_cases h5 : n < 0
  · rw [if_neg (by omega), if_pos h5]; exact ⟨_, rfl⟩
  rw [if_pos (by omega), if_neg h5, s_sheet_41]
  obtain ⟨m', e⟩ := c_sh (w := m 3 8) (h := m 3 9) (kind := kind) (n := n) (a := a) (d := d) (x5 := 0) (by rw [if_neg h4]) 9 0 0 0 (9, 0) m (by decide) (by decide) (by decide) (by decide) (by decide) (by decide) rfl rfl
  rw [if_neg h4] at e
  exact ⟨m', e⟩
theorem u_step {a k d : Int} : z_add (z_add a (z_mul k d)) d = z_add a (z_mul (k + 1) d) := by
  unfold z_add z_mul
  simp only [Int32.ofInt_toInt]
  rw [Int32.ofInt_add, Int32.add_mul, Int32.add_assoc]
  rw [show Int32.ofInt 1 = 1 from rfl, Int32.one_mul]
theorem t_sh59 (m : z_M) (kind n a d s v k r : Int) (v9 : z_V) {u : Int} (hu : ¬ u = 0) : z_R 194 (m, 59, [(2, 251), (0, kind), (0, n), (0, a), (0, d), (0, s), (0, v), (0, k), (0, r), v9], [(0, u)]) = z_R 194 (m, 122, [(2, 251), (0, kind), (0, n), (0, a), (0, d), (0, s), (0, v), (0, k), (0, r), (0, u_conv kind v)], [(0, u_val kind n k v), (0, r), (2, 252)]) := by
  rw [t_sheet_59, if_neg hu]
  unfold u_val
  by_cases c0 : kind = 0
  · have e : u_conv kind v = z_i2b v := by unfold u_conv; rw [if_pos c0]
    rw [if_pos c0, if_neg (by omega), e]
    by_cases c4 : k < n
    · rw [if_pos c4, if_neg (show ¬ (kind = 3 ∨ n ≤ k) by omega)]; rfl
    · rw [if_neg c4, if_pos (show kind = 3 ∨ n ≤ k by omega)]
  rw [if_neg c0]
  by_cases c1 : kind = 1
  · have e : u_conv kind v = z_i2s v := by unfold u_conv; rw [if_neg c0, if_pos c1]
    rw [if_pos c1, if_neg (by omega), e]
    by_cases c4 : k < n
    · rw [if_pos c4, if_neg (show ¬ (kind = 3 ∨ n ≤ k) by omega)]; rfl
    · rw [if_neg c4, if_pos (show kind = 3 ∨ n ≤ k by omega)]
  rw [if_neg c1]
  have e : u_conv kind v = v := by unfold u_conv; rw [if_neg c0, if_neg c1]
  rw [e]
  by_cases c3 : kind = 3
  · rw [if_pos c3, if_pos (Or.inl c3)]
  rw [if_neg c3]
  by_cases c4 : k < n
  · rw [if_pos c4, if_neg (show ¬ (kind = 3 ∨ n ≤ k) by omega)]; rfl
  · rw [if_neg c4, if_pos (show kind = 3 ∨ n ≤ k by omega)]
theorem t_sh {w h kind n a d : Int} : ∀ (f : Nat) (r k s : Int) (v9 : z_V) (m : z_M), 0 ≤ r → r + (f : Int) = 9 → 0 ≤ k → k ≤ r → 0 ≤ s → s ≤ 99 * k → m 251 1 = w → m 251 2 = h → ∃ m', z_R 194 (m, 46, [(2, 251), (0, kind), (0, n), (0, a), (0, d), (0, s), (0, z_add a (z_mul k d)), (0, k), (0, r), v9], []) = some (m', some (0, if kind = 3 then -3 else u_sh w h kind n a d f r k s)) := by
  intro f
  induction f with
  | zero =>
    intro r k s v9 m h0 h1 h2 h3 h4 h5 hw hh
    rw [t_sheet_46, if_pos (by omega)]
    by_cases c : kind = 3
    · rw [if_pos c, if_pos c]; exact ⟨_, rfl⟩
    · rw [if_neg c, if_neg c]; exact ⟨_, rfl⟩
  | succ f ih =>
    intro r k s v9 m h0 h1 h2 h3 h4 h5 hw hh
    rw [t_sheet_46, if_neg (by omega), t_roomv, hw, hh]
    show ∃ m', z_R 194 (m, 59, [(2, 251), (0, kind), (0, n), (0, a), (0, d), (0, s), (0, z_add a (z_mul k d)), (0, k), (0, r), v9], [(0, u_hs w h r)]) = _
    unfold u_sh
    by_cases c : u_hs w h r = 0
    · rw [t_sheet_59, if_pos c, if_pos c, t_sheet_145, z_add_eq (x := r) (by omega) (by omega)]
      exact ih (r + 1) k s v9 m (by omega) (by omega) h2 (by omega) h4 h5 hw hh
    have hb := u_val_b kind n k (z_add a (z_mul k d))
    rw [t_sh59 _ _ _ _ _ _ _ _ _ _ c, if_neg c, t_sheet_122, if_pos ⟨h0, by omega⟩, if_pos ⟨h0, by omega⟩, zu_self, t_sheet_145, z_add_eq (x := s) (by omega) (by omega), z_add_eq (x := k) (by omega) (by omega), z_add_eq (x := r) (by omega) (by omega), u_step]
    exact ih (r + 1) (k + 1) _ _ _ (by omega) (by omega) (by omega) (by omega) (by omega) (by omega) ((zu_p (by decide)).trans hw) ((zu_p (by decide)).trans hh)
theorem t_sheet (m : z_M) (kind n a d : Int) (ha : (Int32.ofInt a).toInt = a) : ∃ m', z_R 194 (m, 0, [(2, 251), (0, kind), (0, n), (0, a), (0, d), (9, 0), (9, 0), (9, 0), (9, 0), (9, 0)], []) = some (m', some (0, u_sheet (m 251 1) (m 251 2) kind n a d)) := by
  rw [t_sheet_0, t_in]
  show ∃ m', z_R 194 (z_up m 251 11 0, 11, [(2, 251), (0, kind), (0, n), (0, a), (0, d), (9, 0), (9, 0), (9, 0), (9, 0), (9, 0)], [(0, if 0 ≤ kind ∧ kind ≤ 3 then 1 else 0)]) = _
  rw [t_sheet_11]
  unfold u_sheet
  by_cases h1 : kind < 0
  · rw [if_neg (show ¬ (0 ≤ kind ∧ kind ≤ 3) by omega), if_pos rfl, if_pos h1]; exact ⟨_, rfl⟩
  rw [if_neg h1]
  by_cases h2 : 3 < kind
  · rw [if_neg (show ¬ (0 ≤ kind ∧ kind ≤ 3) by omega), if_pos rfl, if_pos h2]; exact ⟨_, rfl⟩
  rw [if_neg h2, if_pos (show 0 ≤ kind ∧ kind ≤ 3 by omega), if_neg (by decide)]
  by_cases h3 : 9 < n
  · rw [if_neg (by omega), if_pos h3]; exact ⟨_, rfl⟩
  rw [if_pos (by omega), if_neg h3]
  have hz : z_add a (z_mul 0 d) = a := by
    have e0 : z_mul 0 d = 0 := by unfold z_mul; rw [show Int32.ofInt 0 = 0 from rfl, Int32.zero_mul]; rfl
    rw [e0]
    unfold z_add
    rw [show Int32.ofInt 0 = 0 from rfl, Int32.add_zero, ha]
  obtain ⟨m', e⟩ := t_sh (w := m 251 1) (h := m 251 2) (kind := kind) (n := n) (a := a) (d := d) 9 0 0 0 (9, 0) (z_up m 251 11 0) (by decide) (by decide) (by decide) (by decide) (by decide) (by decide) (zu_k (by decide)) (zu_k (by decide))
  rw [hz] at e
  by_cases h4 : kind = 3
  · rw [if_pos (by omega), if_pos h4]
    rw [if_pos h4] at e
    exact ⟨m', e⟩
  rw [if_neg (by omega), if_neg h4]
  rw [if_neg h4] at e
  by_cases h5 : n < 0
  · rw [if_neg (by omega), if_pos h5]; exact ⟨_, rfl⟩
  rw [if_pos (by omega), if_neg h5]
  exact ⟨m', e⟩
end
section
/-! STEPS whose bounds are known -/
theorem z_R_ifd {y : Nat} {K : List (List a_K)} (hK : kt_at y = K) {c : Prop} [hc : Decidable c] {m : z_M} {pc p1 p2 : Nat} {ls : z_L} {st st' : List z_V} {q : a_K} {A B : Option z_Q} (hq : k_get K pc = some q) (hk : z_kd q.2.1 q.2.2.2.2 = 0) (hs : z_step q (m, pc, ls, st) = some (m, bif decide c then p1 else p2, ls, st')) (h1 : c → z_R y (m, p1, ls, st') = A) (h2 : ¬ c → z_R y (m, p2, ls, st') = B) : z_R y (m, pc, ls, st) = if c then A else B := by
  rw [z_R_st hK (g := (m, pc, ls, st)) hq hk hs, z_R_pc, z_bif]
  by_cases h : c
  · rw [if_pos h, if_pos h, h1 h]
  · rw [if_neg h, if_neg h, h2 h]
theorem z_R_ifnd {y : Nat} {K : List (List a_K)} (hK : kt_at y = K) {c : Prop} [hc : Decidable c] {m : z_M} {pc p1 p2 : Nat} {ls : z_L} {st st' : List z_V} {q : a_K} {A B : Option z_Q} (hq : k_get K pc = some q) (hk : z_kd q.2.1 q.2.2.2.2 = 0) (hs : z_step q (m, pc, ls, st) = some (m, bif !decide c then p1 else p2, ls, st')) (h1 : ¬ c → z_R y (m, p1, ls, st') = A) (h2 : c → z_R y (m, p2, ls, st') = B) : z_R y (m, pc, ls, st) = if c then B else A := by
  rw [z_R_st hK (g := (m, pc, ls, st)) hq hk hs, z_R_pc, z_bif_n]
  by_cases h : c
  · rw [if_pos h, if_pos h, h2 h]
  · rw [if_neg h, if_neg h, h1 h]
theorem z_R_if1 {y : Nat} {K : List (List a_K)} (hK : kt_at y = K) {c : Prop} [hc : Decidable c] {m : z_M} {pc p1 p2 : Nat} {ls : z_L} {st st' : List z_V} {q : a_K} {A : Option z_Q} (hq : k_get K pc = some q) (hk : z_kd q.2.1 q.2.2.2.2 = 0) (hs : z_step q (m, pc, ls, st) = some (m, bif decide c then p1 else p2, ls, st')) (hd : c) (h1 : z_R y (m, p1, ls, st') = A) : z_R y (m, pc, ls, st) = A := by
  rw [z_R_st hK (g := (m, pc, ls, st)) hq hk hs, z_R_pc, z_bif, if_pos hd, h1]
theorem z_R_if0 {y : Nat} {K : List (List a_K)} (hK : kt_at y = K) {c : Prop} [hc : Decidable c] {m : z_M} {pc p1 p2 : Nat} {ls : z_L} {st st' : List z_V} {q : a_K} {A : Option z_Q} (hq : k_get K pc = some q) (hk : z_kd q.2.1 q.2.2.2.2 = 0) (hs : z_step q (m, pc, ls, st) = some (m, bif decide c then p1 else p2, ls, st')) (hd : ¬ c) (h1 : z_R y (m, p2, ls, st') = A) : z_R y (m, pc, ls, st) = A := by
  rw [z_R_st hK (g := (m, pc, ls, st)) hq hk hs, z_R_pc, z_bif, if_neg hd, h1]
theorem z_R_ifn1 {y : Nat} {K : List (List a_K)} (hK : kt_at y = K) {c : Prop} [hc : Decidable c] {m : z_M} {pc p1 p2 : Nat} {ls : z_L} {st st' : List z_V} {q : a_K} {A : Option z_Q} (hq : k_get K pc = some q) (hk : z_kd q.2.1 q.2.2.2.2 = 0) (hs : z_step q (m, pc, ls, st) = some (m, bif !decide c then p1 else p2, ls, st')) (hd : c) (h1 : z_R y (m, p2, ls, st') = A) : z_R y (m, pc, ls, st) = A := by
  rw [z_R_st hK (g := (m, pc, ls, st)) hq hk hs, z_R_pc, z_bif_n, if_pos hd, h1]
theorem z_R_ifn0 {y : Nat} {K : List (List a_K)} (hK : kt_at y = K) {c : Prop} [hc : Decidable c] {m : z_M} {pc p1 p2 : Nat} {ls : z_L} {st st' : List z_V} {q : a_K} {A : Option z_Q} (hq : k_get K pc = some q) (hk : z_kd q.2.1 q.2.2.2.2 = 0) (hs : z_step q (m, pc, ls, st) = some (m, bif !decide c then p1 else p2, ls, st')) (hd : ¬ c) (h1 : z_R y (m, p1, ls, st') = A) : z_R y (m, pc, ls, st) = A := by
  rw [z_R_st hK (g := (m, pc, ls, st)) hq hk hs, z_R_pc, z_bif_n, if_neg hd, h1]
theorem z_ix_t {i : Int} {n : Nat} (h : 0 ≤ i ∧ i < (n : Int)) : z_ix i n = true := by unfold z_ix; rw [decide_eq_true h.1, decide_eq_true h.2]; rfl
theorem z_ix_f {i : Int} {n : Nat} (h : ¬ (0 ≤ i ∧ i < (n : Int))) : z_ix i n = false := by
  unfold z_ix
  by_cases h0 : 0 ≤ i
  · rw [decide_eq_true h0, decide_eq_false (fun z => h ⟨h0, z⟩)]; rfl
  · rw [decide_eq_false h0]; rfl
theorem z_R_ixT {y : Nat} {K : List (List a_K)} (hK : kt_at y = K) {i : Int} {n : Nat} {m : z_M} {pc : Nat} {ls : z_L} {st : List z_V} {g' : z_G} {q : a_K} {A : Option z_Q} (hq : k_get K pc = some q) (hk : z_kd q.2.1 q.2.2.2.2 = 0) (hs : z_step q (m, pc, ls, st) = bif z_ix i n then some g' else none) (hi : 0 ≤ i ∧ i < (n : Int)) (h1 : z_R y g' = A) : z_R y (m, pc, ls, st) = A := by
  rw [z_ix_t hi] at hs
  exact (z_R_st hK (g := (m, pc, ls, st)) hq hk hs).trans h1
theorem z_ga_t {m : z_M} {q k : Nat} : z_ga m q k = (2, (z_ga m q k).2) := by
  unfold z_ga
  cases Nat.beq (h_ty q k).1 1 <;> rfl
theorem z_R_ixG {y : Nat} {K : List (List a_K)} (hK : kt_at y = K) {i : Int} {n Q pc' : Nat} {m : z_M} {pc : Nat} {ls : z_L} {st r : List z_V} {q : a_K} {A : Option z_Q} (hq : k_get K pc = some q) (hk : z_kd q.2.1 q.2.2.2.2 = 0) (hs : z_step q (m, pc, ls, st) = bif z_ix i n then some (m, pc', ls, z_ga m Q i.toNat :: r) else none) (hi : 0 ≤ i ∧ i < (n : Int)) (h1 : z_R y (m, pc', ls, (2, (z_ga m Q i.toNat).2) :: r) = A) : z_R y (m, pc, ls, st) = A := by
  rw [z_ix_t hi, z_ga_t] at hs
  exact (z_R_st hK (g := (m, pc, ls, st)) hq hk hs).trans h1
theorem z_R_ixD {y : Nat} {K : List (List a_K)} (hK : kt_at y = K) {i : Int} {n : Nat} {m : z_M} {pc : Nat} {ls : z_L} {st : List z_V} {g' : z_G} {q : a_K} {A : Option z_Q} (hq : k_get K pc = some q) (hk : z_kd q.2.1 q.2.2.2.2 = 0) (hs : z_step q (m, pc, ls, st) = bif z_ix i n then some g' else none) (h1 : 0 ≤ i ∧ i < (n : Int) → z_R y g' = A) : z_R y (m, pc, ls, st) = if 0 ≤ i ∧ i < (n : Int) then A else none := by
  by_cases h : 0 ≤ i ∧ i < (n : Int)
  · rw [if_pos h]; exact z_R_ixT hK hq hk hs h (h1 h)
  · rw [z_ix_f h] at hs
    rw [if_neg h]
    exact z_R_bad hK (g := (m, pc, ls, st)) hq hk hs
theorem z_R_ixTS {y : Nat} {K : List (List a_K)} (hK : kt_at y = K) {i : Int} {n Q pc' : Nat} {m : z_M} {pc : Nat} {ls : z_L} {st r : List z_V} {q : a_K} {A : Option z_Q} (hq : k_get K pc = some q) (hk : z_kd q.2.1 q.2.2.2.2 = 0) (hs : z_step q (m, pc, ls, st) = bif z_ix i (z_ln Q) then some (m, pc', ls, (0, z_rd m Q i.toNat) :: r) else none) (hn : z_ln Q = n) (hr : ∀ (m : z_M) (j : Nat), z_rd m Q j = m Q j) (hi : 0 ≤ i ∧ i < (n : Int)) (h1 : z_R y (m, pc', ls, (0, m Q i.toNat) :: r) = A) : z_R y (m, pc, ls, st) = A := by
  rw [hn, z_ix_t hi, hr] at hs
  exact (z_R_st hK (g := (m, pc, ls, st)) hq hk hs).trans h1
theorem z_R_ixDS {y : Nat} {K : List (List a_K)} (hK : kt_at y = K) {i : Int} {n Q pc' : Nat} {m : z_M} {pc : Nat} {ls : z_L} {st r : List z_V} {q : a_K} {A : Option z_Q} (hq : k_get K pc = some q) (hk : z_kd q.2.1 q.2.2.2.2 = 0) (hs : z_step q (m, pc, ls, st) = bif z_ix i (z_ln Q) then some (m, pc', ls, (0, z_rd m Q i.toNat) :: r) else none) (hn : z_ln Q = n) (hr : ∀ (m : z_M) (j : Nat), z_rd m Q j = m Q j) (h1 : 0 ≤ i ∧ i < (n : Int) → z_R y (m, pc', ls, (0, m Q i.toNat) :: r) = A) : z_R y (m, pc, ls, st) = if 0 ≤ i ∧ i < (n : Int) then A else none := by
  by_cases h : 0 ≤ i ∧ i < (n : Int)
  · rw [if_pos h]; exact z_R_ixTS hK hq hk hs hn hr h (h1 h)
  · rw [hn, z_ix_f h] at hs
    rw [if_neg h]
    exact z_R_bad hK (g := (m, pc, ls, st)) hq hk hs
theorem z_R_stTS {y : Nat} {K : List (List a_K)} (hK : kt_at y = K) {i v : Int} {n Q pc' : Nat} {m : z_M} {pc : Nat} {ls : z_L} {st r : List z_V} {q : a_K} {A : Option z_Q} (hq : k_get K pc = some q) (hk : z_kd q.2.1 q.2.2.2.2 = 0) (hs : z_step q (m, pc, ls, st) = bif z_ix i (h_ln Q) then some (z_up m Q i.toNat v, pc', ls, r) else none) (hn : h_ln Q = n) (hi : 0 ≤ i ∧ i < (n : Int)) (h1 : z_R y (z_up m Q i.toNat v, pc', ls, r) = A) : z_R y (m, pc, ls, st) = A := by
  rw [hn, z_ix_t hi] at hs
  exact (z_R_st hK (g := (m, pc, ls, st)) hq hk hs).trans h1
theorem z_R_stDS {y : Nat} {K : List (List a_K)} (hK : kt_at y = K) {i v : Int} {n Q pc' : Nat} {m : z_M} {pc : Nat} {ls : z_L} {st r : List z_V} {q : a_K} {A : Option z_Q} (hq : k_get K pc = some q) (hk : z_kd q.2.1 q.2.2.2.2 = 0) (hs : z_step q (m, pc, ls, st) = bif z_ix i (h_ln Q) then some (z_up m Q i.toNat v, pc', ls, r) else none) (hn : h_ln Q = n) (h1 : 0 ≤ i ∧ i < (n : Int) → z_R y (z_up m Q i.toNat v, pc', ls, r) = A) : z_R y (m, pc, ls, st) = if 0 ≤ i ∧ i < (n : Int) then A else none := by
  by_cases h : 0 ≤ i ∧ i < (n : Int)
  · rw [if_pos h]; exact z_R_stTS hK hq hk hs hn h (h1 h)
  · rw [hn, z_ix_f h] at hs
    rw [if_neg h]
    exact z_R_bad hK (g := (m, pc, ls, st)) hq hk hs
theorem z_R_gf {y : Nat} {K : List (List a_K)} (hK : kt_at y = K) {m : z_M} {pc pc' s ci k : Nat} {ls : z_L} {st r : List z_V} {q : a_K} {v : z_V} {A : Option z_Q} (hq : k_get K pc = some q) (hk : z_kd q.2.1 q.2.2.2.2 = 0) (hs : z_step q (m, pc, ls, st) = some (m, pc', ls, z_gf m s ci k :: r)) (hv : z_gf m s ci k = v) (h1 : z_R y (m, pc', ls, v :: r) = A) : z_R y (m, pc, ls, st) = A := by
  rw [hv] at hs
  exact (z_R_st hK (g := (m, pc, ls, st)) hq hk hs).trans h1
theorem z_R_dvT {y : Nat} {K : List (List a_K)} (hK : kt_at y = K) {d : Int} {m : z_M} {pc : Nat} {ls : z_L} {st : List z_V} {g' : z_G} {q : a_K} {A : Option z_Q} (hq : k_get K pc = some q) (hk : z_kd q.2.1 q.2.2.2.2 = 0) (hs : z_step q (m, pc, ls, st) = if d = 0 then none else some g') (hd : ¬ d = 0) (h1 : z_R y g' = A) : z_R y (m, pc, ls, st) = A := by
  rw [if_neg hd] at hs
  exact (z_R_st hK (g := (m, pc, ls, st)) hq hk hs).trans h1
theorem z_R_dvD {y : Nat} {K : List (List a_K)} (hK : kt_at y = K) {d : Int} {m : z_M} {pc : Nat} {ls : z_L} {st : List z_V} {g' : z_G} {q : a_K} {A : Option z_Q} (hq : k_get K pc = some q) (hk : z_kd q.2.1 q.2.2.2.2 = 0) (hs : z_step q (m, pc, ls, st) = if d = 0 then none else some g') (h1 : ¬ d = 0 → z_R y g' = A) : z_R y (m, pc, ls, st) = if d = 0 then none else A := by
  by_cases h : d = 0
  · rw [if_pos h] at hs ⊢
    exact z_R_bad hK (g := (m, pc, ls, st)) hq hk hs
  · rw [if_neg h]
    exact z_R_dvT hK hq hk hs h (h1 h)
theorem z_R_cs {y : Nat} {K : List (List a_K)} (hK : kt_at y = K) {m m' : z_M} {pc pc' : Nat} {ls : z_L} {st : List z_V} {q : a_K} {y2 : Nat} {as rest : List z_V} {fr : z_L} {v : Option z_V} {A : Option z_Q} (hq : k_get K pc = some q) (hk : z_kd q.2.1 q.2.2.2.2 = 2) (hc : z_call q st = some (y2, as, rest)) (hf : z_fr y2 as = fr) (hp : pc + 3 = pc') (hT : z_R y2 (m, 0, fr, []) = some (m', v)) (h1 : z_R y (m', pc', ls, v.toList ++ rest) = A) : z_R y (m, pc, ls, st) = A := by
  rw [z_R_call hK hq hk hc hf hp, hT]
  exact h1
theorem z_R_cif {y : Nat} {K : List (List a_K)} (hK : kt_at y = K) {m m1 m2 : z_M} {pc pc' : Nat} {ls : z_L} {st : List z_V} {q : a_K} {y2 : Nat} {as rest : List z_V} {fr : z_L} {v1 v2 : Option z_V} {A B : Option z_Q} {c : Prop} [hdc : Decidable c] (hq : k_get K pc = some q) (hk : z_kd q.2.1 q.2.2.2.2 = 2) (hc : z_call q st = some (y2, as, rest)) (hf : z_fr y2 as = fr) (hp : pc + 3 = pc') (hT : z_R y2 (m, 0, fr, []) = if c then some (m1, v1) else some (m2, v2)) (h1 : c → z_R y (m1, pc', ls, v1.toList ++ rest) = A) (h2 : ¬ c → z_R y (m2, pc', ls, v2.toList ++ rest) = B) : z_R y (m, pc, ls, st) = if c then A else B := by
  rw [z_R_call hK hq hk hc hf hp, hT]
  by_cases h : c
  · rw [if_pos h, if_pos h]; exact h1 h
  · rw [if_neg h, if_neg h]; exact h2 h
theorem z_div_nn {x y : Int} (h1 : 0 ≤ x) (h2 : x ≤ 2147483647) (h3 : 0 < y) (h4 : y ≤ 2147483647) : z_div x y = x / y := by
  rw [z_div_eq (by omega) h2 (by omega) h4 (by omega)]
  exact Int.tdiv_eq_ediv_of_nonneg h1
theorem z_rem_nn {x y : Int} (h1 : 0 ≤ x) (h2 : x ≤ 2147483647) (h3 : 0 < y) (h4 : y ≤ 2147483647) : z_rem x y = x % y := by
  rw [z_rem_eq (by omega) h2 (by omega) h4]
  exact Int.tmod_eq_emod_of_nonneg h1
/-- what a call gave, behind it -/
theorem zb_v {y pc : Nat} {m : z_M} {v : z_V} {ls : z_L} {rest : List z_V} : ((some (m, some v) : Option z_Q).bind fun qq => z_R y (qq.1, pc, ls, qq.2.toList ++ rest)) = z_R y (m, pc, ls, v :: rest) := rfl
theorem zb_n {y pc : Nat} {m : z_M} {ls : z_L} {rest : List z_V} : ((some (m, none) : Option z_Q).bind fun qq => z_R y (qq.1, pc, ls, qq.2.toList ++ rest)) = z_R y (m, pc, ls, rest) := rfl
theorem z_dite {α : Type} {X A B : α} {c : Prop} [hc : Decidable c] (h1 : c → X = A) (h2 : ¬ c → X = B) : X = if c then A else B := by
  by_cases h : c
  · rw [if_pos h]; exact h1 h
  · rw [if_neg h]; exact h2 h
theorem z_R_tgi {y pc : Nat} {m : z_M} {ls : z_L} {st : List z_V} {c : Prop} [hc : Decidable c] {o o' : Int} {A B : Option z_Q} (h1 : c → z_R y (m, z_tgt pc o, ls, st) = A) (h2 : ¬ c → z_R y (m, z_tgt pc o', ls, st) = B) : z_R y (m, z_tgt pc (if c then o else o'), ls, st) = if c then A else B := by
  by_cases h : c
  · rw [if_pos h, if_pos h]; exact h1 h
  · rw [if_neg h, if_neg h]; exact h2 h
theorem z_R_tbk {y pc : Nat} {m : z_M} {ls : z_L} {st : List z_V} {d lo hi x k o : Int} {os : List Int} {A : Option z_Q} (h : x = k) (he : z_tbo d lo hi os k = o) (h1 : z_R y (m, z_tgt pc o, ls, st) = A) : z_R y (m, z_tgt pc (z_tbo d lo hi os x), ls, st) = A := by
  rw [h, he]; exact h1
theorem z_R_tbd {y pc : Nat} {m : z_M} {ls : z_L} {st : List z_V} {d lo hi x : Int} {os : List Int} {A : Option z_Q} (h : ¬ (lo ≤ x ∧ x ≤ hi)) (h1 : z_R y (m, z_tgt pc d, ls, st) = A) : z_R y (m, z_tgt pc (z_tbo d lo hi os x), ls, st) = A := by
  unfold z_tbo
  rw [if_neg h]; exact h1
/-! places of States, of rows of 37 -/
def z_stL : List Nat := [12, 18, 32, 38, 44, 50, 56, 62, 68, 74, 80, 86, 92, 98, 104, 110, 123, 129, 141, 147, 157, 163, 169, 175, 181, 187, 196, 202, 208, 214, 220, 226, 232, 238, 244]
def z_st (s : Nat) : Prop := s ∈ z_stL ∧ (s = 12 ∨ s = 18 ∨ (32 ≤ s ∧ s ≤ 110) ∨ s = 123 ∨ s = 129 ∨ s = 141 ∨ s = 147 ∨ (157 ≤ s ∧ s ≤ 187) ∨ (196 ≤ s ∧ s ≤ 244))
def st_n (k : Nat) : Nat := if k < 3 then 9 else 5
noncomputable def st_ck (s : Nat) : Bool := (List.range 5).all (fun k => Nat.beq (h_ty s k).1 1 && (i_eq (h_ty s k).2.1 ((s + (k + 1) : Nat) : Int) && (Nat.beq (z_ln (s + (k + 1))) (st_n (k + 1)) && (Nat.beq (h_ln (s + (k + 1))) (st_n (k + 1)) && Nat.blt (s + (k + 1)) h_N)))) && (List.range 9).all (fun k => Nat.blt k 5 || (!(Nat.beq (h_ty s k).1 1) && Nat.beq (z_ft (a_ty 8 k)) 0))
theorem st_cks : z_stL.all st_ck = true := by decide +kernel
theorem st_c1 {s k : Nat} (h : z_st s) (hk : k < 5) : (h_ty s k).1 = 1 ∧ (h_ty s k).2.1 = ((s + (k + 1) : Nat) : Int) ∧ z_ln (s + (k + 1)) = st_n (k + 1) ∧ h_ln (s + (k + 1)) = st_n (k + 1) ∧ s + (k + 1) < h_N := by
  have h1 := List.all_eq_true.mp st_cks s h.1
  obtain ⟨h2, -⟩ := Bool.and_eq_true _ _ |>.mp h1
  have h3 := List.all_eq_true.mp h2 k (List.mem_range.mpr hk)
  obtain ⟨a1, h3⟩ := Bool.and_eq_true _ _ |>.mp h3
  obtain ⟨a2, h3⟩ := Bool.and_eq_true _ _ |>.mp h3
  obtain ⟨a3, h3⟩ := Bool.and_eq_true _ _ |>.mp h3
  obtain ⟨a4, a5⟩ := Bool.and_eq_true _ _ |>.mp h3
  exact ⟨Nat.eq_of_beq_eq_true a1, i_eq_iff.mp a2, Nat.eq_of_beq_eq_true a3, Nat.eq_of_beq_eq_true a4, Nat.le_of_ble_eq_true a5⟩
theorem st_c2 {s k : Nat} (h : z_st s) (hk : k < 9) (h5 : 5 ≤ k) : Nat.beq (h_ty s k).1 1 = false ∧ z_ft (a_ty 8 k) = 0 := by
  have h1 := List.all_eq_true.mp st_cks s h.1
  obtain ⟨-, h2⟩ := Bool.and_eq_true _ _ |>.mp h1
  have h3 := List.all_eq_true.mp h2 k (List.mem_range.mpr hk)
  have hb : Nat.blt k 5 = false := by
    cases e : Nat.blt k 5 with
    | false => rfl
    | true => exact absurd (Nat.le_of_ble_eq_true e) (by omega)
  rw [hb, Bool.false_or] at h3
  obtain ⟨a1, a2⟩ := Bool.and_eq_true _ _ |>.mp h3
  refine ⟨?_, Nat.eq_of_beq_eq_true a2⟩
  cases e : Nat.beq (h_ty s k).1 1 with
  | false => rfl
  | true => rw [e] at a1; cases a1
theorem st_ga {m : z_M} {s ci : Nat} (h : z_st s) (k : Nat) (hk : k < 5) : z_gf m s ci k = (2, ((s + (k + 1) : Nat) : Int)) := by
  obtain ⟨h1, h2, -⟩ := st_c1 h hk
  unfold z_gf
  rw [h1, h2]
  rfl
theorem st_gi {m : z_M} {s : Nat} (h : z_st s) (k : Nat) (hk : k < 9) (h5 : 5 ≤ k) : z_gf m s 8 k = (0, m s k) := by
  obtain ⟨h1, h2⟩ := st_c2 h hk h5
  unfold z_gf
  rw [h1, h2]
  rfl
theorem st_ln {s : Nat} (h : z_st s) (k : Nat) (h1 : 1 ≤ k) (h2 : k ≤ 5) : z_ln (s + k) = st_n k := by
  obtain ⟨j, rfl⟩ : ∃ j, k = j + 1 := ⟨k - 1, by omega⟩
  exact (st_c1 h (k := j) (by omega)).2.2.1
theorem st_hl {s : Nat} (h : z_st s) (k : Nat) (h1 : 1 ≤ k) (h2 : k ≤ 5) : h_ln (s + k) = st_n k := by
  obtain ⟨j, rfl⟩ : ∃ j, k = j + 1 := ⟨k - 1, by omega⟩
  exact (st_c1 h (k := j) (by omega)).2.2.2.1
theorem z_rd_sm {q : Nat} (h : q < h_N) (m : z_M) (j : Nat) : z_rd m q j = m q j := by
  unfold z_rd
  rw [show Nat.blt q h_N = true from Nat.ble_eq_true_of_le h]
  rfl
theorem st_rd {s : Nat} (h : z_st s) (k : Nat) (h1 : 1 ≤ k) (h2 : k ≤ 5) (m : z_M) (j : Nat) : z_rd m (s + k) j = m (s + k) j := by
  obtain ⟨i, rfl⟩ : ∃ i, k = i + 1 := ⟨k - 1, by omega⟩
  exact z_rd_sm (st_c1 h (k := i) (by omega)).2.2.2.2 m j
noncomputable def z_A (n a : Nat) : Prop := z_ln a = n ∧ h_ln a = n ∧ ∀ (m : z_M) (j : Nat), z_rd m a j = m a j
def z_ab (a : Nat) : Prop := a = 252 ∨ a = 264
theorem z_A_252 : z_A 37 252 := ⟨by decide +kernel, by decide +kernel, z_rd_sm (by decide +kernel)⟩
theorem z_A_264 : z_A 37 264 := ⟨by decide +kernel, by decide +kernel, z_rd_sm (by decide +kernel)⟩
/-! a cell that is left: with places told by a name -/
def z_of : List (Nat × Nat × Nat) → Nat → Nat → Prop
  | [], _, _ => True
  | (a, b, c) :: L, p, k => ¬ (a = p ∧ b ≤ k ∧ k ≤ c) ∧ z_of L p k
theorem z_of_c {a b c p k : Nat} {L : List (Nat × Nat × Nat)} (h : ¬ (a = p ∧ b ≤ k ∧ k ≤ c)) (t : z_of L p k) : z_of ((a, b, c) :: L) p k := ⟨h, t⟩
def z_ofr : List (Nat × Nat × Nat) → Nat → Prop
  | [], _ => True
  | (a, _, _) :: L, p => ¬ a = p ∧ z_ofr L p
theorem z_ofr_c {a b c p : Nat} {L : List (Nat × Nat × Nat)} (h : ¬ a = p) (t : z_ofr L p) : z_ofr ((a, b, c) :: L) p := ⟨h, t⟩
def z_on : List (Nat × Nat × Nat) → Nat → Nat → Prop
  | [], _, _ => False
  | (a, b, c) :: L, p, k => (a = p ∧ b ≤ k ∧ k ≤ c) ∨ z_on L p k
theorem z_on_h {a b c p k : Nat} {L : List (Nat × Nat × Nat)} (h : a = p) (h1 : b ≤ k) (h2 : k ≤ c) : z_on ((a, b, c) :: L) p k := Or.inl ⟨h, h1, h2⟩
theorem z_on_t {a b c p k : Nat} {L : List (Nat × Nat × Nat)} (h : z_on L p k) : z_on ((a, b, c) :: L) p k := Or.inr h
theorem z_of_ok : ∀ {L : List (Nat × Nat × Nat)} {p k : Nat}, z_of L p k → ∀ q ∈ L, ¬ (q.1 = p ∧ q.2.1 ≤ k ∧ k ≤ q.2.2)
  | [], _, _, _, q, h => absurd h List.not_mem_nil
  | (a, b, c) :: L, p, k, h, q', h' => by
    rcases List.mem_cons.mp h' with rfl | h'
    · exact h.1
    · exact z_of_ok h.2 q' h'
theorem z_ofr_ok : ∀ {L : List (Nat × Nat × Nat)} {p k : Nat}, z_ofr L p → ∀ q ∈ L, ¬ (q.1 = p ∧ q.2.1 ≤ k ∧ k ≤ q.2.2)
  | [], _, _, _, q, h => absurd h List.not_mem_nil
  | (a, b, c) :: L, p, k, h, q', h' => by
    rcases List.mem_cons.mp h' with rfl | h'
    · exact fun z => h.1 z.1
    · exact z_ofr_ok h.2 q' h'
theorem z_on_ok : ∀ {L : List (Nat × Nat × Nat)} {p k : Nat}, z_on L p k → ∃ q ∈ L, q.1 = p ∧ q.2.1 ≤ k ∧ k ≤ q.2.2
  | [], _, _, h => absurd h id
  | (a, b, c) :: L, p, k, h => by
    rcases h with h | h
    · exact ⟨(a, b, c), List.mem_cons_self, h⟩
    · obtain ⟨q', h1, h2⟩ := z_on_ok h
      exact ⟨q', List.mem_cons_of_mem _ h1, h2⟩
theorem z_same.of {L : List (Nat × Nat × Nat)} {m m' : z_M} (h : z_same L m m') {p k : Nat} (ho : z_of L p k) : m' p k = m p k := h p k (z_of_ok ho)
theorem z_same.ofr {L : List (Nat × Nat × Nat)} {m m' : z_M} (h : z_same L m m') {p : Nat} (ho : z_ofr L p) : m' p = m p := funext fun k => h p k (z_ofr_ok ho)
theorem z_same.upo {L : List (Nat × Nat × Nat)} {m m' : z_M} {p k : Nat} {v : Int} (h : z_same L m m') (hq : z_on L p k) : z_same L m (z_up m' p k v) := h.up (z_on_ok hq)
def z_sbo : List (Nat × Nat × Nat) → List (Nat × Nat × Nat) → Prop
  | [], _ => True
  | (a, b, c) :: L, L' => (∀ k, b ≤ k → k ≤ c → z_on L' a k) ∧ z_sbo L L'
theorem z_sbo_c {a b c : Nat} {L L' : List (Nat × Nat × Nat)} (h : ∀ k, b ≤ k → k ≤ c → z_on L' a k) (t : z_sbo L L') : z_sbo ((a, b, c) :: L) L' := ⟨h, t⟩
theorem z_sbo_ok : ∀ {L L' : List (Nat × Nat × Nat)}, z_sbo L L' → ∀ q ∈ L, ∀ k, q.2.1 ≤ k → k ≤ q.2.2 → z_on L' q.1 k
  | [], _, _, q, h => absurd h List.not_mem_nil
  | (a, b, c) :: L, L', h, q', h' => by
    rcases List.mem_cons.mp h' with rfl | h'
    · exact h.1
    · exact z_sbo_ok h.2 q' h'
theorem z_same.subo {L L' : List (Nat × Nat × Nat)} {m m' : z_M} (h : z_same L m m') (hs : z_sbo L L') : z_same L' m m' := fun p k hn => h p k fun q hq ⟨e1, e2, e3⟩ => by
  obtain ⟨u, u1, u2⟩ := z_on_ok (z_sbo_ok hs q hq k e2 e3)
  exact hn u u1 ⟨u2.1.trans e1, u2.2⟩
end
section
/-! A STATE as 37 numbers: ICE, WATER, where, OWES, FELL, POND, STOVE, NOW, FROST; what n persons show of it -/
theorem z_ifc {α : Type} {c : Prop} [h : Decidable c] {a a' b b' : α} (h1 : c → a = a') (h2 : ¬ c → b = b') : (if c then a else b) = (if c then a' else b') := by
  by_cases hc : c
  · rw [if_pos hc, if_pos hc, h1 hc]
  · rw [if_neg hc, if_neg hc, h2 hc]
def cR (m : z_M) (s : Nat) : Nat → Int := fun k => if k < 9 then m (s + 1) k else if k < 18 then m (s + 2) (k - 9) else if k < 23 then m (s + 3) (k - 18) else if k < 28 then m (s + 4) (k - 23) else if k < 33 then m (s + 5) (k - 28) else if k < 37 then m s (k - 28) else 0
def rR (m : z_M) (a : Nat) : Nat → Int := fun k => if k < 37 then m a k else 0
def a_vis (n : Int) (k : Nat) : Bool := decide (k < 18) || (decide (33 ≤ k) || decide ((((k - 18) % 5 : Nat) : Int) < n))
def a_msk (n : Int) (f : Nat → Int) : Nat → Int := fun k => if a_vis n k = true then f k else 0
def cS (m : z_M) (s : Nat) (n : Int) : Nat → Int := a_msk n (cR m s)
def rS (m : z_M) (a : Nat) (n : Int) : Nat → Int := a_msk n (rR m a)
theorem a_msk_up {n : Int} {f : Nat → Int} {j : Nat} {v : Int} (h : a_vis n j = true) : a_msk n (u_up f j v) = u_up (a_msk n f) j v := by
  funext k
  unfold a_msk u_up
  by_cases hk : k = j
  · rw [if_pos hk, if_pos hk, hk, if_pos h]
  · rw [if_neg hk, if_neg hk]
theorem a_vis_lo {n : Int} {k : Nat} (h : k < 18) : a_vis n k = true := by unfold a_vis; rw [decide_eq_true h]; rfl
theorem a_vis_hi {n : Int} {k : Nat} (h : 33 ≤ k) : a_vis n k = true := by unfold a_vis; rw [decide_eq_true h]; simp
theorem a_vis_p {n : Int} {k b p : Nat} (hb : b = 18 ∨ b = 23 ∨ b = 28) (hk : k = b + p) (h5 : p < 5) (h : (p : Int) < n) : a_vis n k = true := by
  unfold a_vis
  rw [show ((((k - 18) % 5 : Nat) : Int)) = (p : Int) by omega, decide_eq_true h]
  simp
theorem a_msk_at {n : Int} {f : Nat → Int} {k : Nat} (h : a_vis n k = true) : a_msk n f k = f k := if_pos h
theorem rR_at {m : z_M} {a k : Nat} (h : k < 37) : rR m a k = m a k := if_pos h
theorem rR_up {m : z_M} {a j : Nat} {v : Int} (h : j < 37) : rR (z_up m a j v) a = u_up (rR m a) j v := by
  funext k
  unfold rR u_up
  by_cases hk : k = j
  · rw [if_pos hk, hk, if_pos h, zu_self]
  · rw [if_neg hk]
    exact z_ifc (fun _ => zu_k hk) (fun _ => rfl)
theorem rS_up {m : z_M} {a j : Nat} {v n : Int} (h : j < 37) (hv : a_vis n j = true) : rS (z_up m a j v) a n = u_up (rS m a n) j v := by
  unfold rS
  rw [rR_up h, a_msk_up hv]
theorem rS_at {m : z_M} {a k : Nat} {n : Int} (h : k < 37) (hv : a_vis n k = true) : rS m a n k = m a k := (a_msk_at hv).trans (rR_at h)
theorem rS_row {m m' : z_M} {a : Nat} {n : Int} (h : m' a = m a) : rS m' a n = rS m a n := by unfold rS rR; rw [h]
theorem cS_rows {m m' : z_M} {s : Nat} {n : Int} (h1 : m' (s + 1) = m (s + 1)) (h2 : m' (s + 2) = m (s + 2)) (h3 : m' (s + 3) = m (s + 3)) (h4 : m' (s + 4) = m (s + 4)) (h5 : m' (s + 5) = m (s + 5)) (h0 : ∀ k, 5 ≤ k → k ≤ 8 → m' s k = m s k) : cS m' s n = cS m s n := by
  unfold cS
  congr 1
  funext k
  unfold cR
  rw [h1, h2, h3, h4, h5]
  exact z_ifc (fun _ => rfl) (fun _ => z_ifc (fun _ => rfl) (fun _ => z_ifc (fun _ => rfl) (fun _ => z_ifc (fun _ => rfl) (fun _ => z_ifc (fun _ => rfl) (fun _ => z_ifc (fun _ => h0 _ (by omega) (by omega)) (fun _ => rfl))))))
theorem cR_up1 {m : z_M} {s j : Nat} {v : Int} (hj : j < 9) : cR (z_up m (s + 1) j v) s = u_up (cR m s) j v := by
  funext k
  unfold u_up
  by_cases hE : k = j
  · rw [if_pos hE, hE]
    unfold cR
    rw [if_pos (show j < 9 by omega), zu_self]
  · rw [if_neg hE]
    unfold cR
    exact z_ifc (fun _ => zu_k (by omega)) (fun _ => z_ifc (fun _ => zu_p (by omega)) (fun _ => z_ifc (fun _ => zu_p (by omega)) (fun _ => z_ifc (fun _ => zu_p (by omega)) (fun _ => z_ifc (fun _ => zu_p (by omega)) (fun _ => z_ifc (fun _ => zu_p (by omega)) (fun _ => rfl))))))
theorem cS_up1 {m : z_M} {s j : Nat} {v n : Int} (hj : j < 9) : cS (z_up m (s + 1) j v) s n = u_up (cS m s n) j v := by
  unfold cS
  rw [cR_up1 hj, a_msk_up (a_vis_lo (by omega))]
theorem cS_at1 {m : z_M} {s j : Nat} {n : Int} (hj : j < 9) : cS m s n j = m (s + 1) j := by
  unfold cS
  rw [a_msk_at (a_vis_lo (by omega))]
  unfold cR
  rw [if_pos (show j < 9 by omega)]
theorem cR_up2 {m : z_M} {s j : Nat} {v : Int} (hj : j < 9) : cR (z_up m (s + 2) j v) s = u_up (cR m s) (j + 9) v := by
  funext k
  unfold u_up
  by_cases hE : k = (j + 9)
  · rw [if_pos hE, hE]
    unfold cR
    rw [if_neg (show ¬ (j + 9) < 9 by omega), if_pos (show (j + 9) < 18 by omega), show (j + 9) - 9 = j by omega, zu_self]
  · rw [if_neg hE]
    unfold cR
    exact z_ifc (fun _ => zu_p (by omega)) (fun _ => z_ifc (fun _ => zu_k (by omega)) (fun _ => z_ifc (fun _ => zu_p (by omega)) (fun _ => z_ifc (fun _ => zu_p (by omega)) (fun _ => z_ifc (fun _ => zu_p (by omega)) (fun _ => z_ifc (fun _ => zu_p (by omega)) (fun _ => rfl))))))
theorem cS_up2 {m : z_M} {s j : Nat} {v n : Int} (hj : j < 9) : cS (z_up m (s + 2) j v) s n = u_up (cS m s n) (j + 9) v := by
  unfold cS
  rw [cR_up2 hj, a_msk_up (a_vis_lo (by omega))]
theorem cS_at2 {m : z_M} {s j : Nat} {n : Int} (hj : j < 9) : cS m s n (j + 9) = m (s + 2) j := by
  unfold cS
  rw [a_msk_at (a_vis_lo (by omega))]
  unfold cR
  rw [if_neg (show ¬ (j + 9) < 9 by omega), if_pos (show (j + 9) < 18 by omega), show (j + 9) - 9 = j by omega]
theorem cR_up3 {m : z_M} {s j : Nat} {v : Int} (hj : j < 5) : cR (z_up m (s + 3) j v) s = u_up (cR m s) (j + 18) v := by
  funext k
  unfold u_up
  by_cases hE : k = (j + 18)
  · rw [if_pos hE, hE]
    unfold cR
    rw [if_neg (show ¬ (j + 18) < 9 by omega), if_neg (show ¬ (j + 18) < 18 by omega), if_pos (show (j + 18) < 23 by omega), show (j + 18) - 18 = j by omega, zu_self]
  · rw [if_neg hE]
    unfold cR
    exact z_ifc (fun _ => zu_p (by omega)) (fun _ => z_ifc (fun _ => zu_p (by omega)) (fun _ => z_ifc (fun _ => zu_k (by omega)) (fun _ => z_ifc (fun _ => zu_p (by omega)) (fun _ => z_ifc (fun _ => zu_p (by omega)) (fun _ => z_ifc (fun _ => zu_p (by omega)) (fun _ => rfl))))))
theorem cS_up3 {m : z_M} {s j : Nat} {v n : Int} (hj : j < 5) (hn : (j : Int) < n) : cS (z_up m (s + 3) j v) s n = u_up (cS m s n) (j + 18) v := by
  unfold cS
  rw [cR_up3 hj, a_msk_up (a_vis_p (b := 18) (p := j) (by omega) (by omega) (by omega) hn)]
theorem cS_at3 {m : z_M} {s j : Nat} {n : Int} (hj : j < 5) (hn : (j : Int) < n) : cS m s n (j + 18) = m (s + 3) j := by
  unfold cS
  rw [a_msk_at (a_vis_p (b := 18) (p := j) (by omega) (by omega) (by omega) hn)]
  unfold cR
  rw [if_neg (show ¬ (j + 18) < 9 by omega), if_neg (show ¬ (j + 18) < 18 by omega), if_pos (show (j + 18) < 23 by omega), show (j + 18) - 18 = j by omega]
theorem cR_up4 {m : z_M} {s j : Nat} {v : Int} (hj : j < 5) : cR (z_up m (s + 4) j v) s = u_up (cR m s) (j + 23) v := by
  funext k
  unfold u_up
  by_cases hE : k = (j + 23)
  · rw [if_pos hE, hE]
    unfold cR
    rw [if_neg (show ¬ (j + 23) < 9 by omega), if_neg (show ¬ (j + 23) < 18 by omega), if_neg (show ¬ (j + 23) < 23 by omega), if_pos (show (j + 23) < 28 by omega), show (j + 23) - 23 = j by omega, zu_self]
  · rw [if_neg hE]
    unfold cR
    exact z_ifc (fun _ => zu_p (by omega)) (fun _ => z_ifc (fun _ => zu_p (by omega)) (fun _ => z_ifc (fun _ => zu_p (by omega)) (fun _ => z_ifc (fun _ => zu_k (by omega)) (fun _ => z_ifc (fun _ => zu_p (by omega)) (fun _ => z_ifc (fun _ => zu_p (by omega)) (fun _ => rfl))))))
theorem cS_up4 {m : z_M} {s j : Nat} {v n : Int} (hj : j < 5) (hn : (j : Int) < n) : cS (z_up m (s + 4) j v) s n = u_up (cS m s n) (j + 23) v := by
  unfold cS
  rw [cR_up4 hj, a_msk_up (a_vis_p (b := 23) (p := j) (by omega) (by omega) (by omega) hn)]
theorem cS_at4 {m : z_M} {s j : Nat} {n : Int} (hj : j < 5) (hn : (j : Int) < n) : cS m s n (j + 23) = m (s + 4) j := by
  unfold cS
  rw [a_msk_at (a_vis_p (b := 23) (p := j) (by omega) (by omega) (by omega) hn)]
  unfold cR
  rw [if_neg (show ¬ (j + 23) < 9 by omega), if_neg (show ¬ (j + 23) < 18 by omega), if_neg (show ¬ (j + 23) < 23 by omega), if_pos (show (j + 23) < 28 by omega), show (j + 23) - 23 = j by omega]
theorem cR_up5 {m : z_M} {s j : Nat} {v : Int} (hj : j < 5) : cR (z_up m (s + 5) j v) s = u_up (cR m s) (j + 28) v := by
  funext k
  unfold u_up
  by_cases hE : k = (j + 28)
  · rw [if_pos hE, hE]
    unfold cR
    rw [if_neg (show ¬ (j + 28) < 9 by omega), if_neg (show ¬ (j + 28) < 18 by omega), if_neg (show ¬ (j + 28) < 23 by omega), if_neg (show ¬ (j + 28) < 28 by omega), if_pos (show (j + 28) < 33 by omega), show (j + 28) - 28 = j by omega, zu_self]
  · rw [if_neg hE]
    unfold cR
    exact z_ifc (fun _ => zu_p (by omega)) (fun _ => z_ifc (fun _ => zu_p (by omega)) (fun _ => z_ifc (fun _ => zu_p (by omega)) (fun _ => z_ifc (fun _ => zu_p (by omega)) (fun _ => z_ifc (fun _ => zu_k (by omega)) (fun _ => z_ifc (fun _ => zu_p (by omega)) (fun _ => rfl))))))
theorem cS_up5 {m : z_M} {s j : Nat} {v n : Int} (hj : j < 5) (hn : (j : Int) < n) : cS (z_up m (s + 5) j v) s n = u_up (cS m s n) (j + 28) v := by
  unfold cS
  rw [cR_up5 hj, a_msk_up (a_vis_p (b := 28) (p := j) (by omega) (by omega) (by omega) hn)]
theorem cS_at5 {m : z_M} {s j : Nat} {n : Int} (hj : j < 5) (hn : (j : Int) < n) : cS m s n (j + 28) = m (s + 5) j := by
  unfold cS
  rw [a_msk_at (a_vis_p (b := 28) (p := j) (by omega) (by omega) (by omega) hn)]
  unfold cR
  rw [if_neg (show ¬ (j + 28) < 9 by omega), if_neg (show ¬ (j + 28) < 18 by omega), if_neg (show ¬ (j + 28) < 23 by omega), if_neg (show ¬ (j + 28) < 28 by omega), if_pos (show (j + 28) < 33 by omega), show (j + 28) - 28 = j by omega]
theorem cR_up0 {m : z_M} {s j : Nat} {v : Int} (hj : 5 ≤ j ∧ j < 9) : cR (z_up m s j v) s = u_up (cR m s) (j + 28) v := by
  funext k
  unfold u_up
  by_cases hE : k = (j + 28)
  · rw [if_pos hE, hE]
    unfold cR
    rw [if_neg (show ¬ (j + 28) < 9 by omega), if_neg (show ¬ (j + 28) < 18 by omega), if_neg (show ¬ (j + 28) < 23 by omega), if_neg (show ¬ (j + 28) < 28 by omega), if_neg (show ¬ (j + 28) < 33 by omega), if_pos (show (j + 28) < 37 by omega), show (j + 28) - 28 = j by omega, zu_self]
  · rw [if_neg hE]
    unfold cR
    exact z_ifc (fun _ => zu_p (by omega)) (fun _ => z_ifc (fun _ => zu_p (by omega)) (fun _ => z_ifc (fun _ => zu_p (by omega)) (fun _ => z_ifc (fun _ => zu_p (by omega)) (fun _ => z_ifc (fun _ => zu_p (by omega)) (fun _ => z_ifc (fun _ => zu_k (by omega)) (fun _ => rfl))))))
theorem cS_up0 {m : z_M} {s j : Nat} {v n : Int} (hj : 5 ≤ j ∧ j < 9) : cS (z_up m s j v) s n = u_up (cS m s n) (j + 28) v := by
  unfold cS
  rw [cR_up0 hj, a_msk_up (a_vis_hi (by omega))]
theorem cS_at0 {m : z_M} {s j : Nat} {n : Int} (hj : 5 ≤ j ∧ j < 9) : cS m s n (j + 28) = m s j := by
  unfold cS
  rw [a_msk_at (a_vis_hi (by omega))]
  unfold cR
  rw [if_neg (show ¬ (j + 28) < 9 by omega), if_neg (show ¬ (j + 28) < 18 by omega), if_neg (show ¬ (j + 28) < 23 by omega), if_neg (show ¬ (j + 28) < 28 by omega), if_neg (show ¬ (j + 28) < 33 by omega), if_pos (show (j + 28) < 37 by omega), show (j + 28) - 28 = j by omega]
/-! z_add is that of a group -/
theorem z_add_as {a b c : Int} : z_add (z_add a b) c = z_add a (z_add b c) := by
  unfold z_add
  rw [Int32.ofInt_toInt, Int32.ofInt_toInt, Int32.add_assoc]
theorem z_add_cm {a b : Int} : z_add a b = z_add b a := by
  unfold z_add
  rw [Int32.add_comm]
def z_w (v : Int) : Int := (Int32.ofInt v).toInt
theorem z_add_w {a b : Int} : z_add a b = z_w (a + b) := by
  unfold z_add z_w
  rw [Int32.ofInt_add]
theorem z_w_l {a b : Int} : z_w (z_w a + b) = z_w (a + b) := by
  unfold z_w
  rw [Int32.ofInt_add, Int32.ofInt_toInt, ← Int32.ofInt_add]
theorem z_w_r {a b : Int} : z_w (a + z_w b) = z_w (a + b) := by
  rw [Int.add_comm, z_w_l, Int.add_comm]
theorem z_w_of {a : Int} (h1 : -2147483648 ≤ a) (h2 : a ≤ 2147483647) : z_w a = a := zr_of h1 h2
theorem z_w_w {a : Int} : z_w (z_w a) = z_w a := by
  have := z_w_l (a := a) (b := 0)
  rw [Int.add_zero, Int.add_zero] at this
  exact this
theorem cS_off {m : z_M} {s p j : Nat} {v n : Int} (h : p < s ∨ s + 5 < p) : cS (z_up m p j v) s n = cS m s n := cS_rows (zu_rowne (by omega)) (zu_rowne (by omega)) (zu_rowne (by omega)) (zu_rowne (by omega)) (zu_rowne (by omega)) (fun _ _ _ => zu_p (by omega))
theorem cS_same {L : List (Nat × Nat × Nat)} {m m' : z_M} {s : Nat} {n : Int} (h : z_same L m m') (h1 : z_ofr L (s + 1)) (h2 : z_ofr L (s + 2)) (h3 : z_ofr L (s + 3)) (h4 : z_ofr L (s + 4)) (h5 : z_ofr L (s + 5)) (h0 : z_ofr L s) : cS m' s n = cS m s n := cS_rows (h.ofr h1) (h.ofr h2) (h.ofr h3) (h.ofr h4) (h.ofr h5) (fun k _ _ => congrFun (h.ofr h0) k)
theorem tc1 (x : Nat) : (x : Int) + 1 = ((x + 1 : Nat) : Int) := by omega
theorem tn9 {p : Nat} : ((p : Int) + 9).toNat = p + 9 := by omega
theorem tn12 {p : Nat} : ((p : Int) + 12).toNat = p + 12 := by omega
theorem tn18 {p : Nat} : ((p : Int) + 18).toNat = p + 18 := by omega
theorem tn23 {p : Nat} : ((p : Int) + 23).toNat = p + 23 := by omega
theorem tn28 {p : Nat} : ((p : Int) + 28).toNat = p + 28 := by omega
theorem tn3 {p : Nat} : ((p : Int) + 3).toNat = p + 3 := by omega
theorem cS_pond {m : z_M} {s : Nat} {v n : Int} : cS (z_up m s 5 v) s n = u_up (cS m s n) 33 v := cS_up0 (j := 5) (by decide)
theorem cS_pondv {m : z_M} {s : Nat} {n : Int} : cS m s n 33 = m s 5 := cS_at0 (j := 5) (by decide)
theorem cS_stove {m : z_M} {s : Nat} {v n : Int} : cS (z_up m s 6 v) s n = u_up (cS m s n) 34 v := cS_up0 (j := 6) (by decide)
theorem cS_stovev {m : z_M} {s : Nat} {n : Int} : cS m s n 34 = m s 6 := cS_at0 (j := 6) (by decide)
theorem cS_now {m : z_M} {s : Nat} {v n : Int} : cS (z_up m s 7 v) s n = u_up (cS m s n) 35 v := cS_up0 (j := 7) (by decide)
theorem cS_nowv {m : z_M} {s : Nat} {n : Int} : cS m s n 35 = m s 7 := cS_at0 (j := 7) (by decide)
theorem cS_frost {m : z_M} {s : Nat} {v n : Int} : cS (z_up m s 8 v) s n = u_up (cS m s n) 36 v := cS_up0 (j := 8) (by decide)
theorem cS_frostv {m : z_M} {s : Nat} {n : Int} : cS m s n 36 = m s 8 := cS_at0 (j := 8) (by decide)
end
section
/-! THE RULE: what can be read, where reading stands, the code -/
abbrev q_Q : Type := Bool × Int × List Int
def q_op (c l r : Int) : Int := if c = 43 then z_add l r else if c = 45 then z_sub l r else if c = 42 then z_mul l r else if c = 47 then (if r = 0 then 0 else z_div l r) else if c = 60 then (if l < r then 1 else 0) else if c = 62 then (if r < l then 1 else 0) else (if l = r then 1 else 0)
def q_nm (g : Int → Int) : Nat → Int → Int → Int × Int
  | 0, i, v => (i, v)
  | k + 1, i, v => if u_dg (g i) = -1 then (i, v) else q_nm g k (i + 1) (10 * v + u_dg (g i))
def q_th (g : Int → Int) (E : Option (Int → q_Q)) (i : Int) : q_Q := if g i = 40 then (match E with
    | none => (false, i, [])
    | some e => if (e (i + 1)).1 = true ∧ g (e (i + 1)).2.1 = 41 then (true, (e (i + 1)).2.1 + 1, (e (i + 1)).2.2) else (false, (e (i + 1)).2.1, [])) else
  if u_dg (g i) = -1 then (if z_idx (g i) = -1 then (false, i, []) else (true, i + 1, [1000 + z_idx (g i)])) else (true, (q_nm g 3 i 0).1, [(q_nm g 3 i 0).2])
/-- so many - from here on -/
def q_mn (g : Int → Int) : Nat → Int → Nat
  | 0, _ => 0
  | f + 1, i => if g i = 45 then q_mn g f (i + 1) + 1 else 0
def q_sg (g : Int → Int) (E : Option (Int → q_Q)) (i : Int) : q_Q := ((q_th g E (i + q_mn g 40 i)).1, (q_th g E (i + q_mn g 40 i)).2.1, (q_th g E (i + q_mn g 40 i)).2.2 ++ (if q_mn g 40 i % 2 = 1 then [2126] else []))
def q_lp (g : Int → Int) (part : Int → q_Q) (a b : Int) : Nat → q_Q → q_Q
  | 0, r => r
  | k + 1, r => if r.1 = true ∧ (g r.2.1 = a ∨ g r.2.1 = b) then q_lp g part a b k ((part (r.2.1 + 1)).1, (part (r.2.1 + 1)).2.1, r.2.2 ++ (part (r.2.1 + 1)).2.2 ++ [2000 + g r.2.1]) else r
def q_pr (g : Int → Int) (E : Option (Int → q_Q)) (i : Int) : q_Q := q_lp g (q_sg g E) 42 47 40 (q_sg g E i)
def q_su (g : Int → Int) (E : Option (Int → q_Q)) (i : Int) : q_Q := q_lp g (q_pr g E) 43 45 40 (q_pr g E i)
def q_he (g : Int → Int) (E : Option (Int → q_Q)) (i : Int) : q_Q := if (q_su g E i).1 = true ∧ (g (q_su g E i).2.1 = 60 ∨ g (q_su g E i).2.1 = 62 ∨ g (q_su g E i).2.1 = 61) then ((q_su g E ((q_su g E i).2.1 + 1)).1, (q_su g E ((q_su g E i).2.1 + 1)).2.1, (q_su g E i).2.2 ++ (q_su g E ((q_su g E i).2.1 + 1)).2.2 ++ [2000 + g (q_su g E i).2.1]) else q_su g E i
def q_ex (g : Int → Int) : Nat → Int → q_Q
  | 0 => q_he g none
  | D + 1 => q_he g (some (q_ex g D))
/-- for the depth d (0 .. 4) -/
def q_E (g : Int → Int) (d : Nat) : Option (Int → q_Q) := if 4 ≤ d then none else some (q_ex g (3 - d))
theorem q_ex_he (g : Int → Int) {d : Nat} (hd : d ≤ 4) : q_ex g (4 - d) = q_he g (q_E g d) := by
  unfold q_E
  rcases (show d = 0 ∨ d = 1 ∨ d = 2 ∨ d = 3 ∨ d = 4 by omega) with rfl | rfl | rfl | rfl | rfl <;> rfl
/-! bounds: reading goes on, code is no longer than what was read -/
def q_gb (g : Int → Int) : Prop := ∀ i, ¬ g i = -1 → 0 ≤ i ∧ i < 40
def q_good (e : Int → q_Q) : Prop := ∀ i, 0 ≤ i → i ≤ 40 → i ≤ (e i).2.1 ∧ (e i).2.1 ≤ 40 ∧ ((e i).1 = true → i < (e i).2.1 ∧ (((e i).2.2).length : Int) ≤ (e i).2.1 - i)
theorem q_nm_b {g : Int → Int} (hg : q_gb g) : ∀ (k : Nat) (i v : Int), 0 ≤ i → i ≤ 40 → 0 ≤ v → i ≤ (q_nm g k i v).1 ∧ (q_nm g k i v).1 ≤ 40 := by
  intro k
  induction k with
  | zero => intro i v h0 h1 h2; exact ⟨Int.le_refl _, h1⟩
  | succ k ih =>
    intro i v h0 h1 h2
    unfold q_nm
    by_cases c : u_dg (g i) = -1
    · rw [if_pos c]; exact ⟨Int.le_refl _, h1⟩
    · rw [if_neg c]
      have d := u_dg_ne c
      have := hg i (by omega)
      have := ih (i + 1) (10 * v + u_dg (g i)) (by omega) (by omega) (by have := u_dg_rng (g i); omega)
      omega
theorem q_nm_v {g : Int → Int} : ∀ (k : Nat) (i v : Int) (B : Int), 0 ≤ v → v ≤ B - 1 → 0 ≤ (q_nm g k i v).2 ∧ (q_nm g k i v).2 ≤ B * 10 ^ k - 1 := by
  intro k
  induction k with
  | zero => intro i v B h0 h1; show 0 ≤ v ∧ v ≤ B * 1 - 1; omega
  | succ k ih =>
    intro i v B h0 h1
    unfold q_nm
    have r := u_dg_rng (g i)
    have e : B * 10 ^ (k + 1) = B * 10 * 10 ^ k := by rw [Int.pow_succ, Int.mul_assoc, Int.mul_comm (10 ^ k) 10]
    by_cases c : u_dg (g i) = -1
    · rw [if_pos c]
      have hp : (0 : Int) < 10 ^ k := Int.pow_pos (by decide)
      have : B * 1 ≤ B * 10 * 10 ^ k := by
        rw [Int.mul_assoc]
        exact Int.mul_le_mul_of_nonneg_left (by omega) (by omega)
      rw [e]
      show 0 ≤ v ∧ v ≤ B * 10 * 10 ^ k - 1
      omega
    · rw [if_neg c, e]
      exact ih (i + 1) (10 * v + u_dg (g i)) (B * 10) (by omega) (by omega)
theorem q_th_good {g : Int → Int} (hg : q_gb g) {E : Option (Int → q_Q)} (hE : ∀ e, E = some e → q_good e) : q_good (q_th g E) := by
  intro i h0 h1
  unfold q_th
  by_cases c1 : g i = 40
  · have b := hg i (by omega)
    rw [if_pos c1]
    cases hEe : E with
    | none => exact ⟨Int.le_refl _, h1, fun z => by cases z⟩
    | some e =>
      have ge := hE e hEe (i + 1) (by omega) (by omega)
      simp only
      by_cases c2 : (e (i + 1)).1 = true ∧ g (e (i + 1)).2.1 = 41
      · rw [if_pos c2]
        have b2 := hg (e (i + 1)).2.1 (by omega)
        have := ge.2.2 c2.1
        refine ⟨?_, ?_, fun _ => ⟨?_, ?_⟩⟩
        · show i ≤ (e (i + 1)).2.1 + 1; omega
        · show (e (i + 1)).2.1 + 1 ≤ 40; omega
        · show i < (e (i + 1)).2.1 + 1; omega
        · show (((e (i + 1)).2.2).length : Int) ≤ (e (i + 1)).2.1 + 1 - i; omega
      · rw [if_neg c2]
        exact ⟨by show i ≤ (e (i + 1)).2.1; omega, ge.2.1, fun z => by cases z⟩
  rw [if_neg c1]
  by_cases c2 : u_dg (g i) = -1
  · rw [if_pos c2]
    by_cases c3 : z_idx (g i) = -1
    · rw [if_pos c3]; exact ⟨Int.le_refl _, h1, fun z => by cases z⟩
    · rw [if_neg c3]
      have b := hg i (fun z => c3 (by rw [z]; decide))
      refine ⟨?_, ?_, fun _ => ⟨?_, ?_⟩⟩
      · show i ≤ i + 1; omega
      · show i + 1 ≤ 40; omega
      · show i < i + 1; omega
      · show ((1 : Nat) : Int) ≤ i + 1 - i; omega
  · rw [if_neg c2]
    have d := u_dg_ne c2
    have b := hg i (by omega)
    have e : q_nm g 3 i 0 = q_nm g 2 (i + 1) (10 * 0 + u_dg (g i)) := by
      show (if u_dg (g i) = -1 then (i, 0) else q_nm g 2 (i + 1) (10 * 0 + u_dg (g i))) = _
      rw [if_neg c2]
    have n := q_nm_b hg 2 (i + 1) (10 * 0 + u_dg (g i)) (by omega) (by omega) (by have := u_dg_rng (g i); omega)
    rw [e]
    refine ⟨?_, n.2, fun _ => ⟨?_, ?_⟩⟩
    · show i ≤ (q_nm g 2 (i + 1) (10 * 0 + u_dg (g i))).1; omega
    · show i < (q_nm g 2 (i + 1) (10 * 0 + u_dg (g i))).1; omega
    · show ((1 : Nat) : Int) ≤ (q_nm g 2 (i + 1) (10 * 0 + u_dg (g i))).1 - i; omega
theorem q_mn_b {g : Int → Int} (hg : q_gb g) : ∀ (f : Nat) (i : Int), 0 ≤ i → i ≤ 40 → i + (q_mn g f i : Int) ≤ 40 := by
  intro f
  induction f with
  | zero => intro i h0 h1; show i + ((0 : Nat) : Int) ≤ 40; omega
  | succ f ih =>
    intro i h0 h1
    unfold q_mn
    by_cases c : g i = 45
    · rw [if_pos c]
      have := hg i (by omega)
      have := ih (i + 1) (by omega) (by omega)
      omega
    · rw [if_neg c]; omega
theorem q_sg_good {g : Int → Int} (hg : q_gb g) {E : Option (Int → q_Q)} (hE : ∀ e, E = some e → q_good e) : q_good (q_sg g E) := by
  intro i h0 h1
  have b := q_mn_b hg 40 i h0 h1
  have t := q_th_good hg hE (i + (q_mn g 40 i : Int)) (by omega) b
  unfold q_sg
  generalize hn : q_mn g 40 i = n at b t ⊢
  refine ⟨?_, t.2.1, fun z => ⟨?_, ?_⟩⟩
  · show i ≤ (q_th g E (i + (n : Int))).2.1; omega
  · have := t.2.2 z
    show i < (q_th g E (i + (n : Int))).2.1; omega
  · have := t.2.2 z
    show ((((q_th g E (i + (n : Int))).2.2 ++ (if n % 2 = 1 then [2126] else [])).length : Nat) : Int) ≤ (q_th g E (i + (n : Int))).2.1 - i
    rw [List.length_append]
    by_cases c : n % 2 = 1
    · rw [if_pos c]
      show ((((q_th g E (i + (n : Int))).2.2).length + 1 : Nat) : Int) ≤ _
      omega
    · rw [if_neg c]
      show ((((q_th g E (i + (n : Int))).2.2).length + 0 : Nat) : Int) ≤ _
      omega
theorem q_lp_good {g : Int → Int} (hg : q_gb g) {part : Int → q_Q} (hp : q_good part) {a b : Int} (ha : ¬ a = -1) (hb : ¬ b = -1) : ∀ (k : Nat) (r : q_Q) (i : Int), 0 ≤ i → i ≤ r.2.1 → r.2.1 ≤ 40 → (r.1 = true → i < r.2.1 ∧ ((r.2.2).length : Int) ≤ r.2.1 - i) → i ≤ (q_lp g part a b k r).2.1 ∧ (q_lp g part a b k r).2.1 ≤ 40 ∧ ((q_lp g part a b k r).1 = true → i < (q_lp g part a b k r).2.1 ∧ (((q_lp g part a b k r).2.2).length : Int) ≤ (q_lp g part a b k r).2.1 - i) := by
  intro k
  induction k with
  | zero => intro r i h0 h1 h2 h3; exact ⟨h1, h2, h3⟩
  | succ k ih =>
    intro r i h0 h1 h2 h3
    unfold q_lp
    by_cases c : r.1 = true ∧ (g r.2.1 = a ∨ g r.2.1 = b)
    · rw [if_pos c]
      have bb := hg r.2.1 (by rcases c.2 with z | z <;> rw [z] <;> assumption)
      have pp := hp (r.2.1 + 1) (by omega) (by omega)
      have h4 := h3 c.1
      refine ih _ i h0 ?_ pp.2.1 (fun z => ⟨?_, ?_⟩)
      · show i ≤ (part (r.2.1 + 1)).2.1; omega
      · show i < (part (r.2.1 + 1)).2.1; omega
      · have := pp.2.2 z
        show (((r.2.2 ++ (part (r.2.1 + 1)).2.2 ++ [2000 + g r.2.1]).length : Nat) : Int) ≤ (part (r.2.1 + 1)).2.1 - i
        rw [List.length_append, List.length_append]
        show (((r.2.2).length + ((part (r.2.1 + 1)).2.2).length + 1 : Nat) : Int) ≤ _
        omega
    · rw [if_neg c]; exact ⟨h1, h2, h3⟩
theorem q_pr_good {g : Int → Int} (hg : q_gb g) {E : Option (Int → q_Q)} (hE : ∀ e, E = some e → q_good e) : q_good (q_pr g E) := by
  intro i h0 h1
  have s := q_sg_good hg hE i h0 h1
  exact q_lp_good hg (q_sg_good hg hE) (by decide) (by decide) 40 _ i h0 s.1 s.2.1 s.2.2
theorem q_su_good {g : Int → Int} (hg : q_gb g) {E : Option (Int → q_Q)} (hE : ∀ e, E = some e → q_good e) : q_good (q_su g E) := by
  intro i h0 h1
  have s := q_pr_good hg hE i h0 h1
  exact q_lp_good hg (q_pr_good hg hE) (by decide) (by decide) 40 _ i h0 s.1 s.2.1 s.2.2
theorem q_he_good {g : Int → Int} (hg : q_gb g) {E : Option (Int → q_Q)} (hE : ∀ e, E = some e → q_good e) : q_good (q_he g E) := by
  intro i h0 h1
  have s := q_su_good hg hE i h0 h1
  unfold q_he
  by_cases c : (q_su g E i).1 = true ∧ (g (q_su g E i).2.1 = 60 ∨ g (q_su g E i).2.1 = 62 ∨ g (q_su g E i).2.1 = 61)
  · rw [if_pos c]
    have bb := hg (q_su g E i).2.1 (by rcases c.2 with z | z | z <;> rw [z] <;> decide)
    have s2 := q_su_good hg hE ((q_su g E i).2.1 + 1) (by omega) (by omega)
    have s3 := s.2.2 c.1
    refine ⟨?_, s2.2.1, fun z => ⟨?_, ?_⟩⟩
    · show i ≤ (q_su g E ((q_su g E i).2.1 + 1)).2.1; omega
    · show i < (q_su g E ((q_su g E i).2.1 + 1)).2.1; omega
    · have := s2.2.2 z
      show ((((q_su g E i).2.2 ++ (q_su g E ((q_su g E i).2.1 + 1)).2.2 ++ [2000 + g (q_su g E i).2.1]).length : Nat) : Int) ≤ (q_su g E ((q_su g E i).2.1 + 1)).2.1 - i
      rw [List.length_append, List.length_append]
      show ((((q_su g E i).2.2).length + ((q_su g E ((q_su g E i).2.1 + 1)).2.2).length + 1 : Nat) : Int) ≤ _
      omega
  · rw [if_neg c]; exact s
theorem q_ex_good {g : Int → Int} (hg : q_gb g) : ∀ D, q_good (q_ex g D)
  | 0 => q_he_good hg (fun e h => by cases h)
  | D + 1 => q_he_good hg (fun e h => by cases h; exact q_ex_good hg D)
theorem q_E_good {g : Int → Int} (hg : q_gb g) (d : Nat) : ∀ e, q_E g d = some e → q_good e := by
  intro e h
  unfold q_E at h
  by_cases c : 4 ≤ d
  · rw [if_pos c] at h; cases h
  · rw [if_neg c] at h; cases h; exact q_ex_good hg _
/-! the stack machine -/
def ev1 (env : Nat → Int) (c : Int) (S : List Int) : List Int := if c = 2126 then (match S with
    | x :: S => z_neg x :: S
    | [] => []) else if 2000 ≤ c then (match S with
    | y :: x :: S => q_op (c - 2000) x y :: S
    | S => S) else (if c < 1000 then c else if c - 1000 < 7 then env (c - 1000).toNat else 0) :: S
def ev (env : Nat → Int) : List Int → List Int → List Int
  | [], S => S
  | c :: cs, S => ev env cs (ev1 env c S)
theorem ev_app (env : Nat → Int) : ∀ (a b S : List Int), ev env (a ++ b) S = ev env b (ev env a S)
  | [], b, S => rfl
  | c :: a, b, S => ev_app env a b (ev1 env c S)
/-- the code makes this number -/
def evs (env : Nat → Int) (c : List Int) (v : Int) : Prop := ∀ S, ev env c S = v :: S
theorem evs_op {env : Nat → Int} {a b : List Int} {c v w : Int} (ha : evs env a v) (hb : evs env b w) (hc : 0 ≤ c) (hc2 : ¬ c = 126) : evs env (a ++ b ++ [2000 + c]) (q_op c v w) := by
  intro S
  rw [ev_app, ev_app, ha, hb]
  show ev1 env (2000 + c) (w :: v :: S) = _
  unfold ev1
  rw [if_neg (by omega), if_pos (by omega)]
  simp only
  rw [show 2000 + c - 2000 = c by omega]
theorem z_neg_b (x : Int) : -2147483648 ≤ z_neg x ∧ z_neg x ≤ 2147483647 := i32_rng _
theorem z_neg_neg {x : Int} (h1 : -2147483648 ≤ x) (h2 : x ≤ 2147483647) : z_neg (z_neg x) = x := by
  unfold z_neg
  rw [Int32.ofInt_toInt, Int32.neg_neg, zr_of h1 h2]
def q_ng : Nat → Int → Int
  | 0, v => v
  | n + 1, v => z_neg (q_ng n v)
theorem q_ng_b {v : Int} (h1 : -2147483648 ≤ v) (h2 : v ≤ 2147483647) : ∀ n, -2147483648 ≤ q_ng n v ∧ q_ng n v ≤ 2147483647
  | 0 => ⟨h1, h2⟩
  | n + 1 => z_neg_b _
theorem q_ng_2 {v : Int} (h1 : -2147483648 ≤ v) (h2 : v ≤ 2147483647) : ∀ n, q_ng n v = (if n % 2 = 1 then z_neg v else v)
  | 0 => rfl
  | 1 => rfl
  | n + 2 => by
    show z_neg (z_neg (q_ng n v)) = _
    have b := q_ng_b h1 h2 n
    rw [z_neg_neg b.1 b.2, q_ng_2 h1 h2 n, show (n + 2) % 2 = n % 2 by omega]
theorem evs_ng {env : Nat → Int} {a : List Int} {v : Int} (ha : evs env a v) (h1 : -2147483648 ≤ v) (h2 : v ≤ 2147483647) (n : Nat) : evs env (a ++ (if n % 2 = 1 then [2126] else [])) (q_ng n v) := by
  intro S
  rw [ev_app, ha, q_ng_2 h1 h2]
  by_cases c : n % 2 = 1
  · rw [if_pos c, if_pos c]; rfl
  · rw [if_neg c, if_neg c]; rfl
end
section
/-! STRETCHES of the rule -/
theorem s_rrd_0  (m : z_M) : z_R 40 (m, 0, [(2, 116)], []) = (z_R 20 (m, 0, [(2, 1), (0, 40)], [])).bind fun qq => z_R 40 (qq.1, 9, [(2, 116)], qq.2.toList ++ []) :=
  have hK : kt_at 40 = kt_40 := rfl
  (z_R_run hK (n := 2) (g' := (m, 4, [(2, 116)], [(2, 1)])) rfl).trans ((z_R_run hK (n := 1) (g' := (m, 6, [(2, 116)], [(0, 40), (2, 1)])) rfl).trans (z_R_call hK rfl rfl rfl rfl rfl))
theorem s_rrd_9  (m : z_M) : z_R 40 (m, 9, [(2, 116)], []) = (z_R 41 (z_up m 116 2 0, 0, [(2, 116), (0, 0), (9, 0), (9, 0)], [])).bind fun qq => z_R 40 (qq.1, 19, [(2, 116)], qq.2.toList ++ []) :=
  have hK : kt_at 40 = kt_40 := rfl
  (z_R_run hK (n := 5) (g' := (z_up m 116 2 0, 16, [(2, 116)], [(0, 0), (2, 116)])) rfl).trans (z_R_call hK rfl rfl rfl rfl rfl)
theorem s_rrd_19  (m : z_M) (u : Int) : z_R 40 (m, 19, [(2, 116)], [(0, u)]) = if u = 0 then some (m, some (0, 0)) else (z_R 28 (m, 0, [(2, 1)], [])).bind fun qq => z_R 40 (qq.1, 29, [(2, 116)], qq.2.toList ++ []) :=
  have hK : kt_at 40 = kt_40 := rfl
  z_R_ifd hK (c := u = 0) (p1 := 36) (p2 := 22) rfl rfl rfl (fun h1 => (z_R_run hK (n := 1) (g' := (m, 37, [(2, 116)], [(0, 0)])) rfl).trans (z_R_ret hK rfl rfl rfl)) (fun h1 => (z_R_run hK (n := 2) (g' := (m, 26, [(2, 116)], [(2, 1)])) rfl).trans (z_R_call hK rfl rfl rfl rfl rfl))
theorem s_rrd_29  (m : z_M) (u : Int) : z_R 40 (m, 29, [(2, 116)], [(0, u)]) = if u = 0 then some (m, some (0, 0)) else some (m, some (0, 1)) :=
  have hK : kt_at 40 = kt_40 := rfl
  z_R_ifd hK (c := u = 0) (p1 := 36) (p2 := 32) rfl rfl rfl (fun h1 => (z_R_run hK (n := 1) (g' := (m, 37, [(2, 116)], [(0, 0)])) rfl).trans (z_R_ret hK rfl rfl rfl)) (fun h1 => (z_R_run hK (n := 2) (g' := (m, 37, [(2, 116)], [(0, 1)])) rfl).trans (z_R_ret hK rfl rfl rfl))
theorem s_rex_0  (m : z_M) (d : Int) (h_d : 0 ≤ d ∧ d ≤ 4) : z_R 41 (m, 0, [(2, 116), (0, d), (9, 0), (9, 0)], []) = (z_R 42 (m, 0, [(2, 116), (0, d), (0, 0), (9, 0), (9, 0), (9, 0)], [])).bind fun qq => z_R 41 (qq.1, 6, [(2, 116), (0, d), (9, 0), (9, 0)], qq.2.toList ++ []) :=
  have hK : kt_at 41 = kt_41 := rfl
  (z_R_run hK (n := 3) (g' := (m, 3, [(2, 116), (0, d), (9, 0), (9, 0)], [(0, 0), (0, d), (2, 116)])) rfl).trans (z_R_call hK rfl rfl rfl rfl rfl)
theorem s_rex_6  (m : z_M) (x1 : Int) (u : Int) (h_x1 : 0 ≤ x1 ∧ x1 ≤ 4) : z_R 41 (m, 6, [(2, 116), (0, x1), (9, 0), (9, 0)], [(0, u)]) = (z_R 24 (m, 0, [(2, 1)], [])).bind fun qq => z_R 41 (qq.1, 14, [(2, 116), (0, x1), (0, u), (9, 0)], qq.2.toList ++ []) :=
  have hK : kt_at 41 = kt_41 := rfl
  (z_R_run hK (n := 3) (g' := (m, 11, [(2, 116), (0, x1), (0, u), (9, 0)], [(2, 1)])) rfl).trans (z_R_call hK rfl rfl rfl rfl rfl)
theorem s_rex_14  (m : z_M) (x1 : Int) (x2 : Int) (u : Int) (h_x1 : 0 ≤ x1 ∧ x1 ≤ 4) : z_R 41 (m, 14, [(2, 116), (0, x1), (0, x2), (9, 0)], [(0, u)]) = if x2 = 0 then some (m, some (0, x2)) else if u = 60 then (z_R 26 (m, 0, [(2, 1), (0, 1)], [])).bind fun qq => z_R 41 (qq.1, 49, [(2, 116), (0, x1), (0, x2), (0, u)], qq.2.toList ++ []) else if u = 62 then (z_R 26 (m, 0, [(2, 1), (0, 1)], [])).bind fun qq => z_R 41 (qq.1, 49, [(2, 116), (0, x1), (0, x2), (0, u)], qq.2.toList ++ []) else if u = 61 then (z_R 26 (m, 0, [(2, 1), (0, 1)], [])).bind fun qq => z_R 41 (qq.1, 49, [(2, 116), (0, x1), (0, x2), (0, u)], qq.2.toList ++ []) else (z_R 26 (m, 0, [(2, 1), (0, 0)], [])).bind fun qq => z_R 41 (qq.1, 49, [(2, 116), (0, x1), (0, x2), (0, u)], qq.2.toList ++ []) :=
  have hK : kt_at 41 = kt_41 := rfl
  (z_R_run hK (n := 2) (g' := (m, 16, [(2, 116), (0, x1), (0, x2), (0, u)], [(0, x2)])) rfl).trans (z_R_ifd hK (c := x2 = 0) (p1 := 68) (p2 := 19) rfl rfl rfl (fun h1 => (z_R_run hK (n := 1) (g' := (m, 69, [(2, 116), (0, x1), (0, x2), (0, u)], [(0, x2)])) rfl).trans (z_R_ret hK rfl rfl rfl)) (fun h1 => (z_R_run hK (n := 2) (g' := (m, 23, [(2, 116), (0, x1), (0, x2), (0, u)], [(2, 1)])) rfl).trans ((z_R_run hK (n := 2) (g' := (m, 26, [(2, 116), (0, x1), (0, x2), (0, u)], [(0, 60), (0, u), (2, 1)])) rfl).trans (z_R_ifd hK (c := u = 60) (p1 := 41) (p2 := 29) rfl rfl rfl (fun h2 => (z_R_run hK (n := 2) (g' := (m, 46, [(2, 116), (0, x1), (0, x2), (0, u)], [(0, 1), (2, 1)])) rfl).trans (z_R_call hK rfl rfl rfl rfl rfl)) (fun h2 => (z_R_run hK (n := 2) (g' := (m, 32, [(2, 116), (0, x1), (0, x2), (0, u)], [(0, 62), (0, u), (2, 1)])) rfl).trans (z_R_ifd hK (c := u = 62) (p1 := 41) (p2 := 35) rfl rfl rfl (fun h3 => (z_R_run hK (n := 2) (g' := (m, 46, [(2, 116), (0, x1), (0, x2), (0, u)], [(0, 1), (2, 1)])) rfl).trans (z_R_call hK rfl rfl rfl rfl rfl)) (fun h3 => (z_R_run hK (n := 2) (g' := (m, 38, [(2, 116), (0, x1), (0, x2), (0, u)], [(0, 61), (0, u), (2, 1)])) rfl).trans (z_R_ifnd hK (c := u = 61) (p1 := 45) (p2 := 41) rfl rfl rfl (fun h4 => (z_R_run hK (n := 1) (g' := (m, 46, [(2, 116), (0, x1), (0, x2), (0, u)], [(0, 0), (2, 1)])) rfl).trans (z_R_call hK rfl rfl rfl rfl rfl)) (fun h4 => (z_R_run hK (n := 2) (g' := (m, 46, [(2, 116), (0, x1), (0, x2), (0, u)], [(0, 1), (2, 1)])) rfl).trans (z_R_call hK rfl rfl rfl rfl rfl))))))))))
theorem s_rex_49  (m : z_M) (x1 : Int) (x2 : Int) (x3 : Int) (u : Int) : z_R 41 (m, 49, [(2, 116), (0, x1), (0, x2), (0, x3)], [(0, u)]) = if u = 0 then some (m, some (0, x2)) else (z_R 42 (m, 0, [(2, 116), (0, x1), (0, 0), (9, 0), (9, 0), (9, 0)], [])).bind fun qq => z_R 41 (qq.1, 58, [(2, 116), (0, x1), (0, x2), (0, x3)], qq.2.toList ++ []) :=
  have hK : kt_at 41 = kt_41 := rfl
  z_R_ifd hK (c := u = 0) (p1 := 68) (p2 := 52) rfl rfl rfl (fun h1 => (z_R_run hK (n := 1) (g' := (m, 69, [(2, 116), (0, x1), (0, x2), (0, x3)], [(0, x2)])) rfl).trans (z_R_ret hK rfl rfl rfl)) (fun h1 => (z_R_run hK (n := 3) (g' := (m, 55, [(2, 116), (0, x1), (0, x2), (0, x3)], [(0, 0), (0, x1), (2, 116)])) rfl).trans (z_R_call hK rfl rfl rfl rfl rfl))
theorem s_rex_58  (m : z_M) (x1 : Int) (x2 : Int) (x3 : Int) (u : Int) : z_R 41 (m, 58, [(2, 116), (0, x1), (0, x2), (0, x3)], [(0, u)]) = (z_R 48 (m, 0, [(2, 116), (0, z_add 2000 x3)], [])).bind fun qq => z_R 41 (qq.1, 68, [(2, 116), (0, x1), (0, u), (0, x3)], qq.2.toList ++ []) :=
  have hK : kt_at 41 = kt_41 := rfl
  (z_R_run hK (n := 5) (g' := (m, 65, [(2, 116), (0, x1), (0, u), (0, x3)], [(0, z_add 2000 x3), (2, 116)])) rfl).trans (z_R_call hK rfl rfl rfl rfl rfl)
theorem s_rex_68  (m : z_M) (x1 : Int) (x2 : Int) (x3 : Int) : z_R 41 (m, 68, [(2, 116), (0, x1), (0, x2), (0, x3)], []) = some (m, some (0, x2)) :=
  have hK : kt_at 41 = kt_41 := rfl
  (z_R_run hK (n := 1) (g' := (m, 69, [(2, 116), (0, x1), (0, x2), (0, x3)], [(0, x2)])) rfl).trans (z_R_ret hK rfl rfl rfl)
theorem s_rch_0  (m : z_M) (d : Int) (b : Int) (h_d : 0 ≤ d ∧ d ≤ 4) : z_R 42 (m, 0, [(2, 116), (0, d), (0, b), (9, 0), (9, 0), (9, 0)], []) = (z_R 43 (m, 0, [(2, 116), (0, d), (0, b)], [])).bind fun qq => z_R 42 (qq.1, 6, [(2, 116), (0, d), (0, b), (9, 0), (9, 0), (9, 0)], qq.2.toList ++ []) :=
  have hK : kt_at 42 = kt_42 := rfl
  (z_R_run hK (n := 3) (g' := (m, 3, [(2, 116), (0, d), (0, b), (9, 0), (9, 0), (9, 0)], [(0, b), (0, d), (2, 116)])) rfl).trans (z_R_call hK rfl rfl rfl rfl rfl)
theorem s_rch_6  (m : z_M) (x1 : Int) (x2 : Int) (u : Int) : z_R 42 (m, 6, [(2, 116), (0, x1), (0, x2), (9, 0), (9, 0), (9, 0)], [(0, u)]) = (z_R 24 (m, 0, [(2, 1)], [])).bind fun qq => z_R 42 (qq.1, 14, [(2, 116), (0, x1), (0, x2), (0, u), (9, 0), (9, 0)], qq.2.toList ++ []) :=
  have hK : kt_at 42 = kt_42 := rfl
  (z_R_run hK (n := 3) (g' := (m, 11, [(2, 116), (0, x1), (0, x2), (0, u), (9, 0), (9, 0)], [(2, 1)])) rfl).trans (z_R_call hK rfl rfl rfl rfl rfl)
theorem s_rch_14  (m : z_M) (x1 : Int) (x2 : Int) (x3 : Int) (u : Int) : z_R 42 (m, 14, [(2, 116), (0, x1), (0, x2), (0, x3), (9, 0), (9, 0)], [(0, u)]) = z_R 42 (m, 19, [(2, 116), (0, x1), (0, x2), (0, x3), (0, u), (0, 0)], []) :=
  have hK : kt_at 42 = kt_42 := rfl
  (z_R_run hK (n := 3) (g' := (m, 19, [(2, 116), (0, x1), (0, x2), (0, x3), (0, u), (0, 0)], [])) rfl).trans (rfl)
theorem s_rch_19  (m : z_M) (x1 : Int) (x2 : Int) (x3 : Int) (x4 : Int) (x5 : Int) : z_R 42 (m, 19, [(2, 116), (0, x1), (0, x2), (0, x3), (0, x4), (0, x5)], []) = if 40 ≤ x5 then some (m, some (0, x3)) else if x3 = 0 then some (m, some (0, x3)) else (z_R 51 (m, 0, [(0, x4), (0, x2)], [])).bind fun qq => z_R 42 (qq.1, 40, [(2, 116), (0, x1), (0, x2), (0, x3), (0, x4), (0, x5)], qq.2.toList ++ [(2, 1)]) :=
  have hK : kt_at 42 = kt_42 := rfl
  (z_R_run hK (n := 2) (g' := (m, 23, [(2, 116), (0, x1), (0, x2), (0, x3), (0, x4), (0, x5)], [(0, 40), (0, x5)])) rfl).trans (z_R_ifd hK (c := 40 ≤ x5) (p1 := 78) (p2 := 26) rfl rfl rfl (fun h1 => (z_R_run hK (n := 1) (g' := (m, 79, [(2, 116), (0, x1), (0, x2), (0, x3), (0, x4), (0, x5)], [(0, x3)])) rfl).trans (z_R_ret hK rfl rfl rfl)) (fun h1 => (z_R_run hK (n := 1) (g' := (m, 27, [(2, 116), (0, x1), (0, x2), (0, x3), (0, x4), (0, x5)], [(0, x3)])) rfl).trans (z_R_ifd hK (c := x3 = 0) (p1 := 78) (p2 := 30) rfl rfl rfl (fun h2 => (z_R_run hK (n := 1) (g' := (m, 79, [(2, 116), (0, x1), (0, x2), (0, x3), (0, x4), (0, x5)], [(0, x3)])) rfl).trans (z_R_ret hK rfl rfl rfl)) (fun h2 => (z_R_run hK (n := 2) (g' := (m, 34, [(2, 116), (0, x1), (0, x2), (0, x3), (0, x4), (0, x5)], [(2, 1)])) rfl).trans ((z_R_run hK (n := 2) (g' := (m, 37, [(2, 116), (0, x1), (0, x2), (0, x3), (0, x4), (0, x5)], [(0, x2), (0, x4), (2, 1)])) rfl).trans (z_R_call hK rfl rfl rfl rfl rfl))))))
theorem s_rch_40  (m : z_M) (x1 : Int) (x2 : Int) (x3 : Int) (x4 : Int) (x5 : Int) (u : Int) : z_R 42 (m, 40, [(2, 116), (0, x1), (0, x2), (0, x3), (0, x4), (0, x5)], [(0, u), (2, 1)]) = (z_R 26 (m, 0, [(2, 1), (0, u)], [])).bind fun qq => z_R 42 (qq.1, 43, [(2, 116), (0, x1), (0, x2), (0, x3), (0, x4), (0, x5)], qq.2.toList ++ []) :=
  have hK : kt_at 42 = kt_42 := rfl
  z_R_call hK rfl rfl rfl rfl rfl
theorem s_rch_43  (m : z_M) (x1 : Int) (x2 : Int) (x3 : Int) (x4 : Int) (x5 : Int) (u : Int) : z_R 42 (m, 43, [(2, 116), (0, x1), (0, x2), (0, x3), (0, x4), (0, x5)], [(0, u)]) = if u = 0 then some (m, some (0, x3)) else (z_R 43 (m, 0, [(2, 116), (0, x1), (0, x2)], [])).bind fun qq => z_R 42 (qq.1, 52, [(2, 116), (0, x1), (0, x2), (0, x3), (0, x4), (0, x5)], qq.2.toList ++ []) :=
  have hK : kt_at 42 = kt_42 := rfl
  z_R_ifd hK (c := u = 0) (p1 := 78) (p2 := 46) rfl rfl rfl (fun h1 => (z_R_run hK (n := 1) (g' := (m, 79, [(2, 116), (0, x1), (0, x2), (0, x3), (0, x4), (0, x5)], [(0, x3)])) rfl).trans (z_R_ret hK rfl rfl rfl)) (fun h1 => (z_R_run hK (n := 3) (g' := (m, 49, [(2, 116), (0, x1), (0, x2), (0, x3), (0, x4), (0, x5)], [(0, x2), (0, x1), (2, 116)])) rfl).trans (z_R_call hK rfl rfl rfl rfl rfl))
theorem s_rch_52  (m : z_M) (x1 : Int) (x2 : Int) (x3 : Int) (x4 : Int) (x5 : Int) (u : Int) : z_R 42 (m, 52, [(2, 116), (0, x1), (0, x2), (0, x3), (0, x4), (0, x5)], [(0, u)]) = (z_R 48 (m, 0, [(2, 116), (0, z_add 2000 x4)], [])).bind fun qq => z_R 42 (qq.1, 63, [(2, 116), (0, x1), (0, x2), (0, u), (0, x4), (0, x5)], qq.2.toList ++ []) :=
  have hK : kt_at 42 = kt_42 := rfl
  (z_R_run hK (n := 5) (g' := (m, 60, [(2, 116), (0, x1), (0, x2), (0, u), (0, x4), (0, x5)], [(0, z_add 2000 x4), (2, 116)])) rfl).trans (z_R_call hK rfl rfl rfl rfl rfl)
theorem s_rch_63  (m : z_M) (x1 : Int) (x2 : Int) (x3 : Int) (x4 : Int) (x5 : Int) : z_R 42 (m, 63, [(2, 116), (0, x1), (0, x2), (0, x3), (0, x4), (0, x5)], []) = (z_R 24 (m, 0, [(2, 1)], [])).bind fun qq => z_R 42 (qq.1, 70, [(2, 116), (0, x1), (0, x2), (0, x3), (0, x4), (0, x5)], qq.2.toList ++ []) :=
  have hK : kt_at 42 = kt_42 := rfl
  (z_R_run hK (n := 2) (g' := (m, 67, [(2, 116), (0, x1), (0, x2), (0, x3), (0, x4), (0, x5)], [(2, 1)])) rfl).trans (z_R_call hK rfl rfl rfl rfl rfl)
theorem s_rch_70  (m : z_M) (x1 : Int) (x2 : Int) (x3 : Int) (x4 : Int) (x5 : Int) (u : Int) : z_R 42 (m, 70, [(2, 116), (0, x1), (0, x2), (0, x3), (0, x4), (0, x5)], [(0, u)]) = z_R 42 (m, 19, [(2, 116), (0, x1), (0, x2), (0, x3), (0, u), (0, z_add x5 1)], []) :=
  have hK : kt_at 42 = kt_42 := rfl
  (z_R_run hK (n := 3) (g' := (m, 19, [(2, 116), (0, x1), (0, x2), (0, x3), (0, u), (0, z_add x5 1)], [])) rfl).trans (rfl)
theorem s_rpt_0  (m : z_M) (d : Int) (b : Int) : z_R 43 (m, 0, [(2, 116), (0, d), (0, b)], []) = if b = 0 then (z_R 42 (m, 0, [(2, 116), (0, d), (0, 1), (9, 0), (9, 0), (9, 0)], [])).bind fun qq => z_R 43 (qq.1, 18, [(2, 116), (0, d), (0, b)], qq.2.toList ++ []) else (z_R 44 (m, 0, [(2, 116), (0, d), (9, 0), (9, 0)], [])).bind fun qq => z_R 43 (qq.1, 9, [(2, 116), (0, d), (0, b)], qq.2.toList ++ []) :=
  have hK : kt_at 43 = kt_43 := rfl
  (z_R_run hK (n := 1) (g' := (m, 1, [(2, 116), (0, d), (0, b)], [(0, b)])) rfl).trans (z_R_ifd hK (c := b = 0) (p1 := 12) (p2 := 4) rfl rfl rfl (fun h1 => (z_R_run hK (n := 3) (g' := (m, 15, [(2, 116), (0, d), (0, b)], [(0, 1), (0, d), (2, 116)])) rfl).trans (z_R_call hK rfl rfl rfl rfl rfl)) (fun h1 => (z_R_run hK (n := 2) (g' := (m, 6, [(2, 116), (0, d), (0, b)], [(0, d), (2, 116)])) rfl).trans (z_R_call hK rfl rfl rfl rfl rfl)))
theorem s_rpt_9  (m : z_M) (x1 : Int) (x2 : Int) (u : Int) : z_R 43 (m, 9, [(2, 116), (0, x1), (0, x2)], [(0, u)]) = some (m, some (0, u)) :=
  have hK : kt_at 43 = kt_43 := rfl
  (z_R_run hK (n := 1) (g' := (m, 18, [(2, 116), (0, x1), (0, x2)], [(0, u)])) rfl).trans (z_R_ret hK rfl rfl rfl)
theorem s_rpt_18  (m : z_M) (x1 : Int) (x2 : Int) (u : Int) : z_R 43 (m, 18, [(2, 116), (0, x1), (0, x2)], [(0, u)]) = some (m, some (0, u)) :=
  have hK : kt_at 43 = kt_43 := rfl
  z_R_ret hK rfl rfl rfl
theorem s_rsg_0  (m : z_M) (d : Int) : z_R 44 (m, 0, [(2, 116), (0, d), (9, 0), (9, 0)], []) = z_R 44 (m, 4, [(2, 116), (0, d), (0, 0), (0, 0)], []) :=
  have hK : kt_at 44 = kt_44 := rfl
  (z_R_run hK (n := 4) (g' := (m, 4, [(2, 116), (0, d), (0, 0), (0, 0)], [])) rfl).trans (rfl)
theorem s_rsg_4  (m : z_M) (x1 : Int) (x2 : Int) (x3 : Int) : z_R 44 (m, 4, [(2, 116), (0, x1), (0, x2), (0, x3)], []) = if 40 ≤ x3 then (z_R 45 (m, 0, [(2, 116), (0, x1), (9, 0), (9, 0)], [])).bind fun qq => z_R 44 (qq.1, 43, [(2, 116), (0, x1), (0, x2), (0, x3)], qq.2.toList ++ []) else (z_R 27 (m, 0, [(2, 1), (0, 45)], [])).bind fun qq => z_R 44 (qq.1, 19, [(2, 116), (0, x1), (0, x2), (0, x3)], qq.2.toList ++ []) :=
  have hK : kt_at 44 = kt_44 := rfl
  (z_R_run hK (n := 2) (g' := (m, 7, [(2, 116), (0, x1), (0, x2), (0, x3)], [(0, 40), (0, x3)])) rfl).trans (z_R_ifd hK (c := 40 ≤ x3) (p1 := 38) (p2 := 10) rfl rfl rfl (fun h1 => (z_R_run hK (n := 2) (g' := (m, 40, [(2, 116), (0, x1), (0, x2), (0, x3)], [(0, x1), (2, 116)])) rfl).trans (z_R_call hK rfl rfl rfl rfl rfl)) (fun h1 => (z_R_run hK (n := 2) (g' := (m, 14, [(2, 116), (0, x1), (0, x2), (0, x3)], [(2, 1)])) rfl).trans ((z_R_run hK (n := 1) (g' := (m, 16, [(2, 116), (0, x1), (0, x2), (0, x3)], [(0, 45), (2, 1)])) rfl).trans (z_R_call hK rfl rfl rfl rfl rfl))))
theorem s_rsg_19  (m : z_M) (x1 : Int) (x2 : Int) (x3 : Int) (u : Int) : z_R 44 (m, 19, [(2, 116), (0, x1), (0, x2), (0, x3)], [(0, u)]) = if u = 0 then (z_R 45 (m, 0, [(2, 116), (0, x1), (9, 0), (9, 0)], [])).bind fun qq => z_R 44 (qq.1, 43, [(2, 116), (0, x1), (0, x2), (0, x3)], qq.2.toList ++ []) else if x2 = 0 then z_R 44 (m, 4, [(2, 116), (0, x1), (0, 1), (0, z_add x3 1)], []) else z_R 44 (m, 4, [(2, 116), (0, x1), (0, 0), (0, z_add x3 1)], []) :=
  have hK : kt_at 44 = kt_44 := rfl
  z_R_ifd hK (c := u = 0) (p1 := 38) (p2 := 22) rfl rfl rfl (fun h1 => (z_R_run hK (n := 2) (g' := (m, 40, [(2, 116), (0, x1), (0, x2), (0, x3)], [(0, x1), (2, 116)])) rfl).trans (z_R_call hK rfl rfl rfl rfl rfl)) (fun h1 => (z_R_run hK (n := 1) (g' := (m, 23, [(2, 116), (0, x1), (0, x2), (0, x3)], [(0, x2)])) rfl).trans (z_R_ifnd hK (c := x2 = 0) (p1 := 30) (p2 := 26) rfl rfl rfl (fun h2 => (z_R_run hK (n := 4) (g' := (m, 4, [(2, 116), (0, x1), (0, 0), (0, z_add x3 1)], [])) rfl).trans (rfl)) (fun h2 => (z_R_run hK (n := 5) (g' := (m, 4, [(2, 116), (0, x1), (0, 1), (0, z_add x3 1)], [])) rfl).trans (rfl))))
theorem s_rsg_43  (m : z_M) (x1 : Int) (x2 : Int) (x3 : Int) (u : Int) : z_R 44 (m, 43, [(2, 116), (0, x1), (0, x2), (0, x3)], [(0, u)]) = if x2 = 0 then some (m, some (0, u)) else (z_R 48 (m, 0, [(2, 116), (0, 2126)], [])).bind fun qq => z_R 44 (qq.1, 55, [(2, 116), (0, x1), (0, x2), (0, u)], qq.2.toList ++ []) :=
  have hK : kt_at 44 = kt_44 := rfl
  (z_R_run hK (n := 2) (g' := (m, 45, [(2, 116), (0, x1), (0, x2), (0, u)], [(0, x2)])) rfl).trans (z_R_ifd hK (c := x2 = 0) (p1 := 55) (p2 := 48) rfl rfl rfl (fun h1 => (z_R_run hK (n := 1) (g' := (m, 56, [(2, 116), (0, x1), (0, x2), (0, u)], [(0, u)])) rfl).trans (z_R_ret hK rfl rfl rfl)) (fun h1 => (z_R_run hK (n := 2) (g' := (m, 52, [(2, 116), (0, x1), (0, x2), (0, u)], [(0, 2126), (2, 116)])) rfl).trans (z_R_call hK rfl rfl rfl rfl rfl)))
theorem s_rsg_55  (m : z_M) (x1 : Int) (x2 : Int) (x3 : Int) : z_R 44 (m, 55, [(2, 116), (0, x1), (0, x2), (0, x3)], []) = some (m, some (0, x3)) :=
  have hK : kt_at 44 = kt_44 := rfl
  (z_R_run hK (n := 1) (g' := (m, 56, [(2, 116), (0, x1), (0, x2), (0, x3)], [(0, x3)])) rfl).trans (z_R_ret hK rfl rfl rfl)
theorem s_rth_0  (m : z_M) (d : Int) : z_R 45 (m, 0, [(2, 116), (0, d), (9, 0), (9, 0)], []) = (z_R 24 (m, 0, [(2, 1)], [])).bind fun qq => z_R 45 (qq.1, 7, [(2, 116), (0, d), (9, 0), (9, 0)], qq.2.toList ++ []) :=
  have hK : kt_at 45 = kt_45 := rfl
  (z_R_run hK (n := 2) (g' := (m, 4, [(2, 116), (0, d), (9, 0), (9, 0)], [(2, 1)])) rfl).trans (z_R_call hK rfl rfl rfl rfl rfl)
theorem s_rth_7  (m : z_M) (x1 : Int) (u : Int) : z_R 45 (m, 7, [(2, 116), (0, x1), (9, 0), (9, 0)], [(0, u)]) = if u = 40 then (z_R 46 (m, 0, [(2, 116), (0, x1)], [])).bind fun qq => z_R 45 (qq.1, 19, [(2, 116), (0, x1), (0, u), (9, 0)], qq.2.toList ++ []) else (z_R 25 (m, 0, [(0, u)], [])).bind fun qq => z_R 45 (qq.1, 24, [(2, 116), (0, x1), (0, u), (9, 0)], qq.2.toList ++ []) :=
  have hK : kt_at 45 = kt_45 := rfl
  (z_R_run hK (n := 3) (g' := (m, 11, [(2, 116), (0, x1), (0, u), (9, 0)], [(0, 40), (0, u)])) rfl).trans (z_R_ifnd hK (c := u = 40) (p1 := 20) (p2 := 14) rfl rfl rfl (fun h1 => (z_R_run hK (n := 1) (g' := (m, 21, [(2, 116), (0, x1), (0, u), (9, 0)], [(0, u)])) rfl).trans (z_R_call hK rfl rfl rfl rfl rfl)) (fun h1 => (z_R_run hK (n := 2) (g' := (m, 16, [(2, 116), (0, x1), (0, u), (9, 0)], [(0, x1), (2, 116)])) rfl).trans (z_R_call hK rfl rfl rfl rfl rfl)))
theorem s_rth_19  (m : z_M) (x1 : Int) (x2 : Int) (u : Int) : z_R 45 (m, 19, [(2, 116), (0, x1), (0, x2), (9, 0)], [(0, u)]) = some (m, some (0, u)) :=
  have hK : kt_at 45 = kt_45 := rfl
  z_R_ret hK rfl rfl rfl
theorem s_rth_24  (m : z_M) (x1 : Int) (x2 : Int) (u : Int) : z_R 45 (m, 24, [(2, 116), (0, x1), (0, x2), (9, 0)], [(0, u)]) = if u = (-1) then if x2 = (-1) then (z_R 26 (m, 0, [(2, 1), (0, 0)], [])).bind fun qq => z_R 45 (qq.1, 67, [(2, 116), (0, x1), (0, x2), (0, (-1))], qq.2.toList ++ []) else if z_idx (z_i2c x2) < 0 then (z_R 26 (m, 0, [(2, 1), (0, 0)], [])).bind fun qq => z_R 45 (qq.1, 67, [(2, 116), (0, x1), (0, x2), (0, z_idx (z_i2c x2))], qq.2.toList ++ []) else (z_R 26 (m, 0, [(2, 1), (0, 1)], [])).bind fun qq => z_R 45 (qq.1, 67, [(2, 116), (0, x1), (0, x2), (0, z_idx (z_i2c x2))], qq.2.toList ++ []) else (z_R 47 (m, 0, [(2, 116), (9, 0), (9, 0), (9, 0)], [])).bind fun qq => z_R 45 (qq.1, 32, [(2, 116), (0, x1), (0, x2), (9, 0)], qq.2.toList ++ []) :=
  have hK : kt_at 45 = kt_45 := rfl
  (z_R_run hK (n := 1) (g' := (m, 25, [(2, 116), (0, x1), (0, x2), (9, 0)], [(0, (-1)), (0, u)])) rfl).trans (z_R_ifd hK (c := u = (-1)) (p1 := 34) (p2 := 28) rfl rfl rfl (fun h1 => (z_R_run hK (n := 2) (g' := (m, 36, [(2, 116), (0, x1), (0, x2), (9, 0)], [(0, (-1)), (0, x2)])) rfl).trans (z_R_ifnd hK (c := x2 = (-1)) (p1 := 43) (p2 := 39) rfl rfl rfl (fun h2 => (z_R_run hK (n := 7) (g' := (m, 55, [(2, 116), (0, x1), (0, x2), (0, z_idx (z_i2c x2))], [(2, 1)])) rfl).trans ((z_R_run hK (n := 1) (g' := (m, 56, [(2, 116), (0, x1), (0, x2), (0, z_idx (z_i2c x2))], [(0, z_idx (z_i2c x2)), (2, 1)])) rfl).trans (z_R_ifd hK (c := z_idx (z_i2c x2) < 0) (p1 := 63) (p2 := 59) rfl rfl rfl (fun h3 => (z_R_run hK (n := 1) (g' := (m, 64, [(2, 116), (0, x1), (0, x2), (0, z_idx (z_i2c x2))], [(0, 0), (2, 1)])) rfl).trans (z_R_call hK rfl rfl rfl rfl rfl)) (fun h3 => (z_R_run hK (n := 2) (g' := (m, 64, [(2, 116), (0, x1), (0, x2), (0, z_idx (z_i2c x2))], [(0, 1), (2, 1)])) rfl).trans (z_R_call hK rfl rfl rfl rfl rfl))))) (fun h2 => (z_R_run hK (n := 5) (g' := (m, 55, [(2, 116), (0, x1), (0, x2), (0, (-1))], [(2, 1)])) rfl).trans ((z_R_run hK (n := 3) (g' := (m, 64, [(2, 116), (0, x1), (0, x2), (0, (-1))], [(0, 0), (2, 1)])) rfl).trans (z_R_call hK rfl rfl rfl rfl rfl))))) (fun h1 => (z_R_run hK (n := 1) (g' := (m, 29, [(2, 116), (0, x1), (0, x2), (9, 0)], [(2, 116)])) rfl).trans (z_R_call hK rfl rfl rfl rfl rfl)))
theorem s_rth_32  (m : z_M) (x1 : Int) (x2 : Int) : z_R 45 (m, 32, [(2, 116), (0, x1), (0, x2), (9, 0)], []) = some (m, some (0, 1)) :=
  have hK : kt_at 45 = kt_45 := rfl
  (z_R_run hK (n := 1) (g' := (m, 33, [(2, 116), (0, x1), (0, x2), (9, 0)], [(0, 1)])) rfl).trans (z_R_ret hK rfl rfl rfl)
theorem s_rth_67  (m : z_M) (x1 : Int) (x2 : Int) (x3 : Int) (u : Int) : z_R 45 (m, 67, [(2, 116), (0, x1), (0, x2), (0, x3)], [(0, u)]) = if u = 0 then some (m, some (0, 0)) else (z_R 48 (m, 0, [(2, 116), (0, z_add 1000 x3)], [])).bind fun qq => z_R 45 (qq.1, 81, [(2, 116), (0, x1), (0, x2), (0, x3)], qq.2.toList ++ []) :=
  have hK : kt_at 45 = kt_45 := rfl
  z_R_ifnd hK (c := u = 0) (p1 := 72) (p2 := 70) rfl rfl rfl (fun h1 => (z_R_run hK (n := 4) (g' := (m, 78, [(2, 116), (0, x1), (0, x2), (0, x3)], [(0, z_add 1000 x3), (2, 116)])) rfl).trans (z_R_call hK rfl rfl rfl rfl rfl)) (fun h1 => (z_R_run hK (n := 1) (g' := (m, 71, [(2, 116), (0, x1), (0, x2), (0, x3)], [(0, 0)])) rfl).trans (z_R_ret hK rfl rfl rfl))
theorem s_rth_81  (m : z_M) (x1 : Int) (x2 : Int) (x3 : Int) : z_R 45 (m, 81, [(2, 116), (0, x1), (0, x2), (0, x3)], []) = some (m, some (0, 1)) :=
  have hK : kt_at 45 = kt_45 := rfl
  (z_R_run hK (n := 1) (g' := (m, 82, [(2, 116), (0, x1), (0, x2), (0, x3)], [(0, 1)])) rfl).trans (z_R_ret hK rfl rfl rfl)
theorem s_rbr_0  (m : z_M) (d : Int) (h_d : 0 ≤ d ∧ d ≤ 4) : z_R 46 (m, 0, [(2, 116), (0, d)], []) = if 4 ≤ d then (z_R 26 (m, 0, [(2, 1), (0, 0)], [])).bind fun qq => z_R 46 (qq.1, 17, [(2, 116), (0, d)], qq.2.toList ++ []) else (z_R 26 (m, 0, [(2, 1), (0, 1)], [])).bind fun qq => z_R 46 (qq.1, 17, [(2, 116), (0, d)], qq.2.toList ++ []) :=
  have hK : kt_at 46 = kt_46 := rfl
  (z_R_run hK (n := 2) (g' := (m, 4, [(2, 116), (0, d)], [(2, 1)])) rfl).trans ((z_R_run hK (n := 2) (g' := (m, 6, [(2, 116), (0, d)], [(0, 4), (0, d), (2, 1)])) rfl).trans (z_R_ifd hK (c := 4 ≤ d) (p1 := 13) (p2 := 9) rfl rfl rfl (fun h1 => (z_R_run hK (n := 1) (g' := (m, 14, [(2, 116), (0, d)], [(0, 0), (2, 1)])) rfl).trans (z_R_call hK rfl rfl rfl rfl rfl)) (fun h1 => (z_R_run hK (n := 2) (g' := (m, 14, [(2, 116), (0, d)], [(0, 1), (2, 1)])) rfl).trans (z_R_call hK rfl rfl rfl rfl rfl))))
theorem s_rbr_17  (m : z_M) (x1 : Int) (u : Int) : z_R 46 (m, 17, [(2, 116), (0, x1)], [(0, u)]) = if u = 0 then some (m, some (0, 0)) else (z_R 41 (m, 0, [(2, 116), (0, z_add x1 1), (9, 0), (9, 0)], [])).bind fun qq => z_R 46 (qq.1, 27, [(2, 116), (0, x1)], qq.2.toList ++ []) :=
  have hK : kt_at 46 = kt_46 := rfl
  z_R_ifd hK (c := u = 0) (p1 := 46) (p2 := 20) rfl rfl rfl (fun h1 => (z_R_run hK (n := 1) (g' := (m, 47, [(2, 116), (0, x1)], [(0, 0)])) rfl).trans (z_R_ret hK rfl rfl rfl)) (fun h1 => (z_R_run hK (n := 4) (g' := (m, 24, [(2, 116), (0, x1)], [(0, z_add x1 1), (2, 116)])) rfl).trans (z_R_call hK rfl rfl rfl rfl rfl))
theorem s_rbr_27  (m : z_M) (x1 : Int) (u : Int) : z_R 46 (m, 27, [(2, 116), (0, x1)], [(0, u)]) = if u = 0 then some (m, some (0, 0)) else (z_R 27 (m, 0, [(2, 1), (0, 41)], [])).bind fun qq => z_R 46 (qq.1, 39, [(2, 116), (0, x1)], qq.2.toList ++ []) :=
  have hK : kt_at 46 = kt_46 := rfl
  z_R_ifd hK (c := u = 0) (p1 := 46) (p2 := 30) rfl rfl rfl (fun h1 => (z_R_run hK (n := 1) (g' := (m, 47, [(2, 116), (0, x1)], [(0, 0)])) rfl).trans (z_R_ret hK rfl rfl rfl)) (fun h1 => (z_R_run hK (n := 2) (g' := (m, 34, [(2, 116), (0, x1)], [(2, 1)])) rfl).trans ((z_R_run hK (n := 1) (g' := (m, 36, [(2, 116), (0, x1)], [(0, 41), (2, 1)])) rfl).trans (z_R_call hK rfl rfl rfl rfl rfl)))
theorem s_rbr_39  (m : z_M) (x1 : Int) (u : Int) : z_R 46 (m, 39, [(2, 116), (0, x1)], [(0, u)]) = if u = 0 then some (m, some (0, 0)) else some (m, some (0, 1)) :=
  have hK : kt_at 46 = kt_46 := rfl
  z_R_ifd hK (c := u = 0) (p1 := 46) (p2 := 42) rfl rfl rfl (fun h1 => (z_R_run hK (n := 1) (g' := (m, 47, [(2, 116), (0, x1)], [(0, 0)])) rfl).trans (z_R_ret hK rfl rfl rfl)) (fun h1 => (z_R_run hK (n := 2) (g' := (m, 47, [(2, 116), (0, x1)], [(0, 1)])) rfl).trans (z_R_ret hK rfl rfl rfl))
theorem s_rnu_0  (m : z_M) : z_R 47 (m, 0, [(2, 116), (9, 0), (9, 0), (9, 0)], []) = (z_R 23 (m, 0, [(2, 1)], [])).bind fun qq => z_R 47 (qq.1, 9, [(2, 116), (0, 0), (9, 0), (9, 0)], qq.2.toList ++ []) :=
  have hK : kt_at 47 = kt_47 := rfl
  (z_R_run hK (n := 4) (g' := (m, 6, [(2, 116), (0, 0), (9, 0), (9, 0)], [(2, 1)])) rfl).trans (z_R_call hK rfl rfl rfl rfl rfl)
theorem s_rnu_9  (m : z_M) (x1 : Int) (u : Int) : z_R 47 (m, 9, [(2, 116), (0, x1), (9, 0), (9, 0)], [(0, u)]) = z_R 47 (m, 12, [(2, 116), (0, x1), (0, u), (0, 0)], []) :=
  have hK : kt_at 47 = kt_47 := rfl
  (z_R_run hK (n := 3) (g' := (m, 12, [(2, 116), (0, x1), (0, u), (0, 0)], [])) rfl).trans (rfl)
theorem s_rnu_12  (m : z_M) (x1 : Int) (x2 : Int) (x3 : Int) : z_R 47 (m, 12, [(2, 116), (0, x1), (0, x2), (0, x3)], []) = if 3 ≤ x3 then (z_R 48 (m, 0, [(2, 116), (0, x1)], [])).bind fun qq => z_R 47 (qq.1, 63, [(2, 116), (0, x1), (0, x2), (0, x3)], qq.2.toList ++ []) else if x2 = (-1) then (z_R 26 (m, 0, [(2, 1), (0, 0)], [])).bind fun qq => z_R 47 (qq.1, 34, [(2, 116), (0, x1), (0, x2), (0, x3)], qq.2.toList ++ []) else (z_R 26 (m, 0, [(2, 1), (0, 1)], [])).bind fun qq => z_R 47 (qq.1, 34, [(2, 116), (0, x1), (0, x2), (0, x3)], qq.2.toList ++ []) :=
  have hK : kt_at 47 = kt_47 := rfl
  (z_R_run hK (n := 2) (g' := (m, 14, [(2, 116), (0, x1), (0, x2), (0, x3)], [(0, 3), (0, x3)])) rfl).trans (z_R_ifd hK (c := 3 ≤ x3) (p1 := 58) (p2 := 17) rfl rfl rfl (fun h1 => (z_R_run hK (n := 2) (g' := (m, 60, [(2, 116), (0, x1), (0, x2), (0, x3)], [(0, x1), (2, 116)])) rfl).trans (z_R_call hK rfl rfl rfl rfl rfl)) (fun h1 => (z_R_run hK (n := 2) (g' := (m, 21, [(2, 116), (0, x1), (0, x2), (0, x3)], [(2, 1)])) rfl).trans ((z_R_run hK (n := 2) (g' := (m, 23, [(2, 116), (0, x1), (0, x2), (0, x3)], [(0, (-1)), (0, x2), (2, 1)])) rfl).trans (z_R_ifd hK (c := x2 = (-1)) (p1 := 30) (p2 := 26) rfl rfl rfl (fun h2 => (z_R_run hK (n := 1) (g' := (m, 31, [(2, 116), (0, x1), (0, x2), (0, x3)], [(0, 0), (2, 1)])) rfl).trans (z_R_call hK rfl rfl rfl rfl rfl)) (fun h2 => (z_R_run hK (n := 2) (g' := (m, 31, [(2, 116), (0, x1), (0, x2), (0, x3)], [(0, 1), (2, 1)])) rfl).trans (z_R_call hK rfl rfl rfl rfl rfl))))))
theorem s_rnu_34  (m : z_M) (x1 : Int) (x2 : Int) (x3 : Int) (u : Int) : z_R 47 (m, 34, [(2, 116), (0, x1), (0, x2), (0, x3)], [(0, u)]) = if u = 0 then (z_R 48 (m, 0, [(2, 116), (0, x1)], [])).bind fun qq => z_R 47 (qq.1, 63, [(2, 116), (0, x1), (0, x2), (0, x3)], qq.2.toList ++ []) else (z_R 23 (m, 0, [(2, 1)], [])).bind fun qq => z_R 47 (qq.1, 51, [(2, 116), (0, z_add (z_mul 10 x1) x2), (0, x2), (0, x3)], qq.2.toList ++ []) :=
  have hK : kt_at 47 = kt_47 := rfl
  z_R_ifd hK (c := u = 0) (p1 := 58) (p2 := 37) rfl rfl rfl (fun h1 => (z_R_run hK (n := 2) (g' := (m, 60, [(2, 116), (0, x1), (0, x2), (0, x3)], [(0, x1), (2, 116)])) rfl).trans (z_R_call hK rfl rfl rfl rfl rfl)) (fun h1 => (z_R_run hK (n := 8) (g' := (m, 48, [(2, 116), (0, z_add (z_mul 10 x1) x2), (0, x2), (0, x3)], [(2, 1)])) rfl).trans (z_R_call hK rfl rfl rfl rfl rfl))
theorem s_rnu_51  (m : z_M) (x1 : Int) (x2 : Int) (x3 : Int) (u : Int) : z_R 47 (m, 51, [(2, 116), (0, x1), (0, x2), (0, x3)], [(0, u)]) = z_R 47 (m, 12, [(2, 116), (0, x1), (0, u), (0, z_add x3 1)], []) :=
  have hK : kt_at 47 = kt_47 := rfl
  (z_R_run hK (n := 3) (g' := (m, 12, [(2, 116), (0, x1), (0, u), (0, z_add x3 1)], [])) rfl).trans (rfl)
theorem s_rnu_63  (m : z_M) (x1 : Int) (x2 : Int) (x3 : Int) : z_R 47 (m, 63, [(2, 116), (0, x1), (0, x2), (0, x3)], []) = some (m, none) :=
  have hK : kt_at 47 = kt_47 := rfl
  z_R_ret hK rfl rfl rfl
theorem s_rem__0  (m : z_M) (c : Int) (h_sz : 0 ≤ m 116 2 ∧ m 116 2 ≤ 40) : z_R 48 (m, 0, [(2, 116), (0, c)], []) = if 40 ≤ m 116 2 then some (m, none) else some (z_up (z_up m 117 (m 116 2).toNat c) 116 2 (m 116 2 + 1), none) :=
  have hK : kt_at 48 = kt_48 := rfl
  (z_R_run hK (n := 4) (g' := (m, 8, [(2, 116), (0, c)], [(2, 117), (0, m 116 2)])) rfl).trans ((z_R_run hK (n := 1) (g' := (m, 9, [(2, 116), (0, c)], [(0, 40), (0, m 116 2)])) rfl).trans (z_R_ifd hK (c := 40 ≤ m 116 2) (p1 := 32) (p2 := 12) rfl rfl rfl (fun h1 => z_R_ret hK rfl rfl rfl) (fun h1 => (z_R_run hK (n := 2) (g' := (m, 16, [(2, 116), (0, c)], [(2, 117)])) rfl).trans ((z_R_run hK (n := 3) (g' := (m, 21, [(2, 116), (0, c)], [(0, c), (0, m 116 2), (2, 117)])) rfl).trans (z_R_ixT hK (n := 40) (g' := (z_up m 117 (m 116 2).toNat c, 22, [(2, 116), (0, c)], [])) rfl rfl rfl (show 0 ≤ m 116 2 ∧ m 116 2 < 40 by omega) ((z_R_run hK (n := 3) (g' := (z_up m 117 (m 116 2).toNat c, 27, [(2, 116), (0, c)], [(0, (z_up m 117 (m 116 2).toNat c) 116 2), (2, 116)])) rfl).trans ((congrArg (fun vv => z_R 48 (z_up m 117 (m 116 2).toNat c, 27, [(2, 116), (0, c)], [(0, vv), (2, 116)])) (zu_p (by decide))).trans ((z_R_run hK (n := 2) (g' := (z_up m 117 (m 116 2).toNat c, 29, [(2, 116), (0, c)], [(0, z_add (m 116 2) 1), (2, 116)])) rfl).trans ((congrArg (fun vv => z_R 48 (z_up m 117 (m 116 2).toNat c, 29, [(2, 116), (0, c)], [(0, vv), (2, 116)])) (z_add_eq (by omega) (by omega))).trans ((z_R_run hK (n := 1) (g' := (z_up (z_up m 117 (m 116 2).toNat c) 116 2 (m 116 2 + 1), 32, [(2, 116), (0, c)], [])) rfl).trans (z_R_ret hK rfl rfl rfl)))))))))))
theorem s_rjo_0  (m : z_M) (s : Int) (b : Int) : z_R 51 (m, 0, [(0, s), (0, b)], []) = if b = 0 then if s = 43 then some (m, some (0, 1)) else if s = 45 then some (m, some (0, 1)) else some (m, some (0, 0)) else if s = 42 then some (m, some (0, 1)) else if s = 47 then some (m, some (0, 1)) else some (m, some (0, 0)) :=
  have hK : kt_at 51 = kt_51 := rfl
  (z_R_run hK (n := 1) (g' := (m, 1, [(0, s), (0, b)], [(0, b)])) rfl).trans (z_R_ifd hK (c := b = 0) (p1 := 24) (p2 := 4) rfl rfl rfl (fun h1 => (z_R_run hK (n := 2) (g' := (m, 27, [(0, s), (0, b)], [(0, 43), (0, s)])) rfl).trans (z_R_ifd hK (c := s = 43) (p1 := 36) (p2 := 30) rfl rfl rfl (fun h2 => (z_R_run hK (n := 2) (g' := (m, 41, [(0, s), (0, b)], [(0, 1)])) rfl).trans (z_R_ret hK rfl rfl rfl)) (fun h2 => (z_R_run hK (n := 2) (g' := (m, 33, [(0, s), (0, b)], [(0, 45), (0, s)])) rfl).trans (z_R_ifnd hK (c := s = 45) (p1 := 40) (p2 := 36) rfl rfl rfl (fun h3 => (z_R_run hK (n := 1) (g' := (m, 41, [(0, s), (0, b)], [(0, 0)])) rfl).trans (z_R_ret hK rfl rfl rfl)) (fun h3 => (z_R_run hK (n := 2) (g' := (m, 41, [(0, s), (0, b)], [(0, 1)])) rfl).trans (z_R_ret hK rfl rfl rfl)))))) (fun h1 => (z_R_run hK (n := 2) (g' := (m, 7, [(0, s), (0, b)], [(0, 42), (0, s)])) rfl).trans (z_R_ifd hK (c := s = 42) (p1 := 16) (p2 := 10) rfl rfl rfl (fun h4 => (z_R_run hK (n := 2) (g' := (m, 41, [(0, s), (0, b)], [(0, 1)])) rfl).trans (z_R_ret hK rfl rfl rfl)) (fun h4 => (z_R_run hK (n := 2) (g' := (m, 13, [(0, s), (0, b)], [(0, 47), (0, s)])) rfl).trans (z_R_ifnd hK (c := s = 47) (p1 := 20) (p2 := 16) rfl rfl rfl (fun h5 => (z_R_run hK (n := 2) (g' := (m, 41, [(0, s), (0, b)], [(0, 0)])) rfl).trans (z_R_ret hK rfl rfl rfl)) (fun h5 => (z_R_run hK (n := 2) (g' := (m, 41, [(0, s), (0, b)], [(0, 1)])) rfl).trans (z_R_ret hK rfl rfl rfl)))))))
theorem s_rul_0  (m : z_M) : z_R 39 (m, 0, [(2, 0), (9, 0)], []) = if m 1 1 = 0 then (z_R 4 (m, 0, [(2, 4)], [])).bind fun qq => z_R 39 (qq.1, 20, [(2, 0), (9, 0)], qq.2.toList ++ []) else (z_R 40 (m, 0, [(2, 116)], [])).bind fun qq => z_R 39 (qq.1, 29, [(2, 0), (9, 0)], qq.2.toList ++ []) :=
  have hK : kt_at 39 = kt_39 := rfl
  (z_R_run hK (n := 2) (g' := (m, 4, [(2, 0), (9, 0)], [(2, 1)])) rfl).trans ((z_R_run hK (n := 1) (g' := (m, 7, [(2, 0), (9, 0)], [(0, m 1 1)])) rfl).trans (z_R_ifnd hK (c := m 1 1 = 0) (p1 := 22) (p2 := 10) rfl rfl rfl (fun h1 => (z_R_run hK (n := 2) (g' := (m, 26, [(2, 0), (9, 0)], [(2, 116)])) rfl).trans (z_R_call hK rfl rfl rfl rfl rfl)) (fun h1 => (z_R_run hK (n := 2) (g' := (m, 14, [(2, 0), (9, 0)], [(2, 3)])) rfl).trans ((z_R_run hK (n := 1) (g' := (m, 17, [(2, 0), (9, 0)], [(2, 4)])) rfl).trans (z_R_call hK rfl rfl rfl rfl rfl)))))
theorem s_rul_20  (m : z_M) : z_R 39 (m, 20, [(2, 0), (9, 0)], []) = some (m, some (0, 0)) :=
  have hK : kt_at 39 = kt_39 := rfl
  (z_R_run hK (n := 1) (g' := (m, 21, [(2, 0), (9, 0)], [(0, 0)])) rfl).trans (z_R_ret hK rfl rfl rfl)
theorem s_rul_29  (m : z_M) (u : Int) : z_R 39 (m, 29, [(2, 0), (9, 0)], [(0, u)]) = (z_R 29 (m, 0, [(2, 1)], [])).bind fun qq => z_R 39 (qq.1, 37, [(2, 0), (0, u)], qq.2.toList ++ []) :=
  have hK : kt_at 39 = kt_39 := rfl
  (z_R_run hK (n := 3) (g' := (m, 34, [(2, 0), (0, u)], [(2, 1)])) rfl).trans (z_R_call hK rfl rfl rfl rfl rfl)
theorem s_rul_37  (m : z_M) (x1 : Int) : z_R 39 (m, 37, [(2, 0), (0, x1)], []) = if x1 = 0 then some (m, some (0, z_sub (-1) (m 1 2))) else (z_R 52 (m, 0, [(2, 4), (2, 117), (0, m 116 2)], [])).bind fun qq => z_R 39 (qq.1, 75, [(2, 0), (0, x1)], qq.2.toList ++ []) :=
  have hK : kt_at 39 = kt_39 := rfl
  (z_R_run hK (n := 1) (g' := (m, 38, [(2, 0), (0, x1)], [(0, x1)])) rfl).trans (z_R_ifnd hK (c := x1 = 0) (p1 := 51) (p2 := 41) rfl rfl rfl (fun h1 => (z_R_run hK (n := 2) (g' := (m, 55, [(2, 0), (0, x1)], [(2, 3)])) rfl).trans ((z_R_run hK (n := 1) (g' := (m, 58, [(2, 0), (0, x1)], [(2, 4)])) rfl).trans ((z_R_run hK (n := 2) (g' := (m, 62, [(2, 0), (0, x1)], [(2, 116), (2, 4)])) rfl).trans ((z_R_run hK (n := 1) (g' := (m, 65, [(2, 0), (0, x1)], [(2, 117), (2, 4)])) rfl).trans ((z_R_run hK (n := 2) (g' := (m, 69, [(2, 0), (0, x1)], [(2, 116), (2, 117), (2, 4)])) rfl).trans ((z_R_run hK (n := 1) (g' := (m, 72, [(2, 0), (0, x1)], [(0, m 116 2), (2, 117), (2, 4)])) rfl).trans (z_R_call hK rfl rfl rfl rfl rfl))))))) (fun h1 => (z_R_run hK (n := 3) (g' := (m, 46, [(2, 0), (0, x1)], [(2, 1), (0, (-1))])) rfl).trans ((z_R_run hK (n := 2) (g' := (m, 50, [(2, 0), (0, x1)], [(0, z_sub (-1) (m 1 2))])) rfl).trans (z_R_ret hK rfl rfl rfl))))
theorem s_rul_75  (m : z_M) (x1 : Int) : z_R 39 (m, 75, [(2, 0), (0, x1)], []) = some (m, some (0, 0)) :=
  have hK : kt_at 39 = kt_39 := rfl
  (z_R_run hK (n := 1) (g' := (m, 76, [(2, 0), (0, x1)], [(0, 0)])) rfl).trans (z_R_ret hK rfl rfl rfl)
theorem t_held_0  (m : z_M) (d : Int) : z_R 176 (m, 0, [(2, 251), (0, d), (9, 0)], []) = (z_R 177 (m, 0, [(2, 251), (0, d), (9, 0), (9, 0), (9, 0)], [])).bind fun qq => z_R 176 (qq.1, 5, [(2, 251), (0, d), (9, 0)], qq.2.toList ++ []) :=
  have hK : kt_at 176 = kt_176 := rfl
  (z_R_run hK (n := 2) (g' := (m, 2, [(2, 251), (0, d), (9, 0)], [(0, d), (2, 251)])) rfl).trans (z_R_call hK rfl rfl rfl rfl rfl)
theorem t_held_5  (m : z_M) (x1 : Int) (u : Int) : z_R 176 (m, 5, [(2, 251), (0, x1), (9, 0)], [(0, u)]) = (z_R 170 (m, 0, [(2, 251), (0, 60)], [])).bind fun qq => z_R 176 (qq.1, 12, [(2, 251), (0, x1), (0, u)], qq.2.toList ++ []) :=
  have hK : kt_at 176 = kt_176 := rfl
  (z_R_run hK (n := 3) (g' := (m, 9, [(2, 251), (0, x1), (0, u)], [(0, 60), (2, 251)])) rfl).trans (z_R_call hK rfl rfl rfl rfl rfl)
theorem t_held_12  (m : z_M) (x1 : Int) (x2 : Int) (u : Int) : z_R 176 (m, 12, [(2, 251), (0, x1), (0, x2)], [(0, u)]) = if u = 0 then (z_R 170 (m, 0, [(2, 251), (0, 62)], [])).bind fun qq => z_R 176 (qq.1, 36, [(2, 251), (0, x1), (0, x2)], qq.2.toList ++ []) else (z_R 177 (m, 0, [(2, 251), (0, x1), (9, 0), (9, 0), (9, 0)], [])).bind fun qq => z_R 176 (qq.1, 21, [(2, 251), (0, x1), (0, x2)], qq.2.toList ++ [(0, x2)]) :=
  have hK : kt_at 176 = kt_176 := rfl
  z_R_ifd hK (c := u = 0) (p1 := 30) (p2 := 15) rfl rfl rfl (fun h1 => (z_R_run hK (n := 2) (g' := (m, 33, [(2, 251), (0, x1), (0, x2)], [(0, 62), (2, 251)])) rfl).trans (z_R_call hK rfl rfl rfl rfl rfl)) (fun h1 => (z_R_run hK (n := 3) (g' := (m, 18, [(2, 251), (0, x1), (0, x2)], [(0, x1), (2, 251), (0, x2)])) rfl).trans (z_R_call hK rfl rfl rfl rfl rfl))
theorem t_held_21  (m : z_M) (x1 : Int) (x2 : Int) (s0 : Int) (u : Int) : z_R 176 (m, 21, [(2, 251), (0, x1), (0, x2)], [(0, u), (0, s0)]) = if u ≤ s0 then some (m, some (0, 0)) else some (m, some (0, 1)) :=
  have hK : kt_at 176 = kt_176 := rfl
  z_R_ifd hK (c := u ≤ s0) (p1 := 28) (p2 := 24) rfl rfl rfl (fun h1 => (z_R_run hK (n := 1) (g' := (m, 29, [(2, 251), (0, x1), (0, x2)], [(0, 0)])) rfl).trans (z_R_ret hK rfl rfl rfl)) (fun h1 => (z_R_run hK (n := 2) (g' := (m, 29, [(2, 251), (0, x1), (0, x2)], [(0, 1)])) rfl).trans (z_R_ret hK rfl rfl rfl))
theorem t_held_36  (m : z_M) (x1 : Int) (x2 : Int) (u : Int) : z_R 176 (m, 36, [(2, 251), (0, x1), (0, x2)], [(0, u)]) = if u = 0 then (z_R 170 (m, 0, [(2, 251), (0, 61)], [])).bind fun qq => z_R 176 (qq.1, 60, [(2, 251), (0, x1), (0, x2)], qq.2.toList ++ []) else (z_R 177 (m, 0, [(2, 251), (0, x1), (9, 0), (9, 0), (9, 0)], [])).bind fun qq => z_R 176 (qq.1, 45, [(2, 251), (0, x1), (0, x2)], qq.2.toList ++ [(0, x2)]) :=
  have hK : kt_at 176 = kt_176 := rfl
  z_R_ifd hK (c := u = 0) (p1 := 54) (p2 := 39) rfl rfl rfl (fun h1 => (z_R_run hK (n := 2) (g' := (m, 57, [(2, 251), (0, x1), (0, x2)], [(0, 61), (2, 251)])) rfl).trans (z_R_call hK rfl rfl rfl rfl rfl)) (fun h1 => (z_R_run hK (n := 3) (g' := (m, 42, [(2, 251), (0, x1), (0, x2)], [(0, x1), (2, 251), (0, x2)])) rfl).trans (z_R_call hK rfl rfl rfl rfl rfl))
theorem t_held_45  (m : z_M) (x1 : Int) (x2 : Int) (s0 : Int) (u : Int) : z_R 176 (m, 45, [(2, 251), (0, x1), (0, x2)], [(0, u), (0, s0)]) = if s0 ≤ u then some (m, some (0, 0)) else some (m, some (0, 1)) :=
  have hK : kt_at 176 = kt_176 := rfl
  z_R_ifd hK (c := s0 ≤ u) (p1 := 52) (p2 := 48) rfl rfl rfl (fun h1 => (z_R_run hK (n := 1) (g' := (m, 53, [(2, 251), (0, x1), (0, x2)], [(0, 0)])) rfl).trans (z_R_ret hK rfl rfl rfl)) (fun h1 => (z_R_run hK (n := 2) (g' := (m, 53, [(2, 251), (0, x1), (0, x2)], [(0, 1)])) rfl).trans (z_R_ret hK rfl rfl rfl))
theorem t_held_60  (m : z_M) (x1 : Int) (x2 : Int) (u : Int) : z_R 176 (m, 60, [(2, 251), (0, x1), (0, x2)], [(0, u)]) = if u = 0 then some (m, some (0, x2)) else (z_R 177 (m, 0, [(2, 251), (0, x1), (9, 0), (9, 0), (9, 0)], [])).bind fun qq => z_R 176 (qq.1, 69, [(2, 251), (0, x1), (0, x2)], qq.2.toList ++ [(0, x2)]) :=
  have hK : kt_at 176 = kt_176 := rfl
  z_R_ifd hK (c := u = 0) (p1 := 78) (p2 := 63) rfl rfl rfl (fun h1 => (z_R_run hK (n := 1) (g' := (m, 79, [(2, 251), (0, x1), (0, x2)], [(0, x2)])) rfl).trans (z_R_ret hK rfl rfl rfl)) (fun h1 => (z_R_run hK (n := 3) (g' := (m, 66, [(2, 251), (0, x1), (0, x2)], [(0, x1), (2, 251), (0, x2)])) rfl).trans (z_R_call hK rfl rfl rfl rfl rfl))
theorem t_held_69  (m : z_M) (x1 : Int) (x2 : Int) (s0 : Int) (u : Int) : z_R 176 (m, 69, [(2, 251), (0, x1), (0, x2)], [(0, u), (0, s0)]) = if s0 = u then some (m, some (0, 1)) else some (m, some (0, 0)) :=
  have hK : kt_at 176 = kt_176 := rfl
  z_R_ifnd hK (c := s0 = u) (p1 := 76) (p2 := 72) rfl rfl rfl (fun h1 => (z_R_run hK (n := 1) (g' := (m, 77, [(2, 251), (0, x1), (0, x2)], [(0, 0)])) rfl).trans (z_R_ret hK rfl rfl rfl)) (fun h1 => (z_R_run hK (n := 2) (g' := (m, 77, [(2, 251), (0, x1), (0, x2)], [(0, 1)])) rfl).trans (z_R_ret hK rfl rfl rfl))
theorem t_sum_0  (m : z_M) (d : Int) : z_R 177 (m, 0, [(2, 251), (0, d), (9, 0), (9, 0), (9, 0)], []) = (z_R 178 (m, 0, [(2, 251), (0, d), (9, 0), (9, 0), (9, 0)], [])).bind fun qq => z_R 177 (qq.1, 5, [(2, 251), (0, d), (9, 0), (9, 0), (9, 0)], qq.2.toList ++ []) :=
  have hK : kt_at 177 = kt_177 := rfl
  (z_R_run hK (n := 2) (g' := (m, 2, [(2, 251), (0, d), (9, 0), (9, 0), (9, 0)], [(0, d), (2, 251)])) rfl).trans (z_R_call hK rfl rfl rfl rfl rfl)
theorem t_sum_5  (m : z_M) (x1 : Int) (u : Int) : z_R 177 (m, 5, [(2, 251), (0, x1), (9, 0), (9, 0), (9, 0)], [(0, u)]) = z_R 177 (m, 6, [(2, 251), (0, x1), (0, u), (9, 0), (9, 0)], []) :=
  have hK : kt_at 177 = kt_177 := rfl
  (z_R_run hK (n := 1) (g' := (m, 6, [(2, 251), (0, x1), (0, u), (9, 0), (9, 0)], [])) rfl).trans (rfl)
theorem t_sum_6  (m : z_M) (x1 : Int) (x2 : Int) (v3 : z_V) (v4 : z_V) : z_R 177 (m, 6, [(2, 251), (0, x1), (0, x2), v3, v4], []) = (z_R 165 (m, 0, [(2, 251)], [])).bind fun qq => z_R 177 (qq.1, 10, [(2, 251), (0, x1), (0, x2), v3, v4], qq.2.toList ++ []) :=
  have hK : kt_at 177 = kt_177 := rfl
  (z_R_run hK (n := 1) (g' := (m, 7, [(2, 251), (0, x1), (0, x2), v3, v4], [(2, 251)])) rfl).trans (z_R_call hK rfl rfl rfl rfl rfl)
theorem t_sum_10  (m : z_M) (x1 : Int) (x2 : Int) (v3 : z_V) (v4 : z_V) (u : Int) : z_R 177 (m, 10, [(2, 251), (0, x1), (0, x2), v3, v4], [(0, u)]) = if u = 0 then some (m, some (0, x2)) else (z_R 168 (m, 0, [(2, 251)], [])).bind fun qq => z_R 177 (qq.1, 17, [(2, 251), (0, x1), (0, x2), v3, v4], qq.2.toList ++ []) :=
  have hK : kt_at 177 = kt_177 := rfl
  z_R_ifd hK (c := u = 0) (p1 := 82) (p2 := 13) rfl rfl rfl (fun h1 => (z_R_run hK (n := 1) (g' := (m, 83, [(2, 251), (0, x1), (0, x2), v3, v4], [(0, x2)])) rfl).trans (z_R_ret hK rfl rfl rfl)) (fun h1 => (z_R_run hK (n := 1) (g' := (m, 14, [(2, 251), (0, x1), (0, x2), v3, v4], [(2, 251)])) rfl).trans (z_R_call hK rfl rfl rfl rfl rfl))
theorem t_sum_17  (m : z_M) (x1 : Int) (x2 : Int) (v3 : z_V) (v4 : z_V) (u : Int) : z_R 177 (m, 17, [(2, 251), (0, x1), (0, x2), v3, v4], [(0, u)]) = if u = 43 then (z_R 168 (m, 0, [(2, 251)], [])).bind fun qq => z_R 177 (qq.1, 35, [(2, 251), (0, x1), (0, x2), v3, v4], qq.2.toList ++ []) else (z_R 168 (m, 0, [(2, 251)], [])).bind fun qq => z_R 177 (qq.1, 26, [(2, 251), (0, x1), (0, x2), v3, v4], qq.2.toList ++ []) :=
  have hK : kt_at 177 = kt_177 := rfl
  (z_R_run hK (n := 1) (g' := (m, 19, [(2, 251), (0, x1), (0, x2), v3, v4], [(0, 43), (0, u)])) rfl).trans (z_R_ifd hK (c := u = 43) (p1 := 31) (p2 := 22) rfl rfl rfl (fun h1 => (z_R_run hK (n := 1) (g' := (m, 32, [(2, 251), (0, x1), (0, x2), v3, v4], [(2, 251)])) rfl).trans (z_R_call hK rfl rfl rfl rfl rfl)) (fun h1 => (z_R_run hK (n := 1) (g' := (m, 23, [(2, 251), (0, x1), (0, x2), v3, v4], [(2, 251)])) rfl).trans (z_R_call hK rfl rfl rfl rfl rfl)))
theorem t_sum_26  (m : z_M) (x1 : Int) (x2 : Int) (v3 : z_V) (v4 : z_V) (u : Int) : z_R 177 (m, 26, [(2, 251), (0, x1), (0, x2), v3, v4], [(0, u)]) = if u = 45 then (z_R 168 (m, 0, [(2, 251)], [])).bind fun qq => z_R 177 (qq.1, 35, [(2, 251), (0, x1), (0, x2), v3, v4], qq.2.toList ++ []) else some (m, some (0, x2)) :=
  have hK : kt_at 177 = kt_177 := rfl
  (z_R_run hK (n := 1) (g' := (m, 28, [(2, 251), (0, x1), (0, x2), v3, v4], [(0, 45), (0, u)])) rfl).trans (z_R_ifnd hK (c := u = 45) (p1 := 82) (p2 := 31) rfl rfl rfl (fun h1 => (z_R_run hK (n := 1) (g' := (m, 83, [(2, 251), (0, x1), (0, x2), v3, v4], [(0, x2)])) rfl).trans (z_R_ret hK rfl rfl rfl)) (fun h1 => (z_R_run hK (n := 1) (g' := (m, 32, [(2, 251), (0, x1), (0, x2), v3, v4], [(2, 251)])) rfl).trans (z_R_call hK rfl rfl rfl rfl rfl)))
theorem t_sum_35  (m : z_M) (x1 : Int) (x2 : Int) (v3 : z_V) (v4 : z_V) (u : Int) : z_R 177 (m, 35, [(2, 251), (0, x1), (0, x2), v3, v4], [(0, u)]) = if u = 43 then (z_R 178 (z_up m 251 15 (z_add (m 251 15) 1), 0, [(2, 251), (0, x1), (9, 0), (9, 0), (9, 0)], [])).bind fun qq => z_R 177 (qq.1, 61, [(2, 251), (0, x1), (0, x2), (0, 1), v4], qq.2.toList ++ []) else (z_R 178 (z_up m 251 15 (z_add (m 251 15) 1), 0, [(2, 251), (0, x1), (9, 0), (9, 0), (9, 0)], [])).bind fun qq => z_R 177 (qq.1, 61, [(2, 251), (0, x1), (0, x2), (0, 0), v4], qq.2.toList ++ []) :=
  have hK : kt_at 177 = kt_177 := rfl
  (z_R_run hK (n := 1) (g' := (m, 37, [(2, 251), (0, x1), (0, x2), v3, v4], [(0, 43), (0, u)])) rfl).trans (z_R_ifnd hK (c := u = 43) (p1 := 44) (p2 := 40) rfl rfl rfl (fun h1 => (z_R_run hK (n := 10) (g' := (z_up m 251 15 (z_add (m 251 15) 1), 58, [(2, 251), (0, x1), (0, x2), (0, 0), v4], [(0, x1), (2, 251)])) rfl).trans (z_R_call hK rfl rfl rfl rfl rfl)) (fun h1 => (z_R_run hK (n := 11) (g' := (z_up m 251 15 (z_add (m 251 15) 1), 58, [(2, 251), (0, x1), (0, x2), (0, 1), v4], [(0, x1), (2, 251)])) rfl).trans (z_R_call hK rfl rfl rfl rfl rfl)))
theorem t_sum_61  (m : z_M) (x1 : Int) (x2 : Int) (x3 : Int) (v4 : z_V) (u : Int) : z_R 177 (m, 61, [(2, 251), (0, x1), (0, x2), (0, x3), v4], [(0, u)]) = if x3 = 0 then z_R 177 (m, 6, [(2, 251), (0, x1), (0, z_sub x2 u), (0, x3), (0, u)], []) else z_R 177 (m, 6, [(2, 251), (0, x1), (0, z_add x2 u), (0, x3), (0, u)], []) :=
  have hK : kt_at 177 = kt_177 := rfl
  (z_R_run hK (n := 2) (g' := (m, 64, [(2, 251), (0, x1), (0, x2), (0, x3), (0, u)], [(0, x3)])) rfl).trans (z_R_ifd hK (c := x3 = 0) (p1 := 74) (p2 := 67) rfl rfl rfl (fun h1 => (z_R_run hK (n := 5) (g' := (m, 6, [(2, 251), (0, x1), (0, z_sub x2 u), (0, x3), (0, u)], [])) rfl).trans (rfl)) (fun h1 => (z_R_run hK (n := 6) (g' := (m, 6, [(2, 251), (0, x1), (0, z_add x2 u), (0, x3), (0, u)], [])) rfl).trans (rfl)))
theorem t_prod_0  (m : z_M) (d : Int) : z_R 178 (m, 0, [(2, 251), (0, d), (9, 0), (9, 0), (9, 0)], []) = (z_R 179 (m, 0, [(2, 251), (0, d), (9, 0), (9, 0)], [])).bind fun qq => z_R 178 (qq.1, 5, [(2, 251), (0, d), (9, 0), (9, 0), (9, 0)], qq.2.toList ++ []) :=
  have hK : kt_at 178 = kt_178 := rfl
  (z_R_run hK (n := 2) (g' := (m, 2, [(2, 251), (0, d), (9, 0), (9, 0), (9, 0)], [(0, d), (2, 251)])) rfl).trans (z_R_call hK rfl rfl rfl rfl rfl)
theorem t_prod_5  (m : z_M) (x1 : Int) (u : Int) : z_R 178 (m, 5, [(2, 251), (0, x1), (9, 0), (9, 0), (9, 0)], [(0, u)]) = z_R 178 (m, 6, [(2, 251), (0, x1), (0, u), (9, 0), (9, 0)], []) :=
  have hK : kt_at 178 = kt_178 := rfl
  (z_R_run hK (n := 1) (g' := (m, 6, [(2, 251), (0, x1), (0, u), (9, 0), (9, 0)], [])) rfl).trans (rfl)
theorem t_prod_6  (m : z_M) (x1 : Int) (x2 : Int) (v3 : z_V) (v4 : z_V) : z_R 178 (m, 6, [(2, 251), (0, x1), (0, x2), v3, v4], []) = (z_R 165 (m, 0, [(2, 251)], [])).bind fun qq => z_R 178 (qq.1, 10, [(2, 251), (0, x1), (0, x2), v3, v4], qq.2.toList ++ []) :=
  have hK : kt_at 178 = kt_178 := rfl
  (z_R_run hK (n := 1) (g' := (m, 7, [(2, 251), (0, x1), (0, x2), v3, v4], [(2, 251)])) rfl).trans (z_R_call hK rfl rfl rfl rfl rfl)
theorem t_prod_10  (m : z_M) (x1 : Int) (x2 : Int) (v3 : z_V) (v4 : z_V) (u : Int) : z_R 178 (m, 10, [(2, 251), (0, x1), (0, x2), v3, v4], [(0, u)]) = if u = 0 then some (m, some (0, x2)) else (z_R 168 (m, 0, [(2, 251)], [])).bind fun qq => z_R 178 (qq.1, 17, [(2, 251), (0, x1), (0, x2), v3, v4], qq.2.toList ++ []) :=
  have hK : kt_at 178 = kt_178 := rfl
  z_R_ifd hK (c := u = 0) (p1 := 91) (p2 := 13) rfl rfl rfl (fun h1 => (z_R_run hK (n := 1) (g' := (m, 92, [(2, 251), (0, x1), (0, x2), v3, v4], [(0, x2)])) rfl).trans (z_R_ret hK rfl rfl rfl)) (fun h1 => (z_R_run hK (n := 1) (g' := (m, 14, [(2, 251), (0, x1), (0, x2), v3, v4], [(2, 251)])) rfl).trans (z_R_call hK rfl rfl rfl rfl rfl))
theorem t_prod_17  (m : z_M) (x1 : Int) (x2 : Int) (v3 : z_V) (v4 : z_V) (u : Int) : z_R 178 (m, 17, [(2, 251), (0, x1), (0, x2), v3, v4], [(0, u)]) = if u = 42 then (z_R 168 (m, 0, [(2, 251)], [])).bind fun qq => z_R 178 (qq.1, 35, [(2, 251), (0, x1), (0, x2), v3, v4], qq.2.toList ++ []) else (z_R 168 (m, 0, [(2, 251)], [])).bind fun qq => z_R 178 (qq.1, 26, [(2, 251), (0, x1), (0, x2), v3, v4], qq.2.toList ++ []) :=
  have hK : kt_at 178 = kt_178 := rfl
  (z_R_run hK (n := 1) (g' := (m, 19, [(2, 251), (0, x1), (0, x2), v3, v4], [(0, 42), (0, u)])) rfl).trans (z_R_ifd hK (c := u = 42) (p1 := 31) (p2 := 22) rfl rfl rfl (fun h1 => (z_R_run hK (n := 1) (g' := (m, 32, [(2, 251), (0, x1), (0, x2), v3, v4], [(2, 251)])) rfl).trans (z_R_call hK rfl rfl rfl rfl rfl)) (fun h1 => (z_R_run hK (n := 1) (g' := (m, 23, [(2, 251), (0, x1), (0, x2), v3, v4], [(2, 251)])) rfl).trans (z_R_call hK rfl rfl rfl rfl rfl)))
theorem t_prod_26  (m : z_M) (x1 : Int) (x2 : Int) (v3 : z_V) (v4 : z_V) (u : Int) : z_R 178 (m, 26, [(2, 251), (0, x1), (0, x2), v3, v4], [(0, u)]) = if u = 47 then (z_R 168 (m, 0, [(2, 251)], [])).bind fun qq => z_R 178 (qq.1, 35, [(2, 251), (0, x1), (0, x2), v3, v4], qq.2.toList ++ []) else some (m, some (0, x2)) :=
  have hK : kt_at 178 = kt_178 := rfl
  (z_R_run hK (n := 1) (g' := (m, 28, [(2, 251), (0, x1), (0, x2), v3, v4], [(0, 47), (0, u)])) rfl).trans (z_R_ifnd hK (c := u = 47) (p1 := 91) (p2 := 31) rfl rfl rfl (fun h1 => (z_R_run hK (n := 1) (g' := (m, 92, [(2, 251), (0, x1), (0, x2), v3, v4], [(0, x2)])) rfl).trans (z_R_ret hK rfl rfl rfl)) (fun h1 => (z_R_run hK (n := 1) (g' := (m, 32, [(2, 251), (0, x1), (0, x2), v3, v4], [(2, 251)])) rfl).trans (z_R_call hK rfl rfl rfl rfl rfl)))
theorem t_prod_35  (m : z_M) (x1 : Int) (x2 : Int) (v3 : z_V) (v4 : z_V) (u : Int) : z_R 178 (m, 35, [(2, 251), (0, x1), (0, x2), v3, v4], [(0, u)]) = if u = 42 then (z_R 179 (z_up m 251 15 (z_add (m 251 15) 1), 0, [(2, 251), (0, x1), (9, 0), (9, 0)], [])).bind fun qq => z_R 178 (qq.1, 61, [(2, 251), (0, x1), (0, x2), (0, 1), v4], qq.2.toList ++ []) else (z_R 179 (z_up m 251 15 (z_add (m 251 15) 1), 0, [(2, 251), (0, x1), (9, 0), (9, 0)], [])).bind fun qq => z_R 178 (qq.1, 61, [(2, 251), (0, x1), (0, x2), (0, 0), v4], qq.2.toList ++ []) :=
  have hK : kt_at 178 = kt_178 := rfl
  (z_R_run hK (n := 1) (g' := (m, 37, [(2, 251), (0, x1), (0, x2), v3, v4], [(0, 42), (0, u)])) rfl).trans (z_R_ifnd hK (c := u = 42) (p1 := 44) (p2 := 40) rfl rfl rfl (fun h1 => (z_R_run hK (n := 10) (g' := (z_up m 251 15 (z_add (m 251 15) 1), 58, [(2, 251), (0, x1), (0, x2), (0, 0), v4], [(0, x1), (2, 251)])) rfl).trans (z_R_call hK rfl rfl rfl rfl rfl)) (fun h1 => (z_R_run hK (n := 11) (g' := (z_up m 251 15 (z_add (m 251 15) 1), 58, [(2, 251), (0, x1), (0, x2), (0, 1), v4], [(0, x1), (2, 251)])) rfl).trans (z_R_call hK rfl rfl rfl rfl rfl)))
theorem t_prod_61  (m : z_M) (x1 : Int) (x2 : Int) (x3 : Int) (v4 : z_V) (u : Int) : z_R 178 (m, 61, [(2, 251), (0, x1), (0, x2), (0, x3), v4], [(0, u)]) = if x3 = 0 then if u = 0 then z_R 178 (m, 6, [(2, 251), (0, x1), (0, 0), (0, x3), (0, u)], []) else if u = 0 then none else z_R 178 (m, 6, [(2, 251), (0, x1), (0, z_div x2 u), (0, x3), (0, u)], []) else z_R 178 (m, 6, [(2, 251), (0, x1), (0, z_mul x2 u), (0, x3), (0, u)], []) :=
  have hK : kt_at 178 = kt_178 := rfl
  (z_R_run hK (n := 2) (g' := (m, 64, [(2, 251), (0, x1), (0, x2), (0, x3), (0, u)], [(0, x3)])) rfl).trans (z_R_ifd hK (c := x3 = 0) (p1 := 74) (p2 := 67) rfl rfl rfl (fun h1 => (z_R_run hK (n := 1) (g' := (m, 76, [(2, 251), (0, x1), (0, x2), (0, x3), (0, u)], [(0, u)])) rfl).trans (z_R_ifnd hK (c := u = 0) (p1 := 83) (p2 := 79) rfl rfl rfl (fun h2 => (z_R_run hK (n := 2) (g' := (m, 86, [(2, 251), (0, x1), (0, x2), (0, x3), (0, u)], [(0, u), (0, x2)])) rfl).trans (z_R_dvD hK (d := u) rfl rfl rfl (fun h3 => (z_R_run hK (n := 2) (g' := (m, 6, [(2, 251), (0, x1), (0, z_div x2 u), (0, x3), (0, u)], [])) rfl).trans (rfl)))) (fun h2 => (z_R_run hK (n := 4) (g' := (m, 6, [(2, 251), (0, x1), (0, 0), (0, x3), (0, u)], [])) rfl).trans (rfl)))) (fun h1 => (z_R_run hK (n := 6) (g' := (m, 6, [(2, 251), (0, x1), (0, z_mul x2 u), (0, x3), (0, u)], [])) rfl).trans (rfl)))
theorem t_thing_0  (m : z_M) (d : Int) : z_R 179 (m, 0, [(2, 251), (0, d), (9, 0), (9, 0)], []) = (z_R 170 (m, 0, [(2, 251), (0, 45)], [])).bind fun qq => z_R 179 (qq.1, 6, [(2, 251), (0, d), (9, 0), (9, 0)], qq.2.toList ++ []) :=
  have hK : kt_at 179 = kt_179 := rfl
  (z_R_run hK (n := 2) (g' := (m, 3, [(2, 251), (0, d), (9, 0), (9, 0)], [(0, 45), (2, 251)])) rfl).trans (z_R_call hK rfl rfl rfl rfl rfl)
theorem t_thing_6  (m : z_M) (x1 : Int) (u : Int) : z_R 179 (m, 6, [(2, 251), (0, x1), (9, 0), (9, 0)], [(0, u)]) = if u = 0 then (z_R 165 (m, 0, [(2, 251)], [])).bind fun qq => z_R 179 (qq.1, 20, [(2, 251), (0, x1), (9, 0), (9, 0)], qq.2.toList ++ []) else (z_R 179 (m, 0, [(2, 251), (0, x1), (9, 0), (9, 0)], [])).bind fun qq => z_R 179 (qq.1, 14, [(2, 251), (0, x1), (9, 0), (9, 0)], qq.2.toList ++ []) :=
  have hK : kt_at 179 = kt_179 := rfl
  z_R_ifd hK (c := u = 0) (p1 := 16) (p2 := 9) rfl rfl rfl (fun h1 => (z_R_run hK (n := 1) (g' := (m, 17, [(2, 251), (0, x1), (9, 0), (9, 0)], [(2, 251)])) rfl).trans (z_R_call hK rfl rfl rfl rfl rfl)) (fun h1 => (z_R_run hK (n := 2) (g' := (m, 11, [(2, 251), (0, x1), (9, 0), (9, 0)], [(0, x1), (2, 251)])) rfl).trans (z_R_call hK rfl rfl rfl rfl rfl))
theorem t_thing_14  (m : z_M) (x1 : Int) (u : Int) : z_R 179 (m, 14, [(2, 251), (0, x1), (9, 0), (9, 0)], [(0, u)]) = some (m, some (0, z_neg u)) :=
  have hK : kt_at 179 = kt_179 := rfl
  (z_R_run hK (n := 1) (g' := (m, 15, [(2, 251), (0, x1), (9, 0), (9, 0)], [(0, z_neg u)])) rfl).trans (z_R_ret hK rfl rfl rfl)
theorem t_thing_20  (m : z_M) (x1 : Int) (u : Int) : z_R 179 (m, 20, [(2, 251), (0, x1), (9, 0), (9, 0)], [(0, u)]) = if u = 0 then some (m, some (0, 0)) else (z_R 168 (m, 0, [(2, 251)], [])).bind fun qq => z_R 179 (qq.1, 29, [(2, 251), (0, x1), (9, 0), (9, 0)], qq.2.toList ++ []) :=
  have hK : kt_at 179 = kt_179 := rfl
  z_R_ifnd hK (c := u = 0) (p1 := 25) (p2 := 23) rfl rfl rfl (fun h1 => (z_R_run hK (n := 1) (g' := (m, 26, [(2, 251), (0, x1), (9, 0), (9, 0)], [(2, 251)])) rfl).trans (z_R_call hK rfl rfl rfl rfl rfl)) (fun h1 => (z_R_run hK (n := 1) (g' := (m, 24, [(2, 251), (0, x1), (9, 0), (9, 0)], [(0, 0)])) rfl).trans (z_R_ret hK rfl rfl rfl))
theorem t_thing_29  (m : z_M) (x1 : Int) (u : Int) : z_R 179 (m, 29, [(2, 251), (0, x1), (9, 0), (9, 0)], [(0, u)]) = if u = 40 then if 4 ≤ x1 then (z_R 162 (m, 0, [(0, u), (0, 48), (0, 57)], [])).bind fun qq => z_R 179 (qq.1, 75, [(2, 251), (0, x1), (0, u), (9, 0)], qq.2.toList ++ []) else (z_R 176 (z_up m 251 15 (z_add (m 251 15) 1), 0, [(2, 251), (0, z_add x1 1), (9, 0)], [])).bind fun qq => z_R 179 (qq.1, 58, [(2, 251), (0, x1), (0, u), (9, 0)], qq.2.toList ++ []) else (z_R 162 (m, 0, [(0, u), (0, 48), (0, 57)], [])).bind fun qq => z_R 179 (qq.1, 75, [(2, 251), (0, x1), (0, u), (9, 0)], qq.2.toList ++ []) :=
  have hK : kt_at 179 = kt_179 := rfl
  (z_R_run hK (n := 3) (g' := (m, 33, [(2, 251), (0, x1), (0, u), (9, 0)], [(0, 40), (0, u)])) rfl).trans (z_R_ifnd hK (c := u = 40) (p1 := 67) (p2 := 36) rfl rfl rfl (fun h1 => (z_R_run hK (n := 3) (g' := (m, 72, [(2, 251), (0, x1), (0, u), (9, 0)], [(0, 57), (0, 48), (0, u)])) rfl).trans (z_R_call hK rfl rfl rfl rfl rfl)) (fun h1 => (z_R_run hK (n := 2) (g' := (m, 38, [(2, 251), (0, x1), (0, u), (9, 0)], [(0, 4), (0, x1)])) rfl).trans (z_R_ifd hK (c := 4 ≤ x1) (p1 := 67) (p2 := 41) rfl rfl rfl (fun h2 => (z_R_run hK (n := 3) (g' := (m, 72, [(2, 251), (0, x1), (0, u), (9, 0)], [(0, 57), (0, 48), (0, u)])) rfl).trans (z_R_call hK rfl rfl rfl rfl rfl)) (fun h2 => (z_R_run hK (n := 10) (g' := (z_up m 251 15 (z_add (m 251 15) 1), 55, [(2, 251), (0, x1), (0, u), (9, 0)], [(0, z_add x1 1), (2, 251)])) rfl).trans (z_R_call hK rfl rfl rfl rfl rfl)))))
theorem t_thing_58  (m : z_M) (x1 : Int) (x2 : Int) (u : Int) : z_R 179 (m, 58, [(2, 251), (0, x1), (0, x2), (9, 0)], [(0, u)]) = (z_R 174 (m, 0, [(2, 251), (0, 41)], [])).bind fun qq => z_R 179 (qq.1, 65, [(2, 251), (0, x1), (0, x2), (0, u)], qq.2.toList ++ []) :=
  have hK : kt_at 179 = kt_179 := rfl
  (z_R_run hK (n := 3) (g' := (m, 62, [(2, 251), (0, x1), (0, x2), (0, u)], [(0, 41), (2, 251)])) rfl).trans (z_R_call hK rfl rfl rfl rfl rfl)
theorem t_thing_65  (m : z_M) (x1 : Int) (x2 : Int) (x3 : Int) : z_R 179 (m, 65, [(2, 251), (0, x1), (0, x2), (0, x3)], []) = some (m, some (0, x3)) :=
  have hK : kt_at 179 = kt_179 := rfl
  (z_R_run hK (n := 1) (g' := (m, 66, [(2, 251), (0, x1), (0, x2), (0, x3)], [(0, x3)])) rfl).trans (z_R_ret hK rfl rfl rfl)
theorem t_thing_75  (m : z_M) (x1 : Int) (x2 : Int) (u : Int) : z_R 179 (m, 75, [(2, 251), (0, x1), (0, x2), (9, 0)], [(0, u)]) = if u = 0 then (z_R 180 (m, 0, [(0, x2)], [])).bind fun qq => z_R 179 (qq.1, 88, [(2, 251), (0, x1), (0, x2), (9, 0)], qq.2.toList ++ []) else (z_R 166 (m, 0, [(2, 251), (0, 3), (9, 0), (9, 0)], [])).bind fun qq => z_R 179 (qq.1, 83, [(2, 251), (0, x1), (0, x2), (9, 0)], qq.2.toList ++ []) :=
  have hK : kt_at 179 = kt_179 := rfl
  z_R_ifd hK (c := u = 0) (p1 := 84) (p2 := 78) rfl rfl rfl (fun h1 => (z_R_run hK (n := 1) (g' := (m, 85, [(2, 251), (0, x1), (0, x2), (9, 0)], [(0, x2)])) rfl).trans (z_R_call hK rfl rfl rfl rfl rfl)) (fun h1 => (z_R_run hK (n := 2) (g' := (m, 80, [(2, 251), (0, x1), (0, x2), (9, 0)], [(0, 3), (2, 251)])) rfl).trans (z_R_call hK rfl rfl rfl rfl rfl))
theorem t_thing_83  (m : z_M) (x1 : Int) (x2 : Int) (u : Int) : z_R 179 (m, 83, [(2, 251), (0, x1), (0, x2), (9, 0)], [(0, u)]) = some (m, some (0, u)) :=
  have hK : kt_at 179 = kt_179 := rfl
  z_R_ret hK rfl rfl rfl
theorem t_thing_88  (m : z_M) (x1 : Int) (x2 : Int) (u : Int) : z_R 179 (m, 88, [(2, 251), (0, x1), (0, x2), (9, 0)], [(0, u)]) = if u = (-1) then (z_R 169 (m, 0, [(2, 251), (0, m 251 15)], [])).bind fun qq => z_R 179 (qq.1, 100, [(2, 251), (0, x1), (0, x2), (9, 0)], qq.2.toList ++ []) else if m 251 21 = 0 then some (z_up m 251 15 (z_add (m 251 15) 1), some (0, 0)) else (z_R 180 (z_up m 251 15 (z_add (m 251 15) 1), 0, [(0, x2)], [])).bind fun qq => z_R 179 (qq.1, 127, [(2, 251), (0, x1), (0, x2), (9, 0)], qq.2.toList ++ [(2, 259)]) :=
  have hK : kt_at 179 = kt_179 := rfl
  (z_R_run hK (n := 1) (g' := (m, 89, [(2, 251), (0, x1), (0, x2), (9, 0)], [(0, (-1)), (0, u)])) rfl).trans (z_R_ifnd hK (c := u = (-1)) (p1 := 102) (p2 := 92) rfl rfl rfl (fun h1 => (z_R_run hK (n := 8) (g' := (z_up m 251 15 (z_add (m 251 15) 1), 116, [(2, 251), (0, x1), (0, x2), (9, 0)], [(0, (z_up m 251 15 (z_add (m 251 15) 1)) 251 21)])) rfl).trans ((congrArg (fun vv => z_R 179 (z_up m 251 15 (z_add (m 251 15) 1), 116, [(2, 251), (0, x1), (0, x2), (9, 0)], [(0, vv)])) (zu_k (by decide))).trans (z_R_ifd hK (c := m 251 21 = 0) (p1 := 131) (p2 := 119) rfl rfl rfl (fun h2 => (z_R_run hK (n := 1) (g' := (z_up m 251 15 (z_add (m 251 15) 1), 132, [(2, 251), (0, x1), (0, x2), (9, 0)], [(0, 0)])) rfl).trans (z_R_ret hK rfl rfl rfl)) (fun h2 => (z_R_run hK (n := 2) (g' := (z_up m 251 15 (z_add (m 251 15) 1), 123, [(2, 251), (0, x1), (0, x2), (9, 0)], [(2, 259)])) rfl).trans ((z_R_run hK (n := 1) (g' := (z_up m 251 15 (z_add (m 251 15) 1), 124, [(2, 251), (0, x1), (0, x2), (9, 0)], [(0, x2), (2, 259)])) rfl).trans (z_R_call hK rfl rfl rfl rfl rfl)))))) (fun h1 => (z_R_run hK (n := 3) (g' := (m, 97, [(2, 251), (0, x1), (0, x2), (9, 0)], [(0, m 251 15), (2, 251)])) rfl).trans (z_R_call hK rfl rfl rfl rfl rfl)))
theorem t_thing_100  (m : z_M) (x1 : Int) (x2 : Int) : z_R 179 (m, 100, [(2, 251), (0, x1), (0, x2), (9, 0)], []) = some (m, some (0, 0)) :=
  have hK : kt_at 179 = kt_179 := rfl
  (z_R_run hK (n := 1) (g' := (m, 101, [(2, 251), (0, x1), (0, x2), (9, 0)], [(0, 0)])) rfl).trans (z_R_ret hK rfl rfl rfl)
theorem t_thing_127  (m : z_M) (x1 : Int) (x2 : Int) (u : Int) : z_R 179 (m, 127, [(2, 251), (0, x1), (0, x2), (9, 0)], [(0, u), (2, 259)]) = if 0 ≤ u ∧ u < 7 then some (m, some (0, m 259 (u).toNat)) else none :=
  have hK : kt_at 179 = kt_179 := rfl
  z_R_ixD hK (n := 7) (g' := (m, 128, [(2, 251), (0, x1), (0, x2), (9, 0)], [(0, m 259 (u).toNat)])) rfl rfl rfl  (fun h1 => (z_R_run hK (n := 1) (g' := (m, 132, [(2, 251), (0, x1), (0, x2), (9, 0)], [(0, m 259 (u).toNat)])) rfl).trans (z_R_ret hK rfl rfl rfl))
theorem t_letter_0  (m : z_M) (c : Int) : z_R 180 (m, 0, [(0, c)], []) = if c = 119 then some (m, some (0, 0)) else if c = 105 then some (m, some (0, 1)) else if c = 97 then some (m, some (0, 2)) else if c = 102 then some (m, some (0, 3)) else if c = 121 then some (m, some (0, 4)) else if c = 110 then some (m, some (0, 5)) else if c = 104 then some (m, some (0, 6)) else some (m, some (0, (-1))) :=
  have hK : kt_at 180 = kt_180 := rfl
  (z_R_run hK (n := 2) (g' := (m, 3, [(0, c)], [(0, 119), (0, c)])) rfl).trans (z_R_ifnd hK (c := c = 119) (p1 := 10) (p2 := 6) rfl rfl rfl (fun h1 => (z_R_run hK (n := 2) (g' := (m, 13, [(0, c)], [(0, 105), (0, c)])) rfl).trans (z_R_ifnd hK (c := c = 105) (p1 := 20) (p2 := 16) rfl rfl rfl (fun h2 => (z_R_run hK (n := 2) (g' := (m, 23, [(0, c)], [(0, 97), (0, c)])) rfl).trans (z_R_ifnd hK (c := c = 97) (p1 := 30) (p2 := 26) rfl rfl rfl (fun h3 => (z_R_run hK (n := 2) (g' := (m, 33, [(0, c)], [(0, 102), (0, c)])) rfl).trans (z_R_ifnd hK (c := c = 102) (p1 := 40) (p2 := 36) rfl rfl rfl (fun h4 => (z_R_run hK (n := 2) (g' := (m, 43, [(0, c)], [(0, 121), (0, c)])) rfl).trans (z_R_ifnd hK (c := c = 121) (p1 := 50) (p2 := 46) rfl rfl rfl (fun h5 => (z_R_run hK (n := 2) (g' := (m, 53, [(0, c)], [(0, 110), (0, c)])) rfl).trans (z_R_ifnd hK (c := c = 110) (p1 := 60) (p2 := 56) rfl rfl rfl (fun h6 => (z_R_run hK (n := 2) (g' := (m, 63, [(0, c)], [(0, 104), (0, c)])) rfl).trans (z_R_ifnd hK (c := c = 104) (p1 := 71) (p2 := 66) rfl rfl rfl (fun h7 => (z_R_run hK (n := 1) (g' := (m, 72, [(0, c)], [(0, (-1))])) rfl).trans (z_R_ret hK rfl rfl rfl)) (fun h7 => (z_R_run hK (n := 2) (g' := (m, 72, [(0, c)], [(0, 6)])) rfl).trans (z_R_ret hK rfl rfl rfl)))) (fun h6 => (z_R_run hK (n := 2) (g' := (m, 72, [(0, c)], [(0, 5)])) rfl).trans (z_R_ret hK rfl rfl rfl)))) (fun h5 => (z_R_run hK (n := 2) (g' := (m, 72, [(0, c)], [(0, 4)])) rfl).trans (z_R_ret hK rfl rfl rfl)))) (fun h4 => (z_R_run hK (n := 2) (g' := (m, 72, [(0, c)], [(0, 3)])) rfl).trans (z_R_ret hK rfl rfl rfl)))) (fun h3 => (z_R_run hK (n := 2) (g' := (m, 72, [(0, c)], [(0, 2)])) rfl).trans (z_R_ret hK rfl rfl rfl)))) (fun h2 => (z_R_run hK (n := 2) (g' := (m, 72, [(0, c)], [(0, 1)])) rfl).trans (z_R_ret hK rfl rfl rfl)))) (fun h1 => (z_R_run hK (n := 2) (g' := (m, 72, [(0, c)], [(0, 0)])) rfl).trans (z_R_ret hK rfl rfl rfl)))
theorem t_rule_0  (m : z_M) : z_R 175 (m, 0, [(2, 251), (9, 0), (9, 0)], []) = (z_R 164 (z_up m 251 11 0, 0, [(2, 251), (2, 254), (0, m 251 8), (0, 40)], [])).bind fun qq => z_R 175 (qq.1, 21, [(2, 251), (0, m 251 8), (9, 0)], qq.2.toList ++ []) :=
  have hK : kt_at 175 = kt_175 := rfl
  (z_R_run hK (n := 5) (g' := (z_up m 251 11 0, 9, [(2, 251), (9, 0), (9, 0)], [(0, (z_up m 251 11 0) 251 8)])) rfl).trans ((congrArg (fun vv => z_R 175 (z_up m 251 11 0, 9, [(2, 251), (9, 0), (9, 0)], [(0, vv)])) (zu_k (by decide))).trans ((z_R_run hK (n := 4) (g' := (z_up m 251 11 0, 15, [(2, 251), (0, m 251 8), (9, 0)], [(2, 254), (2, 251)])) rfl).trans ((z_R_run hK (n := 2) (g' := (z_up m 251 11 0, 18, [(2, 251), (0, m 251 8), (9, 0)], [(0, 40), (0, m 251 8), (2, 254), (2, 251)])) rfl).trans (z_R_call hK rfl rfl rfl rfl rfl))))
theorem t_rule_21  (m : z_M) (x1 : Int) : z_R 175 (m, 21, [(2, 251), (0, x1), (9, 0)], []) = if x1 ≤ 0 then z_R 175 (z_up (z_up m 251 8 0) 251 21 0, 73, [(2, 251), (0, x1), (0, 0)], []) else (z_R 176 (z_up (z_up m 251 8 0) 251 21 0, 0, [(2, 251), (0, 0), (9, 0)], [])).bind fun qq => z_R 175 (qq.1, 40, [(2, 251), (0, x1), (9, 0)], qq.2.toList ++ []) :=
  have hK : kt_at 175 = kt_175 := rfl
  (z_R_run hK (n := 7) (g' := (z_up (z_up m 251 8 0) 251 21 0, 32, [(2, 251), (0, x1), (9, 0)], [(0, x1)])) rfl).trans (z_R_ifd hK (c := x1 ≤ 0) (p1 := 71) (p2 := 35) rfl rfl rfl (fun h1 => (z_R_run hK (n := 2) (g' := (z_up (z_up m 251 8 0) 251 21 0, 73, [(2, 251), (0, x1), (0, 0)], [])) rfl).trans (rfl)) (fun h1 => (z_R_run hK (n := 2) (g' := (z_up (z_up m 251 8 0) 251 21 0, 37, [(2, 251), (0, x1), (9, 0)], [(0, 0), (2, 251)])) rfl).trans (z_R_call hK rfl rfl rfl rfl rfl)))
theorem t_rule_40  (m : z_M) (x1 : Int) (u : Int) : z_R 175 (m, 40, [(2, 251), (0, x1), (9, 0)], [(0, u)]) = if x1 ≤ m 251 15 then (z_R 165 (m, 0, [(2, 251)], [])).bind fun qq => z_R 175 (qq.1, 61, [(2, 251), (0, x1), (9, 0)], qq.2.toList ++ []) else (z_R 169 (m, 0, [(2, 251), (0, m 251 15)], [])).bind fun qq => z_R 175 (qq.1, 57, [(2, 251), (0, x1), (9, 0)], qq.2.toList ++ []) :=
  have hK : kt_at 175 = kt_175 := rfl
  (z_R_run hK (n := 4) (g' := (m, 46, [(2, 251), (0, x1), (9, 0)], [(0, x1), (0, m 251 15)])) rfl).trans (z_R_ifd hK (c := x1 ≤ m 251 15) (p1 := 57) (p2 := 49) rfl rfl rfl (fun h1 => (z_R_run hK (n := 1) (g' := (m, 58, [(2, 251), (0, x1), (9, 0)], [(2, 251)])) rfl).trans (z_R_call hK rfl rfl rfl rfl rfl)) (fun h1 => (z_R_run hK (n := 3) (g' := (m, 54, [(2, 251), (0, x1), (9, 0)], [(0, m 251 15), (2, 251)])) rfl).trans (z_R_call hK rfl rfl rfl rfl rfl)))
theorem t_rule_57  (m : z_M) (x1 : Int) : z_R 175 (m, 57, [(2, 251), (0, x1), (9, 0)], []) = (z_R 165 (m, 0, [(2, 251)], [])).bind fun qq => z_R 175 (qq.1, 61, [(2, 251), (0, x1), (9, 0)], qq.2.toList ++ []) :=
  have hK : kt_at 175 = kt_175 := rfl
  (z_R_run hK (n := 1) (g' := (m, 58, [(2, 251), (0, x1), (9, 0)], [(2, 251)])) rfl).trans (z_R_call hK rfl rfl rfl rfl rfl)
theorem t_rule_61  (m : z_M) (x1 : Int) (u : Int) : z_R 175 (m, 61, [(2, 251), (0, x1), (9, 0)], [(0, u)]) = if u = 0 then some (m, some (0, z_sub (-1) (m 251 16))) else z_R 175 (m, 73, [(2, 251), (0, x1), (0, 0)], []) :=
  have hK : kt_at 175 = kt_175 := rfl
  z_R_ifnd hK (c := u = 0) (p1 := 71) (p2 := 64) rfl rfl rfl (fun h1 => (z_R_run hK (n := 2) (g' := (m, 73, [(2, 251), (0, x1), (0, 0)], [])) rfl).trans (rfl)) (fun h1 => (z_R_run hK (n := 4) (g' := (m, 70, [(2, 251), (0, x1), (9, 0)], [(0, z_sub (-1) (m 251 16))])) rfl).trans (z_R_ret hK rfl rfl rfl))
theorem t_rule_73  (m : z_M) (x1 : Int) (x2 : Int) : z_R 175 (m, 73, [(2, 251), (0, x1), (0, x2)], []) = if x1 ≤ x2 then some (z_up m 251 20 x1, some (0, 0)) else if 0 ≤ x2 ∧ x2 < 80 then if 0 ≤ x2 ∧ x2 < 40 then z_R 175 (z_up m 258 (x2).toNat (z_by (m 254 (x2).toNat)), 73, [(2, 251), (0, x1), (0, x2 + 1)], []) else none else none :=
  have hK : kt_at 175 = kt_175 := rfl
  (z_R_run hK (n := 2) (g' := (m, 75, [(2, 251), (0, x1), (0, x2)], [(0, x1), (0, x2)])) rfl).trans (z_R_ifd hK (c := x1 ≤ x2) (p1 := 96) (p2 := 78) rfl rfl rfl (fun h1 => (z_R_run hK (n := 4) (g' := (z_up m 251 20 x1, 102, [(2, 251), (0, x1), (0, x2)], [(0, 0)])) rfl).trans (z_R_ret hK rfl rfl rfl)) (fun h1 => (z_R_run hK (n := 2) (g' := (m, 82, [(2, 251), (0, x1), (0, x2)], [(2, 258)])) rfl).trans ((z_R_run hK (n := 3) (g' := (m, 87, [(2, 251), (0, x1), (0, x2)], [(2, 254), (0, x2), (2, 258)])) rfl).trans ((z_R_run hK (n := 1) (g' := (m, 88, [(2, 251), (0, x1), (0, x2)], [(0, x2), (2, 254), (0, x2), (2, 258)])) rfl).trans (z_R_ixD hK (n := 80) (g' := (m, 89, [(2, 251), (0, x1), (0, x2)], [(0, m 254 (x2).toNat), (0, x2), (2, 258)])) rfl rfl rfl  (fun h2 => z_R_ixD hK (n := 40) (g' := (z_up m 258 (x2).toNat (z_by (m 254 (x2).toNat)), 90, [(2, 251), (0, x1), (0, x2)], [])) rfl rfl rfl (fun h3 => (z_R_run hK (n := 1) (g' := (z_up m 258 (x2).toNat (z_by (m 254 (x2).toNat)), 93, [(2, 251), (0, x1), (0, z_add x2 1)], [])) rfl).trans ((congrArg (fun vv => z_R 175 (z_up m 258 (x2).toNat (z_by (m 254 (x2).toNat)), 93, [(2, 251), (0, x1), (0, vv)], [])) (z_add_eq (by omega) (by omega))).trans ((z_R_run hK (n := 1) (g' := (z_up m 258 (x2).toNat (z_by (m 254 (x2).toNat)), 73, [(2, 251), (0, x1), (0, x2 + 1)], [])) rfl).trans (rfl))))))))))
end
section
/-! THE CLASS READS A RULE -/
def wr : (Nat → Int) → Nat → List Int → (Nat → Int)
  | row, _, [] => row
  | row, n, c :: cs => wr (u_up row n c) (n + 1) cs
theorem wr_app : ∀ (a b : List Int) (row : Nat → Int) (n : Nat), wr row n (a ++ b) = wr (wr row n a) (n + a.length) b
  | [], b, row, n => rfl
  | c :: a, b, row, n => by
    show wr (u_up row n c) (n + 1) (a ++ b) = wr (wr (u_up row n c) (n + 1) a) (n + (a.length + 1)) b
    rw [wr_app a b, show n + 1 + a.length = n + (a.length + 1) by omega]
def okf (b : Bool) : Int := bif b then 1 else 0
abbrev c_RL : List (Nat × Nat × Nat) := [(1, 2, 2), (116, 2, 2), (117, 0, 39)]
/-- what a part of it leaves -/
def c_RP (m m' : z_M) (r : q_Q) : Prop := z_same c_RL m m' ∧ m' 1 2 = r.2.1 ∧ (0 ≤ m' 116 2 ∧ m' 116 2 ≤ 40) ∧ (r.1 = true → m' 116 2 = m 116 2 + ((r.2.2).length : Int) ∧ m' 117 = wr (m 117) (m 116 2).toNat r.2.2)
/-- where it may begin -/
def c_RB (g : Int → Int) (m : z_M) : Prop := u_g m = g ∧ m 1 1 ≤ 80 ∧ (0 ≤ m 1 2 ∧ m 1 2 ≤ 40) ∧ 0 ≤ m 116 2 ∧ m 116 2 ≤ m 1 2
theorem u_g_RL {m m' : z_M} (h : z_same c_RL m m') : u_g m' = u_g m := u_g_eq (h.ofr (by (try unfold c_RL); (repeat' (first | exact trivial | refine z_ofr_c ?_ ?_)) <;> omega)) (h.of (by (try unfold c_RL); (repeat' (first | exact trivial | refine z_of_c ?_ ?_)) <;> omega)) (h.of (by (try unfold c_RL); (repeat' (first | exact trivial | refine z_of_c ?_ ?_)) <;> omega))
theorem c_emit (m : z_M) (c : Int) (h0 : 0 ≤ m 116 2) (h1 : m 116 2 ≤ 40) : ∃ m', z_R 48 (m, 0, [(2, 116), (0, c)], []) = some (m', none) ∧ z_same c_RL m m' ∧ m' 1 2 = m 1 2 ∧ (0 ≤ m' 116 2 ∧ m' 116 2 ≤ 40) ∧ (m 116 2 < 40 → m' 116 2 = m 116 2 + 1 ∧ m' 117 = u_up (m 117) (m 116 2).toNat c) := by
  rw [s_rem__0 m c ⟨h0, h1⟩]
  by_cases h : 40 ≤ m 116 2
  · rw [if_pos h]
    exact ⟨m, rfl, z_same.rf, rfl, ⟨h0, h1⟩, fun z => by omega⟩
  · rw [if_neg h]
    refine ⟨_, rfl, (z_same.rf.upo (by (try unfold c_RL); first | exact z_on_h rfl (by omega) (by omega) | exact z_on_t (z_on_h rfl (by omega) (by omega)) | exact z_on_t (z_on_t (z_on_h rfl (by omega) (by omega))) | exact z_on_t (z_on_t (z_on_t (z_on_h rfl (by omega) (by omega)))) | exact z_on_t (z_on_t (z_on_t (z_on_t (z_on_h rfl (by omega) (by omega))))) | exact z_on_t (z_on_t (z_on_t (z_on_t (z_on_t (z_on_h rfl (by omega) (by omega)))))) | exact z_on_t (z_on_t (z_on_t (z_on_t (z_on_t (z_on_t (z_on_h rfl (by omega) (by omega))))))) | exact z_on_t (z_on_t (z_on_t (z_on_t (z_on_t (z_on_t (z_on_t (z_on_h rfl (by omega) (by omega)))))))) | exact z_on_t (z_on_t (z_on_t (z_on_t (z_on_t (z_on_t (z_on_t (z_on_t (z_on_h rfl (by omega) (by omega))))))))) | exact z_on_t (z_on_t (z_on_t (z_on_t (z_on_t (z_on_t (z_on_t (z_on_t (z_on_t (z_on_h rfl (by omega) (by omega)))))))))) | exact z_on_t (z_on_t (z_on_t (z_on_t (z_on_t (z_on_t (z_on_t (z_on_t (z_on_t (z_on_t (z_on_h rfl (by omega) (by omega))))))))))) | exact z_on_t (z_on_t (z_on_t (z_on_t (z_on_t (z_on_t (z_on_t (z_on_t (z_on_t (z_on_t (z_on_t (z_on_h rfl (by omega) (by omega)))))))))))) | exact z_on_t (z_on_t (z_on_t (z_on_t (z_on_t (z_on_t (z_on_t (z_on_t (z_on_t (z_on_t (z_on_t (z_on_t (z_on_h rfl (by omega) (by omega))))))))))))))).upo (by (try unfold c_RL); first | exact z_on_h rfl (by omega) (by omega) | exact z_on_t (z_on_h rfl (by omega) (by omega)) | exact z_on_t (z_on_t (z_on_h rfl (by omega) (by omega))) | exact z_on_t (z_on_t (z_on_t (z_on_h rfl (by omega) (by omega)))) | exact z_on_t (z_on_t (z_on_t (z_on_t (z_on_h rfl (by omega) (by omega))))) | exact z_on_t (z_on_t (z_on_t (z_on_t (z_on_t (z_on_h rfl (by omega) (by omega)))))) | exact z_on_t (z_on_t (z_on_t (z_on_t (z_on_t (z_on_t (z_on_h rfl (by omega) (by omega))))))) | exact z_on_t (z_on_t (z_on_t (z_on_t (z_on_t (z_on_t (z_on_t (z_on_h rfl (by omega) (by omega)))))))) | exact z_on_t (z_on_t (z_on_t (z_on_t (z_on_t (z_on_t (z_on_t (z_on_t (z_on_h rfl (by omega) (by omega))))))))) | exact z_on_t (z_on_t (z_on_t (z_on_t (z_on_t (z_on_t (z_on_t (z_on_t (z_on_t (z_on_h rfl (by omega) (by omega)))))))))) | exact z_on_t (z_on_t (z_on_t (z_on_t (z_on_t (z_on_t (z_on_t (z_on_t (z_on_t (z_on_t (z_on_h rfl (by omega) (by omega))))))))))) | exact z_on_t (z_on_t (z_on_t (z_on_t (z_on_t (z_on_t (z_on_t (z_on_t (z_on_t (z_on_t (z_on_t (z_on_h rfl (by omega) (by omega)))))))))))) | exact z_on_t (z_on_t (z_on_t (z_on_t (z_on_t (z_on_t (z_on_t (z_on_t (z_on_t (z_on_t (z_on_t (z_on_t (z_on_h rfl (by omega) (by omega)))))))))))))), ?_, ?_, fun _ => ⟨?_, ?_⟩⟩
    · rw [zu_p (by decide), zu_p (by decide)]
    · rw [zu_self]; omega
    · rw [zu_self]
    · rw [zu_rowne (by decide), zu_row]
def q_bnd : Nat → Int
  | 0 => 999
  | 1 => 99
  | 2 => 9
  | _ => 0
theorem c_num1 {g : Int → Int} : ∀ (k : Nat) (x3 v : Int) (m : z_M), 0 ≤ x3 → x3 + (k : Int) = 3 → u_g m = g → m 1 1 ≤ 80 → 0 ≤ m 1 2 → m 1 2 ≤ 40 + x3 → 0 ≤ v → v ≤ q_bnd k → 0 ≤ m 116 2 → m 116 2 ≤ 40 → ∃ m', z_R 47 (m, 12, [(2, 116), (0, v), (0, u_dg (g (m 1 2))), (0, x3)], []) = some (m', none) ∧ z_same c_RL m m' ∧ m' 1 2 = (q_nm g k (m 1 2) v).1 ∧ (0 ≤ m' 116 2 ∧ m' 116 2 ≤ 40) ∧ (m 116 2 < 40 → m' 116 2 = m 116 2 + 1 ∧ m' 117 = u_up (m 117) (m 116 2).toNat (q_nm g k (m 1 2) v).2) := by
  intro k
  induction k with
  | zero =>
    intro x3 v m hx0 hx hg h1 h0 h0' hv0 hv hs0 hs1
    obtain ⟨m', a1, a2, a3, a4, a5⟩ := c_emit m v hs0 hs1
    rw [s_rnu_12, if_pos (by omega), a1, zb_n, s_rnu_63]
    exact ⟨m', rfl, a2, a3, a4, a5⟩
  | succ k ih =>
    intro x3 v m hx0 hx hg h1 h0 h0' hv0 hv hs0 hs1
    rw [s_rnu_12, if_neg (by omega)]
    unfold q_nm
    by_cases c : u_dg (g (m 1 2)) = -1
    · obtain ⟨m', a1, a2, a3, a4, a5⟩ := c_emit m v hs0 hs1
      rw [if_pos c, if_pos c, c_step0, zb_v, s_rnu_34, if_pos rfl, a1, zb_n, s_rnu_63]
      exact ⟨m', rfl, a2, a3, a4, a5⟩
    · have r := u_dg_rng (g (m 1 2))
      have hv9 : v ≤ 99 := by
        rcases (show k = 0 ∨ k = 1 ∨ k = 2 by omega) with rfl | rfl | rfl
        · exact hv
        · have hv : v ≤ 9 := hv
          omega
        · have hv : v ≤ 0 := hv
          omega
      have hg' : u_g (z_up m 1 2 (m 1 2 + 1)) = g := u_g_at.trans hg
      have e12 : (z_up m 1 2 (m 1 2 + 1)) 1 2 = m 1 2 + 1 := zu_self
      rw [if_neg c, if_neg c, c_step1 m h0 (by omega), zb_v, s_rnu_34, if_neg (by decide), c_nd _ (by omega) (by rw [zu_k (by decide)]; exact h1), zb_v, s_rnu_51, hg', e12, z_mul_eq (by omega) (by omega), z_add_eq (x := 10 * v) (by omega) (by omega), z_add_eq (x := x3) (by omega) (by omega)]
      obtain ⟨m', a1, a2, a3, a4, a5⟩ := ih (x3 + 1) (10 * v + u_dg (g (m 1 2))) (z_up m 1 2 (m 1 2 + 1)) (by omega) (by omega) hg' (by rw [zu_k (by decide)]; exact h1) (by omega) (by omega) (by omega) (by
        rcases (show k = 0 ∨ k = 1 ∨ k = 2 by omega) with rfl | rfl | rfl
        · have hv : v ≤ 99 := hv
          show 10 * v + u_dg (g (m 1 2)) ≤ 999
          omega
        · have hv : v ≤ 9 := hv
          show 10 * v + u_dg (g (m 1 2)) ≤ 99
          omega
        · have hv : v ≤ 0 := hv
          show 10 * v + u_dg (g (m 1 2)) ≤ 9
          omega) (by rw [zu_p (by decide)]; exact hs0) (by rw [zu_p (by decide)]; exact hs1)
      rw [e12] at a1 a3 a5
      rw [zu_p (by decide), zu_rowne (by decide)] at a5
      exact ⟨m', a1, (z_same.rf.upo (by (try unfold c_RL); first | exact z_on_h rfl (by omega) (by omega) | exact z_on_t (z_on_h rfl (by omega) (by omega)) | exact z_on_t (z_on_t (z_on_h rfl (by omega) (by omega))) | exact z_on_t (z_on_t (z_on_t (z_on_h rfl (by omega) (by omega)))) | exact z_on_t (z_on_t (z_on_t (z_on_t (z_on_h rfl (by omega) (by omega))))) | exact z_on_t (z_on_t (z_on_t (z_on_t (z_on_t (z_on_h rfl (by omega) (by omega)))))) | exact z_on_t (z_on_t (z_on_t (z_on_t (z_on_t (z_on_t (z_on_h rfl (by omega) (by omega))))))) | exact z_on_t (z_on_t (z_on_t (z_on_t (z_on_t (z_on_t (z_on_t (z_on_h rfl (by omega) (by omega)))))))) | exact z_on_t (z_on_t (z_on_t (z_on_t (z_on_t (z_on_t (z_on_t (z_on_t (z_on_h rfl (by omega) (by omega))))))))) | exact z_on_t (z_on_t (z_on_t (z_on_t (z_on_t (z_on_t (z_on_t (z_on_t (z_on_t (z_on_h rfl (by omega) (by omega)))))))))) | exact z_on_t (z_on_t (z_on_t (z_on_t (z_on_t (z_on_t (z_on_t (z_on_t (z_on_t (z_on_t (z_on_h rfl (by omega) (by omega))))))))))) | exact z_on_t (z_on_t (z_on_t (z_on_t (z_on_t (z_on_t (z_on_t (z_on_t (z_on_t (z_on_t (z_on_t (z_on_h rfl (by omega) (by omega)))))))))))) | exact z_on_t (z_on_t (z_on_t (z_on_t (z_on_t (z_on_t (z_on_t (z_on_t (z_on_t (z_on_t (z_on_t (z_on_t (z_on_h rfl (by omega) (by omega))))))))))))))).tr a2, a3, a4, a5⟩
theorem c_num {g : Int → Int} (m : z_M) (hB : c_RB g m) : ∃ m', z_R 47 (m, 0, [(2, 116), (9, 0), (9, 0), (9, 0)], []) = some (m', none) ∧ z_same c_RL m m' ∧ m' 1 2 = (q_nm g 3 (m 1 2) 0).1 ∧ (0 ≤ m' 116 2 ∧ m' 116 2 ≤ 40) ∧ (m 116 2 < 40 → m' 116 2 = m 116 2 + 1 ∧ m' 117 = u_up (m 117) (m 116 2).toNat (q_nm g 3 (m 1 2) 0).2) := by
  obtain ⟨b1, b2, b3, b4, b5⟩ := hB
  rw [s_rnu_0, c_nd m b3.1 b2, zb_v, s_rnu_9, b1]
  exact c_num1 3 0 0 m (by decide) (by decide) b1 b2 b3.1 (by omega) (Int.le_refl _) (by decide) b4 (by omega)
theorem z_i2c_sm {x : Int} (h0 : 0 ≤ x) (h1 : x ≤ 255) : z_i2c x = x := by
  have e3 : (Int32.ofInt x).toInt = x := zr_of (by omega) (by omega)
  unfold z_i2c
  rw [(nar_c _).2 (by omega) (by omega), e3]
/-- that an expression at depth d is read so -/
noncomputable def c_PE (g : Int → Int) (d : Nat) : Prop := ∀ m : z_M, c_RB g m → ∃ m', z_R 41 (m, 0, [(2, 116), (0, (d : Int)), (9, 0), (9, 0)], []) = some (m', some (0, okf (q_ex g (4 - d) (m 1 2)).1)) ∧ c_RP m m' (q_ex g (4 - d) (m 1 2))
theorem c_RP_fail {m m' : z_M} {i : Int} {c : List Int} (h : z_same c_RL m m') (hp : m' 1 2 = i) (hs : 0 ≤ m' 116 2 ∧ m' 116 2 ≤ 40) : c_RP m m' (false, i, c) := ⟨h, hp, hs, fun z => by cases z⟩
theorem c_thing {g : Int → Int} (hg : q_gb g) (hr : ∀ i, -1 ≤ g i ∧ g i ≤ 255) {d : Nat} (hd : d ≤ 4) (hE : d < 4 → c_PE g (d + 1)) (m : z_M) (hB : c_RB g m) : ∃ m', z_R 45 (m, 0, [(2, 116), (0, (d : Int)), (9, 0), (9, 0)], []) = some (m', some (0, okf (q_th g (q_E g d) (m 1 2)).1)) ∧ c_RP m m' (q_th g (q_E g d) (m 1 2)) := by
  obtain ⟨b1, b2, b3, b4, b5⟩ := id hB
  have rr := hr (m 1 2)
  rw [s_rth_0, c_next m b3.1 b2, zb_v, s_rth_7, b1]
  unfold q_th
  by_cases c1 : g (m 1 2) = 40
  · have bb := hg (m 1 2) (by omega)
    rw [if_pos c1, if_pos c1, s_rbr_0 m d ⟨by omega, by omega⟩]
    by_cases c2 : 4 ≤ d
    · have e : q_E g d = none := by unfold q_E; rw [if_pos c2]
      rw [if_pos (by omega), c_step0, zb_v, s_rbr_17, if_pos rfl, zb_v, s_rth_19, e]
      exact ⟨m, rfl, c_RP_fail z_same.rf rfl ⟨b4, by omega⟩⟩
    · have e : q_E g d = some (q_ex g (4 - (d + 1))) := by unfold q_E; rw [if_neg c2, show 3 - d = 4 - (d + 1) by omega]
      have e12 : (z_up m 1 2 (m 1 2 + 1)) 1 2 = m 1 2 + 1 := zu_self
      have s1 : z_same c_RL m (z_up m 1 2 (m 1 2 + 1)) := z_same.rf.upo (by (try unfold c_RL); first | exact z_on_h rfl (by omega) (by omega) | exact z_on_t (z_on_h rfl (by omega) (by omega)) | exact z_on_t (z_on_t (z_on_h rfl (by omega) (by omega))) | exact z_on_t (z_on_t (z_on_t (z_on_h rfl (by omega) (by omega)))) | exact z_on_t (z_on_t (z_on_t (z_on_t (z_on_h rfl (by omega) (by omega))))) | exact z_on_t (z_on_t (z_on_t (z_on_t (z_on_t (z_on_h rfl (by omega) (by omega)))))) | exact z_on_t (z_on_t (z_on_t (z_on_t (z_on_t (z_on_t (z_on_h rfl (by omega) (by omega))))))) | exact z_on_t (z_on_t (z_on_t (z_on_t (z_on_t (z_on_t (z_on_t (z_on_h rfl (by omega) (by omega)))))))) | exact z_on_t (z_on_t (z_on_t (z_on_t (z_on_t (z_on_t (z_on_t (z_on_t (z_on_h rfl (by omega) (by omega))))))))) | exact z_on_t (z_on_t (z_on_t (z_on_t (z_on_t (z_on_t (z_on_t (z_on_t (z_on_t (z_on_h rfl (by omega) (by omega)))))))))) | exact z_on_t (z_on_t (z_on_t (z_on_t (z_on_t (z_on_t (z_on_t (z_on_t (z_on_t (z_on_t (z_on_h rfl (by omega) (by omega))))))))))) | exact z_on_t (z_on_t (z_on_t (z_on_t (z_on_t (z_on_t (z_on_t (z_on_t (z_on_t (z_on_t (z_on_t (z_on_h rfl (by omega) (by omega)))))))))))) | exact z_on_t (z_on_t (z_on_t (z_on_t (z_on_t (z_on_t (z_on_t (z_on_t (z_on_t (z_on_t (z_on_t (z_on_t (z_on_h rfl (by omega) (by omega))))))))))))))
      have sz : (z_up m 1 2 (m 1 2 + 1)) 116 2 = m 116 2 := zu_p (by decide)
      have srow : (z_up m 1 2 (m 1 2 + 1)) 117 = m 117 := zu_rowne (by decide)
      obtain ⟨m1, a1, a2, a3, a4, a5⟩ := hE (by omega) (z_up m 1 2 (m 1 2 + 1)) ⟨u_g_at.trans b1, by rw [zu_k (by decide)]; exact b2, by omega, by omega, by omega⟩
      rw [e12] at a1 a3 a5
      rw [sz, srow] at a5
      have gd := q_ex_good hg (4 - (d + 1)) (m 1 2 + 1) (by omega) (by omega)
      rw [if_neg (by omega), c_step1 m b3.1 (by omega), zb_v, s_rbr_17, if_neg (by decide), z_add_eq (by omega) (by omega), tc1, a1, zb_v, s_rbr_27, e]
      simp only
      generalize q_ex g (4 - (d + 1)) (m 1 2 + 1) = R at a1 a3 a5 gd ⊢
      obtain ⟨ok, pos, code⟩ := R
      simp only at a3 a5 gd ⊢
      cases ok with
      | false =>
        rw [show okf false = 0 from rfl, if_pos rfl, zb_v, s_rth_19, if_neg (fun z => by cases z.1)]
        exact ⟨m1, rfl, c_RP_fail (s1.tr a2) a3 a4⟩
      | true =>
        have g1 : u_g m1 = g := (u_g_RL (s1.tr a2)).trans b1
        rw [show okf true = 1 from rfl, if_neg (by decide), c_over m1 41 (by omega) (by rw [(s1.tr a2).of (by (try unfold c_RL); (repeat' (first | exact trivial | refine z_of_c ?_ ?_)) <;> omega)]; exact b2) (by omega), g1, a3]
        by_cases c3 : g pos = 41
        · rw [if_pos c3, if_pos ⟨rfl, c3⟩, zb_v, s_rbr_39, if_neg (by decide), zb_v, s_rth_19]
          refine ⟨_, rfl, (s1.tr a2).upo (by (try unfold c_RL); first | exact z_on_h rfl (by omega) (by omega) | exact z_on_t (z_on_h rfl (by omega) (by omega)) | exact z_on_t (z_on_t (z_on_h rfl (by omega) (by omega))) | exact z_on_t (z_on_t (z_on_t (z_on_h rfl (by omega) (by omega)))) | exact z_on_t (z_on_t (z_on_t (z_on_t (z_on_h rfl (by omega) (by omega))))) | exact z_on_t (z_on_t (z_on_t (z_on_t (z_on_t (z_on_h rfl (by omega) (by omega)))))) | exact z_on_t (z_on_t (z_on_t (z_on_t (z_on_t (z_on_t (z_on_h rfl (by omega) (by omega))))))) | exact z_on_t (z_on_t (z_on_t (z_on_t (z_on_t (z_on_t (z_on_t (z_on_h rfl (by omega) (by omega)))))))) | exact z_on_t (z_on_t (z_on_t (z_on_t (z_on_t (z_on_t (z_on_t (z_on_t (z_on_h rfl (by omega) (by omega))))))))) | exact z_on_t (z_on_t (z_on_t (z_on_t (z_on_t (z_on_t (z_on_t (z_on_t (z_on_t (z_on_h rfl (by omega) (by omega)))))))))) | exact z_on_t (z_on_t (z_on_t (z_on_t (z_on_t (z_on_t (z_on_t (z_on_t (z_on_t (z_on_t (z_on_h rfl (by omega) (by omega))))))))))) | exact z_on_t (z_on_t (z_on_t (z_on_t (z_on_t (z_on_t (z_on_t (z_on_t (z_on_t (z_on_t (z_on_t (z_on_h rfl (by omega) (by omega)))))))))))) | exact z_on_t (z_on_t (z_on_t (z_on_t (z_on_t (z_on_t (z_on_t (z_on_t (z_on_t (z_on_t (z_on_t (z_on_t (z_on_h rfl (by omega) (by omega)))))))))))))), zu_self, ?_, fun _ => ?_⟩
          · rw [zu_p (by decide)]; exact a4
          · rw [zu_p (by decide), zu_rowne (by decide)]; exact a5 rfl
        · rw [if_neg c3, if_neg (fun z => c3 z.2), zb_v, s_rbr_39, if_pos rfl, zb_v, s_rth_19]
          exact ⟨m1, rfl, c_RP_fail (s1.tr a2) a3 a4⟩
  rw [if_neg c1, if_neg c1, c_digit, zb_v, s_rth_24]
  by_cases c2 : u_dg (g (m 1 2)) = -1
  · rw [if_pos c2, if_pos c2]
    have fl : ∀ x3 : Int, z_idx (g (m 1 2)) = -1 → ∃ m', ((z_R 26 (m, 0, [(2, 1), (0, 0)], [])).bind fun qq => z_R 45 (qq.1, 67, [(2, 116), (0, (d : Int)), (0, g (m 1 2)), (0, x3)], qq.2.toList ++ [])) = some (m', some (0, okf (if z_idx (g (m 1 2)) = -1 then ((false, m 1 2, []) : q_Q) else (true, m 1 2 + 1, [1000 + z_idx (g (m 1 2))])).1)) ∧ c_RP m m' (if z_idx (g (m 1 2)) = -1 then (false, m 1 2, []) else (true, m 1 2 + 1, [1000 + z_idx (g (m 1 2))])) := by
      intro x3 hz
      rw [if_pos hz, c_step0, zb_v, s_rth_67, if_pos rfl]
      exact ⟨m, rfl, c_RP_fail z_same.rf rfl ⟨b4, by omega⟩⟩
    by_cases c3 : g (m 1 2) = -1
    · rw [if_pos c3]
      exact fl (-1) (by rw [c3]; decide)
    rw [if_neg c3, z_i2c_sm (by omega) rr.2]
    have bi := z_idx_b (g (m 1 2))
    by_cases c4 : z_idx (g (m 1 2)) < 0
    · rw [if_pos c4]
      exact fl _ (by omega)
    · have bb := hg (m 1 2) c3
      rw [if_neg c4, if_neg (by omega), c_step1 m b3.1 (by omega), zb_v, s_rth_67, if_neg (by decide), z_add_eq (by omega) (by omega)]
      have sz : (z_up m 1 2 (m 1 2 + 1)) 116 2 = m 116 2 := zu_p (by decide)
      have srow : (z_up m 1 2 (m 1 2 + 1)) 117 = m 117 := zu_rowne (by decide)
      obtain ⟨m1, a1, a2, a3, a4, a5⟩ := c_emit (z_up m 1 2 (m 1 2 + 1)) (1000 + z_idx (g (m 1 2))) (by omega) (by omega)
      rw [sz, srow] at a5
      rw [a1, zb_n, s_rth_81]
      refine ⟨m1, rfl, (z_same.rf.upo (by (try unfold c_RL); first | exact z_on_h rfl (by omega) (by omega) | exact z_on_t (z_on_h rfl (by omega) (by omega)) | exact z_on_t (z_on_t (z_on_h rfl (by omega) (by omega))) | exact z_on_t (z_on_t (z_on_t (z_on_h rfl (by omega) (by omega)))) | exact z_on_t (z_on_t (z_on_t (z_on_t (z_on_h rfl (by omega) (by omega))))) | exact z_on_t (z_on_t (z_on_t (z_on_t (z_on_t (z_on_h rfl (by omega) (by omega)))))) | exact z_on_t (z_on_t (z_on_t (z_on_t (z_on_t (z_on_t (z_on_h rfl (by omega) (by omega))))))) | exact z_on_t (z_on_t (z_on_t (z_on_t (z_on_t (z_on_t (z_on_t (z_on_h rfl (by omega) (by omega)))))))) | exact z_on_t (z_on_t (z_on_t (z_on_t (z_on_t (z_on_t (z_on_t (z_on_t (z_on_h rfl (by omega) (by omega))))))))) | exact z_on_t (z_on_t (z_on_t (z_on_t (z_on_t (z_on_t (z_on_t (z_on_t (z_on_t (z_on_h rfl (by omega) (by omega)))))))))) | exact z_on_t (z_on_t (z_on_t (z_on_t (z_on_t (z_on_t (z_on_t (z_on_t (z_on_t (z_on_t (z_on_h rfl (by omega) (by omega))))))))))) | exact z_on_t (z_on_t (z_on_t (z_on_t (z_on_t (z_on_t (z_on_t (z_on_t (z_on_t (z_on_t (z_on_t (z_on_h rfl (by omega) (by omega)))))))))))) | exact z_on_t (z_on_t (z_on_t (z_on_t (z_on_t (z_on_t (z_on_t (z_on_t (z_on_t (z_on_t (z_on_t (z_on_t (z_on_h rfl (by omega) (by omega))))))))))))))).tr a2, a3.trans zu_self, a4, fun _ => ?_⟩
      exact a5 (by omega)
  · rw [if_neg c2, if_neg c2]
    obtain ⟨m1, a1, a2, a3, a4, a5⟩ := c_num m hB
    have bb := hg (m 1 2) (by have := u_dg_ne c2; omega)
    rw [a1, zb_n, s_rth_32]
    exact ⟨m1, rfl, a2, a3, a4, fun _ => a5 (by omega)⟩
theorem c_minus {g : Int → Int} (hg : q_gb g) {d : Int} : ∀ (f k : Nat) (m : z_M), k + f = 40 → u_g m = g → m 1 1 ≤ 80 → 0 ≤ m 1 2 → m 1 2 ≤ 40 → ∃ m1 k', z_R 44 (m, 4, [(2, 116), (0, d), (0, ((k % 2 : Nat) : Int)), (0, (k : Int))], []) = ((z_R 45 (m1, 0, [(2, 116), (0, d), (9, 0), (9, 0)], [])).bind fun qq => z_R 44 (qq.1, 43, [(2, 116), (0, d), (0, (((k + q_mn g f (m 1 2)) % 2 : Nat) : Int)), (0, k')], qq.2.toList ++ [])) ∧ m1 1 2 = m 1 2 + (q_mn g f (m 1 2) : Int) ∧ z_same [(1, 2, 2)] m m1 := by
  intro f
  induction f with
  | zero =>
    intro k m hk h1 h2 h3 h4
    rw [s_rsg_4, if_pos (by omega)]
    exact ⟨m, (k : Int), rfl, by show m 1 2 = m 1 2 + ((0 : Nat) : Int); omega, z_same.rf⟩
  | succ f ih =>
    intro k m hk h1 h2 h3 h4
    rw [s_rsg_4, if_neg (by omega), c_over m 45 h3 h2 (by omega), h1]
    unfold q_mn
    by_cases c : g (m 1 2) = 45
    · have bb := hg (m 1 2) (by omega)
      have e12 : (z_up m 1 2 (m 1 2 + 1)) 1 2 = m 1 2 + 1 := zu_self
      obtain ⟨m1, k', a1, a2, a3⟩ := ih (k + 1) (z_up m 1 2 (m 1 2 + 1)) (by omega) (u_g_at.trans h1) (by rw [zu_k (by decide)]; exact h2) (by omega) (by omega)
      rw [e12] at a1 a2
      have a1 : z_R 44 (z_up m 1 2 (m 1 2 + 1), 4, [(2, 116), (0, d), (0, (((k + 1) % 2 : Nat) : Int)), (0, ((k + 1 : Nat) : Int))], []) = ((z_R 45 (m1, 0, [(2, 116), (0, d), (9, 0), (9, 0)], [])).bind fun qq => z_R 44 (qq.1, 43, [(2, 116), (0, d), (0, (((k + 1 + q_mn g f (m 1 2 + 1)) % 2 : Nat) : Int)), (0, k')], qq.2.toList ++ [])) := a1
      rw [if_pos c, if_pos c, zb_v, s_rsg_19, if_neg (by decide), z_add_eq (by omega) (by omega), tc1]
      refine ⟨m1, k', ?_, by rw [a2]; omega, (z_same.rf.upo (by (try unfold c_RL); first | exact z_on_h rfl (by omega) (by omega) | exact z_on_t (z_on_h rfl (by omega) (by omega)) | exact z_on_t (z_on_t (z_on_h rfl (by omega) (by omega))) | exact z_on_t (z_on_t (z_on_t (z_on_h rfl (by omega) (by omega)))) | exact z_on_t (z_on_t (z_on_t (z_on_t (z_on_h rfl (by omega) (by omega))))) | exact z_on_t (z_on_t (z_on_t (z_on_t (z_on_t (z_on_h rfl (by omega) (by omega)))))) | exact z_on_t (z_on_t (z_on_t (z_on_t (z_on_t (z_on_t (z_on_h rfl (by omega) (by omega))))))) | exact z_on_t (z_on_t (z_on_t (z_on_t (z_on_t (z_on_t (z_on_t (z_on_h rfl (by omega) (by omega)))))))) | exact z_on_t (z_on_t (z_on_t (z_on_t (z_on_t (z_on_t (z_on_t (z_on_t (z_on_h rfl (by omega) (by omega))))))))) | exact z_on_t (z_on_t (z_on_t (z_on_t (z_on_t (z_on_t (z_on_t (z_on_t (z_on_t (z_on_h rfl (by omega) (by omega)))))))))) | exact z_on_t (z_on_t (z_on_t (z_on_t (z_on_t (z_on_t (z_on_t (z_on_t (z_on_t (z_on_t (z_on_h rfl (by omega) (by omega))))))))))) | exact z_on_t (z_on_t (z_on_t (z_on_t (z_on_t (z_on_t (z_on_t (z_on_t (z_on_t (z_on_t (z_on_t (z_on_h rfl (by omega) (by omega)))))))))))) | exact z_on_t (z_on_t (z_on_t (z_on_t (z_on_t (z_on_t (z_on_t (z_on_t (z_on_t (z_on_t (z_on_t (z_on_t (z_on_h rfl (by omega) (by omega))))))))))))))).tr a3⟩
      rw [show k + (q_mn g f (m 1 2 + 1) + 1) = k + 1 + q_mn g f (m 1 2 + 1) by omega, ← a1]
      by_cases c2 : ((k % 2 : Nat) : Int) = 0
      · rw [if_pos c2, show (((k + 1) % 2 : Nat) : Int) = 1 by omega]
      · rw [if_neg c2, show (((k + 1) % 2 : Nat) : Int) = 0 by omega]
    · rw [if_neg c, if_neg c, zb_v, s_rsg_19, if_pos rfl]
      exact ⟨m, (k : Int), rfl, by show m 1 2 = m 1 2 + ((0 : Nat) : Int); omega, z_same.rf⟩
theorem c_signed {g : Int → Int} (hg : q_gb g) (hr : ∀ i, -1 ≤ g i ∧ g i ≤ 255) {d : Nat} (hd : d ≤ 4) (hE : d < 4 → c_PE g (d + 1)) (m : z_M) (hB : c_RB g m) : ∃ m', z_R 44 (m, 0, [(2, 116), (0, (d : Int)), (9, 0), (9, 0)], []) = some (m', some (0, okf (q_sg g (q_E g d) (m 1 2)).1)) ∧ c_RP m m' (q_sg g (q_E g d) (m 1 2)) := by
  obtain ⟨b1, b2, b3, b4, b5⟩ := id hB
  obtain ⟨m1, k', a1, a2, a3⟩ := c_minus hg (d := (d : Int)) 40 0 m (by decide) b1 b2 b3.1 b3.2
  have bn := q_mn_b hg 40 (m 1 2) b3.1 b3.2
  have a1 : z_R 44 (m, 4, [(2, 116), (0, (d : Int)), (0, 0), (0, 0)], []) = ((z_R 45 (m1, 0, [(2, 116), (0, (d : Int)), (9, 0), (9, 0)], [])).bind fun qq => z_R 44 (qq.1, 43, [(2, 116), (0, (d : Int)), (0, (((0 + q_mn g 40 (m 1 2)) % 2 : Nat) : Int)), (0, k')], qq.2.toList ++ [])) := a1
  rw [Nat.zero_add] at a1
  rw [s_rsg_0, a1]
  unfold q_sg
  generalize q_mn g 40 (m 1 2) = n at a2 bn ⊢
  have s1 : z_same c_RL m m1 := a3.subo (by (try unfold c_RL); (repeat' (first | exact trivial | refine z_sbo_c ?_ ?_)) <;> (intro k h1 h2; first | exact z_on_h rfl (by omega) (by omega) | exact z_on_t (z_on_h rfl (by omega) (by omega)) | exact z_on_t (z_on_t (z_on_h rfl (by omega) (by omega))) | exact z_on_t (z_on_t (z_on_t (z_on_h rfl (by omega) (by omega)))) | exact z_on_t (z_on_t (z_on_t (z_on_t (z_on_h rfl (by omega) (by omega))))) | exact z_on_t (z_on_t (z_on_t (z_on_t (z_on_t (z_on_h rfl (by omega) (by omega)))))) | exact z_on_t (z_on_t (z_on_t (z_on_t (z_on_t (z_on_t (z_on_h rfl (by omega) (by omega))))))) | exact z_on_t (z_on_t (z_on_t (z_on_t (z_on_t (z_on_t (z_on_t (z_on_h rfl (by omega) (by omega)))))))) | exact z_on_t (z_on_t (z_on_t (z_on_t (z_on_t (z_on_t (z_on_t (z_on_t (z_on_h rfl (by omega) (by omega))))))))) | exact z_on_t (z_on_t (z_on_t (z_on_t (z_on_t (z_on_t (z_on_t (z_on_t (z_on_t (z_on_h rfl (by omega) (by omega)))))))))) | exact z_on_t (z_on_t (z_on_t (z_on_t (z_on_t (z_on_t (z_on_t (z_on_t (z_on_t (z_on_t (z_on_h rfl (by omega) (by omega))))))))))) | exact z_on_t (z_on_t (z_on_t (z_on_t (z_on_t (z_on_t (z_on_t (z_on_t (z_on_t (z_on_t (z_on_t (z_on_h rfl (by omega) (by omega)))))))))))) | exact z_on_t (z_on_t (z_on_t (z_on_t (z_on_t (z_on_t (z_on_t (z_on_t (z_on_t (z_on_t (z_on_t (z_on_t (z_on_h rfl (by omega) (by omega)))))))))))))))
  have sz : m1 116 2 = m 116 2 := a3.of (by (try unfold c_RL); (repeat' (first | exact trivial | refine z_of_c ?_ ?_)) <;> omega)
  have srow : m1 117 = m 117 := a3.ofr (by (try unfold c_RL); (repeat' (first | exact trivial | refine z_ofr_c ?_ ?_)) <;> omega)
  have B1 : c_RB g m1 := ⟨(u_g_RL s1).trans b1, by rw [a3.of (by (try unfold c_RL); (repeat' (first | exact trivial | refine z_of_c ?_ ?_)) <;> omega)]; exact b2, by omega, by omega, by omega⟩
  obtain ⟨m2, d1, d2, d3, d4, d5⟩ := c_thing hg hr hd hE m1 B1
  have gd := q_th_good hg (q_E_good hg d) (m1 1 2) B1.2.2.1.1 B1.2.2.1.2
  rw [a2] at d1 d3 d5 gd
  rw [sz, srow] at d5
  generalize q_th g (q_E g d) (m 1 2 + (n : Int)) = R at d1 d3 d5 gd ⊢
  obtain ⟨ok, pos, code⟩ := R
  simp only at d1 d3 d5 gd ⊢
  rw [d1, zb_v, s_rsg_43]
  by_cases c : n % 2 = 1
  · rw [if_neg (by omega), if_pos c]
    obtain ⟨m3, e1, e2, e3, e4, e5⟩ := c_emit m2 2126 d4.1 d4.2
    rw [e1, zb_n, s_rsg_55]
    refine ⟨m3, rfl, (s1.tr d2).tr e2, e3.trans d3, e4, fun z => ?_⟩
    obtain ⟨f1, f2⟩ := d5 z
    have gz := gd.2.2 z
    have ee := e5 (by omega)
    rw [f1, f2] at ee
    refine ⟨?_, ?_⟩
    · rw [ee.1]
      show _ = m 116 2 + (((code ++ [2126]).length : Nat) : Int)
      rw [List.length_append]
      show _ = m 116 2 + ((code.length + 1 : Nat) : Int)
      omega
    · rw [ee.2]
      show _ = wr (m 117) (m 116 2).toNat (code ++ [2126])
      rw [wr_app, show (m 116 2 + (code.length : Int)).toNat = (m 116 2).toNat + code.length by omega]
      rfl
  · rw [if_pos (by omega), if_neg c, List.append_nil]
    exact ⟨m2, rfl, s1.tr d2, d3, d4, d5⟩
/-- parts joined from the left -/
theorem c_chain1 {g : Int → Int} (hg : q_gb g) {d : Nat} {b a1 a2 : Int} {part : Int → q_Q} (hgood : q_good part) (ha1 : ¬ a1 = -1) (ha2 : ¬ a2 = -1) (hj : ∀ (m : z_M) (s : Int), z_R 51 (m, 0, [(0, s), (0, b)], []) = some (m, some (0, okf (decide (s = a1 ∨ s = a2))))) (hp : ∀ m : z_M, c_RB g m → ∃ m', z_R 43 (m, 0, [(2, 116), (0, (d : Int)), (0, b)], []) = some (m', some (0, okf (part (m 1 2)).1)) ∧ c_RP m m' (part (m 1 2))) {m0 : z_M} (hB : c_RB g m0) (hr : ∀ i, -1 ≤ g i ∧ g i ≤ 255) : ∀ (k : Nat) (x5 : Int) (r : q_Q) (m : z_M), x5 + (k : Int) = 40 → 0 ≤ x5 → c_RP m0 m r → m0 1 2 ≤ r.2.1 → r.2.1 ≤ 40 → (r.1 = true → m0 1 2 < r.2.1 ∧ ((r.2.2).length : Int) ≤ r.2.1 - m0 1 2) → ∃ m', z_R 42 (m, 19, [(2, 116), (0, (d : Int)), (0, b), (0, okf r.1), (0, g r.2.1), (0, x5)], []) = some (m', some (0, okf (q_lp g part a1 a2 k r).1)) ∧ c_RP m0 m' (q_lp g part a1 a2 k r) := by
  obtain ⟨b1, b2, b3, b4, b5⟩ := hB
  intro k
  induction k with
  | zero =>
    intro x5 r m hx h0 hP h1 h2 h3
    rw [s_rch_19, if_pos (by omega)]
    exact ⟨m, rfl, hP⟩
  | succ k ih =>
    intro x5 r m hx h0 hP h1 h2 h3
    obtain ⟨p1, p2, p3, p4⟩ := hP
    rw [s_rch_19, if_neg (by omega)]
    unfold q_lp
    by_cases c0 : r.1 = false
    · rw [if_neg (show ¬ (r.1 = true ∧ (g r.2.1 = a1 ∨ g r.2.1 = a2)) from fun z => by rw [c0] at z; cases z.1), c0, show okf false = 0 from rfl, if_pos rfl]
      exact ⟨m, rfl, p1, p2, p3, p4⟩
    have c1 : r.1 = true := by cases hq : r.1 <;> simp_all
    have c1' : ¬ okf r.1 = 0 := by rw [c1]; decide
    rw [if_neg c1', hj, zb_v, s_rch_40]
    have g1 : u_g m = g := (u_g_RL p1).trans b1
    have rr := hr r.2.1
    obtain ⟨q1, q2⟩ := h3 c1
    obtain ⟨p5, p6⟩ := p4 c1
    by_cases c2 : g r.2.1 = a1 ∨ g r.2.1 = a2
    · have bb := hg r.2.1 (by rcases c2 with z | z <;> rw [z] <;> assumption)
      have e12 : (z_up m 1 2 (m 1 2 + 1)) 1 2 = m 1 2 + 1 := zu_self
      have sz : (z_up m 1 2 (m 1 2 + 1)) 116 2 = m 116 2 := zu_p (by decide)
      have srow : (z_up m 1 2 (m 1 2 + 1)) 117 = m 117 := zu_rowne (by decide)
      obtain ⟨m1, d1, d2, d3, d4, d5⟩ := hp (z_up m 1 2 (m 1 2 + 1)) ⟨u_g_at.trans g1, by rw [zu_k (by decide), p1.of (by (try unfold c_RL); (repeat' (first | exact trivial | refine z_of_c ?_ ?_)) <;> omega)]; exact b2, by omega, by omega, by omega⟩
      have gd := hgood (m 1 2 + 1) (by omega) (by omega)
      rw [e12] at d1 d3 d5
      rw [sz, srow] at d5
      rw [p2] at d1 d3 d5 gd
      rw [decide_eq_true c2, show okf true = 1 from rfl, c_step1 m (by omega) (by omega), zb_v, s_rch_43, if_neg (by decide), p2, d1, zb_v, s_rch_52, if_pos ⟨c1, c2⟩, z_add_eq (by omega) (by omega)]
      obtain ⟨m2, f1, f2, f3, f4, f5⟩ := c_emit m1 (2000 + g r.2.1) d4.1 d4.2
      have s2 : z_same c_RL m0 m2 := (p1.tr ((z_same.rf.upo (L := c_RL) (p := 1) (k := 2) (v := r.2.1 + 1) (by (try unfold c_RL); first | exact z_on_h rfl (by omega) (by omega) | exact z_on_t (z_on_h rfl (by omega) (by omega)) | exact z_on_t (z_on_t (z_on_h rfl (by omega) (by omega))) | exact z_on_t (z_on_t (z_on_t (z_on_h rfl (by omega) (by omega)))) | exact z_on_t (z_on_t (z_on_t (z_on_t (z_on_h rfl (by omega) (by omega))))) | exact z_on_t (z_on_t (z_on_t (z_on_t (z_on_t (z_on_h rfl (by omega) (by omega)))))) | exact z_on_t (z_on_t (z_on_t (z_on_t (z_on_t (z_on_t (z_on_h rfl (by omega) (by omega))))))) | exact z_on_t (z_on_t (z_on_t (z_on_t (z_on_t (z_on_t (z_on_t (z_on_h rfl (by omega) (by omega)))))))) | exact z_on_t (z_on_t (z_on_t (z_on_t (z_on_t (z_on_t (z_on_t (z_on_t (z_on_h rfl (by omega) (by omega))))))))) | exact z_on_t (z_on_t (z_on_t (z_on_t (z_on_t (z_on_t (z_on_t (z_on_t (z_on_t (z_on_h rfl (by omega) (by omega)))))))))) | exact z_on_t (z_on_t (z_on_t (z_on_t (z_on_t (z_on_t (z_on_t (z_on_t (z_on_t (z_on_t (z_on_h rfl (by omega) (by omega))))))))))) | exact z_on_t (z_on_t (z_on_t (z_on_t (z_on_t (z_on_t (z_on_t (z_on_t (z_on_t (z_on_t (z_on_t (z_on_h rfl (by omega) (by omega)))))))))))) | exact z_on_t (z_on_t (z_on_t (z_on_t (z_on_t (z_on_t (z_on_t (z_on_t (z_on_t (z_on_t (z_on_t (z_on_t (z_on_h rfl (by omega) (by omega))))))))))))))).tr (by rw [p2] at d2; exact d2))).tr f2
      have g2 : u_g m2 = g := (u_g_RL s2).trans b1
      rw [f1, zb_n, s_rch_63, c_next m2 (by omega) (by rw [s2.of (by (try unfold c_RL); (repeat' (first | exact trivial | refine z_of_c ?_ ?_)) <;> omega)]; exact b2), zb_v, s_rch_70, g2, f3, d3, z_add_eq (by omega) (by omega)]
      generalize part (r.2.1 + 1) = S at d1 d3 d5 gd ⊢
      obtain ⟨ok, pos, code⟩ := S
      simp only at d1 d3 d5 gd ⊢
      have R := ih (x5 + 1) (ok, pos, r.2.2 ++ code ++ [2000 + g r.2.1]) m2 (by omega) (by omega) ⟨s2, f3.trans d3, f4, fun z => by
        obtain ⟨t1, t2⟩ := d5 z
        have gz := gd.2.2 z
        have t3 := f5 (by omega)
        rw [t1, t2, p5, p6] at t3
        refine ⟨?_, ?_⟩
        · rw [t3.1]
          show _ = m0 116 2 + (((r.2.2 ++ code ++ [2000 + g r.2.1]).length : Nat) : Int)
          rw [List.length_append, List.length_append]
          show _ = m0 116 2 + (((r.2.2).length + code.length + 1 : Nat) : Int)
          omega
        · rw [t3.2]
          show _ = wr (m0 117) (m0 116 2).toNat (r.2.2 ++ code ++ [2000 + g r.2.1])
          rw [wr_app, wr_app, List.length_append, show (m0 116 2 + ((r.2.2).length : Int)).toNat = (m0 116 2).toNat + (r.2.2).length by omega, show (m0 116 2 + ((r.2.2).length : Int) + (code.length : Int)).toNat = (m0 116 2).toNat + ((r.2.2).length + code.length) by omega]
          rfl⟩ (by simp only; omega) (by simp only; exact gd.2.1) (fun z => by
        have gz := gd.2.2 z
        refine ⟨by simp only; omega, ?_⟩
        show (((r.2.2 ++ code ++ [2000 + g r.2.1]).length : Nat) : Int) ≤ pos - m0 1 2
        rw [List.length_append, List.length_append]
        show (((r.2.2).length + code.length + 1 : Nat) : Int) ≤ _
        omega)
      exact R
    · rw [decide_eq_false c2, show okf false = 0 from rfl, c_step0, zb_v, s_rch_43, if_pos rfl, if_neg (fun z => c2 z.2)]
      exact ⟨m, rfl, p1, p2, p3, p4⟩
theorem c_chain {g : Int → Int} (hg : q_gb g) {d : Nat} (hd : d ≤ 4) {b a1 a2 : Int} {part : Int → q_Q} (hgood : q_good part) (ha1 : ¬ a1 = -1) (ha2 : ¬ a2 = -1) (hj : ∀ (m : z_M) (s : Int), z_R 51 (m, 0, [(0, s), (0, b)], []) = some (m, some (0, okf (decide (s = a1 ∨ s = a2))))) (hp : ∀ m : z_M, c_RB g m → ∃ m', z_R 43 (m, 0, [(2, 116), (0, (d : Int)), (0, b)], []) = some (m', some (0, okf (part (m 1 2)).1)) ∧ c_RP m m' (part (m 1 2))) (hr : ∀ i, -1 ≤ g i ∧ g i ≤ 255) (m : z_M) (hB : c_RB g m) : ∃ m', z_R 42 (m, 0, [(2, 116), (0, (d : Int)), (0, b), (9, 0), (9, 0), (9, 0)], []) = some (m', some (0, okf (q_lp g part a1 a2 40 (part (m 1 2))).1)) ∧ c_RP m m' (q_lp g part a1 a2 40 (part (m 1 2))) := by
  obtain ⟨b1, b2, b3, b4, b5⟩ := id hB
  obtain ⟨m1, d1, d2⟩ := hp m hB
  have gd := hgood (m 1 2) b3.1 b3.2
  obtain ⟨p1, p2, p3, p4⟩ := id d2
  have g1 : u_g m1 = g := (u_g_RL p1).trans b1
  rw [s_rch_0 m d b ⟨by omega, by omega⟩, d1, zb_v, s_rch_6, c_next m1 (by omega) (by rw [p1.of (by (try unfold c_RL); (repeat' (first | exact trivial | refine z_of_c ?_ ?_)) <;> omega)]; exact b2), zb_v, s_rch_14, g1, p2]
  exact c_chain1 hg hgood ha1 ha2 hj hp hB hr 40 0 _ m1 (by decide) (Int.le_refl _) d2 gd.1 gd.2.1 gd.2.2
theorem c_join1 (m : z_M) (s : Int) : z_R 51 (m, 0, [(0, s), (0, 1)], []) = some (m, some (0, okf (decide (s = 42 ∨ s = 47)))) := by
  rw [s_rjo_0, if_neg (by decide)]
  by_cases h1 : s = 42
  · rw [if_pos h1, decide_eq_true (Or.inl h1)]; rfl
  rw [if_neg h1]
  by_cases h2 : s = 47
  · rw [if_pos h2, decide_eq_true (Or.inr h2)]; rfl
  · rw [if_neg h2, decide_eq_false (fun z => z.elim h1 h2)]; rfl
theorem c_join0 (m : z_M) (s : Int) : z_R 51 (m, 0, [(0, s), (0, 0)], []) = some (m, some (0, okf (decide (s = 43 ∨ s = 45)))) := by
  rw [s_rjo_0, if_pos rfl]
  by_cases h1 : s = 43
  · rw [if_pos h1, decide_eq_true (Or.inl h1)]; rfl
  rw [if_neg h1]
  by_cases h2 : s = 45
  · rw [if_pos h2, decide_eq_true (Or.inr h2)]; rfl
  · rw [if_neg h2, decide_eq_false (fun z => z.elim h1 h2)]; rfl
theorem c_product {g : Int → Int} (hg : q_gb g) (hr : ∀ i, -1 ≤ g i ∧ g i ≤ 255) {d : Nat} (hd : d ≤ 4) (hE : d < 4 → c_PE g (d + 1)) (m : z_M) (hB : c_RB g m) : ∃ m', z_R 42 (m, 0, [(2, 116), (0, (d : Int)), (0, 1), (9, 0), (9, 0), (9, 0)], []) = some (m', some (0, okf (q_pr g (q_E g d) (m 1 2)).1)) ∧ c_RP m m' (q_pr g (q_E g d) (m 1 2)) := by
  refine c_chain hg hd (q_sg_good hg (q_E_good hg d)) (by decide) (by decide) c_join1 (fun m hB => ?_) hr m hB
  obtain ⟨m', a1, a2⟩ := c_signed hg hr hd hE m hB
  refine ⟨m', ?_, a2⟩
  rw [s_rpt_0, if_neg (by decide), a1, zb_v, s_rpt_9]
theorem c_sum {g : Int → Int} (hg : q_gb g) (hr : ∀ i, -1 ≤ g i ∧ g i ≤ 255) {d : Nat} (hd : d ≤ 4) (hE : d < 4 → c_PE g (d + 1)) (m : z_M) (hB : c_RB g m) : ∃ m', z_R 42 (m, 0, [(2, 116), (0, (d : Int)), (0, 0), (9, 0), (9, 0), (9, 0)], []) = some (m', some (0, okf (q_su g (q_E g d) (m 1 2)).1)) ∧ c_RP m m' (q_su g (q_E g d) (m 1 2)) := by
  refine c_chain hg hd (q_pr_good hg (q_E_good hg d)) (by decide) (by decide) c_join0 (fun m hB => ?_) hr m hB
  obtain ⟨m', a1, a2⟩ := c_product hg hr hd hE m hB
  refine ⟨m', ?_, a2⟩
  rw [s_rpt_0, if_pos rfl, a1, zb_v, s_rpt_18]
theorem c_expr {g : Int → Int} (hg : q_gb g) (hr : ∀ i, -1 ≤ g i ∧ g i ≤ 255) {d : Nat} (hd : d ≤ 4) (hE : d < 4 → c_PE g (d + 1)) : c_PE g d := by
  intro m hB
  obtain ⟨b1, b2, b3, b4, b5⟩ := id hB
  rw [q_ex_he g hd]
  obtain ⟨m1, a1, p1, p2, p3, p4⟩ := c_sum hg hr hd hE m hB
  have gd := q_su_good hg (q_E_good hg d) (m 1 2) b3.1 b3.2
  have g1 : u_g m1 = g := (u_g_RL p1).trans b1
  rw [s_rex_0 m d ⟨by omega, by omega⟩, a1, zb_v, s_rex_6 m1 d _ ⟨by omega, by omega⟩, c_next m1 (by omega) (by rw [p1.of (by (try unfold c_RL); (repeat' (first | exact trivial | refine z_of_c ?_ ?_)) <;> omega)]; exact b2), zb_v, s_rex_14 m1 d _ _ ⟨by omega, by omega⟩, g1, p2]
  unfold q_he
  generalize hR : q_su g (q_E g d) (m 1 2) = R at a1 p2 p4 gd ⊢
  obtain ⟨ok, pos, code⟩ := R
  simp only at a1 p2 p4 gd ⊢
  have no : ¬ (ok = true ∧ (g pos = 60 ∨ g pos = 62 ∨ g pos = 61)) → c_RP m m1 (if ok = true ∧ (g pos = 60 ∨ g pos = 62 ∨ g pos = 61) then ((q_su g (q_E g d) (pos + 1)).1, (q_su g (q_E g d) (pos + 1)).2.1, code ++ (q_su g (q_E g d) (pos + 1)).2.2 ++ [2000 + g pos]) else (ok, pos, code)) := fun z => by
    rw [if_neg z]
    exact ⟨p1, p2, p3, p4⟩
  cases ok with
  | false =>
    rw [show okf false = 0 from rfl, if_pos rfl]
    have z := no (fun z => by cases z.1)
    rw [if_neg (show ¬ (false = true ∧ (g pos = 60 ∨ g pos = 62 ∨ g pos = 61)) from fun z => by cases z.1)] at z ⊢
    exact ⟨m1, rfl, z⟩
  | true =>
    rw [show okf true = 1 from rfl, if_neg (by decide)]
    by_cases c : g pos = 60 ∨ g pos = 62 ∨ g pos = 61
    · rw [if_pos (show true = true ∧ (g pos = 60 ∨ g pos = 62 ∨ g pos = 61) from ⟨rfl, c⟩)]
      have bb := hg pos (by rcases c with z | z | z <;> rw [z] <;> decide)
      obtain ⟨p5, p6⟩ := p4 rfl
      have gz := gd.2.2 rfl
      have e12 : (z_up m1 1 2 (m1 1 2 + 1)) 1 2 = m1 1 2 + 1 := zu_self
      have sz : (z_up m1 1 2 (m1 1 2 + 1)) 116 2 = m1 116 2 := zu_p (by decide)
      have srow : (z_up m1 1 2 (m1 1 2 + 1)) 117 = m1 117 := zu_rowne (by decide)
      obtain ⟨m2, d1, d2, d3, d4, d5⟩ := c_sum hg hr hd hE (z_up m1 1 2 (m1 1 2 + 1)) ⟨u_g_at.trans g1, by rw [zu_k (by decide), p1.of (by (try unfold c_RL); (repeat' (first | exact trivial | refine z_of_c ?_ ?_)) <;> omega)]; exact b2, by omega, by omega, by omega⟩
      rw [e12] at d1 d3 d5
      rw [sz, srow, p5, p6] at d5
      rw [p2] at d1 d2 d3 d5
      have gd2 := q_su_good hg (q_E_good hg d) (pos + 1) (by omega) (by omega)
      have rp := hr pos
      obtain ⟨m3, f1, f2, f3, f4, f5⟩ := c_emit m2 (2000 + g pos) d4.1 d4.2
      have go : ((z_R 26 (m1, 0, [(2, 1), (0, 1)], [])).bind fun qq => z_R 41 (qq.1, 49, [(2, 116), (0, (d : Int)), (0, 1), (0, g pos)], qq.2.toList ++ [])) = some (m3, some (0, okf (q_su g (q_E g d) (pos + 1)).1)) := by
        rw [c_step1 m1 (by omega) (by omega), zb_v, s_rex_49, if_neg (by decide), p2, d1, zb_v, s_rex_58, z_add_eq (by omega) (by omega), f1, zb_n, s_rex_68]
      have fin : c_RP m m3 ((q_su g (q_E g d) (pos + 1)).1, (q_su g (q_E g d) (pos + 1)).2.1, code ++ (q_su g (q_E g d) (pos + 1)).2.2 ++ [2000 + g pos]) := by
        refine ⟨(p1.tr ((z_same.rf.upo (L := c_RL) (p := 1) (k := 2) (v := pos + 1) (by (try unfold c_RL); first | exact z_on_h rfl (by omega) (by omega) | exact z_on_t (z_on_h rfl (by omega) (by omega)) | exact z_on_t (z_on_t (z_on_h rfl (by omega) (by omega))) | exact z_on_t (z_on_t (z_on_t (z_on_h rfl (by omega) (by omega)))) | exact z_on_t (z_on_t (z_on_t (z_on_t (z_on_h rfl (by omega) (by omega))))) | exact z_on_t (z_on_t (z_on_t (z_on_t (z_on_t (z_on_h rfl (by omega) (by omega)))))) | exact z_on_t (z_on_t (z_on_t (z_on_t (z_on_t (z_on_t (z_on_h rfl (by omega) (by omega))))))) | exact z_on_t (z_on_t (z_on_t (z_on_t (z_on_t (z_on_t (z_on_t (z_on_h rfl (by omega) (by omega)))))))) | exact z_on_t (z_on_t (z_on_t (z_on_t (z_on_t (z_on_t (z_on_t (z_on_t (z_on_h rfl (by omega) (by omega))))))))) | exact z_on_t (z_on_t (z_on_t (z_on_t (z_on_t (z_on_t (z_on_t (z_on_t (z_on_t (z_on_h rfl (by omega) (by omega)))))))))) | exact z_on_t (z_on_t (z_on_t (z_on_t (z_on_t (z_on_t (z_on_t (z_on_t (z_on_t (z_on_t (z_on_h rfl (by omega) (by omega))))))))))) | exact z_on_t (z_on_t (z_on_t (z_on_t (z_on_t (z_on_t (z_on_t (z_on_t (z_on_t (z_on_t (z_on_t (z_on_h rfl (by omega) (by omega)))))))))))) | exact z_on_t (z_on_t (z_on_t (z_on_t (z_on_t (z_on_t (z_on_t (z_on_t (z_on_t (z_on_t (z_on_t (z_on_t (z_on_h rfl (by omega) (by omega))))))))))))))).tr d2)).tr f2, f3.trans d3, f4, fun z => ?_⟩
        obtain ⟨t1, t2⟩ := d5 z
        have gz2 := gd2.2.2 z
        have t3 := f5 (by omega)
        rw [t1, t2] at t3
        refine ⟨?_, ?_⟩
        · rw [t3.1]
          show _ = m 116 2 + (((code ++ (q_su g (q_E g d) (pos + 1)).2.2 ++ [2000 + g pos]).length : Nat) : Int)
          rw [List.length_append, List.length_append]
          show _ = m 116 2 + ((code.length + ((q_su g (q_E g d) (pos + 1)).2.2).length + 1 : Nat) : Int)
          omega
        · rw [t3.2]
          show _ = wr (m 117) (m 116 2).toNat (code ++ (q_su g (q_E g d) (pos + 1)).2.2 ++ [2000 + g pos])
          rw [wr_app, wr_app, List.length_append, show (m 116 2 + (code.length : Int)).toNat = (m 116 2).toNat + code.length by omega, show (m 116 2 + (code.length : Int) + (((q_su g (q_E g d) (pos + 1)).2.2).length : Int)).toNat = (m 116 2).toNat + (code.length + ((q_su g (q_E g d) (pos + 1)).2.2).length) by omega]
          rfl
      refine ⟨m3, ?_, fin⟩
      by_cases c1 : g pos = 60
      · rw [if_pos c1]; exact go
      rw [if_neg c1]
      by_cases c2 : g pos = 62
      · rw [if_pos c2]; exact go
      rw [if_neg c2, if_pos (by omega)]
      exact go
    · have z := no (fun z => c z.2)
      rw [if_neg (show ¬ (true = true ∧ (g pos = 60 ∨ g pos = 62 ∨ g pos = 61)) from fun z => c z.2)] at z ⊢
      rw [if_neg (fun z => c (Or.inl z)), if_neg (fun z => c (Or.inr (Or.inl z))), if_neg (fun z => c (Or.inr (Or.inr z))), c_step0, zb_v, s_rex_49, if_pos rfl]
      exact ⟨m1, rfl, z⟩
theorem c_exprs {g : Int → Int} (hg : q_gb g) (hr : ∀ i, -1 ≤ g i ∧ g i ≤ 255) : ∀ D, D ≤ 4 → c_PE g (4 - D)
  | 0, _ => c_expr hg hr (by decide) (fun z => by omega)
  | D + 1, h => c_expr hg hr (by omega) (fun _ => by
    rw [show 4 - (D + 1) + 1 = 4 - D by omega]
    exact c_exprs hg hr D (by omega))
end
