/-! HOUSE in plain numbers -/
def u_L : List (Nat × Nat × Nat) := [(1, 2, 2), (3, 5, 5), (9, 0, 8)]
def u_P (m m' : z_M) (S : u_S) : Prop := m' 3 5 = S.2.1 ∧ m' 1 2 = S.2.2.1 ∧ m' 9 = S.2.2.2 ∧ z_same u_L m m'
theorem u_P.tr {m m1 m' : z_M} {S : u_S} (h : z_same u_L m m1) (hp : u_P m1 m' S) : u_P m m' S := ⟨hp.1, hp.2.1, hp.2.2.1, h.tr hp.2.2.2⟩
theorem u_g_sm {m m' : z_M} (h : z_same u_L m m') : u_g m' = u_g m := u_g_eq (h.row (by decide)) (h.at (by decide)) (h.at (by decide))
theorem c_sto {y : Int} (hy0 : 0 ≤ y) (hy : y ≤ 2) : ∀ (f : Nat) (x : Int) (v4 : z_V) (m : z_M), 0 ≤ x → x + (f : Int) = 3 → 0 ≤ m 1 2 → m 1 2 ≤ 80 → m 1 1 ≤ 80 → 1 ≤ m 3 5 → m 3 5 ≤ 3 → ∃ m', z_R 21 (m, 2, [(2, 3), (2, 1), (0, y), (0, x), v4], []) = some (m', some (0, if (u_sto (u_g m) y f x (m 3 5) (m 1 2) (m 9)).1 then 1 else 0)) ∧ u_P m m' (u_sto (u_g m) y f x (m 3 5) (m 1 2) (m 9)) := by
  intro f
  induction f with
  | zero =>
    intro x v4 m hx0 hx h0 h0' h1 hw0 hw
    rw [s_sto_2, if_pos (by omega)]
    exact ⟨m, rfl, rfl, rfl, rfl, z_same.rf⟩
  | succ f ih =>
    intro x v4 m hx0 hx h0 h0' h1 hw0 hw
    have hg : u_gb (u_g m) := u_nx_b h1
    have b := u_ic_b hg h0 h0'
    rw [s_sto_2]
    unfold u_sto
    by_cases c1 : m 3 5 ≤ x
    · rw [if_pos c1, if_pos c1]
      exact ⟨m, rfl, rfl, rfl, rfl, z_same.rf⟩
    rw [if_neg c1, if_neg c1, c_ice m h0 h1 h0']
    generalize u_ic (u_g m) (m 1 2) = q at b ⊢
    show ∃ m', z_R 21 (z_up m 1 2 q.1, 14, [(2, 3), (2, 1), (0, y), (0, x), v4], [(0, q.2)]) = _ ∧ _
    rw [s_sto_14]
    have s1 : z_same u_L m (z_up m 1 2 q.1) := z_same.rf.up1 (lo := 2) (hi := 2) (by decide) (by decide) (by decide)
    by_cases c2 : q.2 = -1
    · rw [if_pos c2, if_pos c2]
      exact ⟨_, rfl, zu_p (by decide), zu_self, zu_rowne (by decide), s1⟩
    have ek : z_add (z_mul 3 y) x = 3 * y + x := by rw [z_mul_eq (by omega) (by omega), z_add_eq (by omega) (by omega)]
    have ex : z_add x 1 = x + 1 := z_add_eq (by omega) (by omega)
    rw [if_neg c2, if_neg c2, ek, ex, if_pos ⟨by omega, by omega⟩]
    have e35 : (z_up m 1 2 q.1) 3 5 = m 3 5 := zu_p (by decide)
    rw [e35]
    have s2 : z_same u_L m (z_up (z_up m 1 2 q.1) 9 (3 * y + x).toNat q.2) := s1.up1 (lo := 0) (hi := 8) (by decide) (by omega) (by omega)
    generalize hm2 : z_up (z_up m 1 2 q.1) 9 (3 * y + x).toNat q.2 = m2 at s2 ⊢
    have f1 : m2 1 2 = q.1 := by rw [← hm2, zu_p (by decide), zu_self]
    have f2 : m2 9 = u_up (m 9) (3 * y + x).toNat q.2 := by rw [← hm2, zu_row, zu_rowne (by decide)]
    have f3 : m2 3 5 = m 3 5 := by rw [← hm2, zu_p (by decide), zu_p (by decide)]
    have f4 : m2 1 1 = m 1 1 := s2.at (by decide)
    have f5 := u_g_sm s2
    by_cases c3 : m 3 5 ≤ x + 1
    · rw [if_pos c3, if_pos c3]
      obtain ⟨m', a1, a2⟩ := ih (x + 1) (0, q.2) m2 (by omega) (by omega) (by omega) (by omega) (by omega) (by omega) (by omega)
      rw [f5, f3, f1, f2] at a1 a2
      exact ⟨m', a1, a2.tr s2⟩
    rw [if_neg c3, if_neg c3, c_over m2 44 (by omega) (by omega) (by omega), f5, f1]
    by_cases c4 : u_g m q.1 = 44
    · rw [if_pos c4, if_pos c4]
      show ∃ m', z_R 21 (z_up m2 1 2 (q.1 + 1), 52, [(2, 3), (2, 1), (0, y), (0, x), (0, q.2)], [(0, 1)]) = _ ∧ _
      have hb := hg q.1 (by omega)
      have s3 : z_same u_L m (z_up m2 1 2 (q.1 + 1)) := s2.up1 (lo := 2) (hi := 2) (by decide) (by decide) (by decide)
      rw [s_sto_52, if_neg (by decide), ex]
      have g1 : (z_up m2 1 2 (q.1 + 1)) 1 2 = q.1 + 1 := zu_self
      have g2 : (z_up m2 1 2 (q.1 + 1)) 9 = u_up (m 9) (3 * y + x).toNat q.2 := (zu_rowne (by decide)).trans f2
      have g3 : (z_up m2 1 2 (q.1 + 1)) 3 5 = m 3 5 := (zu_p (by decide)).trans f3
      have g4 : (z_up m2 1 2 (q.1 + 1)) 1 1 = m 1 1 := s3.at (by decide)
      obtain ⟨m', a1, a2⟩ := ih (x + 1) (0, q.2) (z_up m2 1 2 (q.1 + 1)) (by omega) (by omega) (by omega) (by omega) (by omega) (by omega) (by omega)
      rw [u_g_sm s3, g3, g1, g2] at a1 a2
      exact ⟨m', a1, a2.tr s3⟩
    rw [if_neg c4, if_neg c4]
    show ∃ m', z_R 21 (m2, 52, [(2, 3), (2, 1), (0, y), (0, x), (0, q.2)], [(0, 0)]) = _ ∧ _
    rw [s_sto_52, if_pos rfl, ex]
    by_cases c5 : y ≤ 0
    · rw [if_pos c5, if_pos c5]
      have s3 : z_same u_L m (z_up m2 3 5 (x + 1)) := s2.up1 (lo := 5) (hi := 5) (by decide) (by decide) (by decide)
      have g1 : (z_up m2 3 5 (x + 1)) 1 2 = q.1 := (zu_p (by decide)).trans f1
      have g2 : (z_up m2 3 5 (x + 1)) 9 = u_up (m 9) (3 * y + x).toNat q.2 := (zu_rowne (by decide)).trans f2
      have g3 : (z_up m2 3 5 (x + 1)) 3 5 = x + 1 := zu_self
      have g4 : (z_up m2 3 5 (x + 1)) 1 1 = m 1 1 := s3.at (by decide)
      obtain ⟨m', a1, a2⟩ := ih (x + 1) (0, q.2) (z_up m2 3 5 (x + 1)) (by omega) (by omega) (by omega) (by omega) (by omega) (by omega) (by omega)
      rw [u_g_sm s3, g3, g1, g2] at a1 a2
      exact ⟨m', a1, a2.tr s3⟩
    · rw [if_neg c5, if_neg c5]
      exact ⟨m2, rfl, f3, f1, f2, s2⟩
def u_L2 : List (Nat × Nat × Nat) := [(1, 2, 3), (3, 5, 6), (9, 0, 8)]
def u_P2 (m m' : z_M) (S : u_H) : Prop := m' 3 5 = S.2.1 ∧ (S.1 = true → m' 3 6 = S.2.2.1) ∧ m' 1 2 = S.2.2.2.1 ∧ m' 9 = S.2.2.2.2 ∧ z_same u_L2 m m'
theorem u_L_12 {m m' : z_M} (h : z_same u_L m m') : z_same u_L2 m m' := h.sub (by decide)
theorem u_P2.tr {m m1 m' : z_M} {S : u_H} (h : z_same u_L2 m m1) (hp : u_P2 m1 m' S) : u_P2 m m' S := ⟨hp.1, hp.2.1, hp.2.2.1, hp.2.2.2.1, h.tr hp.2.2.2.2⟩
theorem c_hou : ∀ (f : Nat) (y : Int) (m : z_M), 0 ≤ y → y + (f : Int) = 3 → 0 ≤ m 1 2 → m 1 2 ≤ 80 → m 1 1 ≤ 80 → 1 ≤ m 3 5 → m 3 5 ≤ 3 → ∃ m', z_R 19 (m, 13, [(2, 3), (2, 1), (0, y)], []) = some (m', some (0, if (u_hou (u_g m) (m 1 1) f y (m 3 5) (m 1 2) (m 9)).1 then 1 else 0)) ∧ u_P2 m m' (u_hou (u_g m) (m 1 1) f y (m 3 5) (m 1 2) (m 9)) := by
  intro f
  induction f with
  | zero =>
    intro y m hy0 hy h0 h0' h1 hw0 hw
    rw [s_rh_13, if_pos (by omega)]
    exact ⟨m, rfl, rfl, (fun z => by cases z), rfl, rfl, z_same.rf⟩
  | succ f ih =>
    intro y m hy0 hy h0 h0' h1 hw0 hw
    have hg : u_gb (u_g m) := u_nx_b h1
    have ey : z_add y 1 = y + 1 := z_add_eq (by omega) (by omega)
    rw [s_rh_13, if_neg (by omega), ey, s_sto_0]
    have s0 : z_same u_L2 m (z_up m 3 6 (y + 1)) := z_same.rf.up1 (lo := 5) (hi := 6) (by decide) (by decide) (by decide)
    have e1 : (z_up m 3 6 (y + 1)) 1 2 = m 1 2 := zu_p (by decide)
    have e2 : (z_up m 3 6 (y + 1)) 1 1 = m 1 1 := zu_p (by decide)
    have e3 : (z_up m 3 6 (y + 1)) 3 5 = m 3 5 := zu_k (by decide)
    have e4 : (z_up m 3 6 (y + 1)) 9 = m 9 := zu_rowne (by decide)
    have e5 : u_g (z_up m 3 6 (y + 1)) = u_g m := u_g_eq (zu_rowne (by decide)) (zu_p (by decide)) (zu_p (by decide))
    obtain ⟨m1, a1, a2, a3, a4, a5⟩ := c_sto hy0 (by omega) 3 0 (9, 0) (z_up m 3 6 (y + 1)) (by decide) (by decide) (by omega) (by omega) (by omega) (by omega) (by omega)
    rw [e5, e3, e1, e4] at a1 a2 a3 a4
    have hb := u_sto_b hg (y := y) 3 0 (m 3 5) (m 1 2) (m 9) (by decide) hw0 hw h0 h0'
    unfold u_hou
    generalize u_sto (u_g m) y 3 0 (m 3 5) (m 1 2) (m 9) = S at a1 a2 a3 a4 hb ⊢
    obtain ⟨ok, w1, i1, b1⟩ := S
    simp only at a1 a2 a3 a4 hb ⊢
    have s1 : z_same u_L2 m m1 := s0.tr (u_L_12 a5)
    have e6 : m1 3 6 = y + 1 := (a5.at (by decide)).trans zu_self
    have e7 : m1 1 1 = m 1 1 := s1.at (by decide)
    have e8 : u_g m1 = u_g m := (u_g_sm a5).trans e5
    rw [a1]
    show ∃ m', z_R 19 (m1, 31, [(2, 3), (2, 1), (0, y)], [(0, if ok = true then 1 else 0)]) = _ ∧ _
    rw [s_rh_31]
    by_cases c1 : ok = false
    · subst c1
      exact ⟨m1, rfl, a2, (fun z => by cases z), a3, a4, s1⟩
    have c1' : ok = true := by cases ok <;> simp_all
    subst c1'
    rw [if_neg c1, if_neg (by decide), s_ended_0, a3, e7]
    by_cases c2 : m 1 1 ≤ i1
    · rw [if_pos c2, if_neg (by omega)]
      show ∃ m', z_R 19 (m1, 40, [(2, 3), (2, 1), (0, y)], [(0, 1)]) = _ ∧ _
      rw [s_rh_40, if_neg (by decide)]
      exact ⟨m1, rfl, a2, (fun _ => e6), a3, a4, s1⟩
    rw [if_neg c2, if_pos (by omega)]
    show ∃ m', z_R 19 (m1, 40, [(2, 3), (2, 1), (0, y)], [(0, 0)]) = _ ∧ _
    rw [s_rh_40, if_pos rfl, e6]
    by_cases c3 : 3 ≤ y + 1
    · rw [if_pos c3, if_pos c3, ey, s_rh_13, if_pos c3]
      exact ⟨m1, rfl, a2, (fun z => by cases z), a3, a4, s1⟩
    rw [if_neg c3, if_neg c3, c_over m1 47 (by omega) (by omega) (by omega), e8, a3]
    by_cases c4 : u_g m i1 = 47
    · rw [if_pos c4, if_pos c4]
      show ∃ m', z_R 19 (z_up m1 1 2 (i1 + 1), 59, [(2, 3), (2, 1), (0, y)], [(0, 1)]) = _ ∧ _
      have hb2 := hg i1 (by omega)
      have s3 : z_same u_L2 m (z_up m1 1 2 (i1 + 1)) := s1.up1 (lo := 2) (hi := 3) (by decide) (by decide) (by decide)
      have g1 : (z_up m1 1 2 (i1 + 1)) 1 2 = i1 + 1 := zu_self
      have g2 : (z_up m1 1 2 (i1 + 1)) 9 = b1 := (zu_rowne (by decide)).trans a4
      have g3 : (z_up m1 1 2 (i1 + 1)) 3 5 = w1 := (zu_p (by decide)).trans a2
      have g4 : (z_up m1 1 2 (i1 + 1)) 1 1 = m 1 1 := (zu_k (by decide)).trans e7
      have g5 : u_g (z_up m1 1 2 (i1 + 1)) = u_g m := u_g_at.trans e8
      rw [s_rh_59, if_neg (by decide), ey]
      obtain ⟨m', d1, d2⟩ := ih (y + 1) (z_up m1 1 2 (i1 + 1)) (by omega) (by omega) (by omega) (by omega) (by omega) (by omega) (by omega)
      rw [g5, g4, g3, g1, g2] at d1 d2
      exact ⟨m', d1, d2.tr s3⟩
    · rw [if_neg c4, if_neg c4]
      show ∃ m', z_R 19 (m1, 59, [(2, 3), (2, 1), (0, y)], [(0, 0)]) = _ ∧ _
      rw [s_rh_59, if_pos rfl]
      exact ⟨m1, rfl, a2, (fun z => by cases z), a3, a4, s1⟩
theorem c_readHouse (m : z_M) (h1 : m 1 1 ≤ 80) : ∃ m', z_R 19 (m, 0, [(2, 3), (2, 1), (9, 0)], []) = some (m', some (0, if (u_hou (u_nx (m 2) (m 1 1) 80) (m 1 1) 3 0 3 0 (m 9)).1 then 1 else 0)) ∧ u_P2 m m' (u_hou (u_nx (m 2) (m 1 1) 80) (m 1 1) 3 0 3 0 (m 9)) := by
  rw [s_rh_0, s_begin_0]
  show ∃ m', z_R 19 (z_up (z_up m 1 2 0) 1 3 80, 6, [(2, 3), (2, 1), (9, 0)], []) = _ ∧ _
  rw [s_rh_6]
  have s0 : z_same u_L2 m (z_up (z_up (z_up m 1 2 0) 1 3 80) 3 5 3) := ((z_same.rf.up1 (lo := 2) (hi := 3) (by decide) (by decide) (by decide)).up1 (lo := 2) (hi := 3) (by decide) (by decide) (by decide)).up1 (lo := 5) (hi := 6) (by decide) (by decide) (by decide)
  generalize hm : z_up (z_up (z_up m 1 2 0) 1 3 80) 3 5 3 = m0 at s0 ⊢
  have g1 : m0 1 2 = 0 := by rw [← hm, zu_p (by decide), zu_k (by decide), zu_self]
  have g2 : m0 9 = m 9 := by rw [← hm, zu_rowne (by decide), zu_rowne (by decide), zu_rowne (by decide)]
  have g3 : m0 3 5 = 3 := by rw [← hm, zu_self]
  have g4 : m0 1 1 = m 1 1 := s0.at (by decide)
  have g5 : u_g m0 = u_nx (m 2) (m 1 1) 80 := by
    unfold u_g
    rw [s0.row (by decide), g4, show m0 1 3 = 80 by rw [← hm, zu_p (by decide), zu_self]]
  obtain ⟨m', d1, d2⟩ := c_hou 3 0 m0 (by decide) (by decide) (by omega) (by omega) (by omega) (by omega) (by omega)
  rw [g5, g4, g3, g1, g2] at d1 d2
  exact ⟨m', d1, d2.tr s0⟩
/-! building it: columns and storeys stand -/
theorem c_clear : ∀ (f : Nat) (x : Int) (m : z_M), 0 ≤ x → x + (f : Int) = 9 → ∃ m', z_R 31 (m, 2, [(2, 12), (0, x)], []) = some (m', none) ∧ z_same [(12, 5, 7), (13, 0, 8), (14, 0, 8)] m m' := by
  intro f
  induction f with
  | zero =>
    intro x m h0 h
    rw [s_clear_2, if_pos (by omega)]
    exact ⟨_, rfl, ((z_same.rf.up1 (lo := 5) (hi := 7) (by decide) (by decide) (by decide)).up1 (lo := 5) (hi := 7) (by decide) (by decide) (by decide)).up1 (lo := 5) (hi := 7) (by decide) (by decide) (by decide)⟩
  | succ f ih =>
    intro x m h0 h
    rw [s_clear_2, if_neg (by omega), if_pos ⟨h0, by omega⟩, if_pos ⟨h0, by omega⟩, z_add_eq (by omega) (by omega)]
    obtain ⟨m', a1, a2⟩ := ih (x + 1) (z_up (z_up m 13 x.toNat 0) 14 x.toNat 0) (by omega) (by omega)
    exact ⟨m', a1, ((z_same.rf.up1 (lo := 0) (hi := 8) (by decide) (by omega) (by omega)).up1 (lo := 0) (hi := 8) (by decide) (by omega) (by omega)).tr a2⟩
theorem c_has (m : z_M) (a : Int) : ∃ v, z_R 32 (m, 0, [(2, 3), (0, a)], []) = some (m, some (0, v)) := by
  rw [s_has_0]
  by_cases h1 : a < 0
  · rw [if_pos h1]; exact ⟨_, rfl⟩
  rw [if_neg h1]
  by_cases h2 : 9 ≤ a
  · rw [if_pos h2]; exact ⟨_, rfl⟩
  rw [if_neg h2]
  by_cases h3 : m 3 8 ≤ z_rem a 3
  · rw [if_pos h3]; exact ⟨_, rfl⟩
  rw [if_neg h3]
  by_cases h4 : m 3 9 ≤ z_div a 3
  · rw [if_pos h4]; exact ⟨_, rfl⟩
  · rw [if_neg h4]; exact ⟨_, rfl⟩
theorem c_build1 : ∀ (f : Nat) (x : Int) (m : z_M), 0 ≤ x → x + (f : Int) = 9 → ∃ m', z_R 30 (m, 32, [(2, 3), (2, 12), (0, x)], []) = some (m', some (0, z_mul (m 3 8) (m 3 9))) ∧ z_same [(3, 10, 10), (13, 0, 8)] m m' := by
  intro f
  induction f with
  | zero =>
    intro x m h0 h
    rw [s_build_32, if_pos (by omega)]
    exact ⟨m, rfl, z_same.rf⟩
  | succ f ih =>
    intro x m h0 h
    obtain ⟨v, hv⟩ := c_has m x
    rw [s_build_32, if_neg (by omega), hv]
    show ∃ m', z_R 30 (m, 43, [(2, 3), (2, 12), (0, x)], [(0, v)]) = _ ∧ _
    rw [s_build_43, z_add_eq (by omega) (by omega)]
    by_cases c : v = 0
    · rw [if_pos c]
      exact ih (x + 1) m (by omega) (by omega)
    · rw [if_neg c, if_pos ⟨h0, by omega⟩, if_pos ⟨h0, by omega⟩]
      have s1 : z_same [(3, 10, 10), (13, 0, 8)] m (z_up (z_up m 13 x.toNat (m 9 x.toNat)) 3 10 (z_or (m 3 10) (z_shl 1 x))) := (z_same.rf.up1 (lo := 0) (hi := 8) (by decide) (by omega) (by omega)).up1 (lo := 10) (hi := 10) (by decide) (by decide) (by decide)
      obtain ⟨m', a1, a2⟩ := ih (x + 1) (z_up (z_up m 13 x.toNat (m 9 x.toNat)) 3 10 (z_or (m 3 10) (z_shl 1 x))) (by omega) (by omega)
      rw [s1.at (p := 3) (k := 8) (by decide), s1.at (p := 3) (k := 9) (by decide)] at a1
      exact ⟨m', a1, s1.tr a2⟩
theorem c_build (m : z_M) : ∃ m', z_R 30 (m, 0, [(2, 3), (2, 12), (9, 0)], []) = some (m', some (0, z_mul (m 3 5) (m 3 6))) ∧ m' 3 8 = m 3 5 ∧ m' 3 9 = m 3 6 ∧ m' 3 11 = 0 ∧ z_same [(3, 8, 11), (12, 5, 7), (13, 0, 8), (14, 0, 8)] m m' := by
  rw [s_build_0, s_clear_0]
  have s0 : z_same [(3, 8, 11), (12, 5, 7), (13, 0, 8), (14, 0, 8)] m (z_up (z_up (z_up (z_up m 3 8 (m 3 5)) 3 9 (m 3 6)) 3 11 0) 3 10 0) := (((z_same.rf.up1 (lo := 8) (hi := 11) (by decide) (by decide) (by decide)).up1 (lo := 8) (hi := 11) (by decide) (by decide) (by decide)).up1 (lo := 8) (hi := 11) (by decide) (by decide) (by decide)).up1 (lo := 8) (hi := 11) (by decide) (by decide) (by decide)
  generalize hm : z_up (z_up (z_up (z_up m 3 8 (m 3 5)) 3 9 (m 3 6)) 3 11 0) 3 10 0 = m0 at s0 ⊢
  have g8 : m0 3 8 = m 3 5 := by rw [← hm, zu_k (by decide), zu_k (by decide), zu_k (by decide), zu_self]
  have g9 : m0 3 9 = m 3 6 := by rw [← hm, zu_k (by decide), zu_k (by decide), zu_self]
  have g11 : m0 3 11 = 0 := by rw [← hm, zu_k (by decide), zu_self]
  obtain ⟨m1, a1, a2⟩ := c_clear 9 0 m0 (by decide) (by decide)
  rw [a1]
  show ∃ m', z_R 30 (m1, 30, [(2, 3), (2, 12), (9, 0)], []) = _ ∧ _
  rw [s_build_30]
  obtain ⟨m2, b1, b2⟩ := c_build1 9 0 m1 (by decide) (by decide)
  have k8 := a2.at (p := 3) (k := 8) (by decide)
  have k9 := a2.at (p := 3) (k := 9) (by decide)
  rw [k8, k9, g8, g9] at b1
  exact ⟨m2, b1, (b2.at (by decide)).trans (k8.trans g8), (b2.at (by decide)).trans (k9.trans g9), (b2.at (by decide)).trans ((a2.at (by decide)).trans g11), (s0.tr (a2.sub (by decide))).tr (b2.sub (by decide))⟩
theorem c_fk : ∀ (f : Nat) (x : Int) (m : z_M), 0 ≤ x → x + (f : Int) = 2 → ∃ m', z_R 34 (m, 2, [(2, 28), (0, x)], []) = some (m', none) ∧ z_same [(31, 0, 1)] m m' ∧ ∀ k : Nat, (k : Int) < 2 → m' 31 k = if x ≤ (k : Int) then -1 else m 31 k := by
  intro f
  induction f with
  | zero =>
    intro x m h0 h
    rw [s_fk_2, if_pos (by omega)]
    exact ⟨_, rfl, z_same.rf, fun k hk => by rw [if_neg (by omega)]⟩
  | succ f ih =>
    intro x m h0 h
    rw [s_fk_2, if_neg (by omega), if_pos ⟨h0, by omega⟩, z_add_eq (by omega) (by omega)]
    obtain ⟨m', a1, a2, a3⟩ := ih (x + 1) (z_up m 31 x.toNat (-1)) (by omega) (by omega)
    refine ⟨m', a1, (z_same.rf.up1 (lo := 0) (hi := 1) (by decide) (by omega) (by omega)).tr a2, fun k hk => ?_⟩
    rw [a3 k hk, zu_at]
    by_cases c : x + 1 ≤ (k : Int)
    · rw [if_pos c, if_pos (show x ≤ (k : Int) by omega)]
    · rw [if_neg c]
      by_cases c' : k = x.toNat
      · rw [if_pos c', if_pos (show x ≤ (k : Int) by omega)]
      · rw [if_neg c', if_neg (show ¬ x ≤ (k : Int) by omega)]
theorem u_hou_b {g : Int → Int} (hg : u_gb g) {n : Int} : ∀ (f : Nat) (y w i : Int) (a : Nat → Int), 0 ≤ y → y + (f : Int) ≤ 3 → 1 ≤ w → w ≤ 3 → 0 ≤ i → i ≤ 80 → 1 ≤ (u_hou g n f y w i a).2.1 ∧ (u_hou g n f y w i a).2.1 ≤ 3 ∧ 0 ≤ (u_hou g n f y w i a).2.2.1 ∧ (u_hou g n f y w i a).2.2.1 ≤ 3 ∧ 0 ≤ (u_hou g n f y w i a).2.2.2.1 ∧ (u_hou g n f y w i a).2.2.2.1 ≤ 80 := by
  intro f
  induction f with
  | zero => intro y w i a h0 h1 h2 h3 h4 h5; exact ⟨h2, h3, h0, by show y ≤ 3; omega, h4, h5⟩
  | succ f ih =>
    intro y w i a h0 h1 h2 h3 h4 h5
    have b := u_sto_b hg (y := y) 3 0 w i a (by decide) h2 h3 h4 h5
    unfold u_hou
    generalize u_sto g y 3 0 w i a = S at b ⊢
    obtain ⟨ok, w1, i1, b1⟩ := S
    simp only at b ⊢
    by_cases c1 : ok = false
    · rw [if_pos c1]; exact ⟨b.1, b.2.1, by show 0 ≤ y + 1; omega, by show y + 1 ≤ 3; omega, b.2.2.1, b.2.2.2⟩
    rw [if_neg c1]
    by_cases c2 : n ≤ i1
    · rw [if_pos c2]; exact ⟨b.1, b.2.1, by show 0 ≤ y + 1; omega, by show y + 1 ≤ 3; omega, b.2.2.1, b.2.2.2⟩
    rw [if_neg c2]
    by_cases c3 : 3 ≤ y + 1
    · rw [if_pos c3]; exact ⟨b.1, b.2.1, by show 0 ≤ y + 1; omega, by show y + 1 ≤ 3; omega, b.2.2.1, b.2.2.2⟩
    rw [if_neg c3]
    by_cases c4 : g i1 = 47
    · rw [if_pos c4]
      have := hg i1 (by omega)
      exact ih _ _ _ _ (by omega) (by omega) b.1 b.2.1 (by omega) (by omega)
    · rw [if_neg c4]; exact ⟨b.1, b.2.1, by show 0 ≤ y + 1; omega, by show y + 1 ≤ 3; omega, b.2.2.1, b.2.2.2⟩
theorem u_mul3 {a b : Int} (h0 : 1 ≤ a) (h1 : a ≤ 3) (h2 : 0 ≤ b) (h3 : b ≤ 3) : z_mul a b = a * b := by
  rcases (show a = 1 ∨ a = 2 ∨ a = 3 by omega) with rfl | rfl | rfl <;> exact z_mul_eq (by omega) (by omega)
/-- what house leaves of the rooms and persons: by (columns, storeys, persons) before and behind -/
def u_after (S : u_H) (a b : Int × Int × Int) : Prop := b = if S.1 = true then (S.2.1, S.2.2.1, 0) else a
/-- what is kept is gone (v stands there) if the house stands -/
def u_gone (S : u_H) (v : Int) (a b : Nat → Int) : Prop := (S.1 = true → b 0 = v ∧ b 1 = v) ∧ (S.1 = false → b = a)
def u_csp (m : z_M) : Int × Int × Int := (m 3 8, m 3 9, m 3 11)
def u_rsp (m : z_M) : Int × Int × Int := (m 251 1, m 251 2, m 251 3)
theorem c_house (m : z_M) (h0 : 0 ≤ m 1 1) (h1 : m 1 1 ≤ 80) : ∃ m', z_R 18 (m, 0, [(2, 0), (9, 0), (9, 0)], []) = some (m', some (0, u_ans (u_hou (u_nx (m 2) (m 1 1) 80) (m 1 1) 3 0 3 0 (m 9)))) ∧ u_after (u_hou (u_nx (m 2) (m 1 1) 80) (m 1 1) 3 0 3 0 (m 9)) (u_csp m) (u_csp m') ∧ u_gone (u_hou (u_nx (m 2) (m 1 1) 80) (m 1 1) 3 0 3 0 (m 9)) (-1) (m 31) (m' 31) := by
  have b := u_hou_b (u_nx_b h1) (n := m 1 1) 3 0 3 0 (m 9) (g := u_nx (m 2) (m 1 1) 80) (by decide) (by decide) (by decide) (by decide) (by decide) (by decide)
  obtain ⟨m1, a1, a2⟩ := c_readHouse m h1
  generalize u_hou (u_nx (m 2) (m 1 1) 80) (m 1 1) 3 0 3 0 (m 9) = S at a1 a2 b ⊢
  obtain ⟨ok, w, h, i, a⟩ := S
  obtain ⟨p1, p2, p3, p4, p5⟩ := a2
  simp only at a1 p1 p2 p3 p4 b
  unfold u_ans u_after u_gone
  simp only
  rw [s_house_0, a1]
  show ∃ m', z_R 18 (m1, 11, [(2, 0), (9, 0), (9, 0)], [(0, if ok = true then 1 else 0)]) = _ ∧ _
  rw [s_house_11, s_empty_0]
  show ∃ m', z_R 18 (z_up m1 1 1 0, 19, [(2, 0), (0, if ok = true then 1 else 0), (9, 0)], []) = _ ∧ _
  rw [s_house_19]
  by_cases c : ok = true
  · rw [if_pos c, if_neg (by decide), if_pos c, if_pos c]
    obtain ⟨m2, d1, d2, d3, d4, d5⟩ := c_build (z_up m1 1 1 0)
    have e1 : (z_up m1 1 1 0) 3 5 = w := (zu_p (by decide)).trans p1
    have e2 : (z_up m1 1 1 0) 3 6 = h := (zu_p (by decide)).trans (p2 c)
    rw [e1, e2] at d1
    rw [e1] at d2
    rw [e2] at d3
    rw [d1]
    show ∃ m', z_R 18 (m2, 44, [(2, 0), (0, 1), (9, 0)], [(0, z_mul w h)]) = _ ∧ _
    rw [s_house_44, s_fd_0]
    show ∃ m', z_R 18 (z_up m2 28 4 0, 52, [(2, 0), (0, 1), (0, z_mul w h)], []) = _ ∧ _
    rw [s_house_52, s_fk_0]
    obtain ⟨m3, f1, f2, f3⟩ := c_fk 2 0 (z_up m2 28 4 0) (by decide) (by decide)
    rw [f1]
    refine ⟨m3, (s_house_59 _ _ _).trans (by rw [u_mul3 b.1 b.2.1 b.2.2.1 b.2.2.2.1]), ?_, fun _ => ⟨(f3 0 (by decide)).trans (if_pos (by decide)), (f3 1 (by decide)).trans (if_pos (by decide))⟩, fun z => absurd (c.symm.trans z) (by decide)⟩
    unfold u_csp
    rw [f2.at (p := 3) (k := 8) (by decide), f2.at (p := 3) (k := 9) (by decide), f2.at (p := 3) (k := 11) (by decide), zu_p (by decide), zu_p (by decide), zu_p (by decide), d2, d3, d4]
  · rw [if_neg c, if_pos rfl, if_neg c, if_neg c]
    have e1 : (z_up m1 1 1 0) 1 2 = i := (zu_k (by decide)).trans p3
    rw [e1, z_sub_eq (by omega) (by omega)]
    refine ⟨_, rfl, ?_, fun z => absurd z c, fun _ => (zu_rowne (by decide)).trans (p5.row (by decide))⟩
    unfold u_csp
    rw [zu_p (by decide), zu_p (by decide), zu_p (by decide), p5.at (p := 3) (k := 8) (by decide), p5.at (p := 3) (k := 9) (by decide), p5.at (p := 3) (k := 11) (by decide)]
/-! the same in the reference -/
def u_M : List (Nat × Nat × Nat) := [(251, 15, 16), (256, 0, 8)]
theorem u_q_sm {m m' : z_M} (h : z_same u_M m m') : u_q m' = u_q m := u_q_eq (h.row (by decide)) (h.at (by decide)) (h.at (by decide))
theorem u_W_sm {m m' : z_M} (hw : u_W m) (h : z_same u_M m m') (h0 : 0 ≤ m' 251 15) (h1 : m' 251 15 ≤ 80) : u_W m' := by
  obtain ⟨a1, a2, a3, a4, a5⟩ := hw
  refine ⟨(h.at (by decide)).trans a1, h0, h1, by rw [h.at (p := 251) (k := 13) (by decide)]; exact a4, fun k hk => ?_⟩
  rw [h.row (p := 254) (by decide)]
  exact a5 k hk
theorem t_f162 (m : z_M) (x1 x2 x3 : Int) (v4 v5 : z_V) (h : ¬ m 251 16 = -1) : z_R 163 (m, 162, [(2, 251), (0, x1), (0, x2), (0, x3), v4, v5], []) = some (m, some (0, z_sub (-1) (m 251 16))) := by
  have e : z_R 163 (m, 185, [(2, 251), (0, x1), (0, x2), (0, x3), v4, v5], [(0, 0)]) = some (m, some (0, z_sub (-1) (m 251 16))) := by rw [t_house_185, if_pos rfl]
  rw [t_house_162]
  by_cases c : m 251 13 ≤ m 251 15
  · rw [if_pos c, t_fine0 m h]
    exact e
  · rw [if_neg c, t_fault0 m _ h]
    show z_R 163 (m, 181, [(2, 251), (0, x1), (0, x2), (0, x3), v4, v5], []) = _
    rw [t_house_181, t_fine0 m h]
    exact e
theorem t_f30 (m : z_M) (x1 x2 x3 : Int) (v4 v5 : z_V) (h : ¬ m 251 16 = -1) : z_R 163 (m, 30, [(2, 251), (0, x1), (0, x2), (0, x3), v4, v5], []) = some (m, some (0, z_sub (-1) (m 251 16))) := by
  rw [t_house_30]
  by_cases c : x3 = 0
  · rw [if_pos c]; exact t_f162 m _ _ _ _ _ h
  · rw [if_neg c, t_fine0 m h]
    show z_R 163 (m, 38, [(2, 251), (0, x1), (0, x2), (0, x3), v4, v5], [(0, 0)]) = _
    rw [t_house_38, if_pos rfl]
    exact t_f162 m _ _ _ _ _ h
theorem t_f136 (m : z_M) (x1 x2 x3 x4 x5 : Int) (h : ¬ m 251 16 = -1) : z_R 163 (m, 136, [(2, 251), (0, x1), (0, x2), (0, x3), (0, x4), (0, x5)], []) = some (m, some (0, z_sub (-1) (m 251 16))) := by
  rw [t_house_136]
  by_cases c : 3 ≤ z_add x2 1
  · rw [if_pos c]; exact t_f30 m _ _ _ _ _ h
  · rw [if_neg c, t_pass0 m _ h]
    show z_R 163 (m, 150, [(2, 251), (0, x1), (0, z_add x2 1), (0, x3), (0, x4), (0, x5)], [(0, 0)]) = _
    rw [t_house_150, if_pos rfl]
    exact t_f30 m _ _ _ _ _ h
theorem t_f129 (m : z_M) (x1 x2 x3 x4 x5 : Int) (h : ¬ m 251 16 = -1) : z_R 163 (m, 129, [(2, 251), (0, x1), (0, x2), (0, x3), (0, x4), (0, x5)], []) = some (m, some (0, z_sub (-1) (m 251 16))) := by
  rw [t_house_129]
  by_cases c : x2 = 0
  · rw [if_pos c]; exact t_f136 m _ _ _ _ _ h
  · rw [if_neg c]; exact t_f136 m _ _ _ _ _ h
theorem t_f47 (m : z_M) (x1 x2 x3 x4 x5 : Int) (h : ¬ m 251 16 = -1) : z_R 163 (m, 47, [(2, 251), (0, x1), (0, x2), (0, x3), (0, x4), (0, x5)], []) = some (m, some (0, z_sub (-1) (m 251 16))) := by
  have e : z_R 163 (m, 111, [(2, 251), (0, x1), (0, x2), (0, x3), (0, x4), (0, x5)], []) = some (m, some (0, z_sub (-1) (m 251 16))) := by
    rw [t_house_111]
    by_cases c : x2 ≤ 0
    · rw [if_pos c]; exact t_f129 m _ _ _ _ _ h
    rw [if_neg c]
    by_cases c' : x1 ≤ x4
    · rw [if_pos c']; exact t_f129 m _ _ _ _ _ h
    · rw [if_neg c', t_fault0 m _ h]
      exact t_f129 m _ _ _ _ _ h
  rw [t_house_47]
  by_cases c : x5 = 0
  · rw [if_pos c]; exact e
  · rw [if_neg c, t_fine0 m h]
    show z_R 163 (m, 56, [(2, 251), (0, x1), (0, x2), (0, x3), (0, x4), (0, x5)], [(0, 0)]) = _
    rw [t_house_56, if_pos rfl]
    exact e
theorem t_f74 (m : z_M) (x1 x2 x3 x4 x5 s0 u : Int) (h : ¬ m 251 16 = -1) (h0 : 0 ≤ s0) (h1 : s0 < 9) : ∃ m', z_R 163 (m, 74, [(2, 251), (0, x1), (0, x2), (0, x3), (0, x4), (0, x5)], [(0, u), (0, s0), (2, 256)]) = some (m', some (0, z_sub (-1) (m 251 16))) ∧ z_same u_M m m' := by
  have hs : z_same u_M m (z_up m 256 s0.toNat u) := z_same.rf.up1 (lo := 0) (hi := 8) (by decide) (by omega) (by omega)
  rw [t_house_74, if_pos ⟨h0, by omega⟩]
  have hm : (z_up m 256 s0.toNat u) 251 16 = m 251 16 := zu_p (by decide)
  have hm' : ¬ (z_up m 256 s0.toNat u) 251 16 = -1 := by rw [hm]; exact h
  have e : ∀ x4 x5 : Int, z_R 163 (z_up m 256 s0.toNat u, 98, [(2, 251), (0, x1), (0, x2), (0, x3), (0, x4), (0, x5)], [(0, 0)]) = some (z_up m 256 s0.toNat u, some (0, z_sub (-1) (m 251 16))) := by
    intro x4 x5
    rw [t_house_98, if_pos rfl, t_f47 _ _ _ _ _ _ hm', hm]
  by_cases c : x2 = 0
  · rw [if_pos c]
    by_cases c' : 3 ≤ z_add x4 1
    · rw [if_pos c', t_f47 _ _ _ _ _ _ hm', hm]; exact ⟨_, rfl, hs⟩
    · rw [if_neg c', t_pass0 _ _ hm']; exact ⟨_, e _ _, hs⟩
  · rw [if_neg c]
    by_cases c' : x1 ≤ z_add x4 1
    · rw [if_pos c', t_f47 _ _ _ _ _ _ hm', hm]; exact ⟨_, rfl, hs⟩
    · rw [if_neg c', t_pass0 _ _ hm']; exact ⟨_, e _ _, hs⟩
/-- behind a storey's last ICE -/
theorem t_ok111 {y : Int} (hy0 : 0 ≤ y) (x1 x3 x4 : Int) (m : z_M) (hx : ¬ y = 0 → x4 = x1) : z_R 163 (m, 47, [(2, 251), (0, x1), (0, y), (0, x3), (0, x4), (0, 0)], []) = z_R 163 (m, 136, [(2, 251), (0, x4), (0, y), (0, x3), (0, x4), (0, 0)], []) := by
  rw [t_house_47, if_pos rfl, t_house_111]
  by_cases c : y = 0
  · rw [if_pos (by omega), t_house_129, if_pos c]
  · rw [if_neg (by omega), if_pos (by rw [hx c]; exact Int.le_refl _), t_house_129, if_neg c, hx c]
/-- a storey -/
theorem t_sto {y : Int} (hy0 : 0 ≤ y) (hy : y ≤ 2) : ∀ (f : Nat) (x x1 x3 w : Int) (m : z_M), u_W m → m 251 16 = -1 → 0 ≤ x → x + (f : Int) = 3 → x < w → w ≤ 3 → (y = 0 → w = 3) → (¬ y = 0 → w = x1) → ∃ m' x4, z_R 163 (m, 47, [(2, 251), (0, x1), (0, y), (0, x3), (0, x), (0, 1)], []) = (if (u_sto (u_q m) y f x w (m 251 15) (m 256)).1 = true then z_R 163 (m', 136, [(2, 251), (0, (u_sto (u_q m) y f x w (m 251 15) (m 256)).2.1), (0, y), (0, x3), (0, x4), (0, 0)], []) else some (m', some (0, -1 - (u_sto (u_q m) y f x w (m 251 15) (m 256)).2.2.1))) ∧ ((u_sto (u_q m) y f x w (m 251 15) (m 256)).1 = true → m' 251 16 = -1 ∧ m' 251 15 = (u_sto (u_q m) y f x w (m 251 15) (m 256)).2.2.1 ∧ m' 256 = (u_sto (u_q m) y f x w (m 251 15) (m 256)).2.2.2) ∧ z_same u_M m m' := by
  intro f
  induction f with
  | zero => intro x x1 x3 w m hw hf hx0 hx hxw hw3; omega
  | succ f ih =>
    intro x x1 x3 w m hw hf hx0 hx hxw hw3 hwy hwn
    have hg := u_q_b hw
    obtain ⟨w1, w2, w3, w4, w5⟩ := id hw
    have b := u_ic_b hg w2 w3
    have ek : z_add (z_mul 3 y) x = 3 * y + x := by rw [z_mul_eq (by omega) (by omega), z_add_eq (by omega) (by omega)]
    have ex : z_add x 1 = x + 1 := z_add_eq (by omega) (by omega)
    rw [t_house_47, if_neg (by decide), t_fine1 m hf]
    show ∃ m' x4, z_R 163 (m, 56, [(2, 251), (0, x1), (0, y), (0, x3), (0, x), (0, 1)], [(0, 1)]) = _ ∧ _
    rw [t_house_56, if_neg (by decide), t_num2 m hf hw, ek]
    unfold u_sto
    rw [if_neg (show ¬ w ≤ x by omega)]
    generalize u_ic (u_q m) (m 251 15) = q at b ⊢
    by_cases c2 : q.2 = -1
    · rw [if_pos c2, if_pos c2]
      obtain ⟨m', e, es⟩ := t_f74 (z_up m 251 16 q.1) x1 y x3 x 1 (3 * y + x) 0 (by rw [zu_self]; omega) (by omega) (by omega)
      rw [zu_self, z_sub_eq (by omega) (by omega)] at e
      exact ⟨m', 0, e, (fun z => by cases z), (z_same.rf.up1 (lo := 15) (hi := 16) (by decide) (by decide) (by decide)).tr es⟩
    rw [if_neg c2, if_neg c2]
    show ∃ m' x4, z_R 163 (z_up m 251 15 q.1, 74, [(2, 251), (0, x1), (0, y), (0, x3), (0, x), (0, 1)], [(0, q.2), (0, 3 * y + x), (2, 256)]) = _ ∧ _
    rw [t_house_74, if_pos ⟨by omega, by omega⟩, ex]
    have s2 : z_same u_M m (z_up (z_up m 251 15 q.1) 256 (3 * y + x).toNat q.2) := (z_same.rf.up1 (lo := 15) (hi := 16) (by decide) (by decide) (by decide)).up1 (lo := 0) (hi := 8) (by decide) (by omega) (by omega)
    generalize hm2 : z_up (z_up m 251 15 q.1) 256 (3 * y + x).toNat q.2 = m2 at s2 ⊢
    have f1 : m2 251 15 = q.1 := by rw [← hm2, zu_p (by decide), zu_self]
    have f2 : m2 256 = u_up (m 256) (3 * y + x).toNat q.2 := by rw [← hm2, zu_row, zu_rowne (by decide)]
    have f3 : m2 251 16 = -1 := by rw [← hm2, zu_p (by decide), zu_k (by decide)]; exact hf
    have f5 := u_q_sm s2
    have f6 : u_W m2 := u_W_sm hw s2 (by omega) (by omega)
    have last : ∀ z : ¬ y = 0 → x + 1 = x1, z_R 163 (m2, 47, [(2, 251), (0, x1), (0, y), (0, x3), (0, x + 1), (0, 0)], []) = z_R 163 (m2, 136, [(2, 251), (0, x + 1), (0, y), (0, x3), (0, x + 1), (0, 0)], []) := fun z => t_ok111 hy0 x1 x3 (x + 1) m2 z
    by_cases c3 : w ≤ x + 1
    · have hwx : w = x + 1 := by omega
      rw [if_pos c3, u_sto_done c3]
      refine ⟨m2, x + 1, ?_, fun _ => ⟨f3, f1, f2⟩, s2⟩
      show _ = z_R 163 (m2, 136, [(2, 251), (0, w), (0, y), (0, x3), (0, x + 1), (0, 0)], [])
      by_cases cy : y = 0
      · have := hwy cy
        rw [if_pos cy, if_pos (by omega), last (fun z => absurd cy z), hwx]
      · have := hwn cy
        rw [if_neg cy, if_pos (by omega), last (fun _ => by omega), hwx]
    rw [if_neg c3]
    have hpass : (if y = 0 then if 3 ≤ x + 1 then z_R 163 (m2, 47, [(2, 251), (0, x1), (0, y), (0, x3), (0, x + 1), (0, 0)], []) else (z_R 170 (m2, 0, [(2, 251), (0, 44)], [])).bind fun r => z_R 163 (r.1, 98, [(2, 251), (0, x1), (0, y), (0, x3), (0, x + 1), (0, 1)], r.2.toList ++ []) else if x1 ≤ x + 1 then z_R 163 (m2, 47, [(2, 251), (0, x1), (0, y), (0, x3), (0, x + 1), (0, 0)], []) else (z_R 170 (m2, 0, [(2, 251), (0, 44)], [])).bind fun r => z_R 163 (r.1, 98, [(2, 251), (0, x1), (0, y), (0, x3), (0, x + 1), (0, 1)], r.2.toList ++ [])) = (z_R 170 (m2, 0, [(2, 251), (0, 44)], [])).bind fun r => z_R 163 (r.1, 98, [(2, 251), (0, x1), (0, y), (0, x3), (0, x + 1), (0, 1)], r.2.toList ++ []) := by
      by_cases cy : y = 0
      · have := hwy cy
        rw [if_pos cy, if_neg (by omega)]
      · have := hwn cy
        rw [if_neg cy, if_neg (by omega)]
    rw [hpass, t_pass1 m2 44 f3 f6, f5, f1]
    by_cases c4 : u_q m q.1 = 44
    · rw [if_pos c4, if_pos c4]
      show ∃ m' x4, z_R 163 (z_up m2 251 15 (q.1 + 1), 98, [(2, 251), (0, x1), (0, y), (0, x3), (0, x + 1), (0, 1)], [(0, 1)]) = _ ∧ _
      have hb := hg q.1 (by omega)
      have s3 : z_same u_M m (z_up m2 251 15 (q.1 + 1)) := s2.up1 (lo := 15) (hi := 16) (by decide) (by decide) (by decide)
      have g1 : (z_up m2 251 15 (q.1 + 1)) 251 15 = q.1 + 1 := zu_self
      have g2 : (z_up m2 251 15 (q.1 + 1)) 256 = u_up (m 256) (3 * y + x).toNat q.2 := (zu_rowne (by decide)).trans f2
      have g3 : (z_up m2 251 15 (q.1 + 1)) 251 16 = -1 := (zu_k (by decide)).trans f3
      rw [t_house_98, if_neg (by decide)]
      obtain ⟨m', x4, a1, a2, a3⟩ := ih (x + 1) x1 x3 w (z_up m2 251 15 (q.1 + 1)) (u_W_sm hw s3 (by omega) (by omega)) g3 (by omega) (by omega) (by omega) hw3 hwy hwn
      rw [u_q_sm s3, g1, g2] at a1 a2
      exact ⟨m', x4, a1, a2, s3.tr a3⟩
    rw [if_neg c4, if_neg c4]
    show ∃ m' x4, z_R 163 (m2, 98, [(2, 251), (0, x1), (0, y), (0, x3), (0, x + 1), (0, 1)], [(0, 0)]) = _ ∧ _
    rw [t_house_98, if_pos rfl]
    by_cases c5 : y ≤ 0
    · rw [if_pos c5, u_sto_done (Int.le_refl _)]
      exact ⟨m2, x + 1, last (fun z => absurd (by omega) z), fun _ => ⟨f3, f1, f2⟩, s2⟩
    · have := hwn (by omega)
      rw [if_neg c5, t_house_47, if_pos rfl, t_house_111, if_neg c5, if_neg (by omega), t_fault1 m2 _ f3, f1]
      show ∃ m' x4, z_R 163 (z_up m2 251 16 q.1, 129, [(2, 251), (0, x1), (0, y), (0, x3), (0, x + 1), (0, 0)], []) = _ ∧ _
      have hz : ¬ (z_up m2 251 16 q.1) 251 16 = -1 := by rw [zu_self]; omega
      rw [t_f129 _ _ _ _ _ _ hz, zu_self, z_sub_eq (by omega) (by omega)]
      exact ⟨_, 0, rfl, (fun z => by cases z), s2.up1 (lo := 15) (hi := 16) (by decide) (by decide) (by decide)⟩
/-! it stands: what is left gives columns by storeys -/
def u_K : List (Nat × Nat × Nat) := [(251, 25, 25), (252, 0, 36), (276, 0, 1)]
def u_K3 : List (Nat × Nat × Nat) := [(251, 3, 3), (251, 25, 25), (252, 0, 36), (276, 0, 1)]
theorem t_l307 : ∀ (f : Nat) (x5 x1 x2 x3 x4 : Int) (m : z_M), 0 ≤ x5 → x5 + (f : Int) = 2 → ∃ m', z_R 163 (m, 307, [(2, 251), (0, x1), (0, x2), (0, x3), (0, x4), (0, x5)], []) = some (m', some (0, z_mul x1 x2)) ∧ z_same u_K m m' ∧ ∀ k : Nat, (k : Int) < 2 → m' 276 k = if x5 ≤ (k : Int) then 0 else m 276 k := by
  intro f
  induction f with
  | zero =>
    intro x5 x1 x2 x3 x4 m h0 h
    rw [t_house_307, if_pos (by omega)]
    exact ⟨_, rfl, z_same.rf, fun k hk => by rw [if_neg (by omega)]⟩
  | succ f ih =>
    intro x5 x1 x2 x3 x4 m h0 h
    rw [t_house_307, if_neg (by omega), if_pos ⟨h0, by omega⟩, z_add_eq (by omega) (by omega)]
    obtain ⟨m', a1, a2, a3⟩ := ih (x5 + 1) x1 x2 x3 x4 (z_up m 276 x5.toNat (z_bo 0)) (by omega) (by omega)
    refine ⟨m', a1, (z_same.rf.up1 (lo := 0) (hi := 1) (by decide) (by omega) (by omega)).tr a2, fun k hk => ?_⟩
    rw [a3 k hk, zu_at, show z_bo 0 = 0 by decide +kernel]
    by_cases c : x5 + 1 ≤ (k : Int)
    · rw [if_pos c, if_pos (show x5 ≤ (k : Int) by omega)]
    · rw [if_neg c]
      by_cases c' : k = x5.toNat
      · rw [if_pos c', if_pos (show x5 ≤ (k : Int) by omega)]
      · rw [if_neg c', if_neg (show ¬ x5 ≤ (k : Int) by omega)]
theorem t_room (m : z_M) (a : Int) : ∃ v, z_R 171 (m, 0, [(2, 251), (0, a)], []) = some (m, some (0, v)) := by
  rw [t_room_0, t_in]
  show ∃ v, z_R 171 (m, 7, [(2, 251), (0, a)], [(0, if 0 ≤ a ∧ a ≤ 8 then 1 else 0)]) = _
  rw [t_room_7]
  generalize (if 0 ≤ a ∧ a ≤ 8 then (1 : Int) else 0) = u
  by_cases h1 : u = 0
  · rw [if_pos h1]; exact ⟨_, rfl⟩
  rw [if_neg h1]
  by_cases h3 : m 251 1 ≤ z_rem a 3
  · rw [if_pos h3]; exact ⟨_, rfl⟩
  rw [if_neg h3]
  by_cases h4 : m 251 2 ≤ z_div a 3
  · rw [if_pos h4]; exact ⟨_, rfl⟩
  · rw [if_neg h4]; exact ⟨_, rfl⟩
theorem t_l241 : ∀ (f : Nat) (x5 x1 x2 x3 x4 : Int) (m : z_M), 0 ≤ x5 → x5 + (f : Int) = 9 → ∃ m', z_R 163 (m, 241, [(2, 251), (0, x1), (0, x2), (0, x3), (0, x4), (0, x5)], []) = some (m', some (0, z_mul x1 x2)) ∧ m' 251 3 = 0 ∧ z_same u_K3 m m' ∧ (m' 276 0 = 0 ∧ m' 276 1 = 0) := by
  intro f
  induction f with
  | zero =>
    intro x5 x1 x2 x3 x4 m h0 h
    rw [t_house_241, if_pos (by omega)]
    obtain ⟨m', a1, a2, a3⟩ := t_l307 2 0 x1 x2 x3 x4 (z_up (z_up (z_up (z_up m 252 34 (-1)) 252 36 x4) 251 3 0) 251 25 0) (by decide) (by decide)
    refine ⟨m', a1, ?_, ((((z_same.rf.up1 (lo := 0) (hi := 36) (by decide) (by decide) (by decide)).up1 (lo := 0) (hi := 36) (by decide) (by decide) (by decide)).up1 (lo := 3) (hi := 3) (by decide) (by decide) (by decide)).up1 (lo := 25) (hi := 25) (by decide) (by decide) (by decide)).tr (a2.sub (by decide)), (a3 0 (by decide)).trans (if_pos (by decide)), (a3 1 (by decide)).trans (if_pos (by decide))⟩
    rw [a2.at (p := 251) (k := 3) (by decide), zu_k (by decide), zu_self]
  | succ f ih =>
    intro x5 x1 x2 x3 x4 m h0 h
    obtain ⟨v, hv⟩ := t_room m x5
    rw [t_house_241, if_neg (by omega), hv]
    show ∃ m', z_R 163 (m, 254, [(2, 251), (0, x1), (0, x2), (0, x3), (0, x4), (0, x5)], [(0, v)]) = _ ∧ _
    rw [t_house_254, z_add_eq (by omega) (by omega)]
    by_cases c : v = 0
    · rw [if_pos c]; exact ih _ _ _ _ _ _ (by omega) (by omega)
    · rw [if_neg c, if_pos ⟨h0, by omega⟩, if_pos ⟨h0, by omega⟩]
      obtain ⟨m', a1, a2, a3, a4⟩ := ih (x5 + 1) x1 x2 x3 x4 (z_up m 252 x5.toNat (m 256 x5.toNat)) (by omega) (by omega)
      exact ⟨m', a1, a2, (z_same.rf.up1 (lo := 0) (hi := 36) (by decide) (by omega) (by omega)).tr a3, a4⟩
theorem t_l217 : ∀ (f : Nat) (x5 x1 x2 x3 x4 : Int) (m : z_M), 0 ≤ x5 → x5 + (f : Int) = 37 → ∃ m', z_R 163 (m, 217, [(2, 251), (0, x1), (0, x2), (0, x3), (0, x4), (0, x5)], []) = some (m', some (0, z_mul x1 x2)) ∧ m' 251 3 = 0 ∧ z_same u_K3 m m' ∧ (m' 276 0 = 0 ∧ m' 276 1 = 0) := by
  intro f
  induction f with
  | zero =>
    intro x5 x1 x2 x3 x4 m h0 h
    rw [t_house_217, if_pos (by omega)]
    exact t_l241 9 0 _ _ _ _ _ (by decide) (by decide)
  | succ f ih =>
    intro x5 x1 x2 x3 x4 m h0 h
    rw [t_house_217, if_neg (by omega), if_pos ⟨h0, by omega⟩, z_add_eq (by omega) (by omega)]
    obtain ⟨m', a1, a2, a3, a4⟩ := ih (x5 + 1) x1 x2 x3 x4 (z_up m 252 x5.toNat 0) (by omega) (by omega)
    exact ⟨m', a1, a2, (z_same.rf.up1 (lo := 0) (hi := 36) (by decide) (by omega) (by omega)).tr a3, a4⟩
theorem t_ok162 (m : z_M) (x1 x2 x3 : Int) (v4 v5 : z_V) (h : m 251 16 = -1) (hl : m 251 13 ≤ m 251 15) : ∃ m', z_R 163 (m, 162, [(2, 251), (0, x1), (0, x2), (0, x3), v4, v5], []) = some (m', some (0, z_mul x1 x2)) ∧ u_rsp m' = (x1, x2, 0) ∧ (m' 276 0 = 0 ∧ m' 276 1 = 0) := by
  rw [t_house_162, if_pos hl, t_fine1 m h]
  show ∃ m', z_R 163 (m, 185, [(2, 251), (0, x1), (0, x2), (0, x3), v4, v5], [(0, 1)]) = _ ∧ _
  rw [t_house_185, if_neg (by decide)]
  obtain ⟨m', a1, a2, a3, a4⟩ := t_l217 37 0 x1 x2 x3 (m 252 36) (z_up (z_up m 251 1 x1) 251 2 x2) (by decide) (by decide)
  refine ⟨m', a1, ?_, a4⟩
  unfold u_rsp
  rw [a2, a3.at (p := 251) (k := 1) (by decide), a3.at (p := 251) (k := 2) (by decide), zu_self, zu_k (by decide), zu_self]
theorem t_no162 (m : z_M) (x1 x2 x3 : Int) (v4 v5 : z_V) (h : m 251 16 = -1) (hl : ¬ m 251 13 ≤ m 251 15) (h0 : 0 ≤ m 251 15) (h1 : m 251 15 ≤ 80) : ∃ m', z_R 163 (m, 162, [(2, 251), (0, x1), (0, x2), (0, x3), v4, v5], []) = some (m', some (0, -1 - m 251 15)) ∧ z_same u_M m m' := by
  have hz : ¬ (z_up m 251 16 (m 251 15)) 251 16 = -1 := by rw [zu_self]; omega
  rw [t_house_162, if_neg hl, t_fault1 m _ h]
  show ∃ m', z_R 163 (z_up m 251 16 (m 251 15), 181, [(2, 251), (0, x1), (0, x2), (0, x3), v4, v5], []) = _ ∧ _
  rw [t_house_181, t_fine0 _ hz]
  show ∃ m', z_R 163 (z_up m 251 16 (m 251 15), 185, [(2, 251), (0, x1), (0, x2), (0, x3), v4, v5], [(0, 0)]) = _ ∧ _
  rw [t_house_185, if_pos rfl, zu_self, z_sub_eq (by omega) (by omega)]
  exact ⟨_, rfl, z_same.rf.up1 (lo := 15) (hi := 16) (by decide) (by decide) (by decide)⟩
theorem t_hou : ∀ (f : Nat) (y x1 w : Int) (v4 v5 : z_V) (m : z_M), u_W m → m 251 16 = -1 → 0 ≤ y → y + (f : Int) = 3 → y < 3 → 1 ≤ w → w ≤ 3 → (y = 0 → w = 3) → (¬ y = 0 → w = x1) → ∃ m', z_R 163 (m, 30, [(2, 251), (0, x1), (0, y), (0, 1), v4, v5], []) = some (m', some (0, u_ans (u_hou (u_q m) (m 251 13) f y w (m 251 15) (m 256)))) ∧ u_after (u_hou (u_q m) (m 251 13) f y w (m 251 15) (m 256)) (u_rsp m) (u_rsp m') ∧ u_gone (u_hou (u_q m) (m 251 13) f y w (m 251 15) (m 256)) 0 (m 276) (m' 276) := by
  intro f
  induction f with
  | zero => intro y x1 w v4 v5 m hw hf hy0 hy hy3; omega
  | succ f ih =>
    intro y x1 w v4 v5 m hw hf hy0 hy hy3 hw0 hw3 hwy hwn
    have hg := u_q_b hw
    obtain ⟨w1, w2, w3, w4, w5⟩ := id hw
    have ey : z_add y 1 = y + 1 := z_add_eq (by omega) (by omega)
    rw [t_house_30, if_neg (by decide), t_fine1 m hf]
    show ∃ m', z_R 163 (m, 38, [(2, 251), (0, x1), (0, y), (0, 1), v4, v5], [(0, 1)]) = _ ∧ _
    rw [t_house_38, if_neg (by decide)]
    obtain ⟨m1, x4, a1, a2, d4⟩ := t_sto hy0 (by omega) 3 0 x1 1 w m hw hf (by decide) (by decide) (by omega) hw3 hwy hwn
    rw [a1]
    have b := u_sto_b hg (y := y) 3 0 w (m 251 15) (m 256) (by decide) hw0 hw3 w2 w3
    unfold u_hou
    generalize u_sto (u_q m) y 3 0 w (m 251 15) (m 256) = S at a2 b ⊢
    obtain ⟨ok, c1, i1, b1⟩ := S
    simp only at a2 b ⊢
    have er : u_rsp m1 = u_rsp m := by unfold u_rsp; rw [d4.at (p := 251) (k := 1) (by decide), d4.at (p := 251) (k := 2) (by decide), d4.at (p := 251) (k := 3) (by decide)]
    by_cases k1 : ok = false
    · subst k1
      rw [if_neg (by decide), if_pos rfl]
      exact ⟨m1, rfl, er, (fun z => by cases z), fun _ => d4.row (by decide)⟩
    have k1' : ok = true := by cases ok <;> simp_all
    obtain ⟨d1, d2, d3⟩ := a2 k1'
    have hw1 : u_W m1 := u_W_sm hw d4 (by omega) (by omega)
    have e13 : m1 251 13 = m 251 13 := d4.at (by decide)
    rw [if_pos k1', if_neg k1, t_house_136, ey]
    by_cases k2 : m 251 13 ≤ i1
    · rw [if_pos k2]
      have fin : ∀ x3 : Int, ∃ m', z_R 163 (m1, 30, [(2, 251), (0, c1), (0, y + 1), (0, 0), (0, x4), (0, 0)], []) = some (m', some (0, u_ans (true, c1, y + 1, i1, b1))) ∧ u_after (true, c1, y + 1, i1, b1) (u_rsp m) (u_rsp m') ∧ u_gone (true, c1, y + 1, i1, b1) 0 (m 276) (m' 276) := fun _ => by
        rw [t_house_30, if_pos rfl]
        obtain ⟨m', z, z', z''⟩ := t_ok162 m1 c1 (y + 1) 0 (0, x4) (0, 0) d1 (by omega)
        refine ⟨m', ?_, z', (fun _ => z''), fun w => by cases w⟩
        rw [z, u_mul3 (by omega) (by omega) (by omega) (by omega)]
        rfl
      by_cases k3 : 3 ≤ y + 1
      · rw [if_pos k3]; exact fin 0
      · have hn : ¬ u_q m1 (m1 251 15) = 47 := fun z => by
          have : u_q m1 (m1 251 15) = -1 := by
            unfold u_q u_nx
            rw [if_neg (fun z => by omega)]
          omega
        rw [if_neg k3, t_pass1 m1 47 d1 hw1, if_neg hn]
        show ∃ m', z_R 163 (m1, 150, [(2, 251), (0, c1), (0, y + 1), (0, 1), (0, x4), (0, 0)], [(0, 0)]) = _ ∧ _
        rw [t_house_150, if_pos rfl]
        exact fin 0
    rw [if_neg k2]
    have nofin : ∃ m', z_R 163 (m1, 30, [(2, 251), (0, c1), (0, y + 1), (0, 0), (0, x4), (0, 0)], []) = some (m', some (0, u_ans (false, c1, y + 1, i1, b1))) ∧ u_after (false, c1, y + 1, i1, b1) (u_rsp m) (u_rsp m') ∧ u_gone (false, c1, y + 1, i1, b1) 0 (m 276) (m' 276) := by
      rw [t_house_30, if_pos rfl]
      obtain ⟨m', z, z'⟩ := t_no162 m1 c1 (y + 1) 0 (0, x4) (0, 0) d1 (by omega) (by omega) (by omega)
      refine ⟨m', ?_, ?_, (fun w => by cases w), fun _ => (z'.row (by decide)).trans (d4.row (by decide))⟩
      · rw [z, d2]
        rfl
      · show u_rsp m' = u_rsp m
        rw [← er]
        unfold u_rsp
        rw [z'.at (p := 251) (k := 1) (by decide), z'.at (p := 251) (k := 2) (by decide), z'.at (p := 251) (k := 3) (by decide)]
    by_cases k3 : 3 ≤ y + 1
    · rw [if_pos k3, if_pos k3]; exact nofin
    rw [if_neg k3, if_neg k3, t_pass1 m1 47 d1 hw1, u_q_sm d4, d2]
    by_cases k4 : u_q m i1 = 47
    · rw [if_pos k4, if_pos k4]
      show ∃ m', z_R 163 (z_up m1 251 15 (i1 + 1), 150, [(2, 251), (0, c1), (0, y + 1), (0, 1), (0, x4), (0, 0)], [(0, 1)]) = _ ∧ _
      have hb := hg i1 (by omega)
      rw [t_house_150, if_neg (by decide)]
      have g1 : (z_up m1 251 15 (i1 + 1)) 251 15 = i1 + 1 := zu_self
      have g2 : (z_up m1 251 15 (i1 + 1)) 256 = b1 := (zu_rowne (by decide)).trans d3
      have g3 : (z_up m1 251 15 (i1 + 1)) 251 16 = -1 := (zu_k (by decide)).trans d1
      have g4 : (z_up m1 251 15 (i1 + 1)) 251 13 = m 251 13 := (zu_k (by decide)).trans e13
      have er' : u_rsp (z_up m1 251 15 (i1 + 1)) = u_rsp m := by
        rw [← er]
        unfold u_rsp
        rw [zu_k (by decide), zu_k (by decide), zu_k (by decide)]
      obtain ⟨m', z, z', z''⟩ := ih (y + 1) c1 c1 (0, x4) (0, 0) (z_up m1 251 15 (i1 + 1)) (u_W_at hw1 (by omega) (by omega)) g3 (by omega) (by omega) (by omega) b.1 b.2.1 (fun z => by omega) (fun _ => rfl)
      rw [u_q_at, u_q_sm d4, g4, g1, g2] at z z' z''
      rw [er'] at z'
      rw [show (z_up m1 251 15 (i1 + 1)) 276 = m 276 from (zu_rowne (by decide)).trans (d4.row (by decide))] at z''
      exact ⟨m', z, z', z''⟩
    · rw [if_neg k4, if_neg k4]
      show ∃ m', z_R 163 (m1, 150, [(2, 251), (0, c1), (0, y + 1), (0, 1), (0, x4), (0, 0)], [(0, 0)]) = _ ∧ _
      rw [t_house_150, if_pos rfl]
      exact nofin
theorem t_house (m : z_M) (h0 : 0 ≤ m 251 8) (h1 : m 251 8 ≤ 80) (hr : ∀ k, k < 80 → -128 ≤ m 254 k ∧ m 254 k ≤ 127) : ∃ m', z_R 163 (m, 0, [(2, 251), (9, 0), (9, 0), (9, 0), (9, 0), (9, 0)], []) = some (m', some (0, u_ans (u_hou (u_nx (u_t m) (m 251 8) 80) (m 251 8) 3 0 3 0 (m 256)))) ∧ u_after (u_hou (u_nx (u_t m) (m 251 8) 80) (m 251 8) 3 0 3 0 (m 256)) (u_rsp m) (u_rsp m') ∧ u_gone (u_hou (u_nx (u_t m) (m 251 8) 80) (m 251 8) 3 0 3 0 (m 256)) 0 (m 276) (m' 276) := by
  rw [t_house_0, t_begin_0]
  have e8 : (z_up m 251 11 0) 251 8 = m 251 8 := zu_k (by decide)
  show ∃ m', z_R 163 (z_up (z_up (z_up (z_up (z_up (z_up m 251 11 0) 251 12 254) 251 13 (m 251 8)) 251 14 80) 251 15 0) 251 16 (-1), 19, [(2, 251), (9, 0), (9, 0), (9, 0), (9, 0), (9, 0)], []) = _ ∧ _
  rw [t_house_19]
  generalize hm : z_up (z_up (z_up (z_up (z_up (z_up (z_up m 251 11 0) 251 12 254) 251 13 (m 251 8)) 251 14 80) 251 15 0) 251 16 (-1)) 251 8 0 = m0
  have r : ∀ p, ¬ p = 251 → m0 p = m p := fun p hp => by rw [← hm, zu_rowne hp, zu_rowne hp, zu_rowne hp, zu_rowne hp, zu_rowne hp, zu_rowne hp, zu_rowne hp]
  have g12 : m0 251 12 = 254 := by rw [← hm, zu_k (by decide), zu_k (by decide), zu_k (by decide), zu_k (by decide), zu_k (by decide), zu_self]
  have g13 : m0 251 13 = m 251 8 := by rw [← hm, zu_k (by decide), zu_k (by decide), zu_k (by decide), zu_k (by decide), zu_self]
  have g14 : m0 251 14 = 80 := by rw [← hm, zu_k (by decide), zu_k (by decide), zu_k (by decide), zu_self]
  have g15 : m0 251 15 = 0 := by rw [← hm, zu_k (by decide), zu_k (by decide), zu_self]
  have g16 : m0 251 16 = -1 := by rw [← hm, zu_k (by decide), zu_self]
  have gq : u_q m0 = u_nx (u_t m) (m 251 8) 80 := by
    unfold u_q u_t
    rw [r 254 (by decide), g13, g14]
  have gr : u_rsp m0 = u_rsp m := by
    unfold u_rsp
    rw [← hm]
    rw [zu_k (by decide), zu_k (by decide), zu_k (by decide), zu_k (by decide), zu_k (by decide), zu_k (by decide), zu_k (by decide)]
    rw [zu_k (by decide), zu_k (by decide), zu_k (by decide), zu_k (by decide), zu_k (by decide), zu_k (by decide), zu_k (by decide)]
    rw [zu_k (by decide), zu_k (by decide), zu_k (by decide), zu_k (by decide), zu_k (by decide), zu_k (by decide), zu_k (by decide)]
  obtain ⟨m', z, z', z''⟩ := t_hou 3 0 0 3 (9, 0) (9, 0) m0 ⟨g12, by omega, by omega, by omega, fun k hk => by rw [r 254 (by decide)]; exact hr k hk⟩ g16 (by decide) (by decide) (by decide) (by decide) (by decide) (fun _ => rfl) (fun z => absurd rfl z)
  rw [gq, g13, g15, r 256 (by decide)] at z z' z''
  rw [gr] at z'
  rw [r 276 (by decide)] at z''
  exact ⟨m', z, z', z''⟩
