/-! KEEP AND AGAIN in plain numbers -/
theorem c_keep (m : z_M) (a : Int) : ∃ m', z_R 150 (m, 0, [(2, 0), (0, a)], []) = some (m', some (0, if 0 ≤ a ∧ a < 2 then 1 else 0)) ∧ ∀ k, m' 31 k = if 0 ≤ a ∧ a < 2 ∧ k = a.toNat then m 3 11 else m 31 k := by
  rw [s_keep_0]
  by_cases c : 0 ≤ a ∧ a < 2
  · rcases (show a = 0 ∨ a = 1 by omega) with rfl | rfl
    · rw [s_ka0_0, s_bc0_0]
      generalize hm : z_up (z_up (z_up (z_up (z_cp (z_cp (z_cp (z_cp (z_cp m 13 0 105 0 9) 14 0 106 0 9) 15 0 107 0 5) 16 0 108 0 5) 17 0 109 0 5) 104 5 (m 12 5)) 104 6 (m 12 6)) 104 7 (m 12 7)) 104 8 (m 12 8) = m1
      have o : ∀ k, m1 31 k = m 31 k := fun k => by rw [← hm, zu_p (by decide), zu_p (by decide), zu_p (by decide), zu_p (by decide), zc_p (by decide), zc_p (by decide), zc_p (by decide), zc_p (by decide), zc_p (by decide)]
      show ∃ m', (z_R 151 (m1, 21, [(2, 28), (0, 0), (2, 12), (0, m 3 11)], [])).bind (fun r => z_R 150 (r.1, 19, [(2, 0), (0, 0)], r.2.toList ++ [])) = _ ∧ _
      rw [s_ka0_21, if_pos (by decide)]
      show ∃ m', z_R 150 (z_up m1 31 0 (m 3 11), 19, [(2, 0), (0, 0)], [(0, 1)]) = _ ∧ _
      rw [s_keep_19]
      refine ⟨_, rfl, fun k => ?_⟩
      rw [zu_at, o]
      by_cases hk : k = 0
      · rw [if_pos hk, if_pos ⟨by decide, by decide, hk⟩]
      · rw [if_neg hk, if_neg (fun z => hk z.2.2)]
    · rw [s_ka1_0, s_bc1_0]
      generalize hm : z_up (z_up (z_up (z_up (z_cp (z_cp (z_cp (z_cp (z_cp m 13 0 111 0 9) 14 0 112 0 9) 15 0 113 0 5) 16 0 114 0 5) 17 0 115 0 5) 110 5 (m 12 5)) 110 6 (m 12 6)) 110 7 (m 12 7)) 110 8 (m 12 8) = m1
      have o : ∀ k, m1 31 k = m 31 k := fun k => by rw [← hm, zu_p (by decide), zu_p (by decide), zu_p (by decide), zu_p (by decide), zc_p (by decide), zc_p (by decide), zc_p (by decide), zc_p (by decide), zc_p (by decide)]
      show ∃ m', (z_R 151 (m1, 21, [(2, 28), (0, 1), (2, 12), (0, m 3 11)], [])).bind (fun r => z_R 150 (r.1, 19, [(2, 0), (0, 1)], r.2.toList ++ [])) = _ ∧ _
      rw [s_ka1_21, if_pos (by decide)]
      show ∃ m', z_R 150 (z_up m1 31 1 (m 3 11), 19, [(2, 0), (0, 1)], [(0, 1)]) = _ ∧ _
      rw [s_keep_19]
      refine ⟨_, rfl, fun k => ?_⟩
      rw [zu_at, o]
      by_cases hk : k = 1
      · rw [if_pos hk, if_pos ⟨by decide, by decide, hk⟩]
      · rw [if_neg hk, if_neg (fun z => hk z.2.2)]
  · have e : z_R 151 (m, 0, [(2, 28), (0, a), (2, 12), (0, m 3 11)], []) = some (m, some (0, 0)) := by
      rw [k_ka_0]
      by_cases c1 : a < 0
      · rw [if_pos c1]
      · rw [if_neg c1, if_neg (show ¬ a < 2 by omega)]
    rw [e]
    show ∃ m', z_R 150 (m, 19, [(2, 0), (0, a)], [(0, 0)]) = _ ∧ _
    rw [s_keep_19, if_neg c]
    refine ⟨m, rfl, fun k => ?_⟩
    rw [if_neg (fun z => c ⟨z.1, z.2.1⟩)]
theorem t_layk : ∀ (f : Nat) (x : Int) (a : Int) (m : z_M), 0 ≤ x → x + (f : Int) = 37 → (a = 0 ∨ a = 37) → ∃ m', z_R 198 (m, 2, [(2, 252), (2, 275), (0, a), (0, x)], []) = some (m', none) ∧ z_same [(275, 0, 73)] m m' := by
  intro f
  induction f with
  | zero =>
    intro x a m h0 h ha
    rw [t_lay_2, if_pos (by omega)]
    exact ⟨m, rfl, z_same.rf⟩
  | succ f ih =>
    intro x a m h0 h ha
    have e1 : z_add x 1 = x + 1 := z_add_eq (by omega) (by omega)
    have e2 : z_add a x = a + x := z_add_eq (by omega) (by omega)
    rw [t_lay_2, if_neg (by omega), e1, e2, if_pos ⟨h0, by omega⟩, if_pos ⟨by omega, by omega⟩]
    obtain ⟨m', a1, a2⟩ := ih (x + 1) a (z_up m 275 (a + x).toNat (m 252 x.toNat)) (by omega) (by omega) ha
    exact ⟨m', a1, (z_same.rf.up1 (lo := 0) (hi := 73) (by decide) (by omega) (by omega)).tr a2⟩
theorem t_keep (m : z_M) (a : Int) : ∃ m', z_R 258 (m, 0, [(2, 251), (0, a)], []) = some (m', some (0, if 0 ≤ a ∧ a < 2 then 1 else 0)) ∧ (∀ k, m' 276 k = if 0 ≤ a ∧ a < 2 ∧ k = a.toNat then 1 else m 276 k) ∧ (∀ k, m' 277 k = if 0 ≤ a ∧ a < 2 ∧ k = a.toNat then m 251 52 else m 277 k) ∧ m' 251 52 = m 251 52 := by
  rw [t_keep_0, t_in]
  show ∃ m', z_R 258 (z_up m 251 11 0, 11, [(2, 251), (0, a)], [(0, if 0 ≤ a ∧ a ≤ 1 then 1 else 0)]) = _ ∧ _
  rw [t_keep_11]
  by_cases c : 0 ≤ a ∧ a < 2
  · have e37 : z_mul 37 a = 0 ∨ z_mul 37 a = 37 := by
      rcases (show a = 0 ∨ a = 1 by omega) with rfl | rfl
      · exact Or.inl (by rw [z_mul_eq (by decide) (by decide)]; rfl)
      · exact Or.inr (by rw [z_mul_eq (by decide) (by decide)]; rfl)
    have e52 : (z_up m 251 11 0) 251 52 = m 251 52 := zu_k (by decide)
    rw [if_pos (show 0 ≤ a ∧ a ≤ 1 by omega), if_neg (show ¬ (1 : Int) = 0 by decide), if_pos (show 0 ≤ a ∧ a < ((2 : Nat) : Int) from ⟨c.1, by omega⟩), if_pos (show 0 ≤ a ∧ a < ((2 : Nat) : Int) from ⟨c.1, by omega⟩), if_pos c, t_lay_0, e52, show z_bo 1 = 1 by decide +kernel]
    obtain ⟨m1, a1, a2⟩ := t_layk 37 0 (z_mul 37 a) (z_up (z_up (z_up m 251 11 0) 276 a.toNat 1) 277 a.toNat (m 251 52)) (by decide) (by decide) e37
    rw [a1]
    show ∃ m', z_R 258 (m1, 48, [(2, 251), (0, a)], []) = _ ∧ _
    rw [t_keep_48]
    refine ⟨m1, rfl, fun k => ?_, fun k => ?_, ?_⟩
    · rw [congrFun (a2.row (p := 276) (by decide)) k, zu_p (by decide), zu_at, zu_p (by decide)]
      by_cases hk : k = a.toNat
      · rw [if_pos hk, if_pos ⟨c.1, c.2, hk⟩]
      · rw [if_neg hk, if_neg (fun z => hk z.2.2)]
    · rw [congrFun (a2.row (p := 277) (by decide)) k, zu_at, zu_p (by decide), zu_p (by decide)]
      by_cases hk : k = a.toNat
      · rw [if_pos hk, if_pos ⟨c.1, c.2, hk⟩]
      · rw [if_neg hk, if_neg (fun z => hk z.2.2)]
    · rw [a2.at (p := 251) (k := 52) (by decide), zu_p (by decide), zu_p (by decide), zu_k (by decide)]
  · rw [if_neg (show ¬ (0 ≤ a ∧ a ≤ 1) by omega), if_pos rfl, if_neg c]
    refine ⟨_, rfl, fun k => ?_, fun k => ?_, zu_k (by decide)⟩
    · rw [if_neg (fun z => c ⟨z.1, z.2.1⟩), zu_p (by decide)]
    · rw [if_neg (fun z => c ⟨z.1, z.2.1⟩), zu_p (by decide)]
theorem c_again (m : z_M) (a : Int) : ∃ m', z_R 152 (m, 0, [(2, 0), (0, a)], []) = some (m', some (0, if 0 ≤ a ∧ a < 2 ∧ m 31 a.toNat = m 3 11 then 1 else 0)) := by
  have go : ∀ (m1 : z_M) (x : Int), ∃ m', (z_R 153 (m1, 31, [(2, 28), (0, x), (2, 12), (0, m 3 11)], [])).bind (fun r => z_R 152 (r.1, 19, [(2, 0), (0, x)], r.2.toList ++ [])) = some (m', some (0, 1)) := by
    intro m1 x
    rw [s_bb0_31, s_fd_0]
    show ∃ m', (z_R 153 (z_up m1 28 4 0, 35, [(2, 28), (0, x), (2, 12), (0, m 3 11)], [])).bind (fun r => z_R 152 (r.1, 19, [(2, 0), (0, x)], r.2.toList ++ [])) = _
    rw [s_bb0_35]
    exact ⟨_, s_again_19 _ _ _⟩
  rw [s_again_0]
  by_cases c : 0 ≤ a ∧ a < 2
  · rcases (show a = 0 ∨ a = 1 by omega) with rfl | rfl
    · rw [s_bb0_0]
      by_cases k : m 31 0 = m 3 11
      · rw [if_pos k, s_bd0_0, if_pos ⟨by decide, by decide, k⟩]
        exact go _ 0
      · rw [if_neg k, if_neg (fun z => k z.2.2)]
        exact ⟨m, s_again_19 _ _ _⟩
    · rw [s_bb1_0]
      by_cases k : m 31 1 = m 3 11
      · rw [if_pos k, s_bd1_0, if_pos ⟨by decide, by decide, k⟩]
        exact go _ 1
      · rw [if_neg k, if_neg (fun z => k z.2.2)]
        exact ⟨m, s_again_19 _ _ _⟩
  · have e : z_R 153 (m, 0, [(2, 28), (0, a), (2, 12), (0, m 3 11)], []) = some (m, some (0, 0)) := by
      rw [k_bb_0]
      by_cases c1 : a < 0
      · rw [if_pos c1]
      · rw [if_neg c1, if_pos (show 2 ≤ a by omega)]
    rw [e, if_neg (fun z => c ⟨z.1, z.2.1⟩)]
    exact ⟨m, s_again_19 _ _ _⟩
theorem t_ag40 (a : Int) (ha : a = 0 ∨ a = 1) : ∀ (f : Nat) (x : Int) (m : z_M), 0 ≤ x → x + (f : Int) = 37 → ∃ m', z_R 259 (m, 40, [(2, 251), (0, a), (0, x)], []) = some (m', some (0, 1)) := by
  intro f
  induction f with
  | zero =>
    intro x m h0 h
    rw [t_again_40, if_pos (by omega)]
    exact ⟨_, rfl⟩
  | succ f ih =>
    intro x m h0 h
    have e1 : z_add x 1 = x + 1 := z_add_eq (by omega) (by omega)
    have e2 : z_add (z_mul 37 a) x = 37 * a + x := by rw [z_mul_eq (by omega) (by omega), z_add_eq (by omega) (by omega)]
    rw [t_again_40, if_neg (by omega), e1, e2, if_pos ⟨by omega, by omega⟩, if_pos ⟨h0, by omega⟩]
    exact ih (x + 1) _ (by omega) (by omega)
theorem t_again (m : z_M) (a : Int) : ∃ m', z_R 259 (m, 0, [(2, 251), (0, a), (9, 0)], []) = some (m', some (0, if 0 ≤ a ∧ a < 2 ∧ ¬ m 276 a.toNat = 0 ∧ m 277 a.toNat = m 251 52 then 1 else 0)) := by
  rw [t_again_0, t_in]
  show ∃ m', z_R 259 (z_up m 251 11 0, 11, [(2, 251), (0, a), (9, 0)], [(0, if 0 ≤ a ∧ a ≤ 1 then 1 else 0)]) = _
  have e6 : (z_up m 251 11 0) 276 a.toNat = m 276 a.toNat := zu_p (by decide)
  have e7 : (z_up m 251 11 0) 277 a.toNat = m 277 a.toNat := zu_p (by decide)
  have e52 : (z_up m 251 11 0) 251 52 = m 251 52 := zu_k (by decide)
  rw [t_again_11, e6, e7, e52]
  by_cases c : 0 ≤ a ∧ a < 2
  · rw [if_pos (show 0 ≤ a ∧ a ≤ 1 by omega), if_neg (show ¬ (1 : Int) = 0 by decide), if_pos (show 0 ≤ a ∧ a < ((2 : Nat) : Int) from ⟨c.1, by omega⟩)]
    by_cases k : m 276 a.toNat = 0
    · rw [if_pos k, if_neg (fun z => z.2.2.1 k)]; exact ⟨_, rfl⟩
    rw [if_neg k, if_pos (show 0 ≤ a ∧ a < ((2 : Nat) : Int) from ⟨c.1, by omega⟩)]
    by_cases l : m 277 a.toNat = m 251 52
    · rw [if_pos l, if_pos ⟨c.1, c.2, k, l⟩]
      exact t_ag40 a (by omega) 37 0 _ (by decide) (by decide)
    · rw [if_neg l, if_neg (fun z => l z.2.2.2)]; exact ⟨_, rfl⟩
  · rw [if_neg (show ¬ (0 ≤ a ∧ a ≤ 1) by omega), if_pos rfl, if_neg (fun z => c ⟨z.1, z.2.1⟩)]
    exact ⟨_, rfl⟩
