/-! SMALL CALLS, by cases; copies of rows -/
theorem z_R_cpT {y : Nat} {K : List (List a_K)} (hK : kt_at y = K) {n d so : Int} {A B na nb : Nat} {m : z_M} {pc : Nat} {ls : z_L} {st : List z_V} {g' : z_G} {q : a_K} {R : Option z_Q} (hq : k_get K pc = some q) (hk : z_kd q.2.1 q.2.2.2.2 = 0) (hs : z_step q (m, pc, ls, st) = bif decide (0 ≤ n) && (decide (0 ≤ d) && (decide (0 ≤ so) && (decide (so + n ≤ (h_ln A : Int)) && decide (d + n ≤ (h_ln B : Int))))) then some g' else none) (ha : h_ln A = na) (hb : h_ln B = nb) (h : 0 ≤ n ∧ 0 ≤ d ∧ 0 ≤ so ∧ so + n ≤ (na : Int) ∧ d + n ≤ (nb : Int)) (h1 : z_R y g' = R) : z_R y (m, pc, ls, st) = R := by
  obtain ⟨h2, h3, h4, h5, h6⟩ := h
  rw [ha, hb, decide_eq_true h2, decide_eq_true h3, decide_eq_true h4, decide_eq_true h5, decide_eq_true h6] at hs
  exact (z_R_st hK (g := (m, pc, ls, st)) hq hk hs).trans h1
theorem t_ifin (m : z_M) (a b c : Int) : z_R 162 (m, 0, [(0, a), (0, b), (0, c)], []) = if b ≤ a ∧ a ≤ c then some (m, some (0, 1)) else some (m, some (0, 0)) := by
  rw [r_in]
  by_cases h : b ≤ a ∧ a ≤ c
  · rw [if_pos h, if_pos h]
  · rw [if_neg h, if_neg h]
theorem u_hs_01 {w h a : Int} : u_hs w h a = 0 ∨ u_hs w h a = 1 := by
  unfold u_hs
  by_cases h1 : a < 0
  · rw [if_pos h1]; exact Or.inl rfl
  rw [if_neg h1]
  by_cases h2 : 9 ≤ a
  · rw [if_pos h2]; exact Or.inl rfl
  rw [if_neg h2]
  by_cases h3 : w ≤ z_rem a 3
  · rw [if_pos h3]; exact Or.inl rfl
  rw [if_neg h3]
  by_cases h4 : h ≤ z_div a 3
  · rw [if_pos h4]; exact Or.inl rfl
  · rw [if_neg h4]; exact Or.inr rfl
theorem c_ifhas (m : z_M) (a : Int) {w h : Int} (hw : m 3 8 = w) (hh : m 3 9 = h) : z_R 32 (m, 0, [(2, 3), (0, a)], []) = if ¬ u_hs w h a = 0 then some (m, some (0, 1)) else some (m, some (0, 0)) := by
  rw [c_hasv, hw, hh]
  rcases u_hs_01 (w := w) (h := h) (a := a) with e | e
  · rw [e, if_neg (not_not_intro rfl)]
  · rw [e, if_pos (by decide)]
theorem t_ifroom (m : z_M) (a : Int) {w h : Int} (hw : m 251 1 = w) (hh : m 251 2 = h) : z_R 171 (m, 0, [(2, 251), (0, a)], []) = if ¬ u_hs w h a = 0 then some (m, some (0, 1)) else some (m, some (0, 0)) := by
  rw [t_roomv, hw, hh]
  rcases u_hs_01 (w := w) (h := h) (a := a) with e | e
  · rw [e, if_neg (not_not_intro rfl)]
  · rw [e, if_pos (by decide)]
theorem c_ifknows (m : z_M) (a : Int) {n : Int} (hn : m 3 11 = n) : z_R 55 (m, 0, [(2, 3), (0, a)], []) = if 0 ≤ a ∧ a < n then some (m, some (0, 1)) else some (m, some (0, 0)) := by
  rw [s_kn_0, hn]
  by_cases h1 : a < 0
  · rw [if_pos h1, if_neg (by omega)]
  rw [if_neg h1]
  by_cases h2 : n ≤ a
  · rw [if_pos h2, if_neg (by omega)]
  · rw [if_neg h2, if_pos (by omega)]
theorem t_iftold (m : z_M) (a : Int) : z_R 200 (m, 0, [(0, a)], []) = if a = -1 then some (m, some (0, 9)) else some (m, some (0, a)) := t_told_0 m a
theorem t_ifperson (m : z_M) (a : Int) {n : Int} (hn : m 251 3 = n) (h5 : 0 ≤ n ∧ n ≤ 5) : z_R 191 (m, 0, [(2, 251), (0, a)], []) = if 0 ≤ a ∧ a < n then some (m, some (0, 1)) else some (m, some (0, 0)) := by
  rw [t_isp_0 m a (by omega), t_ifin]
  by_cases h : 0 ≤ a ∧ a < n
  · rw [if_pos h, if_pos (by omega), zb_v, t_isp_11]
  · rw [if_neg h, if_neg (by omega), zb_v, t_isp_11]
/-! rows of States in rows -/
theorem ga29 {m : z_M} {k : Nat} (h : k < 12) : (z_ga m 29 k).2 = ((32 + 6 * k : Nat) : Int) := by
  have e : ∀ k, k < 12 → (Nat.beq (h_ty 29 k).1 1 && i_eq (h_ty 29 k).2.1 ((32 + 6 * k : Nat) : Int)) = true := by decide +kernel
  obtain ⟨e1, e2⟩ := Bool.and_eq_true _ _ |>.mp (e k h)
  unfold z_ga
  rw [e1, i_eq_iff.mp e2]
  rfl
theorem ga30 {m : z_M} {k : Nat} (h : k < 2) : (z_ga m 30 k).2 = ((104 + 6 * k : Nat) : Int) := by
  have e : ∀ k, k < 2 → (Nat.beq (h_ty 30 k).1 1 && i_eq (h_ty 30 k).2.1 ((104 + 6 * k : Nat) : Int)) = true := by decide +kernel
  obtain ⟨e1, e2⟩ := Bool.and_eq_true _ _ |>.mp (e k h)
  unfold z_ga
  rw [e1, i_eq_iff.mp e2]
  rfl
theorem z_st_12 : z_st 12 := ⟨by decide, by decide⟩
theorem z_st_18 : z_st 18 := ⟨by decide, by decide⟩
theorem z_st_done {k : Nat} (h : k < 12) : z_st (32 + 6 * k) := by
  refine ⟨?_, by omega⟩
  have e : ∀ k, k < 12 → 32 + 6 * k ∈ z_stL := by decide
  exact e k h
theorem z_st_kept {k : Nat} (h : k < 2) : z_st (104 + 6 * k) := by
  refine ⟨?_, by omega⟩
  have e : ∀ k, k < 2 → 104 + 6 * k ∈ z_stL := by decide
  exact e k h
/-- one State is made what another is -/
abbrev c_LB (t : Nat) : List (Nat × Nat × Nat) := [(t + 1, 0, 8), (t + 2, 0, 8), (t + 3, 0, 4), (t + 4, 0, 4), (t + 5, 0, 4), (t, 5, 8)]
theorem zc_in {m : z_M} {a b n k : Nat} (h : k < n) : z_cp m a 0 b 0 n b k = m a k := by
  unfold z_cp
  rw [if_pos ⟨rfl, Nat.zero_le _, by omega⟩, Nat.zero_add, Nat.sub_zero]
theorem z_same.cp {L : List (Nat × Nat × Nat)} {m m' : z_M} {a s b d n : Nat} (h : z_same L m m') (hq : ∀ k, d ≤ k → k < d + n → z_on L b k) : z_same L m (z_cp m' a s b d n) := fun p' k' hn => by
  have : ¬ (p' = b ∧ d ≤ k' ∧ k' < d + n) := fun ⟨e1, e2, e3⟩ => by
    obtain ⟨q, q1, q2, q3, q4⟩ := z_on_ok (hq k' e2 e3)
    exact hn q q1 ⟨q2.trans e1.symm, q3, q4⟩
  unfold z_cp
  rw [if_neg this]
  exact h p' k' hn
