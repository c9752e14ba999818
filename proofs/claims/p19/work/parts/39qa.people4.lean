/-! PEOPLE in the reference: they come in -/
theorem t_a184 {x P : Nat} (hx : x ≤ 4) (hP : P ≤ 4) (cnt x2 : Int) : ∀ (f k : Nat) (m : z_M), k + f = 6 → m 251 3 = (P : Int) → ∃ m', z_R 172 (m, 184, [(2, 251), (0, cnt), (0, x2), (0, (x : Int)), (0, ((7 * x : Nat) : Int)), (0, (k : Int))], []) = z_R 172 (m', 125, [(2, 251), (0, cnt), (0, x2), (0, ((x + 1 : Nat) : Int)), (0, ((7 * x : Nat) : Int)), (0, 6)], []) ∧ m' 251 3 = ((P + 1 : Nat) : Int) ∧ (∀ j : Nat, j < f → m' 253 (6 * P + k + j) = m 257 (7 * x + 1 + k + j)) ∧ (∀ p' k', ¬ (p' = 251 ∧ k' = 3) → ¬ (p' = 253 ∧ 6 * P + k ≤ k' ∧ k' < 6 * P + 6) → m' p' k' = m p' k') := by
  intro f
  induction f with
  | zero =>
    intro k m hk h
    have e1 : z_add (x : Int) 1 = ((x + 1 : Nat) : Int) := by rw [z_add_eq (by omega) (by omega)]; omega
    have e2 : z_add (m 251 3) 1 = ((P + 1 : Nat) : Int) := by rw [h, z_add_eq (by omega) (by omega)]; omega
    obtain rfl : k = 6 := by omega
    rw [t_people_184, if_pos (by decide), e1, e2]
    refine ⟨z_up m 251 3 ((P + 1 : Nat) : Int), rfl, zu_self, (fun j hj => absurd hj (Nat.not_lt_zero j)), fun p' k' n1 _ => ?_⟩
    unfold z_up
    rw [if_neg n1]
  | succ f ih =>
    intro k m hk h
    have e1 : z_add (z_add ((7 * x : Nat) : Int) 1) (k : Int) = ((7 * x + 1 + k : Nat) : Int) := by rw [z_add_eq (x := ((7 * x : Nat) : Int)) (by omega) (by omega), z_add_eq (by omega) (by omega)]; omega
    have e2 : z_add (z_mul 6 (m 251 3)) (k : Int) = ((6 * P + k : Nat) : Int) := by rw [h, z_mul_eq (by omega) (by omega), z_add_eq (by omega) (by omega)]; omega
    have e3 : z_add (k : Int) 1 = ((k + 1 : Nat) : Int) := by rw [z_add_eq (by omega) (by omega)]; omega
    rw [t_people_184, if_neg (by omega), e1, e2, e3, if_pos ⟨by omega, by omega⟩, if_pos ⟨by omega, by omega⟩, Int.toNat_natCast, Int.toNat_natCast]
    have o : ∀ p' k', ¬ (p' = 253 ∧ k' = 6 * P + k) → (z_up m 253 (6 * P + k) (m 257 (7 * x + 1 + k))) p' k' = m p' k' := fun p' k' n => by unfold z_up; rw [if_neg n]
    obtain ⟨m', a1, a2, a3, a4⟩ := ih (k + 1) (z_up m 253 (6 * P + k) (m 257 (7 * x + 1 + k))) (by omega) ((o 251 3 (by omega)).trans h)
    refine ⟨m', a1, a2, fun j hj => ?_, fun p' k' n1 n2 => (a4 p' k' n1 (by omega)).trans (o p' k' (by omega))⟩
    cases j with
    | zero =>
      show m' 253 (6 * P + k) = m 257 (7 * x + 1 + k)
      rw [a4 253 (6 * P + k) (by omega) (by omega), zu_self]
    | succ j =>
      have := a3 j (by omega)
      rw [o 257 _ (by omega)] at this
      rw [show 6 * P + k + (j + 1) = 6 * P + (k + 1) + j by omega, show 7 * x + 1 + k + (j + 1) = 7 * x + 1 + (k + 1) + j by omega]
      exact this
theorem t_a125 {cnt : Nat} (hc : cnt ≤ 5) (x2 : Int) : ∀ (f x P : Nat) (v4 v5 : z_V) (m : z_M), x + f = cnt → P + f ≤ 5 → m 251 3 = (P : Int) → ∃ m', z_R 172 (m, 125, [(2, 251), (0, (cnt : Int)), (0, x2), (0, (x : Int)), v4, v5], []) = some (m', some (0, (cnt : Int))) ∧ m' 251 3 = ((P + f : Nat) : Int) ∧ m' 251 52 = z_add (m 251 52) 1 ∧ (∀ d : Nat, d < f → (∀ k : Nat, k < 6 → m' 253 (6 * (P + d) + k) = m 257 (7 * (x + d) + 1 + k)) ∧ m' 252 (18 + (P + d)) = m 257 (7 * (x + d)) ∧ m' 252 (23 + (P + d)) = 0 ∧ m' 252 (28 + (P + d)) = 0) ∧ (∀ p' k', ¬ (p' = 251 ∧ (k' = 3 ∨ k' = 25 ∨ k' = 52)) → ¬ (p' = 253 ∧ 6 * P ≤ k' ∧ k' < 6 * (P + f)) → ¬ (p' = 252 ∧ 18 + P ≤ k' ∧ k' < 18 + P + f) → ¬ (p' = 252 ∧ 23 + P ≤ k' ∧ k' < 23 + P + f) → ¬ (p' = 252 ∧ 28 + P ≤ k' ∧ k' < 28 + P + f) → m' p' k' = m p' k') := by
  intro f
  induction f with
  | zero =>
    intro x P v4 v5 m hx hP h
    rw [t_people_125, if_pos (by omega)]
    refine ⟨z_up (z_up m 251 25 0) 251 52 (z_add (m 251 52) 1), rfl, ?_, zu_self, (fun d hd => absurd hd (Nat.not_lt_zero d)), fun p' k' n1 _ _ _ _ => ?_⟩
    · rw [zu_k (by decide), zu_k (by decide)]; exact h
    · unfold z_up
      rw [if_neg (by omega), if_neg (by omega)]
  | succ f ih =>
    intro x P v4 v5 m hx hP h
    have e7 : z_mul 7 (x : Int) = ((7 * x : Nat) : Int) := by rw [z_mul_eq (by omega) (by omega)]; omega
    have e1 : z_add 18 (m 251 3) = ((18 + P : Nat) : Int) := by rw [h, z_add_eq (by omega) (by omega)]; omega
    have e2 : z_add 23 (m 251 3) = ((23 + P : Nat) : Int) := by rw [h, z_add_eq (by omega) (by omega)]; omega
    have e3 : z_add 28 (m 251 3) = ((28 + P : Nat) : Int) := by rw [h, z_add_eq (by omega) (by omega)]; omega
    rw [t_people_125, if_neg (by omega), e7, e1, e2, e3, if_pos ⟨by omega, by omega⟩, if_pos ⟨by omega, by omega⟩, if_pos ⟨by omega, by omega⟩, if_pos ⟨by omega, by omega⟩, Int.toNat_natCast, Int.toNat_natCast, Int.toNat_natCast, Int.toNat_natCast]
    generalize hm : z_up (z_up (z_up m 252 (18 + P) (m 257 (7 * x))) 252 (23 + P) 0) 252 (28 + P) 0 = m1
    have o : ∀ p' k', ¬ (p' = 252 ∧ k' = 18 + P) → ¬ (p' = 252 ∧ k' = 23 + P) → ¬ (p' = 252 ∧ k' = 28 + P) → m1 p' k' = m p' k' := fun p' k' n1 n2 n3 => by
      rw [← hm]
      unfold z_up
      rw [if_neg n3, if_neg n2, if_neg n1]
    have q1 : m1 252 (18 + P) = m 257 (7 * x) := by rw [← hm, zu_k (by omega), zu_k (by omega), zu_self]
    have q2 : m1 252 (23 + P) = 0 := by rw [← hm, zu_k (by omega), zu_self]
    have q3 : m1 252 (28 + P) = 0 := by rw [← hm, zu_self]
    obtain ⟨m2, a1, a2, a3, a4⟩ := t_a184 (x := x) (P := P) (by omega) (by omega) (cnt : Int) x2 6 0 m1 (by decide) ((o 251 3 (by omega) (by omega) (by omega)).trans h)
    obtain ⟨m', b1, b2, b52, b3, b4⟩ := ih (x + 1) (P + 1) (0, ((7 * x : Nat) : Int)) (0, 6) m2 (by omega) (by omega) a2
    refine ⟨m', a1.trans b1, by rw [b2]; omega, by rw [b52, a4 251 52 (by omega) (by omega), o 251 52 (by omega) (by omega) (by omega)], fun d hd => ?_, fun p' k' n1 n2 n3 n4 n5 => ?_⟩
    · cases d with
      | zero =>
        refine ⟨fun k hk => ?_, ?_, ?_, ?_⟩
        · show m' 253 (6 * P + k) = m 257 (7 * x + 1 + k)
          rw [b4 253 (6 * P + k) (by omega) (by omega) (by omega) (by omega) (by omega)]
          have := a3 k hk
          rw [o 257 _ (by omega) (by omega) (by omega)] at this
          exact this
        · show m' 252 (18 + P) = m 257 (7 * x)
          rw [b4 252 (18 + P) (by omega) (by omega) (by omega) (by omega) (by omega), a4 252 (18 + P) (by omega) (by omega), q1]
        · show m' 252 (23 + P) = 0
          rw [b4 252 (23 + P) (by omega) (by omega) (by omega) (by omega) (by omega), a4 252 (23 + P) (by omega) (by omega), q2]
        · show m' 252 (28 + P) = 0
          rw [b4 252 (28 + P) (by omega) (by omega) (by omega) (by omega) (by omega), a4 252 (28 + P) (by omega) (by omega), q3]
      | succ d =>
        obtain ⟨c1, c2, c3, c4⟩ := b3 d (by omega)
        rw [show P + 1 + d = P + (d + 1) by omega] at c1 c2 c3 c4
        rw [show x + 1 + d = x + (d + 1) by omega] at c1 c2
        refine ⟨fun k hk => ?_, ?_, c3, c4⟩
        · rw [c1 k hk, a4 257 _ (by omega) (by omega), o 257 _ (by omega) (by omega) (by omega)]
        · rw [c2, a4 257 _ (by omega) (by omega), o 257 _ (by omega) (by omega) (by omega)]
    · rw [b4 p' k' n1 (by omega) (by omega) (by omega) (by omega), a4 p' k' (by omega) (by omega), o p' k' (by omega) (by omega) (by omega)]
