/-! NUMBERS of the plain kind -/
theorem zr_of {x : Int} (h1 : -2147483648 ≤ x) (h2 : x ≤ 2147483647) : (Int32.ofInt x).toInt = x := by
  rw [Int32.toInt_ofInt]
  exact i32_bm h1 h2
theorem z_add_eq {x y : Int} (h1 : -2147483648 ≤ x + y) (h2 : x + y ≤ 2147483647) : z_add x y = x + y := by
  unfold z_add
  rw [← Int32.ofInt_add]
  exact zr_of h1 h2
theorem z_sub_eq {x y : Int} (h1 : -2147483648 ≤ x - y) (h2 : x - y ≤ 2147483647) : z_sub x y = x - y := by
  unfold z_sub
  rw [← Int32.ofInt_sub]
  exact zr_of h1 h2
theorem z_mul_eq {x y : Int} (h1 : -2147483648 ≤ x * y) (h2 : x * y ≤ 2147483647) : z_mul x y = x * y := by
  unfold z_mul
  rw [← Int32.ofInt_mul]
  exact zr_of h1 h2
theorem z_neg_eq {x : Int} (h1 : -2147483648 ≤ -x) (h2 : -x ≤ 2147483647) : z_neg x = -x := by
  unfold z_neg
  rw [← Int32.ofInt_neg]
  exact zr_of h1 h2
theorem z_rem_eq {x y : Int} (h1 : -2147483648 ≤ x) (h2 : x ≤ 2147483647) (h3 : -2147483648 ≤ y) (h4 : y ≤ 2147483647) : z_rem x y = x.tmod y := by
  unfold z_rem
  rw [rem_toInt, zr_of h1 h2, zr_of h3 h4]
theorem z_div_eq {x y : Int} (h1 : -2147483648 ≤ x) (h2 : x ≤ 2147483647) (h3 : -2147483648 ≤ y) (h4 : y ≤ 2147483647) (h5 : ¬ y = -1) : z_div x y = x.tdiv y := by
  unfold z_div
  have hne : Int32.ofInt y ≠ -1 := fun z => by
    have := congrArg Int32.toInt z
    rw [zr_of h3 h4] at this
    exact h5 this
  rw [Int32.toInt_div_of_ne_right _ _ hne, zr_of h1 h2, zr_of h3 h4]
/-! memory -/
theorem zu_self {m : z_M} {p k : Nat} {v : Int} : z_up m p k v p k = v := by unfold z_up; rw [if_pos ⟨rfl, rfl⟩]
theorem zu_p {m : z_M} {p k p' k' : Nat} {v : Int} (h : ¬ p' = p) : z_up m p k v p' k' = m p' k' := by unfold z_up; rw [if_neg (fun z => h z.1)]
theorem zu_k {m : z_M} {p k p' k' : Nat} {v : Int} (h : ¬ k' = k) : z_up m p k v p' k' = m p' k' := by unfold z_up; rw [if_neg (fun z => h z.2)]
theorem zu_at {m : z_M} {p k k' : Nat} {v : Int} : z_up m p k v p k' = if k' = k then v else m p k' := by
  unfold z_up
  by_cases h : k' = k
  · rw [if_pos ⟨rfl, h⟩, if_pos h]
  · rw [if_neg (fun z => h z.2), if_neg h]
theorem zu_zu {m : z_M} {p k : Nat} {v w : Int} : z_up (z_up m p k v) p k w = z_up m p k w := by
  funext p' k'
  unfold z_up
  by_cases h : p' = p ∧ k' = k
  · rw [if_pos h, if_pos h]
  · rw [if_neg h, if_neg h, if_neg h]
/-- two memories alike but at some places -/
def z_same (L : List (Nat × Nat × Nat)) (m m' : z_M) : Prop := ∀ p k, (∀ q ∈ L, ¬ (q.1 = p ∧ q.2.1 ≤ k ∧ k ≤ q.2.2)) → m' p k = m p k
theorem z_same.rf {L : List (Nat × Nat × Nat)} {m : z_M} : z_same L m m := fun _ _ _ => rfl
theorem z_same.tr {L : List (Nat × Nat × Nat)} {m m' m'' : z_M} (h : z_same L m m') (h' : z_same L m' m'') : z_same L m m'' := fun p k hn => (h' p k hn).trans (h p k hn)
theorem z_same.up {L : List (Nat × Nat × Nat)} {m m' : z_M} {p k : Nat} {v : Int} (h : z_same L m m') (hq : ∃ q ∈ L, q.1 = p ∧ q.2.1 ≤ k ∧ k ≤ q.2.2) : z_same L m (z_up m' p k v) := fun p' k' hn => by
  obtain ⟨q, q1, q2, q3, q4⟩ := hq
  have : ¬ (p' = p ∧ k' = k) := fun ⟨e1, e2⟩ => hn q q1 (by subst e1; subst e2; exact ⟨q2, q3, q4⟩)
  unfold z_up
  rw [if_neg this]
  exact h p' k' hn
theorem z_same.mono {L L' : List (Nat × Nat × Nat)} {m m' : z_M} (h : z_same L m m') (hs : ∀ q ∈ L, q ∈ L') : z_same L' m m' := fun p k hn => h p k fun q hq => hn q (hs q hq)
