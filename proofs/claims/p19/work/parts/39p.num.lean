/-! NUMBERS of the plain kind -/
theorem zr_of {x : Int} (h1 : -2147483648 ≤ x) (h2 : x ≤ 2147483647) : (Int32.ofInt x).toInt = x := by
  rw [Int32.toInt_ofInt]
  exact i32_bm h1 h2
theorem z_add_eq {x y : Int} (h1 : -2147483648 ≤ x + y) (h2 : x + y ≤ 2147483647) : z_add x y = x + y := by
  unfold z_add
  rw [← Int32.ofInt_add]
  exact zr_of h1 h2
theorem z_sub_eq {x y : Int} (h1 : -2147483648 ≤ x - y) (h2 : x - y ≤ 2147483647) : z_sub x y = x - y := by
  unfold z_sub
  rw [← Int32.ofInt_sub]
  exact zr_of h1 h2
theorem z_mul_eq {x y : Int} (h1 : -2147483648 ≤ x * y) (h2 : x * y ≤ 2147483647) : z_mul x y = x * y := by
  unfold z_mul
  rw [← Int32.ofInt_mul]
  exact zr_of h1 h2
theorem z_neg_eq {x : Int} (h1 : -2147483648 ≤ -x) (h2 : -x ≤ 2147483647) : z_neg x = -x := by
  unfold z_neg
  rw [← Int32.ofInt_neg]
  exact zr_of h1 h2
theorem z_rem_eq {x y : Int} (h1 : -2147483648 ≤ x) (h2 : x ≤ 2147483647) (h3 : -2147483648 ≤ y) (h4 : y ≤ 2147483647) : z_rem x y = x.tmod y := by
  unfold z_rem
  rw [rem_toInt, zr_of h1 h2, zr_of h3 h4]
theorem z_div_eq {x y : Int} (h1 : -2147483648 ≤ x) (h2 : x ≤ 2147483647) (h3 : -2147483648 ≤ y) (h4 : y ≤ 2147483647) (h5 : ¬ y = -1) : z_div x y = x.tdiv y := by
  unfold z_div
  have hne : Int32.ofInt y ≠ -1 := fun z => by
    have := congrArg Int32.toInt z
    rw [zr_of h3 h4] at this
    exact h5 this
  rw [Int32.toInt_div_of_ne_right _ _ hne, zr_of h1 h2, zr_of h3 h4]
/-! memory -/
theorem zu_self {m : z_M} {p k : Nat} {v : Int} : z_up m p k v p k = v := by unfold z_up; rw [if_pos ⟨rfl, rfl⟩]
theorem zu_p {m : z_M} {p k p' k' : Nat} {v : Int} (h : ¬ p' = p) : z_up m p k v p' k' = m p' k' := by unfold z_up; rw [if_neg (fun z => h z.1)]
theorem zu_k {m : z_M} {p k p' k' : Nat} {v : Int} (h : ¬ k' = k) : z_up m p k v p' k' = m p' k' := by unfold z_up; rw [if_neg (fun z => h z.2)]
theorem zu_at {m : z_M} {p k k' : Nat} {v : Int} : z_up m p k v p k' = if k' = k then v else m p k' := by
  unfold z_up
  by_cases h : k' = k
  · rw [if_pos ⟨rfl, h⟩, if_pos h]
  · rw [if_neg (fun z => h z.2), if_neg h]
theorem zu_zu {m : z_M} {p k : Nat} {v w : Int} : z_up (z_up m p k v) p k w = z_up m p k w := by
  funext p' k'
  unfold z_up
  by_cases h : p' = p ∧ k' = k
  · rw [if_pos h, if_pos h]
  · rw [if_neg h, if_neg h, if_neg h]
/-- two memories alike but at some places -/
def z_same (L : List (Nat × Nat × Nat)) (m m' : z_M) : Prop := ∀ p k, (∀ q ∈ L, ¬ (q.1 = p ∧ q.2.1 ≤ k ∧ k ≤ q.2.2)) → m' p k = m p k
theorem z_same.rf {L : List (Nat × Nat × Nat)} {m : z_M} : z_same L m m := fun _ _ _ => rfl
theorem z_same.tr {L : List (Nat × Nat × Nat)} {m m' m'' : z_M} (h : z_same L m m') (h' : z_same L m' m'') : z_same L m m'' := fun p k hn => (h' p k hn).trans (h p k hn)
theorem z_same.up {L : List (Nat × Nat × Nat)} {m m' : z_M} {p k : Nat} {v : Int} (h : z_same L m m') (hq : ∃ q ∈ L, q.1 = p ∧ q.2.1 ≤ k ∧ k ≤ q.2.2) : z_same L m (z_up m' p k v) := fun p' k' hn => by
  obtain ⟨q, q1, q2, q3, q4⟩ := hq
  have : ¬ (p' = p ∧ k' = k) := fun ⟨e1, e2⟩ => hn q q1 (by subst e1; subst e2; exact ⟨q2, q3, q4⟩)
  unfold z_up
  rw [if_neg this]
  exact h p' k' hn
theorem z_same.mono {L L' : List (Nat × Nat × Nat)} {m m' : z_M} (h : z_same L m m') (hs : ∀ q ∈ L, q ∈ L') : z_same L' m m' := fun p k hn => h p k fun q hq => hn q (hs q hq)
theorem z_R_bi {y : Nat} {K : List (List a_K)} (hK : kt_at y = K) {c : Bool} {m : z_M} {pc : Nat} {ls : z_L} {st : List z_V} {g' : z_G} {q : a_K} {A : Option z_Q} (hq : k_get K pc = some q) (hk : z_kd q.2.1 q.2.2.2.2 = 0) (hs : z_step q (m, pc, ls, st) = bif c then some g' else none) (h1 : z_R y g' = A) : z_R y (m, pc, ls, st) = bif c then A else none := by
  cases c
  · exact z_R_bad hK (g := (m, pc, ls, st)) hq hk hs
  · exact (z_R_st hK (g := (m, pc, ls, st)) hq hk hs).trans h1
theorem zc_p {m : z_M} {p s q d n p' k' : Nat} (h : ¬ p' = q) : z_cp m p s q d n p' k' = m p' k' := by unfold z_cp; rw [if_neg (fun z => h z.1)]
theorem zu_id {m : z_M} {p k : Nat} : z_up m p k (m p k) = m := by
  funext p' k'
  unfold z_up
  by_cases h : p' = p ∧ k' = k
  · rw [if_pos h, h.1, h.2]
  · rw [if_neg h]
theorem z_bif_some {α : Type} {c : Bool} {X r : α} (h : (bif c then some X else none) = some r) : X = r := by
  cases c
  · cases h
  · exact Option.some.inj h
/-- a method that only gives ints -/
def z_onlyI1 (q : a_K) : Bool := match q.2.1 with
  | .return_ => false
  | .lreturn => false
  | .new _ => false
  | _ => true
noncomputable def z_onlyI (y : Nat) : Bool := (kt_at y).all fun r => r.all z_onlyI1
theorem z_ex_tag {y : Nat} (hk : z_onlyI y = true) : ∀ (f : Nat) (g : z_G) (r : z_Q), z_ex f y g = some r → ∃ u, r.2 = some (0, u) := by
  intro f
  induction f with
  | zero => intro g r h; cases h
  | succ f ih =>
    intro g r h
    unfold z_ex at h
    split at h
    · cases h
    · rename_i q hq
      obtain ⟨⟨row, h1, h2⟩, -⟩ := k_get_in hq
      have hb := List.all_eq_true.mp (List.all_eq_true.mp hk row h1) q h2
      split at h
      · split at h
        · exact ih _ _ h
        · cases h
      · obtain ⟨m, pc, ls, st⟩ := g
        unfold z_ret at h
        unfold z_onlyI1 at hb
        simp only at h
        split at h
        · rename_i e; rw [e] at hb; cases hb
        · rename_i e; rw [e] at hb; cases hb
        · split at h
          · exact ⟨_, by rw [← Option.some.inj h]⟩
          · cases h
        · rename_i e; rw [e] at hb; cases hb
        · cases h
      · split at h
        · split at h
          · exact ih _ _ h
          · cases h
        · cases h
theorem z_tag {y : Nat} (hk : z_onlyI y = true) {g : z_G} {r : z_Q} (h : z_R y g = some r) : ∃ u, r.2 = some (0, u) := by
  obtain ⟨f, h⟩ := z_R_iff.mp h
  exact z_ex_tag hk f g r h
