/-! the table, its numbers -/
def cs_c1 : List (List A_C) → Nat → Bool
  | [], _ => true
  | r :: t, y => r.all (fun C => Nat.beq C.1 y) && cs_c1 t (y + 1)
def cs_c2 : List (List (List A_C)) → Nat → Bool
  | [], _ => true
  | t :: l, h => cs_c1 t (32 * h) && cs_c2 l (h + 1)
theorem cs_c1_ok : ∀ (t : List (List A_C)) (y k : Nat) (r : List A_C), cs_c1 t y = true → t[k]? = some r → ∀ C ∈ r, C.1 = y + k
  | [], _, _, _, _, h => by simp at h
  | r0 :: t, y, k, r, hc, h => by
    obtain ⟨h1, h2⟩ := Bool.and_eq_true _ _ |>.mp hc
    cases k with
    | zero =>
      obtain rfl : r0 = r := by simpa using h
      exact fun C hC => Nat.eq_of_beq_eq_true (List.all_eq_true.mp h1 C hC)
    | succ k =>
      intro C hC
      have := cs_c1_ok t (y + 1) k r h2 (by simpa using h) C hC
      omega
theorem cs_c2_ok : ∀ (l : List (List (List A_C))) (h i : Nat) (t : List (List A_C)), cs_c2 l h = true → l[i]? = some t → cs_c1 t (32 * (h + i)) = true
  | [], _, _, _, _, h => by simp at h
  | t0 :: l, h, i, t, hc, hi => by
    obtain ⟨h1, h2⟩ := Bool.and_eq_true _ _ |>.mp hc
    cases i with
    | zero =>
      obtain rfl : t0 = t := by simpa using hi
      exact h1
    | succ i =>
      have := cs_c2_ok l (h + 1) i t h2 (by simpa using hi)
      rw [show h + (i + 1) = h + 1 + i by omega]
      exact this
set_option maxRecDepth 100000 in
theorem cs_tabs_ok : cs_c2 cs_tabs 0 = true := by decide +kernel
theorem cs_cy : ∀ y, ∀ C ∈ cs_at y, C.1 = y := by
  intro y C hC
  unfold cs_at at hC
  split at hC
  · rename_i t ht
    split at hC
    · rename_i r hr
      have h1 := cs_c2_ok _ _ _ _ cs_tabs_ok ht
      have h2 := cs_c1_ok _ _ _ _ h1 hr C hC
      have h3 := Nat.div_add_mod y 32
      omega
    · cases hC
  · cases hC
theorem cs_all {P : A_C → Prop} (h : ∀ t ∈ cs_tabs, ∀ r ∈ t, ∀ C ∈ r, P C) : ∀ y, ∀ C ∈ cs_at y, P C := by
  intro y C hC
  unfold cs_at at hC
  split at hC
  · rename_i t ht
    split at hC
    · rename_i r hr
      exact h t (List.mem_of_getElem? ht) r (List.mem_of_getElem? hr) C hC
    · cases hC
  · cases hC
theorem ra_all : ra_list.all (c_chk cs_at 3 none kt_213 4000) = true := all_chunks 8 8 (by decide) (fun j hj => match j, hj with
  | 0, _ => ra_ok_0
  | 1, _ => ra_ok_1
  | 2, _ => ra_ok_2
  | 3, _ => ra_ok_3
  | 4, _ => ra_ok_4
  | 5, _ => ra_ok_5
  | 6, _ => ra_ok_6
  | 7, _ => ra_ok_7
  | j + 8, h => absurd h (by omega)) (by decide +kernel)
