theorem cs_cy : ∀ y, ∀ C ∈ cs_at y, C.1 = y := sorry
theorem all_sem {l : Launch} {X : Nat → Option (List Int32)} {xa : Nat → Nat} (hX : ∀ i, i < 2 → X i = some ((x_tab i).map Int32.ofInt)) : ∀ (d y : Nat), ∀ C ∈ cs_at y, c_sem l X (yY xa) xa d C := sorry
