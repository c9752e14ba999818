/-! what is remembered, as to ROOMS -/
theorem w_W_do {w h n : Nat} {A B : Nat → Int} {c : Nat} {U : Nat → Nat → Int} {kn : Nat → Int} {KS : Nat → Nat → Int} (hW : w_W w h n A c U kn KS) (hB : wi w h n B) : w_W w h n B (c_inc c) (u_cons A U) kn KS := ⟨hW.1, hB, fun i hi => by
  cases i with
  | zero => exact hW.2.1
  | succ j =>
    refine hW.2.2.1 j ?_
    unfold c_inc at hi
    split at hi <;> omega, hW.2.2.2⟩
theorem w_W_if {w h n : Nat} {A B : Nat → Int} {c : Nat} {U : Nat → Nat → Int} {kn : Nat → Int} {KS : Nat → Nat → Int} {N : Nat} (hW : w_W w h n A c U kn KS) (hB : wi w h n B) : w_W w h n B (if N = 0 then c else c_inc c) (if N = 0 then U else u_cons A U) kn KS := by
  by_cases z : N = 0
  · rw [if_pos z, if_pos z]
    exact w_W_A hW hB
  · rw [if_neg z, if_neg z]
    exact w_W_do hW hB
