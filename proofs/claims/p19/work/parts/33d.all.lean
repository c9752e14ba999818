/-! ALL CONTRACTS, whatever frames are left -/
section AS
variable {l : Launch} {X : Nat → Option (List Int32)} {xa : Nat → Nat} {d : Nat}
theorem as_step (hX : ∀ i, i < 2 → X i = some ((x_tab i).map Int32.ofInt)) (hcs : ∀ d', d = d' + 1 → ∀ y, ∀ C ∈ cs_at y, c_sem l X (yY xa) xa d' C) : ∀ y, ∀ C ∈ cs_at y, c_sem l X (yY xa) xa d C := by
  refine cs_all ?_
  unfold cs_tabs
  refine List.forall_mem_cons.mpr ⟨sc_0 hX hcs, ?_⟩
  refine List.forall_mem_cons.mpr ⟨sc_1 hX hcs, ?_⟩
  refine List.forall_mem_cons.mpr ⟨sc_2 hX hcs, ?_⟩
  refine List.forall_mem_cons.mpr ⟨sc_3 hX hcs, ?_⟩
  refine List.forall_mem_cons.mpr ⟨sc_4 hX hcs, ?_⟩
  refine List.forall_mem_cons.mpr ⟨sc_5 hX hcs, ?_⟩
  refine List.forall_mem_cons.mpr ⟨sc_6 hX hcs, ?_⟩
  refine List.forall_mem_cons.mpr ⟨sc_7 hX hcs, ?_⟩
  refine List.forall_mem_cons.mpr ⟨sc_8 hX hcs, ?_⟩
  exact fun _ h => absurd h List.not_mem_nil
end AS
theorem all_sem {l : Launch} {X : Nat → Option (List Int32)} {xa : Nat → Nat} (hX : ∀ i, i < 2 → X i = some ((x_tab i).map Int32.ofInt)) : ∀ (d y : Nat), ∀ C ∈ cs_at y, c_sem l X (yY xa) xa d C := by
  intro d
  induction d with
  | zero => exact as_step hX (fun d' h => by omega)
  | succ d ih => exact as_step hX (fun d' h => by
      obtain rfl : d' = d := by omega
      exact ih)
