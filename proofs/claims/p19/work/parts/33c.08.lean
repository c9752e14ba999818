/-! ALL CONTRACTS TOGETHER, 8 -/
section AS
variable {l : Launch} {X : Nat → Option (List Int32)} {xa : Nat → Nat} {d : Nat}
theorem sm_256 (hX : ∀ i, i < 2 → X i = some ((x_tab i).map Int32.ofInt)) (hcs : ∀ d', d = d' + 1 → ∀ y, ∀ C ∈ cs_at y, c_sem l X (yY xa) xa d' C) : ∀ C ∈ [cn_594], c_sem l X (yY xa) xa d C := by
  have hY := yY_ok xa
  have hYS := yY_str xa
  have hIx := ix_K_ok (l := l) (X := X) hY hYS
  intro C hC
  obtain rfl := List.mem_singleton.mp hC
  exact c_meth mq_256_kt hY hYS hIx hX (q := mq_256) mq_256_at mq_256_pl mq_256_k cs_cy hcs cn_594_ok
theorem sm_257 (hX : ∀ i, i < 2 → X i = some ((x_tab i).map Int32.ofInt)) (hcs : ∀ d', d = d' + 1 → ∀ y, ∀ C ∈ cs_at y, c_sem l X (yY xa) xa d' C) : ∀ C ∈ [cn_596], c_sem l X (yY xa) xa d C := by
  have hY := yY_ok xa
  have hYS := yY_str xa
  have hIx := ix_K_ok (l := l) (X := X) hY hYS
  intro C hC
  obtain rfl := List.mem_singleton.mp hC
  exact c_meth mq_257_kt hY hYS hIx hX (q := mq_257) mq_257_at mq_257_pl mq_257_k cs_cy hcs cn_596_ok
theorem sm_258 (hX : ∀ i, i < 2 → X i = some ((x_tab i).map Int32.ofInt)) (hcs : ∀ d', d = d' + 1 → ∀ y, ∀ C ∈ cs_at y, c_sem l X (yY xa) xa d' C) : ∀ C ∈ [cn_279], c_sem l X (yY xa) xa d C := by
  have hY := yY_ok xa
  have hYS := yY_str xa
  have hIx := ix_K_ok (l := l) (X := X) hY hYS
  intro C hC
  obtain rfl := List.mem_singleton.mp hC
  exact c_meth mq_258_kt hY hYS hIx hX (q := mq_258) mq_258_at mq_258_pl mq_258_k cs_cy hcs cn_279_ok
theorem sm_259 (hX : ∀ i, i < 2 → X i = some ((x_tab i).map Int32.ofInt)) (hcs : ∀ d', d = d' + 1 → ∀ y, ∀ C ∈ cs_at y, c_sem l X (yY xa) xa d' C) : ∀ C ∈ [cn_270], c_sem l X (yY xa) xa d C := by
  have hY := yY_ok xa
  have hYS := yY_str xa
  have hIx := ix_K_ok (l := l) (X := X) hY hYS
  intro C hC
  obtain rfl := List.mem_singleton.mp hC
  exact c_meth mq_259_kt hY hYS hIx hX (q := mq_259) mq_259_at mq_259_pl mq_259_k cs_cy hcs cn_270_ok
theorem sm_260 (hX : ∀ i, i < 2 → X i = some ((x_tab i).map Int32.ofInt)) (hcs : ∀ d', d = d' + 1 → ∀ y, ∀ C ∈ cs_at y, c_sem l X (yY xa) xa d' C) : ∀ C ∈ [cn_373], c_sem l X (yY xa) xa d C := by
  have hY := yY_ok xa
  have hYS := yY_str xa
  have hIx := ix_K_ok (l := l) (X := X) hY hYS
  intro C hC
  obtain rfl := List.mem_singleton.mp hC
  exact c_meth mq_260_kt hY hYS hIx hX (q := mq_260) mq_260_at mq_260_pl mq_260_k cs_cy hcs cn_373_ok
theorem sm_261 (hX : ∀ i, i < 2 → X i = some ((x_tab i).map Int32.ofInt)) (hcs : ∀ d', d = d' + 1 → ∀ y, ∀ C ∈ cs_at y, c_sem l X (yY xa) xa d' C) : ∀ C ∈ [cn_285], c_sem l X (yY xa) xa d C := by
  have hY := yY_ok xa
  have hYS := yY_str xa
  have hIx := ix_K_ok (l := l) (X := X) hY hYS
  intro C hC
  obtain rfl := List.mem_singleton.mp hC
  exact c_meth mq_261_kt hY hYS hIx hX (q := mq_261) mq_261_at mq_261_pl mq_261_k cs_cy hcs cn_285_ok
theorem sc_8 (hX : ∀ i, i < 2 → X i = some ((x_tab i).map Int32.ofInt)) (hcs : ∀ d', d = d' + 1 → ∀ y, ∀ C ∈ cs_at y, c_sem l X (yY xa) xa d' C) : ∀ r ∈ cs_tab_8, ∀ C ∈ r, c_sem l X (yY xa) xa d C := by
  unfold cs_tab_8
  refine List.forall_mem_cons.mpr ⟨sm_256 hX hcs, ?_⟩
  refine List.forall_mem_cons.mpr ⟨sm_257 hX hcs, ?_⟩
  refine List.forall_mem_cons.mpr ⟨sm_258 hX hcs, ?_⟩
  refine List.forall_mem_cons.mpr ⟨sm_259 hX hcs, ?_⟩
  refine List.forall_mem_cons.mpr ⟨sm_260 hX hcs, ?_⟩
  refine List.forall_mem_cons.mpr ⟨sm_261 hX hcs, ?_⟩
  exact fun _ h => absurd h List.not_mem_nil
end AS
