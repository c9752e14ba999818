/-! ALL CONTRACTS TOGETHER, 0 -/
section AS
variable {l : Launch} {X : Nat → Option (List Int32)} {xa : Nat → Nat} {d : Nat}
theorem sm_4 (hX : ∀ i, i < 2 → X i = some ((x_tab i).map Int32.ofInt)) (hcs : ∀ d', d = d' + 1 → ∀ y, ∀ C ∈ cs_at y, c_sem l X (yY xa) xa d' C) : ∀ C ∈ [cn_20], c_sem l X (yY xa) xa d C := by
  have hY := yY_ok xa
  have hYS := yY_str xa
  have hIx := ix_K_ok (l := l) (X := X) hY hYS
  intro C hC
  obtain rfl := List.mem_singleton.mp hC
  exact c_meth mq_4_kt hY hYS hIx hX (q := mq_4) mq_4_at mq_4_pl mq_4_k cs_cy hcs cn_20_ok
theorem sm_14 (hX : ∀ i, i < 2 → X i = some ((x_tab i).map Int32.ofInt)) (hcs : ∀ d', d = d' + 1 → ∀ y, ∀ C ∈ cs_at y, c_sem l X (yY xa) xa d' C) : ∀ C ∈ [cn_122], c_sem l X (yY xa) xa d C := by
  have hY := yY_ok xa
  have hYS := yY_str xa
  have hIx := ix_K_ok (l := l) (X := X) hY hYS
  intro C hC
  obtain rfl := List.mem_singleton.mp hC
  exact c_meth mq_14_kt hY hYS hIx hX (q := mq_14) mq_14_at mq_14_pl mq_14_k cs_cy hcs cn_122_ok
theorem sm_15 (hX : ∀ i, i < 2 → X i = some ((x_tab i).map Int32.ofInt)) (hcs : ∀ d', d = d' + 1 → ∀ y, ∀ C ∈ cs_at y, c_sem l X (yY xa) xa d' C) : ∀ C ∈ [cn_24], c_sem l X (yY xa) xa d C := by
  have hY := yY_ok xa
  have hYS := yY_str xa
  have hIx := ix_K_ok (l := l) (X := X) hY hYS
  intro C hC
  obtain rfl := List.mem_singleton.mp hC
  exact c_meth mq_15_kt hY hYS hIx hX (q := mq_15) mq_15_at mq_15_pl mq_15_k cs_cy hcs cn_24_ok
theorem sm_16 (hX : ∀ i, i < 2 → X i = some ((x_tab i).map Int32.ofInt)) (hcs : ∀ d', d = d' + 1 → ∀ y, ∀ C ∈ cs_at y, c_sem l X (yY xa) xa d' C) : ∀ C ∈ [cn_119], c_sem l X (yY xa) xa d C := by
  have hY := yY_ok xa
  have hYS := yY_str xa
  have hIx := ix_K_ok (l := l) (X := X) hY hYS
  intro C hC
  obtain rfl := List.mem_singleton.mp hC
  exact c_meth mq_16_kt hY hYS hIx hX (q := mq_16) mq_16_at mq_16_pl mq_16_k cs_cy hcs cn_119_ok
theorem sm_17 (hX : ∀ i, i < 2 → X i = some ((x_tab i).map Int32.ofInt)) (hcs : ∀ d', d = d' + 1 → ∀ y, ∀ C ∈ cs_at y, c_sem l X (yY xa) xa d' C) : ∀ C ∈ [cn_26], c_sem l X (yY xa) xa d C := by
  have hY := yY_ok xa
  have hYS := yY_str xa
  have hIx := ix_K_ok (l := l) (X := X) hY hYS
  intro C hC
  obtain rfl := List.mem_singleton.mp hC
  exact c_meth mq_17_kt hY hYS hIx hX (q := mq_17) mq_17_at mq_17_pl mq_17_k cs_cy hcs cn_26_ok
theorem sm_18 (hX : ∀ i, i < 2 → X i = some ((x_tab i).map Int32.ofInt)) (hcs : ∀ d', d = d' + 1 → ∀ y, ∀ C ∈ cs_at y, c_sem l X (yY xa) xa d' C) : ∀ C ∈ [cn_407], c_sem l X (yY xa) xa d C := by
  have hY := yY_ok xa
  have hYS := yY_str xa
  have hIx := ix_K_ok (l := l) (X := X) hY hYS
  intro C hC
  obtain rfl := List.mem_singleton.mp hC
  exact c_meth mq_18_kt hY hYS hIx hX (q := mq_18) mq_18_at mq_18_pl mq_18_k cs_cy hcs cn_407_ok
theorem sm_19 (hX : ∀ i, i < 2 → X i = some ((x_tab i).map Int32.ofInt)) (hcs : ∀ d', d = d' + 1 → ∀ y, ∀ C ∈ cs_at y, c_sem l X (yY xa) xa d' C) : ∀ C ∈ [cn_389], c_sem l X (yY xa) xa d C := by
  have hY := yY_ok xa
  have hYS := yY_str xa
  have hIx := ix_K_ok (l := l) (X := X) hY hYS
  intro C hC
  obtain rfl := List.mem_singleton.mp hC
  exact c_meth mq_19_kt hY hYS hIx hX (q := mq_19) mq_19_at mq_19_pl mq_19_k cs_cy hcs cn_389_ok
theorem sm_20 (hX : ∀ i, i < 2 → X i = some ((x_tab i).map Int32.ofInt)) (hcs : ∀ d', d = d' + 1 → ∀ y, ∀ C ∈ cs_at y, c_sem l X (yY xa) xa d' C) : ∀ C ∈ [cn_25], c_sem l X (yY xa) xa d C := by
  have hY := yY_ok xa
  have hYS := yY_str xa
  have hIx := ix_K_ok (l := l) (X := X) hY hYS
  intro C hC
  obtain rfl := List.mem_singleton.mp hC
  exact c_meth mq_20_kt hY hYS hIx hX (q := mq_20) mq_20_at mq_20_pl mq_20_k cs_cy hcs cn_25_ok
theorem sm_21 (hX : ∀ i, i < 2 → X i = some ((x_tab i).map Int32.ofInt)) (hcs : ∀ d', d = d' + 1 → ∀ y, ∀ C ∈ cs_at y, c_sem l X (yY xa) xa d' C) : ∀ C ∈ [cn_367, cn_368, cn_369], c_sem l X (yY xa) xa d C := by
  have hY := yY_ok xa
  have hYS := yY_str xa
  have hIx := ix_K_ok (l := l) (X := X) hY hYS
  refine List.forall_mem_cons.mpr ⟨c_meth mq_21_kt hY hYS hIx hX (q := mq_21) mq_21_at mq_21_pl mq_21_k cs_cy hcs cn_367_ok, ?_⟩
  refine List.forall_mem_cons.mpr ⟨c_meth mq_21_kt hY hYS hIx hX (q := mq_21) mq_21_at mq_21_pl mq_21_k cs_cy hcs cn_368_ok, ?_⟩
  refine List.forall_mem_cons.mpr ⟨c_meth mq_21_kt hY hYS hIx hX (q := mq_21) mq_21_at mq_21_pl mq_21_k cs_cy hcs cn_369_ok, ?_⟩
  exact fun _ h => absurd h List.not_mem_nil
theorem sm_22 (hX : ∀ i, i < 2 → X i = some ((x_tab i).map Int32.ofInt)) (hcs : ∀ d', d = d' + 1 → ∀ y, ∀ C ∈ cs_at y, c_sem l X (yY xa) xa d' C) : ∀ C ∈ [cn_315], c_sem l X (yY xa) xa d C := by
  have hY := yY_ok xa
  have hYS := yY_str xa
  have hIx := ix_K_ok (l := l) (X := X) hY hYS
  intro C hC
  obtain rfl := List.mem_singleton.mp hC
  exact c_meth mq_22_kt hY hYS hIx hX (q := mq_22) mq_22_at mq_22_pl mq_22_k cs_cy hcs cn_315_ok
theorem sm_23 (hX : ∀ i, i < 2 → X i = some ((x_tab i).map Int32.ofInt)) (hcs : ∀ d', d = d' + 1 → ∀ y, ∀ C ∈ cs_at y, c_sem l X (yY xa) xa d' C) : ∀ C ∈ [cn_206], c_sem l X (yY xa) xa d C := by
  have hY := yY_ok xa
  have hYS := yY_str xa
  have hIx := ix_K_ok (l := l) (X := X) hY hYS
  intro C hC
  obtain rfl := List.mem_singleton.mp hC
  exact c_meth mq_23_kt hY hYS hIx hX (q := mq_23) mq_23_at mq_23_pl mq_23_k cs_cy hcs cn_206_ok
theorem sm_24 (hX : ∀ i, i < 2 → X i = some ((x_tab i).map Int32.ofInt)) (hcs : ∀ d', d = d' + 1 → ∀ y, ∀ C ∈ cs_at y, c_sem l X (yY xa) xa d' C) : ∀ C ∈ [cn_29], c_sem l X (yY xa) xa d C := by
  have hY := yY_ok xa
  have hYS := yY_str xa
  have hIx := ix_K_ok (l := l) (X := X) hY hYS
  intro C hC
  obtain rfl := List.mem_singleton.mp hC
  exact c_meth mq_24_kt hY hYS hIx hX (q := mq_24) mq_24_at mq_24_pl mq_24_k cs_cy hcs cn_29_ok
theorem sm_25 (hX : ∀ i, i < 2 → X i = some ((x_tab i).map Int32.ofInt)) (hcs : ∀ d', d = d' + 1 → ∀ y, ∀ C ∈ cs_at y, c_sem l X (yY xa) xa d' C) : ∀ C ∈ [cn_2], c_sem l X (yY xa) xa d C := by
  have hY := yY_ok xa
  have hYS := yY_str xa
  have hIx := ix_K_ok (l := l) (X := X) hY hYS
  intro C hC
  obtain rfl := List.mem_singleton.mp hC
  exact c_meth mq_25_kt hY hYS hIx hX (q := mq_25) mq_25_at mq_25_pl mq_25_k cs_cy hcs cn_2_ok
theorem sm_26 (hX : ∀ i, i < 2 → X i = some ((x_tab i).map Int32.ofInt)) (hcs : ∀ d', d = d' + 1 → ∀ y, ∀ C ∈ cs_at y, c_sem l X (yY xa) xa d' C) : ∀ C ∈ [cn_30], c_sem l X (yY xa) xa d C := by
  have hY := yY_ok xa
  have hYS := yY_str xa
  have hIx := ix_K_ok (l := l) (X := X) hY hYS
  intro C hC
  obtain rfl := List.mem_singleton.mp hC
  exact c_meth mq_26_kt hY hYS hIx hX (q := mq_26) mq_26_at mq_26_pl mq_26_k cs_cy hcs cn_30_ok
theorem sm_27 (hX : ∀ i, i < 2 → X i = some ((x_tab i).map Int32.ofInt)) (hcs : ∀ d', d = d' + 1 → ∀ y, ∀ C ∈ cs_at y, c_sem l X (yY xa) xa d' C) : ∀ C ∈ [cn_207], c_sem l X (yY xa) xa d C := by
  have hY := yY_ok xa
  have hYS := yY_str xa
  have hIx := ix_K_ok (l := l) (X := X) hY hYS
  intro C hC
  obtain rfl := List.mem_singleton.mp hC
  exact c_meth mq_27_kt hY hYS hIx hX (q := mq_27) mq_27_at mq_27_pl mq_27_k cs_cy hcs cn_207_ok
theorem sm_28 (hX : ∀ i, i < 2 → X i = some ((x_tab i).map Int32.ofInt)) (hcs : ∀ d', d = d' + 1 → ∀ y, ∀ C ∈ cs_at y, c_sem l X (yY xa) xa d' C) : ∀ C ∈ [cn_28], c_sem l X (yY xa) xa d C := by
  have hY := yY_ok xa
  have hYS := yY_str xa
  have hIx := ix_K_ok (l := l) (X := X) hY hYS
  intro C hC
  obtain rfl := List.mem_singleton.mp hC
  exact c_meth mq_28_kt hY hYS hIx hX (q := mq_28) mq_28_at mq_28_pl mq_28_k cs_cy hcs cn_28_ok
theorem sm_29 (hX : ∀ i, i < 2 → X i = some ((x_tab i).map Int32.ofInt)) (hcs : ∀ d', d = d' + 1 → ∀ y, ∀ C ∈ cs_at y, c_sem l X (yY xa) xa d' C) : ∀ C ∈ [cn_27], c_sem l X (yY xa) xa d C := by
  have hY := yY_ok xa
  have hYS := yY_str xa
  have hIx := ix_K_ok (l := l) (X := X) hY hYS
  intro C hC
  obtain rfl := List.mem_singleton.mp hC
  exact c_meth mq_29_kt hY hYS hIx hX (q := mq_29) mq_29_at mq_29_pl mq_29_k cs_cy hcs cn_27_ok
theorem sm_30 (hX : ∀ i, i < 2 → X i = some ((x_tab i).map Int32.ofInt)) (hcs : ∀ d', d = d' + 1 → ∀ y, ∀ C ∈ cs_at y, c_sem l X (yY xa) xa d' C) : ∀ C ∈ [cn_196], c_sem l X (yY xa) xa d C := by
  have hY := yY_ok xa
  have hYS := yY_str xa
  have hIx := ix_K_ok (l := l) (X := X) hY hYS
  intro C hC
  obtain rfl := List.mem_singleton.mp hC
  exact c_meth mq_30_kt hY hYS hIx hX (q := mq_30) mq_30_at mq_30_pl mq_30_k cs_cy hcs cn_196_ok
theorem sm_31 (hX : ∀ i, i < 2 → X i = some ((x_tab i).map Int32.ofInt)) (hcs : ∀ d', d = d' + 1 → ∀ y, ∀ C ∈ cs_at y, c_sem l X (yY xa) xa d' C) : ∀ C ∈ [cn_31], c_sem l X (yY xa) xa d C := by
  have hY := yY_ok xa
  have hYS := yY_str xa
  have hIx := ix_K_ok (l := l) (X := X) hY hYS
  intro C hC
  obtain rfl := List.mem_singleton.mp hC
  exact c_meth mq_31_kt hY hYS hIx hX (q := mq_31) mq_31_at mq_31_pl mq_31_k cs_cy hcs cn_31_ok
theorem sc_0 (hX : ∀ i, i < 2 → X i = some ((x_tab i).map Int32.ofInt)) (hcs : ∀ d', d = d' + 1 → ∀ y, ∀ C ∈ cs_at y, c_sem l X (yY xa) xa d' C) : ∀ r ∈ cs_tab_0, ∀ C ∈ r, c_sem l X (yY xa) xa d C := by
  unfold cs_tab_0
  refine List.forall_mem_cons.mpr ⟨(fun _ h => absurd h List.not_mem_nil), ?_⟩
  refine List.forall_mem_cons.mpr ⟨(fun _ h => absurd h List.not_mem_nil), ?_⟩
  refine List.forall_mem_cons.mpr ⟨(fun _ h => absurd h List.not_mem_nil), ?_⟩
  refine List.forall_mem_cons.mpr ⟨(fun _ h => absurd h List.not_mem_nil), ?_⟩
  refine List.forall_mem_cons.mpr ⟨sm_4 hX hcs, ?_⟩
  refine List.forall_mem_cons.mpr ⟨(fun _ h => absurd h List.not_mem_nil), ?_⟩
  refine List.forall_mem_cons.mpr ⟨(fun _ h => absurd h List.not_mem_nil), ?_⟩
  refine List.forall_mem_cons.mpr ⟨(fun _ h => absurd h List.not_mem_nil), ?_⟩
  refine List.forall_mem_cons.mpr ⟨(fun _ h => absurd h List.not_mem_nil), ?_⟩
  refine List.forall_mem_cons.mpr ⟨(fun _ h => absurd h List.not_mem_nil), ?_⟩
  refine List.forall_mem_cons.mpr ⟨(fun _ h => absurd h List.not_mem_nil), ?_⟩
  refine List.forall_mem_cons.mpr ⟨(fun _ h => absurd h List.not_mem_nil), ?_⟩
  refine List.forall_mem_cons.mpr ⟨(fun _ h => absurd h List.not_mem_nil), ?_⟩
  refine List.forall_mem_cons.mpr ⟨(fun _ h => absurd h List.not_mem_nil), ?_⟩
  refine List.forall_mem_cons.mpr ⟨sm_14 hX hcs, ?_⟩
  refine List.forall_mem_cons.mpr ⟨sm_15 hX hcs, ?_⟩
  refine List.forall_mem_cons.mpr ⟨sm_16 hX hcs, ?_⟩
  refine List.forall_mem_cons.mpr ⟨sm_17 hX hcs, ?_⟩
  refine List.forall_mem_cons.mpr ⟨sm_18 hX hcs, ?_⟩
  refine List.forall_mem_cons.mpr ⟨sm_19 hX hcs, ?_⟩
  refine List.forall_mem_cons.mpr ⟨sm_20 hX hcs, ?_⟩
  refine List.forall_mem_cons.mpr ⟨sm_21 hX hcs, ?_⟩
  refine List.forall_mem_cons.mpr ⟨sm_22 hX hcs, ?_⟩
  refine List.forall_mem_cons.mpr ⟨sm_23 hX hcs, ?_⟩
  refine List.forall_mem_cons.mpr ⟨sm_24 hX hcs, ?_⟩
  refine List.forall_mem_cons.mpr ⟨sm_25 hX hcs, ?_⟩
  refine List.forall_mem_cons.mpr ⟨sm_26 hX hcs, ?_⟩
  refine List.forall_mem_cons.mpr ⟨sm_27 hX hcs, ?_⟩
  refine List.forall_mem_cons.mpr ⟨sm_28 hX hcs, ?_⟩
  refine List.forall_mem_cons.mpr ⟨sm_29 hX hcs, ?_⟩
  refine List.forall_mem_cons.mpr ⟨sm_30 hX hcs, ?_⟩
  refine List.forall_mem_cons.mpr ⟨sm_31 hX hcs, ?_⟩
  exact fun _ h => absurd h List.not_mem_nil
end AS
