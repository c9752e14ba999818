/-! ALL CONTRACTS TOGETHER, 4 -/
section AS
variable {l : Launch} {X : Nat → Option (List Int32)} {xa : Nat → Nat} {d : Nat}
theorem sm_128 (hX : ∀ i, i < 2 → X i = some ((x_tab i).map Int32.ofInt)) (hcs : ∀ d', d = d' + 1 → ∀ y, ∀ C ∈ cs_at y, c_sem l X (yY xa) xa d' C) : ∀ C ∈ [cn_116], c_sem l X (yY xa) xa d C := by
  have hY := yY_ok xa
  have hYS := yY_str xa
  have hIx := ix_K_ok (l := l) (X := X) hY hYS
  intro C hC
  obtain rfl := List.mem_singleton.mp hC
  exact c_meth mq_128_kt hY hYS hIx hX (q := mq_128) mq_128_at mq_128_pl mq_128_k cs_cy hcs cn_116_ok
theorem sm_129 (hX : ∀ i, i < 2 → X i = some ((x_tab i).map Int32.ofInt)) (hcs : ∀ d', d = d' + 1 → ∀ y, ∀ C ∈ cs_at y, c_sem l X (yY xa) xa d' C) : ∀ C ∈ [cn_460], c_sem l X (yY xa) xa d C := by
  have hY := yY_ok xa
  have hYS := yY_str xa
  have hIx := ix_K_ok (l := l) (X := X) hY hYS
  intro C hC
  obtain rfl := List.mem_singleton.mp hC
  exact c_meth mq_129_kt hY hYS hIx hX (q := mq_129) mq_129_at mq_129_pl mq_129_k cs_cy hcs cn_460_ok
theorem sm_130 (hX : ∀ i, i < 2 → X i = some ((x_tab i).map Int32.ofInt)) (hcs : ∀ d', d = d' + 1 → ∀ y, ∀ C ∈ cs_at y, c_sem l X (yY xa) xa d' C) : ∀ C ∈ [cn_458], c_sem l X (yY xa) xa d C := by
  have hY := yY_ok xa
  have hYS := yY_str xa
  have hIx := ix_K_ok (l := l) (X := X) hY hYS
  intro C hC
  obtain rfl := List.mem_singleton.mp hC
  exact c_meth mq_130_kt hY hYS hIx hX (q := mq_130) mq_130_at mq_130_pl mq_130_k cs_cy hcs cn_458_ok
theorem sm_131 (hX : ∀ i, i < 2 → X i = some ((x_tab i).map Int32.ofInt)) (hcs : ∀ d', d = d' + 1 → ∀ y, ∀ C ∈ cs_at y, c_sem l X (yY xa) xa d' C) : ∀ C ∈ [cn_269, cn_414, cn_433, cn_443, cn_449, cn_455], c_sem l X (yY xa) xa d C := by
  have hY := yY_ok xa
  have hYS := yY_str xa
  have hIx := ix_K_ok (l := l) (X := X) hY hYS
  refine List.forall_mem_cons.mpr ⟨c_meth mq_131_kt hY hYS hIx hX (q := mq_131) mq_131_at mq_131_pl mq_131_k cs_cy hcs cn_269_ok, ?_⟩
  refine List.forall_mem_cons.mpr ⟨c_meth mq_131_kt hY hYS hIx hX (q := mq_131) mq_131_at mq_131_pl mq_131_k cs_cy hcs cn_414_ok, ?_⟩
  refine List.forall_mem_cons.mpr ⟨c_meth mq_131_kt hY hYS hIx hX (q := mq_131) mq_131_at mq_131_pl mq_131_k cs_cy hcs cn_433_ok, ?_⟩
  refine List.forall_mem_cons.mpr ⟨c_meth mq_131_kt hY hYS hIx hX (q := mq_131) mq_131_at mq_131_pl mq_131_k cs_cy hcs cn_443_ok, ?_⟩
  refine List.forall_mem_cons.mpr ⟨c_meth mq_131_kt hY hYS hIx hX (q := mq_131) mq_131_at mq_131_pl mq_131_k cs_cy hcs cn_449_ok, ?_⟩
  refine List.forall_mem_cons.mpr ⟨c_meth mq_131_kt hY hYS hIx hX (q := mq_131) mq_131_at mq_131_pl mq_131_k cs_cy hcs cn_455_ok, ?_⟩
  exact fun _ h => absurd h List.not_mem_nil
theorem sm_132 (hX : ∀ i, i < 2 → X i = some ((x_tab i).map Int32.ofInt)) (hcs : ∀ d', d = d' + 1 → ∀ y, ∀ C ∈ cs_at y, c_sem l X (yY xa) xa d' C) : ∀ C ∈ [cn_393, cn_427, cn_439, cn_446, cn_452], c_sem l X (yY xa) xa d C := by
  have hY := yY_ok xa
  have hYS := yY_str xa
  have hIx := ix_K_ok (l := l) (X := X) hY hYS
  refine List.forall_mem_cons.mpr ⟨c_meth mq_132_kt hY hYS hIx hX (q := mq_132) mq_132_at mq_132_pl mq_132_k cs_cy hcs cn_393_ok, ?_⟩
  refine List.forall_mem_cons.mpr ⟨c_meth mq_132_kt hY hYS hIx hX (q := mq_132) mq_132_at mq_132_pl mq_132_k cs_cy hcs cn_427_ok, ?_⟩
  refine List.forall_mem_cons.mpr ⟨c_meth mq_132_kt hY hYS hIx hX (q := mq_132) mq_132_at mq_132_pl mq_132_k cs_cy hcs cn_439_ok, ?_⟩
  refine List.forall_mem_cons.mpr ⟨c_meth mq_132_kt hY hYS hIx hX (q := mq_132) mq_132_at mq_132_pl mq_132_k cs_cy hcs cn_446_ok, ?_⟩
  refine List.forall_mem_cons.mpr ⟨c_meth mq_132_kt hY hYS hIx hX (q := mq_132) mq_132_at mq_132_pl mq_132_k cs_cy hcs cn_452_ok, ?_⟩
  exact fun _ h => absurd h List.not_mem_nil
theorem sm_133 (hX : ∀ i, i < 2 → X i = some ((x_tab i).map Int32.ofInt)) (hcs : ∀ d', d = d' + 1 → ∀ y, ∀ C ∈ cs_at y, c_sem l X (yY xa) xa d' C) : ∀ C ∈ [cn_404], c_sem l X (yY xa) xa d C := by
  have hY := yY_ok xa
  have hYS := yY_str xa
  have hIx := ix_K_ok (l := l) (X := X) hY hYS
  intro C hC
  obtain rfl := List.mem_singleton.mp hC
  exact c_meth mq_133_kt hY hYS hIx hX (q := mq_133) mq_133_at mq_133_pl mq_133_k cs_cy hcs cn_404_ok
theorem sm_134 (hX : ∀ i, i < 2 → X i = some ((x_tab i).map Int32.ofInt)) (hcs : ∀ d', d = d' + 1 → ∀ y, ∀ C ∈ cs_at y, c_sem l X (yY xa) xa d' C) : ∀ C ∈ [cn_380], c_sem l X (yY xa) xa d C := by
  have hY := yY_ok xa
  have hYS := yY_str xa
  have hIx := ix_K_ok (l := l) (X := X) hY hYS
  intro C hC
  obtain rfl := List.mem_singleton.mp hC
  exact c_meth mq_134_kt hY hYS hIx hX (q := mq_134) mq_134_at mq_134_pl mq_134_k cs_cy hcs cn_380_ok
theorem sm_135 (hX : ∀ i, i < 2 → X i = some ((x_tab i).map Int32.ofInt)) (hcs : ∀ d', d = d' + 1 → ∀ y, ∀ C ∈ cs_at y, c_sem l X (yY xa) xa d' C) : ∀ C ∈ [cn_383], c_sem l X (yY xa) xa d C := by
  have hY := yY_ok xa
  have hYS := yY_str xa
  have hIx := ix_K_ok (l := l) (X := X) hY hYS
  intro C hC
  obtain rfl := List.mem_singleton.mp hC
  exact c_meth mq_135_kt hY hYS hIx hX (q := mq_135) mq_135_at mq_135_pl mq_135_k cs_cy hcs cn_383_ok
theorem sm_136 (hX : ∀ i, i < 2 → X i = some ((x_tab i).map Int32.ofInt)) (hcs : ∀ d', d = d' + 1 → ∀ y, ∀ C ∈ cs_at y, c_sem l X (yY xa) xa d' C) : ∀ C ∈ [cn_340], c_sem l X (yY xa) xa d C := by
  have hY := yY_ok xa
  have hYS := yY_str xa
  have hIx := ix_K_ok (l := l) (X := X) hY hYS
  intro C hC
  obtain rfl := List.mem_singleton.mp hC
  exact c_meth mq_136_kt hY hYS hIx hX (q := mq_136) mq_136_at mq_136_pl mq_136_k cs_cy hcs cn_340_ok
theorem sm_137 (hX : ∀ i, i < 2 → X i = some ((x_tab i).map Int32.ofInt)) (hcs : ∀ d', d = d' + 1 → ∀ y, ∀ C ∈ cs_at y, c_sem l X (yY xa) xa d' C) : ∀ C ∈ [cn_346], c_sem l X (yY xa) xa d C := by
  have hY := yY_ok xa
  have hYS := yY_str xa
  have hIx := ix_K_ok (l := l) (X := X) hY hYS
  intro C hC
  obtain rfl := List.mem_singleton.mp hC
  exact c_meth mq_137_kt hY hYS hIx hX (q := mq_137) mq_137_at mq_137_pl mq_137_k cs_cy hcs cn_346_ok
theorem sm_138 (hX : ∀ i, i < 2 → X i = some ((x_tab i).map Int32.ofInt)) (hcs : ∀ d', d = d' + 1 → ∀ y, ∀ C ∈ cs_at y, c_sem l X (yY xa) xa d' C) : ∀ C ∈ [cn_474], c_sem l X (yY xa) xa d C := by
  have hY := yY_ok xa
  have hYS := yY_str xa
  have hIx := ix_K_ok (l := l) (X := X) hY hYS
  intro C hC
  obtain rfl := List.mem_singleton.mp hC
  exact c_meth mq_138_kt hY hYS hIx hX (q := mq_138) mq_138_at mq_138_pl mq_138_k cs_cy hcs cn_474_ok
theorem sm_139 (hX : ∀ i, i < 2 → X i = some ((x_tab i).map Int32.ofInt)) (hcs : ∀ d', d = d' + 1 → ∀ y, ∀ C ∈ cs_at y, c_sem l X (yY xa) xa d' C) : ∀ C ∈ [cn_472], c_sem l X (yY xa) xa d C := by
  have hY := yY_ok xa
  have hYS := yY_str xa
  have hIx := ix_K_ok (l := l) (X := X) hY hYS
  intro C hC
  obtain rfl := List.mem_singleton.mp hC
  exact c_meth mq_139_kt hY hYS hIx hX (q := mq_139) mq_139_at mq_139_pl mq_139_k cs_cy hcs cn_472_ok
theorem sm_140 (hX : ∀ i, i < 2 → X i = some ((x_tab i).map Int32.ofInt)) (hcs : ∀ d', d = d' + 1 → ∀ y, ∀ C ∈ cs_at y, c_sem l X (yY xa) xa d' C) : ∀ C ∈ [cn_32, cn_415, cn_434, cn_444, cn_450, cn_456, cn_462, cn_466, cn_470], c_sem l X (yY xa) xa d C := by
  have hY := yY_ok xa
  have hYS := yY_str xa
  have hIx := ix_K_ok (l := l) (X := X) hY hYS
  refine List.forall_mem_cons.mpr ⟨c_meth mq_140_kt hY hYS hIx hX (q := mq_140) mq_140_at mq_140_pl mq_140_k cs_cy hcs cn_32_ok, ?_⟩
  refine List.forall_mem_cons.mpr ⟨c_meth mq_140_kt hY hYS hIx hX (q := mq_140) mq_140_at mq_140_pl mq_140_k cs_cy hcs cn_415_ok, ?_⟩
  refine List.forall_mem_cons.mpr ⟨c_meth mq_140_kt hY hYS hIx hX (q := mq_140) mq_140_at mq_140_pl mq_140_k cs_cy hcs cn_434_ok, ?_⟩
  refine List.forall_mem_cons.mpr ⟨c_meth mq_140_kt hY hYS hIx hX (q := mq_140) mq_140_at mq_140_pl mq_140_k cs_cy hcs cn_444_ok, ?_⟩
  refine List.forall_mem_cons.mpr ⟨c_meth mq_140_kt hY hYS hIx hX (q := mq_140) mq_140_at mq_140_pl mq_140_k cs_cy hcs cn_450_ok, ?_⟩
  refine List.forall_mem_cons.mpr ⟨c_meth mq_140_kt hY hYS hIx hX (q := mq_140) mq_140_at mq_140_pl mq_140_k cs_cy hcs cn_456_ok, ?_⟩
  refine List.forall_mem_cons.mpr ⟨c_meth mq_140_kt hY hYS hIx hX (q := mq_140) mq_140_at mq_140_pl mq_140_k cs_cy hcs cn_462_ok, ?_⟩
  refine List.forall_mem_cons.mpr ⟨c_meth mq_140_kt hY hYS hIx hX (q := mq_140) mq_140_at mq_140_pl mq_140_k cs_cy hcs cn_466_ok, ?_⟩
  refine List.forall_mem_cons.mpr ⟨c_meth mq_140_kt hY hYS hIx hX (q := mq_140) mq_140_at mq_140_pl mq_140_k cs_cy hcs cn_470_ok, ?_⟩
  exact fun _ h => absurd h List.not_mem_nil
theorem sm_141 (hX : ∀ i, i < 2 → X i = some ((x_tab i).map Int32.ofInt)) (hcs : ∀ d', d = d' + 1 → ∀ y, ∀ C ∈ cs_at y, c_sem l X (yY xa) xa d' C) : ∀ C ∈ [cn_394, cn_428, cn_440, cn_447, cn_453, cn_459, cn_464, cn_468], c_sem l X (yY xa) xa d C := by
  have hY := yY_ok xa
  have hYS := yY_str xa
  have hIx := ix_K_ok (l := l) (X := X) hY hYS
  refine List.forall_mem_cons.mpr ⟨c_meth mq_141_kt hY hYS hIx hX (q := mq_141) mq_141_at mq_141_pl mq_141_k cs_cy hcs cn_394_ok, ?_⟩
  refine List.forall_mem_cons.mpr ⟨c_meth mq_141_kt hY hYS hIx hX (q := mq_141) mq_141_at mq_141_pl mq_141_k cs_cy hcs cn_428_ok, ?_⟩
  refine List.forall_mem_cons.mpr ⟨c_meth mq_141_kt hY hYS hIx hX (q := mq_141) mq_141_at mq_141_pl mq_141_k cs_cy hcs cn_440_ok, ?_⟩
  refine List.forall_mem_cons.mpr ⟨c_meth mq_141_kt hY hYS hIx hX (q := mq_141) mq_141_at mq_141_pl mq_141_k cs_cy hcs cn_447_ok, ?_⟩
  refine List.forall_mem_cons.mpr ⟨c_meth mq_141_kt hY hYS hIx hX (q := mq_141) mq_141_at mq_141_pl mq_141_k cs_cy hcs cn_453_ok, ?_⟩
  refine List.forall_mem_cons.mpr ⟨c_meth mq_141_kt hY hYS hIx hX (q := mq_141) mq_141_at mq_141_pl mq_141_k cs_cy hcs cn_459_ok, ?_⟩
  refine List.forall_mem_cons.mpr ⟨c_meth mq_141_kt hY hYS hIx hX (q := mq_141) mq_141_at mq_141_pl mq_141_k cs_cy hcs cn_464_ok, ?_⟩
  refine List.forall_mem_cons.mpr ⟨c_meth mq_141_kt hY hYS hIx hX (q := mq_141) mq_141_at mq_141_pl mq_141_k cs_cy hcs cn_468_ok, ?_⟩
  exact fun _ h => absurd h List.not_mem_nil
theorem sm_142 (hX : ∀ i, i < 2 → X i = some ((x_tab i).map Int32.ofInt)) (hcs : ∀ d', d = d' + 1 → ∀ y, ∀ C ∈ cs_at y, c_sem l X (yY xa) xa d' C) : ∀ C ∈ [cn_33], c_sem l X (yY xa) xa d C := by
  have hY := yY_ok xa
  have hYS := yY_str xa
  have hIx := ix_K_ok (l := l) (X := X) hY hYS
  intro C hC
  obtain rfl := List.mem_singleton.mp hC
  exact c_meth mq_142_kt hY hYS hIx hX (q := mq_142) mq_142_at mq_142_pl mq_142_k cs_cy hcs cn_33_ok
theorem sm_143 (hX : ∀ i, i < 2 → X i = some ((x_tab i).map Int32.ofInt)) (hcs : ∀ d', d = d' + 1 → ∀ y, ∀ C ∈ cs_at y, c_sem l X (yY xa) xa d' C) : ∀ C ∈ [cn_473], c_sem l X (yY xa) xa d C := by
  have hY := yY_ok xa
  have hYS := yY_str xa
  have hIx := ix_K_ok (l := l) (X := X) hY hYS
  intro C hC
  obtain rfl := List.mem_singleton.mp hC
  exact c_meth mq_143_kt hY hYS hIx hX (q := mq_143) mq_143_at mq_143_pl mq_143_k cs_cy hcs cn_473_ok
theorem sm_144 (hX : ∀ i, i < 2 → X i = some ((x_tab i).map Int32.ofInt)) (hcs : ∀ d', d = d' + 1 → ∀ y, ∀ C ∈ cs_at y, c_sem l X (yY xa) xa d' C) : ∀ C ∈ [cn_384], c_sem l X (yY xa) xa d C := by
  have hY := yY_ok xa
  have hYS := yY_str xa
  have hIx := ix_K_ok (l := l) (X := X) hY hYS
  intro C hC
  obtain rfl := List.mem_singleton.mp hC
  exact c_meth mq_144_kt hY hYS hIx hX (q := mq_144) mq_144_at mq_144_pl mq_144_k cs_cy hcs cn_384_ok
theorem sm_145 (hX : ∀ i, i < 2 → X i = some ((x_tab i).map Int32.ofInt)) (hcs : ∀ d', d = d' + 1 → ∀ y, ∀ C ∈ cs_at y, c_sem l X (yY xa) xa d' C) : ∀ C ∈ [cn_10], c_sem l X (yY xa) xa d C := by
  have hY := yY_ok xa
  have hYS := yY_str xa
  have hIx := ix_K_ok (l := l) (X := X) hY hYS
  intro C hC
  obtain rfl := List.mem_singleton.mp hC
  exact c_meth mq_145_kt hY hYS hIx hX (q := mq_145) mq_145_at mq_145_pl mq_145_k cs_cy hcs cn_10_ok
theorem sm_146 (hX : ∀ i, i < 2 → X i = some ((x_tab i).map Int32.ofInt)) (hcs : ∀ d', d = d' + 1 → ∀ y, ∀ C ∈ cs_at y, c_sem l X (yY xa) xa d' C) : ∀ C ∈ [cn_5], c_sem l X (yY xa) xa d C := by
  have hY := yY_ok xa
  have hYS := yY_str xa
  have hIx := ix_K_ok (l := l) (X := X) hY hYS
  intro C hC
  obtain rfl := List.mem_singleton.mp hC
  exact c_meth mq_146_kt hY hYS hIx hX (q := mq_146) mq_146_at mq_146_pl mq_146_k cs_cy hcs cn_5_ok
theorem sm_147 (hX : ∀ i, i < 2 → X i = some ((x_tab i).map Int32.ofInt)) (hcs : ∀ d', d = d' + 1 → ∀ y, ∀ C ∈ cs_at y, c_sem l X (yY xa) xa d' C) : ∀ C ∈ [cn_3], c_sem l X (yY xa) xa d C := by
  have hY := yY_ok xa
  have hYS := yY_str xa
  have hIx := ix_K_ok (l := l) (X := X) hY hYS
  intro C hC
  obtain rfl := List.mem_singleton.mp hC
  exact c_meth mq_147_kt hY hYS hIx hX (q := mq_147) mq_147_at mq_147_pl mq_147_k cs_cy hcs cn_3_ok
theorem sm_148 (hX : ∀ i, i < 2 → X i = some ((x_tab i).map Int32.ofInt)) (hcs : ∀ d', d = d' + 1 → ∀ y, ∀ C ∈ cs_at y, c_sem l X (yY xa) xa d' C) : ∀ C ∈ [cn_9], c_sem l X (yY xa) xa d C := by
  have hY := yY_ok xa
  have hYS := yY_str xa
  have hIx := ix_K_ok (l := l) (X := X) hY hYS
  intro C hC
  obtain rfl := List.mem_singleton.mp hC
  exact c_meth mq_148_kt hY hYS hIx hX (q := mq_148) mq_148_at mq_148_pl mq_148_k cs_cy hcs cn_9_ok
theorem sm_149 (hX : ∀ i, i < 2 → X i = some ((x_tab i).map Int32.ofInt)) (hcs : ∀ d', d = d' + 1 → ∀ y, ∀ C ∈ cs_at y, c_sem l X (yY xa) xa d' C) : ∀ C ∈ [cn_11], c_sem l X (yY xa) xa d C := by
  have hY := yY_ok xa
  have hYS := yY_str xa
  have hIx := ix_K_ok (l := l) (X := X) hY hYS
  intro C hC
  obtain rfl := List.mem_singleton.mp hC
  exact c_meth mq_149_kt hY hYS hIx hX (q := mq_149) mq_149_at mq_149_pl mq_149_k cs_cy hcs cn_11_ok
theorem sm_150 (hX : ∀ i, i < 2 → X i = some ((x_tab i).map Int32.ofInt)) (hcs : ∀ d', d = d' + 1 → ∀ y, ∀ C ∈ cs_at y, c_sem l X (yY xa) xa d' C) : ∀ C ∈ [cn_341], c_sem l X (yY xa) xa d C := by
  have hY := yY_ok xa
  have hYS := yY_str xa
  have hIx := ix_K_ok (l := l) (X := X) hY hYS
  intro C hC
  obtain rfl := List.mem_singleton.mp hC
  exact c_meth mq_150_kt hY hYS hIx hX (q := mq_150) mq_150_at mq_150_pl mq_150_k cs_cy hcs cn_341_ok
theorem sm_151 (hX : ∀ i, i < 2 → X i = some ((x_tab i).map Int32.ofInt)) (hcs : ∀ d', d = d' + 1 → ∀ y, ∀ C ∈ cs_at y, c_sem l X (yY xa) xa d' C) : ∀ C ∈ [cn_321], c_sem l X (yY xa) xa d C := by
  have hY := yY_ok xa
  have hYS := yY_str xa
  have hIx := ix_K_ok (l := l) (X := X) hY hYS
  intro C hC
  obtain rfl := List.mem_singleton.mp hC
  exact c_meth mq_151_kt hY hYS hIx hX (q := mq_151) mq_151_at mq_151_pl mq_151_k cs_cy hcs cn_321_ok
theorem sm_152 (hX : ∀ i, i < 2 → X i = some ((x_tab i).map Int32.ofInt)) (hcs : ∀ d', d = d' + 1 → ∀ y, ∀ C ∈ cs_at y, c_sem l X (yY xa) xa d' C) : ∀ C ∈ [cn_339], c_sem l X (yY xa) xa d C := by
  have hY := yY_ok xa
  have hYS := yY_str xa
  have hIx := ix_K_ok (l := l) (X := X) hY hYS
  intro C hC
  obtain rfl := List.mem_singleton.mp hC
  exact c_meth mq_152_kt hY hYS hIx hX (q := mq_152) mq_152_at mq_152_pl mq_152_k cs_cy hcs cn_339_ok
theorem sm_153 (hX : ∀ i, i < 2 → X i = some ((x_tab i).map Int32.ofInt)) (hcs : ∀ d', d = d' + 1 → ∀ y, ∀ C ∈ cs_at y, c_sem l X (yY xa) xa d' C) : ∀ C ∈ [cn_319], c_sem l X (yY xa) xa d C := by
  have hY := yY_ok xa
  have hYS := yY_str xa
  have hIx := ix_K_ok (l := l) (X := X) hY hYS
  intro C hC
  obtain rfl := List.mem_singleton.mp hC
  exact c_meth mq_153_kt hY hYS hIx hX (q := mq_153) mq_153_at mq_153_pl mq_153_k cs_cy hcs cn_319_ok
theorem sm_154 (hX : ∀ i, i < 2 → X i = some ((x_tab i).map Int32.ofInt)) (hcs : ∀ d', d = d' + 1 → ∀ y, ∀ C ∈ cs_at y, c_sem l X (yY xa) xa d' C) : ∀ C ∈ [cn_292], c_sem l X (yY xa) xa d C := by
  have hY := yY_ok xa
  have hYS := yY_str xa
  have hIx := ix_K_ok (l := l) (X := X) hY hYS
  intro C hC
  obtain rfl := List.mem_singleton.mp hC
  exact c_meth mq_154_kt hY hYS hIx hX (q := mq_154) mq_154_at mq_154_pl mq_154_k cs_cy hcs cn_292_ok
theorem sm_157 (hX : ∀ i, i < 2 → X i = some ((x_tab i).map Int32.ofInt)) (hcs : ∀ d', d = d' + 1 → ∀ y, ∀ C ∈ cs_at y, c_sem l X (yY xa) xa d' C) : ∀ C ∈ [cn_17], c_sem l X (yY xa) xa d C := by
  have hY := yY_ok xa
  have hYS := yY_str xa
  have hIx := ix_K_ok (l := l) (X := X) hY hYS
  intro C hC
  obtain rfl := List.mem_singleton.mp hC
  exact c_meth mq_157_kt hY hYS hIx hX (q := mq_157) mq_157_at mq_157_pl mq_157_k cs_cy hcs cn_17_ok
theorem sc_4 (hX : ∀ i, i < 2 → X i = some ((x_tab i).map Int32.ofInt)) (hcs : ∀ d', d = d' + 1 → ∀ y, ∀ C ∈ cs_at y, c_sem l X (yY xa) xa d' C) : ∀ r ∈ cs_tab_4, ∀ C ∈ r, c_sem l X (yY xa) xa d C := by
  unfold cs_tab_4
  refine List.forall_mem_cons.mpr ⟨sm_128 hX hcs, ?_⟩
  refine List.forall_mem_cons.mpr ⟨sm_129 hX hcs, ?_⟩
  refine List.forall_mem_cons.mpr ⟨sm_130 hX hcs, ?_⟩
  refine List.forall_mem_cons.mpr ⟨sm_131 hX hcs, ?_⟩
  refine List.forall_mem_cons.mpr ⟨sm_132 hX hcs, ?_⟩
  refine List.forall_mem_cons.mpr ⟨sm_133 hX hcs, ?_⟩
  refine List.forall_mem_cons.mpr ⟨sm_134 hX hcs, ?_⟩
  refine List.forall_mem_cons.mpr ⟨sm_135 hX hcs, ?_⟩
  refine List.forall_mem_cons.mpr ⟨sm_136 hX hcs, ?_⟩
  refine List.forall_mem_cons.mpr ⟨sm_137 hX hcs, ?_⟩
  refine List.forall_mem_cons.mpr ⟨sm_138 hX hcs, ?_⟩
  refine List.forall_mem_cons.mpr ⟨sm_139 hX hcs, ?_⟩
  refine List.forall_mem_cons.mpr ⟨sm_140 hX hcs, ?_⟩
  refine List.forall_mem_cons.mpr ⟨sm_141 hX hcs, ?_⟩
  refine List.forall_mem_cons.mpr ⟨sm_142 hX hcs, ?_⟩
  refine List.forall_mem_cons.mpr ⟨sm_143 hX hcs, ?_⟩
  refine List.forall_mem_cons.mpr ⟨sm_144 hX hcs, ?_⟩
  refine List.forall_mem_cons.mpr ⟨sm_145 hX hcs, ?_⟩
  refine List.forall_mem_cons.mpr ⟨sm_146 hX hcs, ?_⟩
  refine List.forall_mem_cons.mpr ⟨sm_147 hX hcs, ?_⟩
  refine List.forall_mem_cons.mpr ⟨sm_148 hX hcs, ?_⟩
  refine List.forall_mem_cons.mpr ⟨sm_149 hX hcs, ?_⟩
  refine List.forall_mem_cons.mpr ⟨sm_150 hX hcs, ?_⟩
  refine List.forall_mem_cons.mpr ⟨sm_151 hX hcs, ?_⟩
  refine List.forall_mem_cons.mpr ⟨sm_152 hX hcs, ?_⟩
  refine List.forall_mem_cons.mpr ⟨sm_153 hX hcs, ?_⟩
  refine List.forall_mem_cons.mpr ⟨sm_154 hX hcs, ?_⟩
  refine List.forall_mem_cons.mpr ⟨(fun _ h => absurd h List.not_mem_nil), ?_⟩
  refine List.forall_mem_cons.mpr ⟨(fun _ h => absurd h List.not_mem_nil), ?_⟩
  refine List.forall_mem_cons.mpr ⟨sm_157 hX hcs, ?_⟩
  refine List.forall_mem_cons.mpr ⟨(fun _ h => absurd h List.not_mem_nil), ?_⟩
  refine List.forall_mem_cons.mpr ⟨(fun _ h => absurd h List.not_mem_nil), ?_⟩
  exact fun _ h => absurd h List.not_mem_nil
end AS
