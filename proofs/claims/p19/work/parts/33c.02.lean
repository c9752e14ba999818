/-! ALL CONTRACTS TOGETHER, 2 -/
section AS
variable {l : Launch} {X : Nat → Option (List Int32)} {xa : Nat → Nat} {d : Nat}
theorem sm_64 (hX : ∀ i, i < 2 → X i = some ((x_tab i).map Int32.ofInt)) (hcs : ∀ d', d = d' + 1 → ∀ y, ∀ C ∈ cs_at y, c_sem l X (yY xa) xa d' C) : ∀ C ∈ [cn_405], c_sem l X (yY xa) xa d C := by
  have hY := yY_ok xa
  have hYS := yY_str xa
  have hIx := ix_K_ok (l := l) (X := X) hY hYS
  intro C hC
  obtain rfl := List.mem_singleton.mp hC
  exact c_meth mq_64_kt hY hYS hIx hX (q := mq_64) mq_64_at mq_64_pl mq_64_k cs_cy hcs cn_405_ok
theorem sm_65 (hX : ∀ i, i < 2 → X i = some ((x_tab i).map Int32.ofInt)) (hcs : ∀ d', d = d' + 1 → ∀ y, ∀ C ∈ cs_at y, c_sem l X (yY xa) xa d' C) : ∀ C ∈ [cn_378], c_sem l X (yY xa) xa d C := by
  have hY := yY_ok xa
  have hYS := yY_str xa
  have hIx := ix_K_ok (l := l) (X := X) hY hYS
  intro C hC
  obtain rfl := List.mem_singleton.mp hC
  exact c_meth mq_65_kt hY hYS hIx hX (q := mq_65) mq_65_at mq_65_pl mq_65_k cs_cy hcs cn_378_ok
theorem sm_66 (hX : ∀ i, i < 2 → X i = some ((x_tab i).map Int32.ofInt)) (hcs : ∀ d', d = d' + 1 → ∀ y, ∀ C ∈ cs_at y, c_sem l X (yY xa) xa d' C) : ∀ C ∈ [cn_8], c_sem l X (yY xa) xa d C := by
  have hY := yY_ok xa
  have hYS := yY_str xa
  have hIx := ix_K_ok (l := l) (X := X) hY hYS
  intro C hC
  obtain rfl := List.mem_singleton.mp hC
  exact c_meth mq_66_kt hY hYS hIx hX (q := mq_66) mq_66_at mq_66_pl mq_66_k cs_cy hcs cn_8_ok
theorem sm_67 (hX : ∀ i, i < 2 → X i = some ((x_tab i).map Int32.ofInt)) (hcs : ∀ d', d = d' + 1 → ∀ y, ∀ C ∈ cs_at y, c_sem l X (yY xa) xa d' C) : ∀ C ∈ [cn_347, cn_348, cn_349, cn_350, cn_351, cn_352, cn_353, cn_354, cn_355, cn_356, cn_357, cn_358, cn_359, cn_360, cn_361], c_sem l X (yY xa) xa d C := by
  have hY := yY_ok xa
  have hYS := yY_str xa
  have hIx := ix_K_ok (l := l) (X := X) hY hYS
  refine List.forall_mem_cons.mpr ⟨c_meth mq_67_kt hY hYS hIx hX (q := mq_67) mq_67_at mq_67_pl mq_67_k cs_cy hcs cn_347_ok, ?_⟩
  refine List.forall_mem_cons.mpr ⟨c_meth mq_67_kt hY hYS hIx hX (q := mq_67) mq_67_at mq_67_pl mq_67_k cs_cy hcs cn_348_ok, ?_⟩
  refine List.forall_mem_cons.mpr ⟨c_meth mq_67_kt hY hYS hIx hX (q := mq_67) mq_67_at mq_67_pl mq_67_k cs_cy hcs cn_349_ok, ?_⟩
  refine List.forall_mem_cons.mpr ⟨c_meth mq_67_kt hY hYS hIx hX (q := mq_67) mq_67_at mq_67_pl mq_67_k cs_cy hcs cn_350_ok, ?_⟩
  refine List.forall_mem_cons.mpr ⟨c_meth mq_67_kt hY hYS hIx hX (q := mq_67) mq_67_at mq_67_pl mq_67_k cs_cy hcs cn_351_ok, ?_⟩
  refine List.forall_mem_cons.mpr ⟨c_meth mq_67_kt hY hYS hIx hX (q := mq_67) mq_67_at mq_67_pl mq_67_k cs_cy hcs cn_352_ok, ?_⟩
  refine List.forall_mem_cons.mpr ⟨c_meth mq_67_kt hY hYS hIx hX (q := mq_67) mq_67_at mq_67_pl mq_67_k cs_cy hcs cn_353_ok, ?_⟩
  refine List.forall_mem_cons.mpr ⟨c_meth mq_67_kt hY hYS hIx hX (q := mq_67) mq_67_at mq_67_pl mq_67_k cs_cy hcs cn_354_ok, ?_⟩
  refine List.forall_mem_cons.mpr ⟨c_meth mq_67_kt hY hYS hIx hX (q := mq_67) mq_67_at mq_67_pl mq_67_k cs_cy hcs cn_355_ok, ?_⟩
  refine List.forall_mem_cons.mpr ⟨c_meth mq_67_kt hY hYS hIx hX (q := mq_67) mq_67_at mq_67_pl mq_67_k cs_cy hcs cn_356_ok, ?_⟩
  refine List.forall_mem_cons.mpr ⟨c_meth mq_67_kt hY hYS hIx hX (q := mq_67) mq_67_at mq_67_pl mq_67_k cs_cy hcs cn_357_ok, ?_⟩
  refine List.forall_mem_cons.mpr ⟨c_meth mq_67_kt hY hYS hIx hX (q := mq_67) mq_67_at mq_67_pl mq_67_k cs_cy hcs cn_358_ok, ?_⟩
  refine List.forall_mem_cons.mpr ⟨c_meth mq_67_kt hY hYS hIx hX (q := mq_67) mq_67_at mq_67_pl mq_67_k cs_cy hcs cn_359_ok, ?_⟩
  refine List.forall_mem_cons.mpr ⟨c_meth mq_67_kt hY hYS hIx hX (q := mq_67) mq_67_at mq_67_pl mq_67_k cs_cy hcs cn_360_ok, ?_⟩
  refine List.forall_mem_cons.mpr ⟨c_meth mq_67_kt hY hYS hIx hX (q := mq_67) mq_67_at mq_67_pl mq_67_k cs_cy hcs cn_361_ok, ?_⟩
  exact fun _ h => absurd h List.not_mem_nil
theorem sm_68 (hX : ∀ i, i < 2 → X i = some ((x_tab i).map Int32.ofInt)) (hcs : ∀ d', d = d' + 1 → ∀ y, ∀ C ∈ cs_at y, c_sem l X (yY xa) xa d' C) : ∀ C ∈ [cn_297, cn_298, cn_299, cn_300, cn_301, cn_302, cn_303, cn_304, cn_305, cn_306, cn_307, cn_308, cn_309, cn_310, cn_311, cn_312, cn_313], c_sem l X (yY xa) xa d C := by
  have hY := yY_ok xa
  have hYS := yY_str xa
  have hIx := ix_K_ok (l := l) (X := X) hY hYS
  refine List.forall_mem_cons.mpr ⟨c_meth mq_68_kt hY hYS hIx hX (q := mq_68) mq_68_at mq_68_pl mq_68_k cs_cy hcs cn_297_ok, ?_⟩
  refine List.forall_mem_cons.mpr ⟨c_meth mq_68_kt hY hYS hIx hX (q := mq_68) mq_68_at mq_68_pl mq_68_k cs_cy hcs cn_298_ok, ?_⟩
  refine List.forall_mem_cons.mpr ⟨c_meth mq_68_kt hY hYS hIx hX (q := mq_68) mq_68_at mq_68_pl mq_68_k cs_cy hcs cn_299_ok, ?_⟩
  refine List.forall_mem_cons.mpr ⟨c_meth mq_68_kt hY hYS hIx hX (q := mq_68) mq_68_at mq_68_pl mq_68_k cs_cy hcs cn_300_ok, ?_⟩
  refine List.forall_mem_cons.mpr ⟨c_meth mq_68_kt hY hYS hIx hX (q := mq_68) mq_68_at mq_68_pl mq_68_k cs_cy hcs cn_301_ok, ?_⟩
  refine List.forall_mem_cons.mpr ⟨c_meth mq_68_kt hY hYS hIx hX (q := mq_68) mq_68_at mq_68_pl mq_68_k cs_cy hcs cn_302_ok, ?_⟩
  refine List.forall_mem_cons.mpr ⟨c_meth mq_68_kt hY hYS hIx hX (q := mq_68) mq_68_at mq_68_pl mq_68_k cs_cy hcs cn_303_ok, ?_⟩
  refine List.forall_mem_cons.mpr ⟨c_meth mq_68_kt hY hYS hIx hX (q := mq_68) mq_68_at mq_68_pl mq_68_k cs_cy hcs cn_304_ok, ?_⟩
  refine List.forall_mem_cons.mpr ⟨c_meth mq_68_kt hY hYS hIx hX (q := mq_68) mq_68_at mq_68_pl mq_68_k cs_cy hcs cn_305_ok, ?_⟩
  refine List.forall_mem_cons.mpr ⟨c_meth mq_68_kt hY hYS hIx hX (q := mq_68) mq_68_at mq_68_pl mq_68_k cs_cy hcs cn_306_ok, ?_⟩
  refine List.forall_mem_cons.mpr ⟨c_meth mq_68_kt hY hYS hIx hX (q := mq_68) mq_68_at mq_68_pl mq_68_k cs_cy hcs cn_307_ok, ?_⟩
  refine List.forall_mem_cons.mpr ⟨c_meth mq_68_kt hY hYS hIx hX (q := mq_68) mq_68_at mq_68_pl mq_68_k cs_cy hcs cn_308_ok, ?_⟩
  refine List.forall_mem_cons.mpr ⟨c_meth mq_68_kt hY hYS hIx hX (q := mq_68) mq_68_at mq_68_pl mq_68_k cs_cy hcs cn_309_ok, ?_⟩
  refine List.forall_mem_cons.mpr ⟨c_meth mq_68_kt hY hYS hIx hX (q := mq_68) mq_68_at mq_68_pl mq_68_k cs_cy hcs cn_310_ok, ?_⟩
  refine List.forall_mem_cons.mpr ⟨c_meth mq_68_kt hY hYS hIx hX (q := mq_68) mq_68_at mq_68_pl mq_68_k cs_cy hcs cn_311_ok, ?_⟩
  refine List.forall_mem_cons.mpr ⟨c_meth mq_68_kt hY hYS hIx hX (q := mq_68) mq_68_at mq_68_pl mq_68_k cs_cy hcs cn_312_ok, ?_⟩
  refine List.forall_mem_cons.mpr ⟨c_meth mq_68_kt hY hYS hIx hX (q := mq_68) mq_68_at mq_68_pl mq_68_k cs_cy hcs cn_313_ok, ?_⟩
  exact fun _ h => absurd h List.not_mem_nil
theorem sm_69 (hX : ∀ i, i < 2 → X i = some ((x_tab i).map Int32.ofInt)) (hcs : ∀ d', d = d' + 1 → ∀ y, ∀ C ∈ cs_at y, c_sem l X (yY xa) xa d' C) : ∀ C ∈ [cn_177, cn_178, cn_179, cn_180, cn_181, cn_182, cn_183, cn_184, cn_185, cn_186, cn_187, cn_188, cn_189, cn_190, cn_191, cn_192, cn_193], c_sem l X (yY xa) xa d C := by
  have hY := yY_ok xa
  have hYS := yY_str xa
  have hIx := ix_K_ok (l := l) (X := X) hY hYS
  refine List.forall_mem_cons.mpr ⟨c_meth mq_69_kt hY hYS hIx hX (q := mq_69) mq_69_at mq_69_pl mq_69_k cs_cy hcs cn_177_ok, ?_⟩
  refine List.forall_mem_cons.mpr ⟨c_meth mq_69_kt hY hYS hIx hX (q := mq_69) mq_69_at mq_69_pl mq_69_k cs_cy hcs cn_178_ok, ?_⟩
  refine List.forall_mem_cons.mpr ⟨c_meth mq_69_kt hY hYS hIx hX (q := mq_69) mq_69_at mq_69_pl mq_69_k cs_cy hcs cn_179_ok, ?_⟩
  refine List.forall_mem_cons.mpr ⟨c_meth mq_69_kt hY hYS hIx hX (q := mq_69) mq_69_at mq_69_pl mq_69_k cs_cy hcs cn_180_ok, ?_⟩
  refine List.forall_mem_cons.mpr ⟨c_meth mq_69_kt hY hYS hIx hX (q := mq_69) mq_69_at mq_69_pl mq_69_k cs_cy hcs cn_181_ok, ?_⟩
  refine List.forall_mem_cons.mpr ⟨c_meth mq_69_kt hY hYS hIx hX (q := mq_69) mq_69_at mq_69_pl mq_69_k cs_cy hcs cn_182_ok, ?_⟩
  refine List.forall_mem_cons.mpr ⟨c_meth mq_69_kt hY hYS hIx hX (q := mq_69) mq_69_at mq_69_pl mq_69_k cs_cy hcs cn_183_ok, ?_⟩
  refine List.forall_mem_cons.mpr ⟨c_meth mq_69_kt hY hYS hIx hX (q := mq_69) mq_69_at mq_69_pl mq_69_k cs_cy hcs cn_184_ok, ?_⟩
  refine List.forall_mem_cons.mpr ⟨c_meth mq_69_kt hY hYS hIx hX (q := mq_69) mq_69_at mq_69_pl mq_69_k cs_cy hcs cn_185_ok, ?_⟩
  refine List.forall_mem_cons.mpr ⟨c_meth mq_69_kt hY hYS hIx hX (q := mq_69) mq_69_at mq_69_pl mq_69_k cs_cy hcs cn_186_ok, ?_⟩
  refine List.forall_mem_cons.mpr ⟨c_meth mq_69_kt hY hYS hIx hX (q := mq_69) mq_69_at mq_69_pl mq_69_k cs_cy hcs cn_187_ok, ?_⟩
  refine List.forall_mem_cons.mpr ⟨c_meth mq_69_kt hY hYS hIx hX (q := mq_69) mq_69_at mq_69_pl mq_69_k cs_cy hcs cn_188_ok, ?_⟩
  refine List.forall_mem_cons.mpr ⟨c_meth mq_69_kt hY hYS hIx hX (q := mq_69) mq_69_at mq_69_pl mq_69_k cs_cy hcs cn_189_ok, ?_⟩
  refine List.forall_mem_cons.mpr ⟨c_meth mq_69_kt hY hYS hIx hX (q := mq_69) mq_69_at mq_69_pl mq_69_k cs_cy hcs cn_190_ok, ?_⟩
  refine List.forall_mem_cons.mpr ⟨c_meth mq_69_kt hY hYS hIx hX (q := mq_69) mq_69_at mq_69_pl mq_69_k cs_cy hcs cn_191_ok, ?_⟩
  refine List.forall_mem_cons.mpr ⟨c_meth mq_69_kt hY hYS hIx hX (q := mq_69) mq_69_at mq_69_pl mq_69_k cs_cy hcs cn_192_ok, ?_⟩
  refine List.forall_mem_cons.mpr ⟨c_meth mq_69_kt hY hYS hIx hX (q := mq_69) mq_69_at mq_69_pl mq_69_k cs_cy hcs cn_193_ok, ?_⟩
  exact fun _ h => absurd h List.not_mem_nil
theorem sm_70 (hX : ∀ i, i < 2 → X i = some ((x_tab i).map Int32.ofInt)) (hcs : ∀ d', d = d' + 1 → ∀ y, ∀ C ∈ cs_at y, c_sem l X (yY xa) xa d' C) : ∀ C ∈ [cn_12], c_sem l X (yY xa) xa d C := by
  have hY := yY_ok xa
  have hYS := yY_str xa
  have hIx := ix_K_ok (l := l) (X := X) hY hYS
  intro C hC
  obtain rfl := List.mem_singleton.mp hC
  exact c_meth mq_70_kt hY hYS hIx hX (q := mq_70) mq_70_at mq_70_pl mq_70_k cs_cy hcs cn_12_ok
theorem sm_71 (hX : ∀ i, i < 2 → X i = some ((x_tab i).map Int32.ofInt)) (hcs : ∀ d', d = d' + 1 → ∀ y, ∀ C ∈ cs_at y, c_sem l X (yY xa) xa d' C) : ∀ C ∈ [cn_204], c_sem l X (yY xa) xa d C := by
  have hY := yY_ok xa
  have hYS := yY_str xa
  have hIx := ix_K_ok (l := l) (X := X) hY hYS
  intro C hC
  obtain rfl := List.mem_singleton.mp hC
  exact c_meth mq_71_kt hY hYS hIx hX (q := mq_71) mq_71_at mq_71_pl mq_71_k cs_cy hcs cn_204_ok
theorem sm_72 (hX : ∀ i, i < 2 → X i = some ((x_tab i).map Int32.ofInt)) (hcs : ∀ d', d = d' + 1 → ∀ y, ∀ C ∈ cs_at y, c_sem l X (yY xa) xa d' C) : ∀ C ∈ [cn_21], c_sem l X (yY xa) xa d C := by
  have hY := yY_ok xa
  have hYS := yY_str xa
  have hIx := ix_K_ok (l := l) (X := X) hY hYS
  intro C hC
  obtain rfl := List.mem_singleton.mp hC
  exact c_meth mq_72_kt hY hYS hIx hX (q := mq_72) mq_72_at mq_72_pl mq_72_k cs_cy hcs cn_21_ok
theorem sm_73 (hX : ∀ i, i < 2 → X i = some ((x_tab i).map Int32.ofInt)) (hcs : ∀ d', d = d' + 1 → ∀ y, ∀ C ∈ cs_at y, c_sem l X (yY xa) xa d' C) : ∀ C ∈ [cn_126, cn_127, cn_128, cn_129, cn_130, cn_131, cn_132, cn_133, cn_134, cn_135, cn_136, cn_137, cn_138, cn_139, cn_140, cn_141, cn_142], c_sem l X (yY xa) xa d C := by
  have hY := yY_ok xa
  have hYS := yY_str xa
  have hIx := ix_K_ok (l := l) (X := X) hY hYS
  refine List.forall_mem_cons.mpr ⟨c_meth mq_73_kt hY hYS hIx hX (q := mq_73) mq_73_at mq_73_pl mq_73_k cs_cy hcs cn_126_ok, ?_⟩
  refine List.forall_mem_cons.mpr ⟨c_meth mq_73_kt hY hYS hIx hX (q := mq_73) mq_73_at mq_73_pl mq_73_k cs_cy hcs cn_127_ok, ?_⟩
  refine List.forall_mem_cons.mpr ⟨c_meth mq_73_kt hY hYS hIx hX (q := mq_73) mq_73_at mq_73_pl mq_73_k cs_cy hcs cn_128_ok, ?_⟩
  refine List.forall_mem_cons.mpr ⟨c_meth mq_73_kt hY hYS hIx hX (q := mq_73) mq_73_at mq_73_pl mq_73_k cs_cy hcs cn_129_ok, ?_⟩
  refine List.forall_mem_cons.mpr ⟨c_meth mq_73_kt hY hYS hIx hX (q := mq_73) mq_73_at mq_73_pl mq_73_k cs_cy hcs cn_130_ok, ?_⟩
  refine List.forall_mem_cons.mpr ⟨c_meth mq_73_kt hY hYS hIx hX (q := mq_73) mq_73_at mq_73_pl mq_73_k cs_cy hcs cn_131_ok, ?_⟩
  refine List.forall_mem_cons.mpr ⟨c_meth mq_73_kt hY hYS hIx hX (q := mq_73) mq_73_at mq_73_pl mq_73_k cs_cy hcs cn_132_ok, ?_⟩
  refine List.forall_mem_cons.mpr ⟨c_meth mq_73_kt hY hYS hIx hX (q := mq_73) mq_73_at mq_73_pl mq_73_k cs_cy hcs cn_133_ok, ?_⟩
  refine List.forall_mem_cons.mpr ⟨c_meth mq_73_kt hY hYS hIx hX (q := mq_73) mq_73_at mq_73_pl mq_73_k cs_cy hcs cn_134_ok, ?_⟩
  refine List.forall_mem_cons.mpr ⟨c_meth mq_73_kt hY hYS hIx hX (q := mq_73) mq_73_at mq_73_pl mq_73_k cs_cy hcs cn_135_ok, ?_⟩
  refine List.forall_mem_cons.mpr ⟨c_meth mq_73_kt hY hYS hIx hX (q := mq_73) mq_73_at mq_73_pl mq_73_k cs_cy hcs cn_136_ok, ?_⟩
  refine List.forall_mem_cons.mpr ⟨c_meth mq_73_kt hY hYS hIx hX (q := mq_73) mq_73_at mq_73_pl mq_73_k cs_cy hcs cn_137_ok, ?_⟩
  refine List.forall_mem_cons.mpr ⟨c_meth mq_73_kt hY hYS hIx hX (q := mq_73) mq_73_at mq_73_pl mq_73_k cs_cy hcs cn_138_ok, ?_⟩
  refine List.forall_mem_cons.mpr ⟨c_meth mq_73_kt hY hYS hIx hX (q := mq_73) mq_73_at mq_73_pl mq_73_k cs_cy hcs cn_139_ok, ?_⟩
  refine List.forall_mem_cons.mpr ⟨c_meth mq_73_kt hY hYS hIx hX (q := mq_73) mq_73_at mq_73_pl mq_73_k cs_cy hcs cn_140_ok, ?_⟩
  refine List.forall_mem_cons.mpr ⟨c_meth mq_73_kt hY hYS hIx hX (q := mq_73) mq_73_at mq_73_pl mq_73_k cs_cy hcs cn_141_ok, ?_⟩
  refine List.forall_mem_cons.mpr ⟨c_meth mq_73_kt hY hYS hIx hX (q := mq_73) mq_73_at mq_73_pl mq_73_k cs_cy hcs cn_142_ok, ?_⟩
  exact fun _ h => absurd h List.not_mem_nil
theorem sm_74 (hX : ∀ i, i < 2 → X i = some ((x_tab i).map Int32.ofInt)) (hcs : ∀ d', d = d' + 1 → ∀ y, ∀ C ∈ cs_at y, c_sem l X (yY xa) xa d' C) : ∀ C ∈ [cn_160, cn_161, cn_162, cn_163, cn_164, cn_165, cn_166, cn_167, cn_168, cn_169, cn_170, cn_171, cn_172, cn_173, cn_174, cn_175, cn_176], c_sem l X (yY xa) xa d C := by
  have hY := yY_ok xa
  have hYS := yY_str xa
  have hIx := ix_K_ok (l := l) (X := X) hY hYS
  refine List.forall_mem_cons.mpr ⟨c_meth mq_74_kt hY hYS hIx hX (q := mq_74) mq_74_at mq_74_pl mq_74_k cs_cy hcs cn_160_ok, ?_⟩
  refine List.forall_mem_cons.mpr ⟨c_meth mq_74_kt hY hYS hIx hX (q := mq_74) mq_74_at mq_74_pl mq_74_k cs_cy hcs cn_161_ok, ?_⟩
  refine List.forall_mem_cons.mpr ⟨c_meth mq_74_kt hY hYS hIx hX (q := mq_74) mq_74_at mq_74_pl mq_74_k cs_cy hcs cn_162_ok, ?_⟩
  refine List.forall_mem_cons.mpr ⟨c_meth mq_74_kt hY hYS hIx hX (q := mq_74) mq_74_at mq_74_pl mq_74_k cs_cy hcs cn_163_ok, ?_⟩
  refine List.forall_mem_cons.mpr ⟨c_meth mq_74_kt hY hYS hIx hX (q := mq_74) mq_74_at mq_74_pl mq_74_k cs_cy hcs cn_164_ok, ?_⟩
  refine List.forall_mem_cons.mpr ⟨c_meth mq_74_kt hY hYS hIx hX (q := mq_74) mq_74_at mq_74_pl mq_74_k cs_cy hcs cn_165_ok, ?_⟩
  refine List.forall_mem_cons.mpr ⟨c_meth mq_74_kt hY hYS hIx hX (q := mq_74) mq_74_at mq_74_pl mq_74_k cs_cy hcs cn_166_ok, ?_⟩
  refine List.forall_mem_cons.mpr ⟨c_meth mq_74_kt hY hYS hIx hX (q := mq_74) mq_74_at mq_74_pl mq_74_k cs_cy hcs cn_167_ok, ?_⟩
  refine List.forall_mem_cons.mpr ⟨c_meth mq_74_kt hY hYS hIx hX (q := mq_74) mq_74_at mq_74_pl mq_74_k cs_cy hcs cn_168_ok, ?_⟩
  refine List.forall_mem_cons.mpr ⟨c_meth mq_74_kt hY hYS hIx hX (q := mq_74) mq_74_at mq_74_pl mq_74_k cs_cy hcs cn_169_ok, ?_⟩
  refine List.forall_mem_cons.mpr ⟨c_meth mq_74_kt hY hYS hIx hX (q := mq_74) mq_74_at mq_74_pl mq_74_k cs_cy hcs cn_170_ok, ?_⟩
  refine List.forall_mem_cons.mpr ⟨c_meth mq_74_kt hY hYS hIx hX (q := mq_74) mq_74_at mq_74_pl mq_74_k cs_cy hcs cn_171_ok, ?_⟩
  refine List.forall_mem_cons.mpr ⟨c_meth mq_74_kt hY hYS hIx hX (q := mq_74) mq_74_at mq_74_pl mq_74_k cs_cy hcs cn_172_ok, ?_⟩
  refine List.forall_mem_cons.mpr ⟨c_meth mq_74_kt hY hYS hIx hX (q := mq_74) mq_74_at mq_74_pl mq_74_k cs_cy hcs cn_173_ok, ?_⟩
  refine List.forall_mem_cons.mpr ⟨c_meth mq_74_kt hY hYS hIx hX (q := mq_74) mq_74_at mq_74_pl mq_74_k cs_cy hcs cn_174_ok, ?_⟩
  refine List.forall_mem_cons.mpr ⟨c_meth mq_74_kt hY hYS hIx hX (q := mq_74) mq_74_at mq_74_pl mq_74_k cs_cy hcs cn_175_ok, ?_⟩
  refine List.forall_mem_cons.mpr ⟨c_meth mq_74_kt hY hYS hIx hX (q := mq_74) mq_74_at mq_74_pl mq_74_k cs_cy hcs cn_176_ok, ?_⟩
  exact fun _ h => absurd h List.not_mem_nil
theorem sm_75 (hX : ∀ i, i < 2 → X i = some ((x_tab i).map Int32.ofInt)) (hcs : ∀ d', d = d' + 1 → ∀ y, ∀ C ∈ cs_at y, c_sem l X (yY xa) xa d' C) : ∀ C ∈ [cn_143, cn_144, cn_145, cn_146, cn_147, cn_148, cn_149, cn_150, cn_151, cn_152, cn_153, cn_154, cn_155, cn_156, cn_157, cn_158, cn_159], c_sem l X (yY xa) xa d C := by
  have hY := yY_ok xa
  have hYS := yY_str xa
  have hIx := ix_K_ok (l := l) (X := X) hY hYS
  refine List.forall_mem_cons.mpr ⟨c_meth mq_75_kt hY hYS hIx hX (q := mq_75) mq_75_at mq_75_pl mq_75_k cs_cy hcs cn_143_ok, ?_⟩
  refine List.forall_mem_cons.mpr ⟨c_meth mq_75_kt hY hYS hIx hX (q := mq_75) mq_75_at mq_75_pl mq_75_k cs_cy hcs cn_144_ok, ?_⟩
  refine List.forall_mem_cons.mpr ⟨c_meth mq_75_kt hY hYS hIx hX (q := mq_75) mq_75_at mq_75_pl mq_75_k cs_cy hcs cn_145_ok, ?_⟩
  refine List.forall_mem_cons.mpr ⟨c_meth mq_75_kt hY hYS hIx hX (q := mq_75) mq_75_at mq_75_pl mq_75_k cs_cy hcs cn_146_ok, ?_⟩
  refine List.forall_mem_cons.mpr ⟨c_meth mq_75_kt hY hYS hIx hX (q := mq_75) mq_75_at mq_75_pl mq_75_k cs_cy hcs cn_147_ok, ?_⟩
  refine List.forall_mem_cons.mpr ⟨c_meth mq_75_kt hY hYS hIx hX (q := mq_75) mq_75_at mq_75_pl mq_75_k cs_cy hcs cn_148_ok, ?_⟩
  refine List.forall_mem_cons.mpr ⟨c_meth mq_75_kt hY hYS hIx hX (q := mq_75) mq_75_at mq_75_pl mq_75_k cs_cy hcs cn_149_ok, ?_⟩
  refine List.forall_mem_cons.mpr ⟨c_meth mq_75_kt hY hYS hIx hX (q := mq_75) mq_75_at mq_75_pl mq_75_k cs_cy hcs cn_150_ok, ?_⟩
  refine List.forall_mem_cons.mpr ⟨c_meth mq_75_kt hY hYS hIx hX (q := mq_75) mq_75_at mq_75_pl mq_75_k cs_cy hcs cn_151_ok, ?_⟩
  refine List.forall_mem_cons.mpr ⟨c_meth mq_75_kt hY hYS hIx hX (q := mq_75) mq_75_at mq_75_pl mq_75_k cs_cy hcs cn_152_ok, ?_⟩
  refine List.forall_mem_cons.mpr ⟨c_meth mq_75_kt hY hYS hIx hX (q := mq_75) mq_75_at mq_75_pl mq_75_k cs_cy hcs cn_153_ok, ?_⟩
  refine List.forall_mem_cons.mpr ⟨c_meth mq_75_kt hY hYS hIx hX (q := mq_75) mq_75_at mq_75_pl mq_75_k cs_cy hcs cn_154_ok, ?_⟩
  refine List.forall_mem_cons.mpr ⟨c_meth mq_75_kt hY hYS hIx hX (q := mq_75) mq_75_at mq_75_pl mq_75_k cs_cy hcs cn_155_ok, ?_⟩
  refine List.forall_mem_cons.mpr ⟨c_meth mq_75_kt hY hYS hIx hX (q := mq_75) mq_75_at mq_75_pl mq_75_k cs_cy hcs cn_156_ok, ?_⟩
  refine List.forall_mem_cons.mpr ⟨c_meth mq_75_kt hY hYS hIx hX (q := mq_75) mq_75_at mq_75_pl mq_75_k cs_cy hcs cn_157_ok, ?_⟩
  refine List.forall_mem_cons.mpr ⟨c_meth mq_75_kt hY hYS hIx hX (q := mq_75) mq_75_at mq_75_pl mq_75_k cs_cy hcs cn_158_ok, ?_⟩
  refine List.forall_mem_cons.mpr ⟨c_meth mq_75_kt hY hYS hIx hX (q := mq_75) mq_75_at mq_75_pl mq_75_k cs_cy hcs cn_159_ok, ?_⟩
  exact fun _ h => absurd h List.not_mem_nil
theorem sm_76 (hX : ∀ i, i < 2 → X i = some ((x_tab i).map Int32.ofInt)) (hcs : ∀ d', d = d' + 1 → ∀ y, ∀ C ∈ cs_at y, c_sem l X (yY xa) xa d' C) : ∀ C ∈ [cn_294], c_sem l X (yY xa) xa d C := by
  have hY := yY_ok xa
  have hYS := yY_str xa
  have hIx := ix_K_ok (l := l) (X := X) hY hYS
  intro C hC
  obtain rfl := List.mem_singleton.mp hC
  exact c_meth mq_76_kt hY hYS hIx hX (q := mq_76) mq_76_at mq_76_pl mq_76_k cs_cy hcs cn_294_ok
theorem sm_77 (hX : ∀ i, i < 2 → X i = some ((x_tab i).map Int32.ofInt)) (hcs : ∀ d', d = d' + 1 → ∀ y, ∀ C ∈ cs_at y, c_sem l X (yY xa) xa d' C) : ∀ C ∈ [cn_124], c_sem l X (yY xa) xa d C := by
  have hY := yY_ok xa
  have hYS := yY_str xa
  have hIx := ix_K_ok (l := l) (X := X) hY hYS
  intro C hC
  obtain rfl := List.mem_singleton.mp hC
  exact c_meth mq_77_kt hY hYS hIx hX (q := mq_77) mq_77_at mq_77_pl mq_77_k cs_cy hcs cn_124_ok
theorem sm_78 (hX : ∀ i, i < 2 → X i = some ((x_tab i).map Int32.ofInt)) (hcs : ∀ d', d = d' + 1 → ∀ y, ∀ C ∈ cs_at y, c_sem l X (yY xa) xa d' C) : ∀ C ∈ [cn_7], c_sem l X (yY xa) xa d C := by
  have hY := yY_ok xa
  have hYS := yY_str xa
  have hIx := ix_K_ok (l := l) (X := X) hY hYS
  intro C hC
  obtain rfl := List.mem_singleton.mp hC
  exact c_meth mq_78_kt hY hYS hIx hX (q := mq_78) mq_78_at mq_78_pl mq_78_k cs_cy hcs cn_7_ok
theorem sm_79 (hX : ∀ i, i < 2 → X i = some ((x_tab i).map Int32.ofInt)) (hcs : ∀ d', d = d' + 1 → ∀ y, ∀ C ∈ cs_at y, c_sem l X (yY xa) xa d' C) : ∀ C ∈ [cn_1], c_sem l X (yY xa) xa d C := by
  have hY := yY_ok xa
  have hYS := yY_str xa
  have hIx := ix_K_ok (l := l) (X := X) hY hYS
  intro C hC
  obtain rfl := List.mem_singleton.mp hC
  exact c_meth mq_79_kt hY hYS hIx hX (q := mq_79) mq_79_at mq_79_pl mq_79_k cs_cy hcs cn_1_ok
theorem sm_80 (hX : ∀ i, i < 2 → X i = some ((x_tab i).map Int32.ofInt)) (hcs : ∀ d', d = d' + 1 → ∀ y, ∀ C ∈ cs_at y, c_sem l X (yY xa) xa d' C) : ∀ C ∈ [cn_406], c_sem l X (yY xa) xa d C := by
  have hY := yY_ok xa
  have hYS := yY_str xa
  have hIx := ix_K_ok (l := l) (X := X) hY hYS
  intro C hC
  obtain rfl := List.mem_singleton.mp hC
  exact c_meth mq_80_kt hY hYS hIx hX (q := mq_80) mq_80_at mq_80_pl mq_80_k cs_cy hcs cn_406_ok
theorem sm_81 (hX : ∀ i, i < 2 → X i = some ((x_tab i).map Int32.ofInt)) (hcs : ∀ d', d = d' + 1 → ∀ y, ∀ C ∈ cs_at y, c_sem l X (yY xa) xa d' C) : ∀ C ∈ [cn_343], c_sem l X (yY xa) xa d C := by
  have hY := yY_ok xa
  have hYS := yY_str xa
  have hIx := ix_K_ok (l := l) (X := X) hY hYS
  intro C hC
  obtain rfl := List.mem_singleton.mp hC
  exact c_meth mq_81_kt hY hYS hIx hX (q := mq_81) mq_81_at mq_81_pl mq_81_k cs_cy hcs cn_343_ok
theorem sm_82 (hX : ∀ i, i < 2 → X i = some ((x_tab i).map Int32.ofInt)) (hcs : ∀ d', d = d' + 1 → ∀ y, ∀ C ∈ cs_at y, c_sem l X (yY xa) xa d' C) : ∀ C ∈ [cn_411], c_sem l X (yY xa) xa d C := by
  have hY := yY_ok xa
  have hYS := yY_str xa
  have hIx := ix_K_ok (l := l) (X := X) hY hYS
  intro C hC
  obtain rfl := List.mem_singleton.mp hC
  exact c_meth mq_82_kt hY hYS hIx hX (q := mq_82) mq_82_at mq_82_pl mq_82_k cs_cy hcs cn_411_ok
theorem sm_83 (hX : ∀ i, i < 2 → X i = some ((x_tab i).map Int32.ofInt)) (hcs : ∀ d', d = d' + 1 → ∀ y, ∀ C ∈ cs_at y, c_sem l X (yY xa) xa d' C) : ∀ C ∈ [cn_395], c_sem l X (yY xa) xa d C := by
  have hY := yY_ok xa
  have hYS := yY_str xa
  have hIx := ix_K_ok (l := l) (X := X) hY hYS
  intro C hC
  obtain rfl := List.mem_singleton.mp hC
  exact c_meth mq_83_kt hY hYS hIx hX (q := mq_83) mq_83_at mq_83_pl mq_83_k cs_cy hcs cn_395_ok
theorem sm_84 (hX : ∀ i, i < 2 → X i = some ((x_tab i).map Int32.ofInt)) (hcs : ∀ d', d = d' + 1 → ∀ y, ∀ C ∈ cs_at y, c_sem l X (yY xa) xa d' C) : ∀ C ∈ [cn_371], c_sem l X (yY xa) xa d C := by
  have hY := yY_ok xa
  have hYS := yY_str xa
  have hIx := ix_K_ok (l := l) (X := X) hY hYS
  intro C hC
  obtain rfl := List.mem_singleton.mp hC
  exact c_meth mq_84_kt hY hYS hIx hX (q := mq_84) mq_84_at mq_84_pl mq_84_k cs_cy hcs cn_371_ok
theorem sm_85 (hX : ∀ i, i < 2 → X i = some ((x_tab i).map Int32.ofInt)) (hcs : ∀ d', d = d' + 1 → ∀ y, ∀ C ∈ cs_at y, c_sem l X (yY xa) xa d' C) : ∀ C ∈ [cn_325], c_sem l X (yY xa) xa d C := by
  have hY := yY_ok xa
  have hYS := yY_str xa
  have hIx := ix_K_ok (l := l) (X := X) hY hYS
  intro C hC
  obtain rfl := List.mem_singleton.mp hC
  exact c_meth mq_85_kt hY hYS hIx hX (q := mq_85) mq_85_at mq_85_pl mq_85_k cs_cy hcs cn_325_ok
theorem sm_86 (hX : ∀ i, i < 2 → X i = some ((x_tab i).map Int32.ofInt)) (hcs : ∀ d', d = d' + 1 → ∀ y, ∀ C ∈ cs_at y, c_sem l X (yY xa) xa d' C) : ∀ C ∈ [cn_382], c_sem l X (yY xa) xa d C := by
  have hY := yY_ok xa
  have hYS := yY_str xa
  have hIx := ix_K_ok (l := l) (X := X) hY hYS
  intro C hC
  obtain rfl := List.mem_singleton.mp hC
  exact c_meth mq_86_kt hY hYS hIx hX (q := mq_86) mq_86_at mq_86_pl mq_86_k cs_cy hcs cn_382_ok
theorem sm_87 (hX : ∀ i, i < 2 → X i = some ((x_tab i).map Int32.ofInt)) (hcs : ∀ d', d = d' + 1 → ∀ y, ∀ C ∈ cs_at y, c_sem l X (yY xa) xa d' C) : ∀ C ∈ [cn_345], c_sem l X (yY xa) xa d C := by
  have hY := yY_ok xa
  have hYS := yY_str xa
  have hIx := ix_K_ok (l := l) (X := X) hY hYS
  intro C hC
  obtain rfl := List.mem_singleton.mp hC
  exact c_meth mq_87_kt hY hYS hIx hX (q := mq_87) mq_87_at mq_87_pl mq_87_k cs_cy hcs cn_345_ok
theorem sm_88 (hX : ∀ i, i < 2 → X i = some ((x_tab i).map Int32.ofInt)) (hcs : ∀ d', d = d' + 1 → ∀ y, ∀ C ∈ cs_at y, c_sem l X (yY xa) xa d' C) : ∀ C ∈ [cn_320], c_sem l X (yY xa) xa d C := by
  have hY := yY_ok xa
  have hYS := yY_str xa
  have hIx := ix_K_ok (l := l) (X := X) hY hYS
  intro C hC
  obtain rfl := List.mem_singleton.mp hC
  exact c_meth mq_88_kt hY hYS hIx hX (q := mq_88) mq_88_at mq_88_pl mq_88_k cs_cy hcs cn_320_ok
theorem sm_89 (hX : ∀ i, i < 2 → X i = some ((x_tab i).map Int32.ofInt)) (hcs : ∀ d', d = d' + 1 → ∀ y, ∀ C ∈ cs_at y, c_sem l X (yY xa) xa d' C) : ∀ C ∈ [cn_410], c_sem l X (yY xa) xa d C := by
  have hY := yY_ok xa
  have hYS := yY_str xa
  have hIx := ix_K_ok (l := l) (X := X) hY hYS
  intro C hC
  obtain rfl := List.mem_singleton.mp hC
  exact c_meth mq_89_kt hY hYS hIx hX (q := mq_89) mq_89_at mq_89_pl mq_89_k cs_cy hcs cn_410_ok
theorem sm_90 (hX : ∀ i, i < 2 → X i = some ((x_tab i).map Int32.ofInt)) (hcs : ∀ d', d = d' + 1 → ∀ y, ∀ C ∈ cs_at y, c_sem l X (yY xa) xa d' C) : ∀ C ∈ [cn_379], c_sem l X (yY xa) xa d C := by
  have hY := yY_ok xa
  have hYS := yY_str xa
  have hIx := ix_K_ok (l := l) (X := X) hY hYS
  intro C hC
  obtain rfl := List.mem_singleton.mp hC
  exact c_meth mq_90_kt hY hYS hIx hX (q := mq_90) mq_90_at mq_90_pl mq_90_k cs_cy hcs cn_379_ok
theorem sm_91 (hX : ∀ i, i < 2 → X i = some ((x_tab i).map Int32.ofInt)) (hcs : ∀ d', d = d' + 1 → ∀ y, ∀ C ∈ cs_at y, c_sem l X (yY xa) xa d' C) : ∀ C ∈ [cn_377], c_sem l X (yY xa) xa d C := by
  have hY := yY_ok xa
  have hYS := yY_str xa
  have hIx := ix_K_ok (l := l) (X := X) hY hYS
  intro C hC
  obtain rfl := List.mem_singleton.mp hC
  exact c_meth mq_91_kt hY hYS hIx hX (q := mq_91) mq_91_at mq_91_pl mq_91_k cs_cy hcs cn_377_ok
theorem sm_92 (hX : ∀ i, i < 2 → X i = some ((x_tab i).map Int32.ofInt)) (hcs : ∀ d', d = d' + 1 → ∀ y, ∀ C ∈ cs_at y, c_sem l X (yY xa) xa d' C) : ∀ C ∈ [cn_197, cn_198, cn_199, cn_200], c_sem l X (yY xa) xa d C := by
  have hY := yY_ok xa
  have hYS := yY_str xa
  have hIx := ix_K_ok (l := l) (X := X) hY hYS
  refine List.forall_mem_cons.mpr ⟨c_meth mq_92_kt hY hYS hIx hX (q := mq_92) mq_92_at mq_92_pl mq_92_k cs_cy hcs cn_197_ok, ?_⟩
  refine List.forall_mem_cons.mpr ⟨c_meth mq_92_kt hY hYS hIx hX (q := mq_92) mq_92_at mq_92_pl mq_92_k cs_cy hcs cn_198_ok, ?_⟩
  refine List.forall_mem_cons.mpr ⟨c_meth mq_92_kt hY hYS hIx hX (q := mq_92) mq_92_at mq_92_pl mq_92_k cs_cy hcs cn_199_ok, ?_⟩
  refine List.forall_mem_cons.mpr ⟨c_meth mq_92_kt hY hYS hIx hX (q := mq_92) mq_92_at mq_92_pl mq_92_k cs_cy hcs cn_200_ok, ?_⟩
  exact fun _ h => absurd h List.not_mem_nil
theorem sm_93 (hX : ∀ i, i < 2 → X i = some ((x_tab i).map Int32.ofInt)) (hcs : ∀ d', d = d' + 1 → ∀ y, ∀ C ∈ cs_at y, c_sem l X (yY xa) xa d' C) : ∀ C ∈ [cn_4], c_sem l X (yY xa) xa d C := by
  have hY := yY_ok xa
  have hYS := yY_str xa
  have hIx := ix_K_ok (l := l) (X := X) hY hYS
  intro C hC
  obtain rfl := List.mem_singleton.mp hC
  exact c_meth mq_93_kt hY hYS hIx hX (q := mq_93) mq_93_at mq_93_pl mq_93_k cs_cy hcs cn_4_ok
theorem sm_94 (hX : ∀ i, i < 2 → X i = some ((x_tab i).map Int32.ofInt)) (hcs : ∀ d', d = d' + 1 → ∀ y, ∀ C ∈ cs_at y, c_sem l X (yY xa) xa d' C) : ∀ C ∈ [cn_403], c_sem l X (yY xa) xa d C := by
  have hY := yY_ok xa
  have hYS := yY_str xa
  have hIx := ix_K_ok (l := l) (X := X) hY hYS
  intro C hC
  obtain rfl := List.mem_singleton.mp hC
  exact c_meth mq_94_kt hY hYS hIx hX (q := mq_94) mq_94_at mq_94_pl mq_94_k cs_cy hcs cn_403_ok
theorem sm_95 (hX : ∀ i, i < 2 → X i = some ((x_tab i).map Int32.ofInt)) (hcs : ∀ d', d = d' + 1 → ∀ y, ∀ C ∈ cs_at y, c_sem l X (yY xa) xa d' C) : ∀ C ∈ [cn_402], c_sem l X (yY xa) xa d C := by
  have hY := yY_ok xa
  have hYS := yY_str xa
  have hIx := ix_K_ok (l := l) (X := X) hY hYS
  intro C hC
  obtain rfl := List.mem_singleton.mp hC
  exact c_meth mq_95_kt hY hYS hIx hX (q := mq_95) mq_95_at mq_95_pl mq_95_k cs_cy hcs cn_402_ok
theorem sc_2 (hX : ∀ i, i < 2 → X i = some ((x_tab i).map Int32.ofInt)) (hcs : ∀ d', d = d' + 1 → ∀ y, ∀ C ∈ cs_at y, c_sem l X (yY xa) xa d' C) : ∀ r ∈ cs_tab_2, ∀ C ∈ r, c_sem l X (yY xa) xa d C := by
  unfold cs_tab_2
  refine List.forall_mem_cons.mpr ⟨sm_64 hX hcs, ?_⟩
  refine List.forall_mem_cons.mpr ⟨sm_65 hX hcs, ?_⟩
  refine List.forall_mem_cons.mpr ⟨sm_66 hX hcs, ?_⟩
  refine List.forall_mem_cons.mpr ⟨sm_67 hX hcs, ?_⟩
  refine List.forall_mem_cons.mpr ⟨sm_68 hX hcs, ?_⟩
  refine List.forall_mem_cons.mpr ⟨sm_69 hX hcs, ?_⟩
  refine List.forall_mem_cons.mpr ⟨sm_70 hX hcs, ?_⟩
  refine List.forall_mem_cons.mpr ⟨sm_71 hX hcs, ?_⟩
  refine List.forall_mem_cons.mpr ⟨sm_72 hX hcs, ?_⟩
  refine List.forall_mem_cons.mpr ⟨sm_73 hX hcs, ?_⟩
  refine List.forall_mem_cons.mpr ⟨sm_74 hX hcs, ?_⟩
  refine List.forall_mem_cons.mpr ⟨sm_75 hX hcs, ?_⟩
  refine List.forall_mem_cons.mpr ⟨sm_76 hX hcs, ?_⟩
  refine List.forall_mem_cons.mpr ⟨sm_77 hX hcs, ?_⟩
  refine List.forall_mem_cons.mpr ⟨sm_78 hX hcs, ?_⟩
  refine List.forall_mem_cons.mpr ⟨sm_79 hX hcs, ?_⟩
  refine List.forall_mem_cons.mpr ⟨sm_80 hX hcs, ?_⟩
  refine List.forall_mem_cons.mpr ⟨sm_81 hX hcs, ?_⟩
  refine List.forall_mem_cons.mpr ⟨sm_82 hX hcs, ?_⟩
  refine List.forall_mem_cons.mpr ⟨sm_83 hX hcs, ?_⟩
  refine List.forall_mem_cons.mpr ⟨sm_84 hX hcs, ?_⟩
  refine List.forall_mem_cons.mpr ⟨sm_85 hX hcs, ?_⟩
  refine List.forall_mem_cons.mpr ⟨sm_86 hX hcs, ?_⟩
  refine List.forall_mem_cons.mpr ⟨sm_87 hX hcs, ?_⟩
  refine List.forall_mem_cons.mpr ⟨sm_88 hX hcs, ?_⟩
  refine List.forall_mem_cons.mpr ⟨sm_89 hX hcs, ?_⟩
  refine List.forall_mem_cons.mpr ⟨sm_90 hX hcs, ?_⟩
  refine List.forall_mem_cons.mpr ⟨sm_91 hX hcs, ?_⟩
  refine List.forall_mem_cons.mpr ⟨sm_92 hX hcs, ?_⟩
  refine List.forall_mem_cons.mpr ⟨sm_93 hX hcs, ?_⟩
  refine List.forall_mem_cons.mpr ⟨sm_94 hX hcs, ?_⟩
  refine List.forall_mem_cons.mpr ⟨sm_95 hX hcs, ?_⟩
  exact fun _ h => absurd h List.not_mem_nil
end AS
