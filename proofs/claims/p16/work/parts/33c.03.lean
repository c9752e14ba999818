section
/-! ALL CONTRACTS TOGETHER, 3 -/
section AS
variable {l : Launch} {X : Nat → Option (List Int32)} {xa : Nat → Nat} {d : Nat}
theorem sm_96 (hX : ∀ i, i < 2 → X i = some ((x_tab i).map Int32.ofInt)) (hcs : ∀ d', d = d' + 1 → ∀ y, ∀ C ∈ cs_at y, c_sem l X (yY xa) xa d' C) : ∀ C ∈ [cn_388], c_sem l X (yY xa) xa d C := by
  have hY := yY_ok xa
  have hYS := yY_str xa
  have hIx := ix_K_ok (l := l) (X := X) hY hYS
  intro C hC
  obtain rfl := List.mem_singleton.mp hC
  exact c_meth mq_96_kt hY hYS hIx hX (q := mq_96) mq_96_at mq_96_pl mq_96_k cs_cy hcs cn_388_ok
theorem sm_97 (hX : ∀ i, i < 2 → X i = some ((x_tab i).map Int32.ofInt)) (hcs : ∀ d', d = d' + 1 → ∀ y, ∀ C ∈ cs_at y, c_sem l X (yY xa) xa d' C) : ∀ C ∈ [cn_363, cn_364, cn_365], c_sem l X (yY xa) xa d C := by
  have hY := yY_ok xa
  have hYS := yY_str xa
  have hIx := ix_K_ok (l := l) (X := X) hY hYS
  refine List.forall_mem_cons.mpr ⟨c_meth mq_97_kt hY hYS hIx hX (q := mq_97) mq_97_at mq_97_pl mq_97_k cs_cy hcs cn_363_ok, ?_⟩
  refine List.forall_mem_cons.mpr ⟨c_meth mq_97_kt hY hYS hIx hX (q := mq_97) mq_97_at mq_97_pl mq_97_k cs_cy hcs cn_364_ok, ?_⟩
  refine List.forall_mem_cons.mpr ⟨c_meth mq_97_kt hY hYS hIx hX (q := mq_97) mq_97_at mq_97_pl mq_97_k cs_cy hcs cn_365_ok, ?_⟩
  exact fun _ h => absurd h List.not_mem_nil
theorem sm_98 (hX : ∀ i, i < 2 → X i = some ((x_tab i).map Int32.ofInt)) (hcs : ∀ d', d = d' + 1 → ∀ y, ∀ C ∈ cs_at y, c_sem l X (yY xa) xa d' C) : ∀ C ∈ [cn_435], c_sem l X (yY xa) xa d C := by
  have hY := yY_ok xa
  have hYS := yY_str xa
  have hIx := ix_K_ok (l := l) (X := X) hY hYS
  intro C hC
  obtain rfl := List.mem_singleton.mp hC
  exact c_meth mq_98_kt hY hYS hIx hX (q := mq_98) mq_98_at mq_98_pl mq_98_k cs_cy hcs cn_435_ok
theorem sm_99 (hX : ∀ i, i < 2 → X i = some ((x_tab i).map Int32.ofInt)) (hcs : ∀ d', d = d' + 1 → ∀ y, ∀ C ∈ cs_at y, c_sem l X (yY xa) xa d' C) : ∀ C ∈ [cn_201], c_sem l X (yY xa) xa d C := by
  have hY := yY_ok xa
  have hYS := yY_str xa
  have hIx := ix_K_ok (l := l) (X := X) hY hYS
  intro C hC
  obtain rfl := List.mem_singleton.mp hC
  exact c_meth mq_99_kt hY hYS hIx hX (q := mq_99) mq_99_at mq_99_pl mq_99_k cs_cy hcs cn_201_ok
theorem sm_100 (hX : ∀ i, i < 2 → X i = some ((x_tab i).map Int32.ofInt)) (hcs : ∀ d', d = d' + 1 → ∀ y, ∀ C ∈ cs_at y, c_sem l X (yY xa) xa d' C) : ∀ C ∈ [cn_13], c_sem l X (yY xa) xa d C := by
  have hY := yY_ok xa
  have hYS := yY_str xa
  have hIx := ix_K_ok (l := l) (X := X) hY hYS
  intro C hC
  obtain rfl := List.mem_singleton.mp hC
  exact c_meth mq_100_kt hY hYS hIx hX (q := mq_100) mq_100_at mq_100_pl mq_100_k cs_cy hcs cn_13_ok
theorem sm_101 (hX : ∀ i, i < 2 → X i = some ((x_tab i).map Int32.ofInt)) (hcs : ∀ d', d = d' + 1 → ∀ y, ∀ C ∈ cs_at y, c_sem l X (yY xa) xa d' C) : ∀ C ∈ [cn_99], c_sem l X (yY xa) xa d C := by
  have hY := yY_ok xa
  have hYS := yY_str xa
  have hIx := ix_K_ok (l := l) (X := X) hY hYS
  intro C hC
  obtain rfl := List.mem_singleton.mp hC
  exact c_meth mq_101_kt hY hYS hIx hX (q := mq_101) mq_101_at mq_101_pl mq_101_k cs_cy hcs cn_99_ok
theorem sm_102 (hX : ∀ i, i < 2 → X i = some ((x_tab i).map Int32.ofInt)) (hcs : ∀ d', d = d' + 1 → ∀ y, ∀ C ∈ cs_at y, c_sem l X (yY xa) xa d' C) : ∀ C ∈ [cn_431], c_sem l X (yY xa) xa d C := by
  have hY := yY_ok xa
  have hYS := yY_str xa
  have hIx := ix_K_ok (l := l) (X := X) hY hYS
  intro C hC
  obtain rfl := List.mem_singleton.mp hC
  exact c_meth mq_102_kt hY hYS hIx hX (q := mq_102) mq_102_at mq_102_pl mq_102_k cs_cy hcs cn_431_ok
theorem sm_103 (hX : ∀ i, i < 2 → X i = some ((x_tab i).map Int32.ofInt)) (hcs : ∀ d', d = d' + 1 → ∀ y, ∀ C ∈ cs_at y, c_sem l X (yY xa) xa d' C) : ∀ C ∈ [cn_391], c_sem l X (yY xa) xa d C := by
  have hY := yY_ok xa
  have hYS := yY_str xa
  have hIx := ix_K_ok (l := l) (X := X) hY hYS
  intro C hC
  obtain rfl := List.mem_singleton.mp hC
  exact c_meth mq_103_kt hY hYS hIx hX (q := mq_103) mq_103_at mq_103_pl mq_103_k cs_cy hcs cn_391_ok
theorem sm_104 (hX : ∀ i, i < 2 → X i = some ((x_tab i).map Int32.ofInt)) (hcs : ∀ d', d = d' + 1 → ∀ y, ∀ C ∈ cs_at y, c_sem l X (yY xa) xa d' C) : ∀ C ∈ [cn_317], c_sem l X (yY xa) xa d C := by
  have hY := yY_ok xa
  have hYS := yY_str xa
  have hIx := ix_K_ok (l := l) (X := X) hY hYS
  intro C hC
  obtain rfl := List.mem_singleton.mp hC
  exact c_meth mq_104_kt hY hYS hIx hX (q := mq_104) mq_104_at mq_104_pl mq_104_k cs_cy hcs cn_317_ok
theorem sm_105 (hX : ∀ i, i < 2 → X i = some ((x_tab i).map Int32.ofInt)) (hcs : ∀ d', d = d' + 1 → ∀ y, ∀ C ∈ cs_at y, c_sem l X (yY xa) xa d' C) : ∀ C ∈ [cn_16], c_sem l X (yY xa) xa d C := by
  have hY := yY_ok xa
  have hYS := yY_str xa
  have hIx := ix_K_ok (l := l) (X := X) hY hYS
  intro C hC
  obtain rfl := List.mem_singleton.mp hC
  exact c_meth mq_105_kt hY hYS hIx hX (q := mq_105) mq_105_at mq_105_pl mq_105_k cs_cy hcs cn_16_ok
theorem sm_106 (hX : ∀ i, i < 2 → X i = some ((x_tab i).map Int32.ofInt)) (hcs : ∀ d', d = d' + 1 → ∀ y, ∀ C ∈ cs_at y, c_sem l X (yY xa) xa d' C) : ∀ C ∈ [cn_318, cn_370, cn_390, cn_412, cn_425], c_sem l X (yY xa) xa d C := by
  have hY := yY_ok xa
  have hYS := yY_str xa
  have hIx := ix_K_ok (l := l) (X := X) hY hYS
  refine List.forall_mem_cons.mpr ⟨c_meth mq_106_kt hY hYS hIx hX (q := mq_106) mq_106_at mq_106_pl mq_106_k cs_cy hcs cn_318_ok, ?_⟩
  refine List.forall_mem_cons.mpr ⟨c_meth mq_106_kt hY hYS hIx hX (q := mq_106) mq_106_at mq_106_pl mq_106_k cs_cy hcs cn_370_ok, ?_⟩
  refine List.forall_mem_cons.mpr ⟨c_meth mq_106_kt hY hYS hIx hX (q := mq_106) mq_106_at mq_106_pl mq_106_k cs_cy hcs cn_390_ok, ?_⟩
  refine List.forall_mem_cons.mpr ⟨c_meth mq_106_kt hY hYS hIx hX (q := mq_106) mq_106_at mq_106_pl mq_106_k cs_cy hcs cn_412_ok, ?_⟩
  refine List.forall_mem_cons.mpr ⟨c_meth mq_106_kt hY hYS hIx hX (q := mq_106) mq_106_at mq_106_pl mq_106_k cs_cy hcs cn_425_ok, ?_⟩
  exact fun _ h => absurd h List.not_mem_nil
theorem sm_107 (hX : ∀ i, i < 2 → X i = some ((x_tab i).map Int32.ofInt)) (hcs : ∀ d', d = d' + 1 → ∀ y, ∀ C ∈ cs_at y, c_sem l X (yY xa) xa d' C) : ∀ C ∈ [cn_202], c_sem l X (yY xa) xa d C := by
  have hY := yY_ok xa
  have hYS := yY_str xa
  have hIx := ix_K_ok (l := l) (X := X) hY hYS
  intro C hC
  obtain rfl := List.mem_singleton.mp hC
  exact c_meth mq_107_kt hY hYS hIx hX (q := mq_107) mq_107_at mq_107_pl mq_107_k cs_cy hcs cn_202_ok
theorem sm_108 (hX : ∀ i, i < 2 → X i = some ((x_tab i).map Int32.ofInt)) (hcs : ∀ d', d = d' + 1 → ∀ y, ∀ C ∈ cs_at y, c_sem l X (yY xa) xa d' C) : ∀ C ∈ [cn_125], c_sem l X (yY xa) xa d C := by
  have hY := yY_ok xa
  have hYS := yY_str xa
  have hIx := ix_K_ok (l := l) (X := X) hY hYS
  intro C hC
  obtain rfl := List.mem_singleton.mp hC
  exact c_meth mq_108_kt hY hYS hIx hX (q := mq_108) mq_108_at mq_108_pl mq_108_k cs_cy hcs cn_125_ok
theorem sm_109 (hX : ∀ i, i < 2 → X i = some ((x_tab i).map Int32.ofInt)) (hcs : ∀ d', d = d' + 1 → ∀ y, ∀ C ∈ cs_at y, c_sem l X (yY xa) xa d' C) : ∀ C ∈ [cn_436], c_sem l X (yY xa) xa d C := by
  have hY := yY_ok xa
  have hYS := yY_str xa
  have hIx := ix_K_ok (l := l) (X := X) hY hYS
  intro C hC
  obtain rfl := List.mem_singleton.mp hC
  exact c_meth mq_109_kt hY hYS hIx hX (q := mq_109) mq_109_at mq_109_pl mq_109_k cs_cy hcs cn_436_ok
theorem sm_110 (hX : ∀ i, i < 2 → X i = some ((x_tab i).map Int32.ofInt)) (hcs : ∀ d', d = d' + 1 → ∀ y, ∀ C ∈ cs_at y, c_sem l X (yY xa) xa d' C) : ∀ C ∈ [cn_441], c_sem l X (yY xa) xa d C := by
  have hY := yY_ok xa
  have hYS := yY_str xa
  have hIx := ix_K_ok (l := l) (X := X) hY hYS
  intro C hC
  obtain rfl := List.mem_singleton.mp hC
  exact c_meth mq_110_kt hY hYS hIx hX (q := mq_110) mq_110_at mq_110_pl mq_110_k cs_cy hcs cn_441_ok
theorem sm_111 (hX : ∀ i, i < 2 → X i = some ((x_tab i).map Int32.ofInt)) (hcs : ∀ d', d = d' + 1 → ∀ y, ∀ C ∈ cs_at y, c_sem l X (yY xa) xa d' C) : ∀ C ∈ [cn_438], c_sem l X (yY xa) xa d C := by
  have hY := yY_ok xa
  have hYS := yY_str xa
  have hIx := ix_K_ok (l := l) (X := X) hY hYS
  intro C hC
  obtain rfl := List.mem_singleton.mp hC
  exact c_meth mq_111_kt hY hYS hIx hX (q := mq_111) mq_111_at mq_111_pl mq_111_k cs_cy hcs cn_438_ok
theorem sm_112 (hX : ∀ i, i < 2 → X i = some ((x_tab i).map Int32.ofInt)) (hcs : ∀ d', d = d' + 1 → ∀ y, ∀ C ∈ cs_at y, c_sem l X (yY xa) xa d' C) : ∀ C ∈ [cn_392, cn_413, cn_426, cn_432], c_sem l X (yY xa) xa d C := by
  have hY := yY_ok xa
  have hYS := yY_str xa
  have hIx := ix_K_ok (l := l) (X := X) hY hYS
  refine List.forall_mem_cons.mpr ⟨c_meth mq_112_kt hY hYS hIx hX (q := mq_112) mq_112_at mq_112_pl mq_112_k cs_cy hcs cn_392_ok, ?_⟩
  refine List.forall_mem_cons.mpr ⟨c_meth mq_112_kt hY hYS hIx hX (q := mq_112) mq_112_at mq_112_pl mq_112_k cs_cy hcs cn_413_ok, ?_⟩
  refine List.forall_mem_cons.mpr ⟨c_meth mq_112_kt hY hYS hIx hX (q := mq_112) mq_112_at mq_112_pl mq_112_k cs_cy hcs cn_426_ok, ?_⟩
  refine List.forall_mem_cons.mpr ⟨c_meth mq_112_kt hY hYS hIx hX (q := mq_112) mq_112_at mq_112_pl mq_112_k cs_cy hcs cn_432_ok, ?_⟩
  exact fun _ h => absurd h List.not_mem_nil
theorem sm_113 (hX : ∀ i, i < 2 → X i = some ((x_tab i).map Int32.ofInt)) (hcs : ∀ d', d = d' + 1 → ∀ y, ∀ C ∈ cs_at y, c_sem l X (yY xa) xa d' C) : ∀ C ∈ [cn_208], c_sem l X (yY xa) xa d C := by
  have hY := yY_ok xa
  have hYS := yY_str xa
  have hIx := ix_K_ok (l := l) (X := X) hY hYS
  intro C hC
  obtain rfl := List.mem_singleton.mp hC
  exact c_meth mq_113_kt hY hYS hIx hX (q := mq_113) mq_113_at mq_113_pl mq_113_k cs_cy hcs cn_208_ok
theorem sm_114 (hX : ∀ i, i < 2 → X i = some ((x_tab i).map Int32.ofInt)) (hcs : ∀ d', d = d' + 1 → ∀ y, ∀ C ∈ cs_at y, c_sem l X (yY xa) xa d' C) : ∀ C ∈ [cn_117], c_sem l X (yY xa) xa d C := by
  have hY := yY_ok xa
  have hYS := yY_str xa
  have hIx := ix_K_ok (l := l) (X := X) hY hYS
  intro C hC
  obtain rfl := List.mem_singleton.mp hC
  exact c_meth mq_114_kt hY hYS hIx hX (q := mq_114) mq_114_at mq_114_pl mq_114_k cs_cy hcs cn_117_ok
theorem sm_115 (hX : ∀ i, i < 2 → X i = some ((x_tab i).map Int32.ofInt)) (hcs : ∀ d', d = d' + 1 → ∀ y, ∀ C ∈ cs_at y, c_sem l X (yY xa) xa d' C) : ∀ C ∈ [cn_401], c_sem l X (yY xa) xa d C := by
  have hY := yY_ok xa
  have hYS := yY_str xa
  have hIx := ix_K_ok (l := l) (X := X) hY hYS
  intro C hC
  obtain rfl := List.mem_singleton.mp hC
  exact c_meth mq_115_kt hY hYS hIx hX (q := mq_115) mq_115_at mq_115_pl mq_115_k cs_cy hcs cn_401_ok
theorem sm_116 (hX : ∀ i, i < 2 → X i = some ((x_tab i).map Int32.ofInt)) (hcs : ∀ d', d = d' + 1 → ∀ y, ∀ C ∈ cs_at y, c_sem l X (yY xa) xa d' C) : ∀ C ∈ [cn_409], c_sem l X (yY xa) xa d C := by
  have hY := yY_ok xa
  have hYS := yY_str xa
  have hIx := ix_K_ok (l := l) (X := X) hY hYS
  intro C hC
  obtain rfl := List.mem_singleton.mp hC
  exact c_meth mq_116_kt hY hYS hIx hX (q := mq_116) mq_116_at mq_116_pl mq_116_k cs_cy hcs cn_409_ok
theorem sm_117 (hX : ∀ i, i < 2 → X i = some ((x_tab i).map Int32.ofInt)) (hcs : ∀ d', d = d' + 1 → ∀ y, ∀ C ∈ cs_at y, c_sem l X (yY xa) xa d' C) : ∀ C ∈ [cn_387], c_sem l X (yY xa) xa d C := by
  have hY := yY_ok xa
  have hYS := yY_str xa
  have hIx := ix_K_ok (l := l) (X := X) hY hYS
  intro C hC
  obtain rfl := List.mem_singleton.mp hC
  exact c_meth mq_117_kt hY hYS hIx hX (q := mq_117) mq_117_at mq_117_pl mq_117_k cs_cy hcs cn_387_ok
theorem sm_118 (hX : ∀ i, i < 2 → X i = some ((x_tab i).map Int32.ofInt)) (hcs : ∀ d', d = d' + 1 → ∀ y, ∀ C ∈ cs_at y, c_sem l X (yY xa) xa d' C) : ∀ C ∈ [cn_362], c_sem l X (yY xa) xa d C := by
  have hY := yY_ok xa
  have hYS := yY_str xa
  have hIx := ix_K_ok (l := l) (X := X) hY hYS
  intro C hC
  obtain rfl := List.mem_singleton.mp hC
  exact c_meth mq_118_kt hY hYS hIx hX (q := mq_118) mq_118_at mq_118_pl mq_118_k cs_cy hcs cn_362_ok
theorem sm_119 (hX : ∀ i, i < 2 → X i = some ((x_tab i).map Int32.ofInt)) (hcs : ∀ d', d = d' + 1 → ∀ y, ∀ C ∈ cs_at y, c_sem l X (yY xa) xa d' C) : ∀ C ∈ [cn_194], c_sem l X (yY xa) xa d C := by
  have hY := yY_ok xa
  have hYS := yY_str xa
  have hIx := ix_K_ok (l := l) (X := X) hY hYS
  intro C hC
  obtain rfl := List.mem_singleton.mp hC
  exact c_meth mq_119_kt hY hYS hIx hX (q := mq_119) mq_119_at mq_119_pl mq_119_k cs_cy hcs cn_194_ok
theorem sm_120 (hX : ∀ i, i < 2 → X i = some ((x_tab i).map Int32.ofInt)) (hcs : ∀ d', d = d' + 1 → ∀ y, ∀ C ∈ cs_at y, c_sem l X (yY xa) xa d' C) : ∀ C ∈ [cn_296], c_sem l X (yY xa) xa d C := by
  have hY := yY_ok xa
  have hYS := yY_str xa
  have hIx := ix_K_ok (l := l) (X := X) hY hYS
  intro C hC
  obtain rfl := List.mem_singleton.mp hC
  exact c_meth mq_120_kt hY hYS hIx hX (q := mq_120) mq_120_at mq_120_pl mq_120_k cs_cy hcs cn_296_ok
theorem sm_121 (hX : ∀ i, i < 2 → X i = some ((x_tab i).map Int32.ofInt)) (hcs : ∀ d', d = d' + 1 → ∀ y, ∀ C ∈ cs_at y, c_sem l X (yY xa) xa d' C) : ∀ C ∈ [cn_314], c_sem l X (yY xa) xa d C := by
  have hY := yY_ok xa
  have hYS := yY_str xa
  have hIx := ix_K_ok (l := l) (X := X) hY hYS
  intro C hC
  obtain rfl := List.mem_singleton.mp hC
  exact c_meth mq_121_kt hY hYS hIx hX (q := mq_121) mq_121_at mq_121_pl mq_121_k cs_cy hcs cn_314_ok
theorem sm_122 (hX : ∀ i, i < 2 → X i = some ((x_tab i).map Int32.ofInt)) (hcs : ∀ d', d = d' + 1 → ∀ y, ∀ C ∈ cs_at y, c_sem l X (yY xa) xa d' C) : ∀ C ∈ [cn_295], c_sem l X (yY xa) xa d C := by
  have hY := yY_ok xa
  have hYS := yY_str xa
  have hIx := ix_K_ok (l := l) (X := X) hY hYS
  intro C hC
  obtain rfl := List.mem_singleton.mp hC
  exact c_meth mq_122_kt hY hYS hIx hX (q := mq_122) mq_122_at mq_122_pl mq_122_k cs_cy hcs cn_295_ok
theorem sm_123 (hX : ∀ i, i < 2 → X i = some ((x_tab i).map Int32.ofInt)) (hcs : ∀ d', d = d' + 1 → ∀ y, ∀ C ∈ cs_at y, c_sem l X (yY xa) xa d' C) : ∀ C ∈ [cn_376], c_sem l X (yY xa) xa d C := by
  have hY := yY_ok xa
  have hYS := yY_str xa
  have hIx := ix_K_ok (l := l) (X := X) hY hYS
  intro C hC
  obtain rfl := List.mem_singleton.mp hC
  exact c_meth mq_123_kt hY hYS hIx hX (q := mq_123) mq_123_at mq_123_pl mq_123_k cs_cy hcs cn_376_ok
theorem sm_125 (hX : ∀ i, i < 2 → X i = some ((x_tab i).map Int32.ofInt)) (hcs : ∀ d', d = d' + 1 → ∀ y, ∀ C ∈ cs_at y, c_sem l X (yY xa) xa d' C) : ∀ C ∈ [cn_385], c_sem l X (yY xa) xa d C := by
  have hY := yY_ok xa
  have hYS := yY_str xa
  have hIx := ix_K_ok (l := l) (X := X) hY hYS
  intro C hC
  obtain rfl := List.mem_singleton.mp hC
  exact c_meth mq_125_kt hY hYS hIx hX (q := mq_125) mq_125_at mq_125_pl mq_125_k cs_cy hcs cn_385_ok
theorem sm_126 (hX : ∀ i, i < 2 → X i = some ((x_tab i).map Int32.ofInt)) (hcs : ∀ d', d = d' + 1 → ∀ y, ∀ C ∈ cs_at y, c_sem l X (yY xa) xa d' C) : ∀ C ∈ [cn_408], c_sem l X (yY xa) xa d C := by
  have hY := yY_ok xa
  have hYS := yY_str xa
  have hIx := ix_K_ok (l := l) (X := X) hY hYS
  intro C hC
  obtain rfl := List.mem_singleton.mp hC
  exact c_meth mq_126_kt hY hYS hIx hX (q := mq_126) mq_126_at mq_126_pl mq_126_k cs_cy hcs cn_408_ok
theorem sm_127 (hX : ∀ i, i < 2 → X i = some ((x_tab i).map Int32.ofInt)) (hcs : ∀ d', d = d' + 1 → ∀ y, ∀ C ∈ cs_at y, c_sem l X (yY xa) xa d' C) : ∀ C ∈ [cn_386], c_sem l X (yY xa) xa d C := by
  have hY := yY_ok xa
  have hYS := yY_str xa
  have hIx := ix_K_ok (l := l) (X := X) hY hYS
  intro C hC
  obtain rfl := List.mem_singleton.mp hC
  exact c_meth mq_127_kt hY hYS hIx hX (q := mq_127) mq_127_at mq_127_pl mq_127_k cs_cy hcs cn_386_ok
theorem sc_3 (hX : ∀ i, i < 2 → X i = some ((x_tab i).map Int32.ofInt)) (hcs : ∀ d', d = d' + 1 → ∀ y, ∀ C ∈ cs_at y, c_sem l X (yY xa) xa d' C) : ∀ r ∈ cs_tab_3, ∀ C ∈ r, c_sem l X (yY xa) xa d C := by
  unfold cs_tab_3
  refine List.forall_mem_cons.mpr ⟨sm_96 hX hcs, ?_⟩
  refine List.forall_mem_cons.mpr ⟨sm_97 hX hcs, ?_⟩
  refine List.forall_mem_cons.mpr ⟨sm_98 hX hcs, ?_⟩
  refine List.forall_mem_cons.mpr ⟨sm_99 hX hcs, ?_⟩
  refine List.forall_mem_cons.mpr ⟨sm_100 hX hcs, ?_⟩
  refine List.forall_mem_cons.mpr ⟨sm_101 hX hcs, ?_⟩
  refine List.forall_mem_cons.mpr ⟨sm_102 hX hcs, ?_⟩
  refine List.forall_mem_cons.mpr ⟨sm_103 hX hcs, ?_⟩
  refine List.forall_mem_cons.mpr ⟨sm_104 hX hcs, ?_⟩
  refine List.forall_mem_cons.mpr ⟨sm_105 hX hcs, ?_⟩
  refine List.forall_mem_cons.mpr ⟨sm_106 hX hcs, ?_⟩
  refine List.forall_mem_cons.mpr ⟨sm_107 hX hcs, ?_⟩
  refine List.forall_mem_cons.mpr ⟨sm_108 hX hcs, ?_⟩
  refine List.forall_mem_cons.mpr ⟨sm_109 hX hcs, ?_⟩
  refine List.forall_mem_cons.mpr ⟨sm_110 hX hcs, ?_⟩
  refine List.forall_mem_cons.mpr ⟨sm_111 hX hcs, ?_⟩
  refine List.forall_mem_cons.mpr ⟨sm_112 hX hcs, ?_⟩
  refine List.forall_mem_cons.mpr ⟨sm_113 hX hcs, ?_⟩
  refine List.forall_mem_cons.mpr ⟨sm_114 hX hcs, ?_⟩
  refine List.forall_mem_cons.mpr ⟨sm_115 hX hcs, ?_⟩
  refine List.forall_mem_cons.mpr ⟨sm_116 hX hcs, ?_⟩
  refine List.forall_mem_cons.mpr ⟨sm_117 hX hcs, ?_⟩
  refine List.forall_mem_cons.mpr ⟨sm_118 hX hcs, ?_⟩
  refine List.forall_mem_cons.mpr ⟨sm_119 hX hcs, ?_⟩
  refine List.forall_mem_cons.mpr ⟨sm_120 hX hcs, ?_⟩
  refine List.forall_mem_cons.mpr ⟨sm_121 hX hcs, ?_⟩
  refine List.forall_mem_cons.mpr ⟨sm_122 hX hcs, ?_⟩
  refine List.forall_mem_cons.mpr ⟨sm_123 hX hcs, ?_⟩
  refine List.forall_mem_cons.mpr ⟨(fun _ h => absurd h List.not_mem_nil), ?_⟩
  refine List.forall_mem_cons.mpr ⟨sm_125 hX hcs, ?_⟩
  refine List.forall_mem_cons.mpr ⟨sm_126 hX hcs, ?_⟩
  refine List.forall_mem_cons.mpr ⟨sm_127 hX hcs, ?_⟩
  exact fun _ h => absurd h List.not_mem_nil
end AS
end
section
/-! ALL CONTRACTS TOGETHER, 4 -/
section AS
variable {l : Launch} {X : Nat → Option (List Int32)} {xa : Nat → Nat} {d : Nat}
theorem sm_128 (hX : ∀ i, i < 2 → X i = some ((x_tab i).map Int32.ofInt)) (hcs : ∀ d', d = d' + 1 → ∀ y, ∀ C ∈ cs_at y, c_sem l X (yY xa) xa d' C) : ∀ C ∈ [cn_116], c_sem l X (yY xa) xa d C := by
  have hY := yY_ok xa
  have hYS := yY_str xa
  have hIx := ix_K_ok (l := l) (X := X) hY hYS
  intro C hC
  obtain rfl := List.mem_singleton.mp hC
  exact c_meth mq_128_kt hY hYS hIx hX (q := mq_128) mq_128_at mq_128_pl mq_128_k cs_cy hcs cn_116_ok
theorem sm_129 (hX : ∀ i, i < 2 → X i = some ((x_tab i).map Int32.ofInt)) (hcs : ∀ d', d = d' + 1 → ∀ y, ∀ C ∈ cs_at y, c_sem l X (yY xa) xa d' C) : ∀ C ∈ [cn_460], c_sem l X (yY xa) xa d C := by
  have hY := yY_ok xa
  have hYS := yY_str xa
  have hIx := ix_K_ok (l := l) (X := X) hY hYS
  intro C hC
  obtain rfl := List.mem_singleton.mp hC
  exact c_meth mq_129_kt hY hYS hIx hX (q := mq_129) mq_129_at mq_129_pl mq_129_k cs_cy hcs cn_460_ok
theorem sm_130 (hX : ∀ i, i < 2 → X i = some ((x_tab i).map Int32.ofInt)) (hcs : ∀ d', d = d' + 1 → ∀ y, ∀ C ∈ cs_at y, c_sem l X (yY xa) xa d' C) : ∀ C ∈ [cn_458], c_sem l X (yY xa) xa d C := by
  have hY := yY_ok xa
  have hYS := yY_str xa
  have hIx := ix_K_ok (l := l) (X := X) hY hYS
  intro C hC
  obtain rfl := List.mem_singleton.mp hC
  exact c_meth mq_130_kt hY hYS hIx hX (q := mq_130) mq_130_at mq_130_pl mq_130_k cs_cy hcs cn_458_ok
theorem sm_131 (hX : ∀ i, i < 2 → X i = some ((x_tab i).map Int32.ofInt)) (hcs : ∀ d', d = d' + 1 → ∀ y, ∀ C ∈ cs_at y, c_sem l X (yY xa) xa d' C) : ∀ C ∈ [cn_269, cn_414, cn_433, cn_443, cn_449, cn_455], c_sem l X (yY xa) xa d C := by
  have hY := yY_ok xa
  have hYS := yY_str xa
  have hIx := ix_K_ok (l := l) (X := X) hY hYS
  refine List.forall_mem_cons.mpr ⟨c_meth mq_131_kt hY hYS hIx hX (q := mq_131) mq_131_at mq_131_pl mq_131_k cs_cy hcs cn_269_ok, ?_⟩
  refine List.forall_mem_cons.mpr ⟨c_meth mq_131_kt hY hYS hIx hX (q := mq_131) mq_131_at mq_131_pl mq_131_k cs_cy hcs cn_414_ok, ?_⟩
  refine List.forall_mem_cons.mpr ⟨c_meth mq_131_kt hY hYS hIx hX (q := mq_131) mq_131_at mq_131_pl mq_131_k cs_cy hcs cn_433_ok, ?_⟩
  refine List.forall_mem_cons.mpr ⟨c_meth mq_131_kt hY hYS hIx hX (q := mq_131) mq_131_at mq_131_pl mq_131_k cs_cy hcs cn_443_ok, ?_⟩
  refine List.forall_mem_cons.mpr ⟨c_meth mq_131_kt hY hYS hIx hX (q := mq_131) mq_131_at mq_131_pl mq_131_k cs_cy hcs cn_449_ok, ?_⟩
  refine List.forall_mem_cons.mpr ⟨c_meth mq_131_kt hY hYS hIx hX (q := mq_131) mq_131_at mq_131_pl mq_131_k cs_cy hcs cn_455_ok, ?_⟩
  exact fun _ h => absurd h List.not_mem_nil
theorem sm_132 (hX : ∀ i, i < 2 → X i = some ((x_tab i).map Int32.ofInt)) (hcs : ∀ d', d = d' + 1 → ∀ y, ∀ C ∈ cs_at y, c_sem l X (yY xa) xa d' C) : ∀ C ∈ [cn_393, cn_427, cn_439, cn_446, cn_452], c_sem l X (yY xa) xa d C := by
  have hY := yY_ok xa
  have hYS := yY_str xa
  have hIx := ix_K_ok (l := l) (X := X) hY hYS
  refine List.forall_mem_cons.mpr ⟨c_meth mq_132_kt hY hYS hIx hX (q := mq_132) mq_132_at mq_132_pl mq_132_k cs_cy hcs cn_393_ok, ?_⟩
  refine List.forall_mem_cons.mpr ⟨c_meth mq_132_kt hY hYS hIx hX (q := mq_132) mq_132_at mq_132_pl mq_132_k cs_cy hcs cn_427_ok, ?_⟩
  refine List.forall_mem_cons.mpr ⟨c_meth mq_132_kt hY hYS hIx hX (q := mq_132) mq_132_at mq_132_pl mq_132_k cs_cy hcs cn_439_ok, ?_⟩
  refine List.forall_mem_cons.mpr ⟨c_meth mq_132_kt hY hYS hIx hX (q := mq_132) mq_132_at mq_132_pl mq_132_k cs_cy hcs cn_446_ok, ?_⟩
  refine List.forall_mem_cons.mpr ⟨c_meth mq_132_kt hY hYS hIx hX (q := mq_132) mq_132_at mq_132_pl mq_132_k cs_cy hcs cn_452_ok, ?_⟩
  exact fun _ h => absurd h List.not_mem_nil
theorem sm_133 (hX : ∀ i, i < 2 → X i = some ((x_tab i).map Int32.ofInt)) (hcs : ∀ d', d = d' + 1 → ∀ y, ∀ C ∈ cs_at y, c_sem l X (yY xa) xa d' C) : ∀ C ∈ [cn_404], c_sem l X (yY xa) xa d C := by
  have hY := yY_ok xa
  have hYS := yY_str xa
  have hIx := ix_K_ok (l := l) (X := X) hY hYS
  intro C hC
  obtain rfl := List.mem_singleton.mp hC
  exact c_meth mq_133_kt hY hYS hIx hX (q := mq_133) mq_133_at mq_133_pl mq_133_k cs_cy hcs cn_404_ok
theorem sm_134 (hX : ∀ i, i < 2 → X i = some ((x_tab i).map Int32.ofInt)) (hcs : ∀ d', d = d' + 1 → ∀ y, ∀ C ∈ cs_at y, c_sem l X (yY xa) xa d' C) : ∀ C ∈ [cn_380], c_sem l X (yY xa) xa d C := by
  have hY := yY_ok xa
  have hYS := yY_str xa
  have hIx := ix_K_ok (l := l) (X := X) hY hYS
  intro C hC
  obtain rfl := List.mem_singleton.mp hC
  exact c_meth mq_134_kt hY hYS hIx hX (q := mq_134) mq_134_at mq_134_pl mq_134_k cs_cy hcs cn_380_ok
theorem sm_135 (hX : ∀ i, i < 2 → X i = some ((x_tab i).map Int32.ofInt)) (hcs : ∀ d', d = d' + 1 → ∀ y, ∀ C ∈ cs_at y, c_sem l X (yY xa) xa d' C) : ∀ C ∈ [cn_383], c_sem l X (yY xa) xa d C := by
  have hY := yY_ok xa
  have hYS := yY_str xa
  have hIx := ix_K_ok (l := l) (X := X) hY hYS
  intro C hC
  obtain rfl := List.mem_singleton.mp hC
  exact c_meth mq_135_kt hY hYS hIx hX (q := mq_135) mq_135_at mq_135_pl mq_135_k cs_cy hcs cn_383_ok
theorem sm_136 (hX : ∀ i, i < 2 → X i = some ((x_tab i).map Int32.ofInt)) (hcs : ∀ d', d = d' + 1 → ∀ y, ∀ C ∈ cs_at y, c_sem l X (yY xa) xa d' C) : ∀ C ∈ [cn_340], c_sem l X (yY xa) xa d C := by
  have hY := yY_ok xa
  have hYS := yY_str xa
  have hIx := ix_K_ok (l := l) (X := X) hY hYS
  intro C hC
  obtain rfl := List.mem_singleton.mp hC
  exact c_meth mq_136_kt hY hYS hIx hX (q := mq_136) mq_136_at mq_136_pl mq_136_k cs_cy hcs cn_340_ok
theorem sm_137 (hX : ∀ i, i < 2 → X i = some ((x_tab i).map Int32.ofInt)) (hcs : ∀ d', d = d' + 1 → ∀ y, ∀ C ∈ cs_at y, c_sem l X (yY xa) xa d' C) : ∀ C ∈ [cn_346], c_sem l X (yY xa) xa d C := by
  have hY := yY_ok xa
  have hYS := yY_str xa
  have hIx := ix_K_ok (l := l) (X := X) hY hYS
  intro C hC
  obtain rfl := List.mem_singleton.mp hC
  exact c_meth mq_137_kt hY hYS hIx hX (q := mq_137) mq_137_at mq_137_pl mq_137_k cs_cy hcs cn_346_ok
theorem sm_138 (hX : ∀ i, i < 2 → X i = some ((x_tab i).map Int32.ofInt)) (hcs : ∀ d', d = d' + 1 → ∀ y, ∀ C ∈ cs_at y, c_sem l X (yY xa) xa d' C) : ∀ C ∈ [cn_474], c_sem l X (yY xa) xa d C := by
  have hY := yY_ok xa
  have hYS := yY_str xa
  have hIx := ix_K_ok (l := l) (X := X) hY hYS
  intro C hC
  obtain rfl := List.mem_singleton.mp hC
  exact c_meth mq_138_kt hY hYS hIx hX (q := mq_138) mq_138_at mq_138_pl mq_138_k cs_cy hcs cn_474_ok
theorem sm_139 (hX : ∀ i, i < 2 → X i = some ((x_tab i).map Int32.ofInt)) (hcs : ∀ d', d = d' + 1 → ∀ y, ∀ C ∈ cs_at y, c_sem l X (yY xa) xa d' C) : ∀ C ∈ [cn_472], c_sem l X (yY xa) xa d C := by
  have hY := yY_ok xa
  have hYS := yY_str xa
  have hIx := ix_K_ok (l := l) (X := X) hY hYS
  intro C hC
  obtain rfl := List.mem_singleton.mp hC
  exact c_meth mq_139_kt hY hYS hIx hX (q := mq_139) mq_139_at mq_139_pl mq_139_k cs_cy hcs cn_472_ok
theorem sm_140 (hX : ∀ i, i < 2 → X i = some ((x_tab i).map Int32.ofInt)) (hcs : ∀ d', d = d' + 1 → ∀ y, ∀ C ∈ cs_at y, c_sem l X (yY xa) xa d' C) : ∀ C ∈ [cn_32, cn_415, cn_434, cn_444, cn_450, cn_456, cn_462, cn_466, cn_470], c_sem l X (yY xa) xa d C := by
  have hY := yY_ok xa
  have hYS := yY_str xa
  have hIx := ix_K_ok (l := l) (X := X) hY hYS
  refine List.forall_mem_cons.mpr ⟨c_meth mq_140_kt hY hYS hIx hX (q := mq_140) mq_140_at mq_140_pl mq_140_k cs_cy hcs cn_32_ok, ?_⟩
  refine List.forall_mem_cons.mpr ⟨c_meth mq_140_kt hY hYS hIx hX (q := mq_140) mq_140_at mq_140_pl mq_140_k cs_cy hcs cn_415_ok, ?_⟩
  refine List.forall_mem_cons.mpr ⟨c_meth mq_140_kt hY hYS hIx hX (q := mq_140) mq_140_at mq_140_pl mq_140_k cs_cy hcs cn_434_ok, ?_⟩
  refine List.forall_mem_cons.mpr ⟨c_meth mq_140_kt hY hYS hIx hX (q := mq_140) mq_140_at mq_140_pl mq_140_k cs_cy hcs cn_444_ok, ?_⟩
  refine List.forall_mem_cons.mpr ⟨c_meth mq_140_kt hY hYS hIx hX (q := mq_140) mq_140_at mq_140_pl mq_140_k cs_cy hcs cn_450_ok, ?_⟩
  refine List.forall_mem_cons.mpr ⟨c_meth mq_140_kt hY hYS hIx hX (q := mq_140) mq_140_at mq_140_pl mq_140_k cs_cy hcs cn_456_ok, ?_⟩
  refine List.forall_mem_cons.mpr ⟨c_meth mq_140_kt hY hYS hIx hX (q := mq_140) mq_140_at mq_140_pl mq_140_k cs_cy hcs cn_462_ok, ?_⟩
  refine List.forall_mem_cons.mpr ⟨c_meth mq_140_kt hY hYS hIx hX (q := mq_140) mq_140_at mq_140_pl mq_140_k cs_cy hcs cn_466_ok, ?_⟩
  refine List.forall_mem_cons.mpr ⟨c_meth mq_140_kt hY hYS hIx hX (q := mq_140) mq_140_at mq_140_pl mq_140_k cs_cy hcs cn_470_ok, ?_⟩
  exact fun _ h => absurd h List.not_mem_nil
theorem sm_141 (hX : ∀ i, i < 2 → X i = some ((x_tab i).map Int32.ofInt)) (hcs : ∀ d', d = d' + 1 → ∀ y, ∀ C ∈ cs_at y, c_sem l X (yY xa) xa d' C) : ∀ C ∈ [cn_394, cn_428, cn_440, cn_447, cn_453, cn_459, cn_464, cn_468], c_sem l X (yY xa) xa d C := by
  have hY := yY_ok xa
  have hYS := yY_str xa
  have hIx := ix_K_ok (l := l) (X := X) hY hYS
  refine List.forall_mem_cons.mpr ⟨c_meth mq_141_kt hY hYS hIx hX (q := mq_141) mq_141_at mq_141_pl mq_141_k cs_cy hcs cn_394_ok, ?_⟩
  refine List.forall_mem_cons.mpr ⟨c_meth mq_141_kt hY hYS hIx hX (q := mq_141) mq_141_at mq_141_pl mq_141_k cs_cy hcs cn_428_ok, ?_⟩
  refine List.forall_mem_cons.mpr ⟨c_meth mq_141_kt hY hYS hIx hX (q := mq_141) mq_141_at mq_141_pl mq_141_k cs_cy hcs cn_440_ok, ?_⟩
  refine List.forall_mem_cons.mpr ⟨c_meth mq_141_kt hY hYS hIx hX (q := mq_141) mq_141_at mq_141_pl mq_141_k cs_cy hcs cn_447_ok, ?_⟩
  refine List.forall_mem_cons.mpr ⟨c_meth mq_141_kt hY hYS hIx hX (q := mq_141) mq_141_at mq_141_pl mq_141_k cs_cy hcs cn_453_ok, ?_⟩
  refine List.forall_mem_cons.mpr ⟨c_meth mq_141_kt hY hYS hIx hX (q := mq_141) mq_141_at mq_141_pl mq_141_k cs_cy hcs cn_459_ok, ?_⟩
  refine List.forall_mem_cons.mpr ⟨c_meth mq_141_kt hY hYS hIx hX (q := mq_141) mq_141_at mq_141_pl mq_141_k cs_cy hcs cn_464_ok, ?_⟩
  refine List.forall_mem_cons.mpr ⟨c_meth mq_141_kt hY hYS hIx hX (q := mq_141) mq_141_at mq_141_pl mq_141_k cs_cy hcs cn_468_ok, ?_⟩
  exact fun _ h => absurd h List.not_mem_nil
theorem sm_142 (hX : ∀ i, i < 2 → X i = some ((x_tab i).map Int32.ofInt)) (hcs : ∀ d', d = d' + 1 → ∀ y, ∀ C ∈ cs_at y, c_sem l X (yY xa) xa d' C) : ∀ C ∈ [cn_33], c_sem l X (yY xa) xa d C := by
  have hY := yY_ok xa
  have hYS := yY_str xa
  have hIx := ix_K_ok (l := l) (X := X) hY hYS
  intro C hC
  obtain rfl := List.mem_singleton.mp hC
  exact c_meth mq_142_kt hY hYS hIx hX (q := mq_142) mq_142_at mq_142_pl mq_142_k cs_cy hcs cn_33_ok
theorem sm_143 (hX : ∀ i, i < 2 → X i = some ((x_tab i).map Int32.ofInt)) (hcs : ∀ d', d = d' + 1 → ∀ y, ∀ C ∈ cs_at y, c_sem l X (yY xa) xa d' C) : ∀ C ∈ [cn_473], c_sem l X (yY xa) xa d C := by
  have hY := yY_ok xa
  have hYS := yY_str xa
  have hIx := ix_K_ok (l := l) (X := X) hY hYS
  intro C hC
  obtain rfl := List.mem_singleton.mp hC
  exact c_meth mq_143_kt hY hYS hIx hX (q := mq_143) mq_143_at mq_143_pl mq_143_k cs_cy hcs cn_473_ok
theorem sm_144 (hX : ∀ i, i < 2 → X i = some ((x_tab i).map Int32.ofInt)) (hcs : ∀ d', d = d' + 1 → ∀ y, ∀ C ∈ cs_at y, c_sem l X (yY xa) xa d' C) : ∀ C ∈ [cn_384], c_sem l X (yY xa) xa d C := by
  have hY := yY_ok xa
  have hYS := yY_str xa
  have hIx := ix_K_ok (l := l) (X := X) hY hYS
  intro C hC
  obtain rfl := List.mem_singleton.mp hC
  exact c_meth mq_144_kt hY hYS hIx hX (q := mq_144) mq_144_at mq_144_pl mq_144_k cs_cy hcs cn_384_ok
theorem sm_145 (hX : ∀ i, i < 2 → X i = some ((x_tab i).map Int32.ofInt)) (hcs : ∀ d', d = d' + 1 → ∀ y, ∀ C ∈ cs_at y, c_sem l X (yY xa) xa d' C) : ∀ C ∈ [cn_10], c_sem l X (yY xa) xa d C := by
  have hY := yY_ok xa
  have hYS := yY_str xa
  have hIx := ix_K_ok (l := l) (X := X) hY hYS
  intro C hC
  obtain rfl := List.mem_singleton.mp hC
  exact c_meth mq_145_kt hY hYS hIx hX (q := mq_145) mq_145_at mq_145_pl mq_145_k cs_cy hcs cn_10_ok
theorem sm_146 (hX : ∀ i, i < 2 → X i = some ((x_tab i).map Int32.ofInt)) (hcs : ∀ d', d = d' + 1 → ∀ y, ∀ C ∈ cs_at y, c_sem l X (yY xa) xa d' C) : ∀ C ∈ [cn_5], c_sem l X (yY xa) xa d C := by
  have hY := yY_ok xa
  have hYS := yY_str xa
  have hIx := ix_K_ok (l := l) (X := X) hY hYS
  intro C hC
  obtain rfl := List.mem_singleton.mp hC
  exact c_meth mq_146_kt hY hYS hIx hX (q := mq_146) mq_146_at mq_146_pl mq_146_k cs_cy hcs cn_5_ok
theorem sm_147 (hX : ∀ i, i < 2 → X i = some ((x_tab i).map Int32.ofInt)) (hcs : ∀ d', d = d' + 1 → ∀ y, ∀ C ∈ cs_at y, c_sem l X (yY xa) xa d' C) : ∀ C ∈ [cn_3], c_sem l X (yY xa) xa d C := by
  have hY := yY_ok xa
  have hYS := yY_str xa
  have hIx := ix_K_ok (l := l) (X := X) hY hYS
  intro C hC
  obtain rfl := List.mem_singleton.mp hC
  exact c_meth mq_147_kt hY hYS hIx hX (q := mq_147) mq_147_at mq_147_pl mq_147_k cs_cy hcs cn_3_ok
theorem sm_148 (hX : ∀ i, i < 2 → X i = some ((x_tab i).map Int32.ofInt)) (hcs : ∀ d', d = d' + 1 → ∀ y, ∀ C ∈ cs_at y, c_sem l X (yY xa) xa d' C) : ∀ C ∈ [cn_9], c_sem l X (yY xa) xa d C := by
  have hY := yY_ok xa
  have hYS := yY_str xa
  have hIx := ix_K_ok (l := l) (X := X) hY hYS
  intro C hC
  obtain rfl := List.mem_singleton.mp hC
  exact c_meth mq_148_kt hY hYS hIx hX (q := mq_148) mq_148_at mq_148_pl mq_148_k cs_cy hcs cn_9_ok
theorem sm_149 (hX : ∀ i, i < 2 → X i = some ((x_tab i).map Int32.ofInt)) (hcs : ∀ d', d = d' + 1 → ∀ y, ∀ C ∈ cs_at y, c_sem l X (yY xa) xa d' C) : ∀ C ∈ [cn_11], c_sem l X (yY xa) xa d C := by
  have hY := yY_ok xa
  have hYS := yY_str xa
  have hIx := ix_K_ok (l := l) (X := X) hY hYS
  intro C hC
  obtain rfl := List.mem_singleton.mp hC
  exact c_meth mq_149_kt hY hYS hIx hX (q := mq_149) mq_149_at mq_149_pl mq_149_k cs_cy hcs cn_11_ok
theorem sm_150 (hX : ∀ i, i < 2 → X i = some ((x_tab i).map Int32.ofInt)) (hcs : ∀ d', d = d' + 1 → ∀ y, ∀ C ∈ cs_at y, c_sem l X (yY xa) xa d' C) : ∀ C ∈ [cn_341], c_sem l X (yY xa) xa d C := by
  have hY := yY_ok xa
  have hYS := yY_str xa
  have hIx := ix_K_ok (l := l) (X := X) hY hYS
  intro C hC
  obtain rfl := List.mem_singleton.mp hC
  exact c_meth mq_150_kt hY hYS hIx hX (q := mq_150) mq_150_at mq_150_pl mq_150_k cs_cy hcs cn_341_ok
theorem sm_151 (hX : ∀ i, i < 2 → X i = some ((x_tab i).map Int32.ofInt)) (hcs : ∀ d', d = d' + 1 → ∀ y, ∀ C ∈ cs_at y, c_sem l X (yY xa) xa d' C) : ∀ C ∈ [cn_321], c_sem l X (yY xa) xa d C := by
  have hY := yY_ok xa
  have hYS := yY_str xa
  have hIx := ix_K_ok (l := l) (X := X) hY hYS
  intro C hC
  obtain rfl := List.mem_singleton.mp hC
  exact c_meth mq_151_kt hY hYS hIx hX (q := mq_151) mq_151_at mq_151_pl mq_151_k cs_cy hcs cn_321_ok
theorem sm_152 (hX : ∀ i, i < 2 → X i = some ((x_tab i).map Int32.ofInt)) (hcs : ∀ d', d = d' + 1 → ∀ y, ∀ C ∈ cs_at y, c_sem l X (yY xa) xa d' C) : ∀ C ∈ [cn_339], c_sem l X (yY xa) xa d C := by
  have hY := yY_ok xa
  have hYS := yY_str xa
  have hIx := ix_K_ok (l := l) (X := X) hY hYS
  intro C hC
  obtain rfl := List.mem_singleton.mp hC
  exact c_meth mq_152_kt hY hYS hIx hX (q := mq_152) mq_152_at mq_152_pl mq_152_k cs_cy hcs cn_339_ok
theorem sm_153 (hX : ∀ i, i < 2 → X i = some ((x_tab i).map Int32.ofInt)) (hcs : ∀ d', d = d' + 1 → ∀ y, ∀ C ∈ cs_at y, c_sem l X (yY xa) xa d' C) : ∀ C ∈ [cn_319], c_sem l X (yY xa) xa d C := by
  have hY := yY_ok xa
  have hYS := yY_str xa
  have hIx := ix_K_ok (l := l) (X := X) hY hYS
  intro C hC
  obtain rfl := List.mem_singleton.mp hC
  exact c_meth mq_153_kt hY hYS hIx hX (q := mq_153) mq_153_at mq_153_pl mq_153_k cs_cy hcs cn_319_ok
theorem sm_154 (hX : ∀ i, i < 2 → X i = some ((x_tab i).map Int32.ofInt)) (hcs : ∀ d', d = d' + 1 → ∀ y, ∀ C ∈ cs_at y, c_sem l X (yY xa) xa d' C) : ∀ C ∈ [cn_292], c_sem l X (yY xa) xa d C := by
  have hY := yY_ok xa
  have hYS := yY_str xa
  have hIx := ix_K_ok (l := l) (X := X) hY hYS
  intro C hC
  obtain rfl := List.mem_singleton.mp hC
  exact c_meth mq_154_kt hY hYS hIx hX (q := mq_154) mq_154_at mq_154_pl mq_154_k cs_cy hcs cn_292_ok
theorem sm_157 (hX : ∀ i, i < 2 → X i = some ((x_tab i).map Int32.ofInt)) (hcs : ∀ d', d = d' + 1 → ∀ y, ∀ C ∈ cs_at y, c_sem l X (yY xa) xa d' C) : ∀ C ∈ [cn_17], c_sem l X (yY xa) xa d C := by
  have hY := yY_ok xa
  have hYS := yY_str xa
  have hIx := ix_K_ok (l := l) (X := X) hY hYS
  intro C hC
  obtain rfl := List.mem_singleton.mp hC
  exact c_meth mq_157_kt hY hYS hIx hX (q := mq_157) mq_157_at mq_157_pl mq_157_k cs_cy hcs cn_17_ok
theorem sc_4 (hX : ∀ i, i < 2 → X i = some ((x_tab i).map Int32.ofInt)) (hcs : ∀ d', d = d' + 1 → ∀ y, ∀ C ∈ cs_at y, c_sem l X (yY xa) xa d' C) : ∀ r ∈ cs_tab_4, ∀ C ∈ r, c_sem l X (yY xa) xa d C := by
  unfold cs_tab_4
  refine List.forall_mem_cons.mpr ⟨sm_128 hX hcs, ?_⟩
  refine List.forall_mem_cons.mpr ⟨sm_129 hX hcs, ?_⟩
  refine List.forall_mem_cons.mpr ⟨sm_130 hX hcs, ?_⟩
  refine List.forall_mem_cons.mpr ⟨sm_131 hX hcs, ?_⟩
  refine List.forall_mem_cons.mpr ⟨sm_132 hX hcs, ?_⟩
  refine List.forall_mem_cons.mpr ⟨sm_133 hX hcs, ?_⟩
  refine List.forall_mem_cons.mpr ⟨sm_134 hX hcs, ?_⟩
  refine List.forall_mem_cons.mpr ⟨sm_135 hX hcs, ?_⟩
  refine List.forall_mem_cons.mpr ⟨sm_136 hX hcs, ?_⟩
  refine List.forall_mem_cons.mpr ⟨sm_137 hX hcs, ?_⟩
  refine List.forall_mem_cons.mpr ⟨sm_138 hX hcs, ?_⟩
  refine List.forall_mem_cons.mpr ⟨sm_139 hX hcs, ?_⟩
  refine List.forall_mem_cons.mpr ⟨sm_140 hX hcs, ?_⟩
  refine List.forall_mem_cons.mpr ⟨sm_141 hX hcs, ?_⟩
  refine List.forall_mem_cons.mpr ⟨sm_142 hX hcs, ?_⟩
  refine List.forall_mem_cons.mpr ⟨sm_143 hX hcs, ?_⟩
  refine List.forall_mem_cons.mpr ⟨sm_144 hX hcs, ?_⟩
  refine List.forall_mem_cons.mpr ⟨sm_145 hX hcs, ?_⟩
  refine List.forall_mem_cons.mpr ⟨sm_146 hX hcs, ?_⟩
  refine List.forall_mem_cons.mpr ⟨sm_147 hX hcs, ?_⟩
  refine List.forall_mem_cons.mpr ⟨sm_148 hX hcs, ?_⟩
  refine List.forall_mem_cons.mpr ⟨sm_149 hX hcs, ?_⟩
  refine List.forall_mem_cons.mpr ⟨sm_150 hX hcs, ?_⟩
  refine List.forall_mem_cons.mpr ⟨sm_151 hX hcs, ?_⟩
  refine List.forall_mem_cons.mpr ⟨sm_152 hX hcs, ?_⟩
  refine List.forall_mem_cons.mpr ⟨sm_153 hX hcs, ?_⟩
  refine List.forall_mem_cons.mpr ⟨sm_154 hX hcs, ?_⟩
  refine List.forall_mem_cons.mpr ⟨(fun _ h => absurd h List.not_mem_nil), ?_⟩
  refine List.forall_mem_cons.mpr ⟨(fun _ h => absurd h List.not_mem_nil), ?_⟩
  refine List.forall_mem_cons.mpr ⟨sm_157 hX hcs, ?_⟩
  refine List.forall_mem_cons.mpr ⟨(fun _ h => absurd h List.not_mem_nil), ?_⟩
  refine List.forall_mem_cons.mpr ⟨(fun _ h => absurd h List.not_mem_nil), ?_⟩
  exact fun _ h => absurd h List.not_mem_nil
end AS
end
section
/-! ALL CONTRACTS TOGETHER, 5 -/
section AS
variable {l : Launch} {X : Nat → Option (List Int32)} {xa : Nat → Nat} {d : Nat}
theorem sm_160 (hX : ∀ i, i < 2 → X i = some ((x_tab i).map Int32.ofInt)) (hcs : ∀ d', d = d' + 1 → ∀ y, ∀ C ∈ cs_at y, c_sem l X (yY xa) xa d' C) : ∀ C ∈ [cn_92], c_sem l X (yY xa) xa d C := by
  have hY := yY_ok xa
  have hYS := yY_str xa
  have hIx := ix_K_ok (l := l) (X := X) hY hYS
  intro C hC
  obtain rfl := List.mem_singleton.mp hC
  exact c_meth mq_160_kt hY hYS hIx hX (q := mq_160) mq_160_at mq_160_pl mq_160_k cs_cy hcs cn_92_ok
theorem sm_161 (hX : ∀ i, i < 2 → X i = some ((x_tab i).map Int32.ofInt)) (hcs : ∀ d', d = d' + 1 → ∀ y, ∀ C ∈ cs_at y, c_sem l X (yY xa) xa d' C) : ∀ C ∈ [cn_271], c_sem l X (yY xa) xa d C := by
  have hY := yY_ok xa
  have hYS := yY_str xa
  have hIx := ix_K_ok (l := l) (X := X) hY hYS
  intro C hC
  obtain rfl := List.mem_singleton.mp hC
  exact c_meth mq_161_kt hY hYS hIx hX (q := mq_161) mq_161_at mq_161_pl mq_161_k cs_cy hcs cn_271_ok
theorem sm_162 (hX : ∀ i, i < 2 → X i = some ((x_tab i).map Int32.ofInt)) (hcs : ∀ d', d = d' + 1 → ∀ y, ∀ C ∈ cs_at y, c_sem l X (yY xa) xa d' C) : ∀ C ∈ [cn_43], c_sem l X (yY xa) xa d C := by
  have hY := yY_ok xa
  have hYS := yY_str xa
  have hIx := ix_K_ok (l := l) (X := X) hY hYS
  intro C hC
  obtain rfl := List.mem_singleton.mp hC
  exact c_meth mq_162_kt hY hYS hIx hX (q := mq_162) mq_162_at mq_162_pl mq_162_k cs_cy hcs cn_43_ok
theorem sm_163 (hX : ∀ i, i < 2 → X i = some ((x_tab i).map Int32.ofInt)) (hcs : ∀ d', d = d' + 1 → ∀ y, ∀ C ∈ cs_at y, c_sem l X (yY xa) xa d' C) : ∀ C ∈ [cn_429], c_sem l X (yY xa) xa d C := by
  have hY := yY_ok xa
  have hYS := yY_str xa
  have hIx := ix_K_ok (l := l) (X := X) hY hYS
  intro C hC
  obtain rfl := List.mem_singleton.mp hC
  exact c_meth mq_163_kt hY hYS hIx hX (q := mq_163) mq_163_at mq_163_pl mq_163_k cs_cy hcs cn_429_ok
theorem sm_164 (hX : ∀ i, i < 2 → X i = some ((x_tab i).map Int32.ofInt)) (hcs : ∀ d', d = d' + 1 → ∀ y, ∀ C ∈ cs_at y, c_sem l X (yY xa) xa d' C) : ∀ C ∈ [cn_34, cn_35], c_sem l X (yY xa) xa d C := by
  have hY := yY_ok xa
  have hYS := yY_str xa
  have hIx := ix_K_ok (l := l) (X := X) hY hYS
  refine List.forall_mem_cons.mpr ⟨c_meth mq_164_kt hY hYS hIx hX (q := mq_164) mq_164_at mq_164_pl mq_164_k cs_cy hcs cn_34_ok, ?_⟩
  refine List.forall_mem_cons.mpr ⟨c_meth mq_164_kt hY hYS hIx hX (q := mq_164) mq_164_at mq_164_pl mq_164_k cs_cy hcs cn_35_ok, ?_⟩
  exact fun _ h => absurd h List.not_mem_nil
theorem sm_165 (hX : ∀ i, i < 2 → X i = some ((x_tab i).map Int32.ofInt)) (hcs : ∀ d', d = d' + 1 → ∀ y, ∀ C ∈ cs_at y, c_sem l X (yY xa) xa d' C) : ∀ C ∈ [cn_38], c_sem l X (yY xa) xa d C := by
  have hY := yY_ok xa
  have hYS := yY_str xa
  have hIx := ix_K_ok (l := l) (X := X) hY hYS
  intro C hC
  obtain rfl := List.mem_singleton.mp hC
  exact c_meth mq_165_kt hY hYS hIx hX (q := mq_165) mq_165_at mq_165_pl mq_165_k cs_cy hcs cn_38_ok
theorem sm_166 (hX : ∀ i, i < 2 → X i = some ((x_tab i).map Int32.ofInt)) (hcs : ∀ d', d = d' + 1 → ∀ y, ∀ C ∈ cs_at y, c_sem l X (yY xa) xa d' C) : ∀ C ∈ [cn_416, cn_417, cn_418], c_sem l X (yY xa) xa d C := by
  have hY := yY_ok xa
  have hYS := yY_str xa
  have hIx := ix_K_ok (l := l) (X := X) hY hYS
  refine List.forall_mem_cons.mpr ⟨c_meth mq_166_kt hY hYS hIx hX (q := mq_166) mq_166_at mq_166_pl mq_166_k cs_cy hcs cn_416_ok, ?_⟩
  refine List.forall_mem_cons.mpr ⟨c_meth mq_166_kt hY hYS hIx hX (q := mq_166) mq_166_at mq_166_pl mq_166_k cs_cy hcs cn_417_ok, ?_⟩
  refine List.forall_mem_cons.mpr ⟨c_meth mq_166_kt hY hYS hIx hX (q := mq_166) mq_166_at mq_166_pl mq_166_k cs_cy hcs cn_418_ok, ?_⟩
  exact fun _ h => absurd h List.not_mem_nil
theorem sm_167 (hX : ∀ i, i < 2 → X i = some ((x_tab i).map Int32.ofInt)) (hcs : ∀ d', d = d' + 1 → ∀ y, ∀ C ∈ cs_at y, c_sem l X (yY xa) xa d' C) : ∀ C ∈ [cn_396, cn_397, cn_398, cn_399, cn_400], c_sem l X (yY xa) xa d C := by
  have hY := yY_ok xa
  have hYS := yY_str xa
  have hIx := ix_K_ok (l := l) (X := X) hY hYS
  refine List.forall_mem_cons.mpr ⟨cn_396_sem hY d, ?_⟩
  refine List.forall_mem_cons.mpr ⟨cn_397_sem hY d, ?_⟩
  refine List.forall_mem_cons.mpr ⟨cn_398_sem hY d, ?_⟩
  refine List.forall_mem_cons.mpr ⟨cn_399_sem hY d, ?_⟩
  refine List.forall_mem_cons.mpr ⟨cn_400_sem hY d, ?_⟩
  exact fun _ h => absurd h List.not_mem_nil
theorem sm_168 (hX : ∀ i, i < 2 → X i = some ((x_tab i).map Int32.ofInt)) (hcs : ∀ d', d = d' + 1 → ∀ y, ∀ C ∈ cs_at y, c_sem l X (yY xa) xa d' C) : ∀ C ∈ [cn_41, cn_42], c_sem l X (yY xa) xa d C := by
  have hY := yY_ok xa
  have hYS := yY_str xa
  have hIx := ix_K_ok (l := l) (X := X) hY hYS
  refine List.forall_mem_cons.mpr ⟨c_meth mq_168_kt hY hYS hIx hX (q := mq_168) mq_168_at mq_168_pl mq_168_k cs_cy hcs cn_41_ok, ?_⟩
  refine List.forall_mem_cons.mpr ⟨c_meth mq_168_kt hY hYS hIx hX (q := mq_168) mq_168_at mq_168_pl mq_168_k cs_cy hcs cn_42_ok, ?_⟩
  exact fun _ h => absurd h List.not_mem_nil
theorem sm_169 (hX : ∀ i, i < 2 → X i = some ((x_tab i).map Int32.ofInt)) (hcs : ∀ d', d = d' + 1 → ∀ y, ∀ C ∈ cs_at y, c_sem l X (yY xa) xa d' C) : ∀ C ∈ [cn_272], c_sem l X (yY xa) xa d C := by
  have hY := yY_ok xa
  have hYS := yY_str xa
  have hIx := ix_K_ok (l := l) (X := X) hY hYS
  intro C hC
  obtain rfl := List.mem_singleton.mp hC
  exact c_meth mq_169_kt hY hYS hIx hX (q := mq_169) mq_169_at mq_169_pl mq_169_k cs_cy hcs cn_272_ok
theorem sm_170 (hX : ∀ i, i < 2 → X i = some ((x_tab i).map Int32.ofInt)) (hcs : ∀ d', d = d' + 1 → ∀ y, ∀ C ∈ cs_at y, c_sem l X (yY xa) xa d' C) : ∀ C ∈ [cn_281, cn_282], c_sem l X (yY xa) xa d C := by
  have hY := yY_ok xa
  have hYS := yY_str xa
  have hIx := ix_K_ok (l := l) (X := X) hY hYS
  refine List.forall_mem_cons.mpr ⟨c_meth mq_170_kt hY hYS hIx hX (q := mq_170) mq_170_at mq_170_pl mq_170_k cs_cy hcs cn_281_ok, ?_⟩
  refine List.forall_mem_cons.mpr ⟨c_meth mq_170_kt hY hYS hIx hX (q := mq_170) mq_170_at mq_170_pl mq_170_k cs_cy hcs cn_282_ok, ?_⟩
  exact fun _ h => absurd h List.not_mem_nil
theorem sm_171 (hX : ∀ i, i < 2 → X i = some ((x_tab i).map Int32.ofInt)) (hcs : ∀ d', d = d' + 1 → ∀ y, ∀ C ∈ cs_at y, c_sem l X (yY xa) xa d' C) : ∀ C ∈ [cn_278], c_sem l X (yY xa) xa d C := by
  have hY := yY_ok xa
  have hYS := yY_str xa
  have hIx := ix_K_ok (l := l) (X := X) hY hYS
  intro C hC
  obtain rfl := List.mem_singleton.mp hC
  exact c_meth mq_171_kt hY hYS hIx hX (q := mq_171) mq_171_at mq_171_pl mq_171_k cs_cy hcs cn_278_ok
theorem sm_172 (hX : ∀ i, i < 2 → X i = some ((x_tab i).map Int32.ofInt)) (hcs : ∀ d', d = d' + 1 → ∀ y, ∀ C ∈ cs_at y, c_sem l X (yY xa) xa d' C) : ∀ C ∈ [cn_430], c_sem l X (yY xa) xa d C := by
  have hY := yY_ok xa
  have hYS := yY_str xa
  have hIx := ix_K_ok (l := l) (X := X) hY hYS
  intro C hC
  obtain rfl := List.mem_singleton.mp hC
  exact c_meth mq_172_kt hY hYS hIx hX (q := mq_172) mq_172_at mq_172_pl mq_172_k cs_cy hcs cn_430_ok
theorem sm_173 (hX : ∀ i, i < 2 → X i = some ((x_tab i).map Int32.ofInt)) (hcs : ∀ d', d = d' + 1 → ∀ y, ∀ C ∈ cs_at y, c_sem l X (yY xa) xa d' C) : ∀ C ∈ [cn_419, cn_420, cn_421, cn_422, cn_423], c_sem l X (yY xa) xa d C := by
  have hY := yY_ok xa
  have hYS := yY_str xa
  have hIx := ix_K_ok (l := l) (X := X) hY hYS
  refine List.forall_mem_cons.mpr ⟨c_meth mq_173_kt hY hYS hIx hX (q := mq_173) mq_173_at mq_173_pl mq_173_k cs_cy hcs cn_419_ok, ?_⟩
  refine List.forall_mem_cons.mpr ⟨c_meth mq_173_kt hY hYS hIx hX (q := mq_173) mq_173_at mq_173_pl mq_173_k cs_cy hcs cn_420_ok, ?_⟩
  refine List.forall_mem_cons.mpr ⟨c_meth mq_173_kt hY hYS hIx hX (q := mq_173) mq_173_at mq_173_pl mq_173_k cs_cy hcs cn_421_ok, ?_⟩
  refine List.forall_mem_cons.mpr ⟨c_meth mq_173_kt hY hYS hIx hX (q := mq_173) mq_173_at mq_173_pl mq_173_k cs_cy hcs cn_422_ok, ?_⟩
  refine List.forall_mem_cons.mpr ⟨c_meth mq_173_kt hY hYS hIx hX (q := mq_173) mq_173_at mq_173_pl mq_173_k cs_cy hcs cn_423_ok, ?_⟩
  exact fun _ h => absurd h List.not_mem_nil
theorem sm_174 (hX : ∀ i, i < 2 → X i = some ((x_tab i).map Int32.ofInt)) (hcs : ∀ d', d = d' + 1 → ∀ y, ∀ C ∈ cs_at y, c_sem l X (yY xa) xa d' C) : ∀ C ∈ [cn_330, cn_331], c_sem l X (yY xa) xa d C := by
  have hY := yY_ok xa
  have hYS := yY_str xa
  have hIx := ix_K_ok (l := l) (X := X) hY hYS
  refine List.forall_mem_cons.mpr ⟨c_meth mq_174_kt hY hYS hIx hX (q := mq_174) mq_174_at mq_174_pl mq_174_k cs_cy hcs cn_330_ok, ?_⟩
  refine List.forall_mem_cons.mpr ⟨c_meth mq_174_kt hY hYS hIx hX (q := mq_174) mq_174_at mq_174_pl mq_174_k cs_cy hcs cn_331_ok, ?_⟩
  exact fun _ h => absurd h List.not_mem_nil
theorem sm_175 (hX : ∀ i, i < 2 → X i = some ((x_tab i).map Int32.ofInt)) (hcs : ∀ d', d = d' + 1 → ∀ y, ∀ C ∈ cs_at y, c_sem l X (yY xa) xa d' C) : ∀ C ∈ [cn_531], c_sem l X (yY xa) xa d C := by
  have hY := yY_ok xa
  have hYS := yY_str xa
  have hIx := ix_K_ok (l := l) (X := X) hY hYS
  intro C hC
  obtain rfl := List.mem_singleton.mp hC
  exact c_meth mq_175_kt hY hYS hIx hX (q := mq_175) mq_175_at mq_175_pl mq_175_k cs_cy hcs cn_531_ok
theorem sm_176 (hX : ∀ i, i < 2 → X i = some ((x_tab i).map Int32.ofInt)) (hcs : ∀ d', d = d' + 1 → ∀ y, ∀ C ∈ cs_at y, c_sem l X (yY xa) xa d' C) : ∀ C ∈ [cn_510, cn_511], c_sem l X (yY xa) xa d C := by
  have hY := yY_ok xa
  have hYS := yY_str xa
  have hIx := ix_K_ok (l := l) (X := X) hY hYS
  refine List.forall_mem_cons.mpr ⟨c_meth mq_176_kt hY hYS hIx hX (q := mq_176) mq_176_at mq_176_pl mq_176_k cs_cy hcs cn_510_ok, ?_⟩
  refine List.forall_mem_cons.mpr ⟨c_meth mq_176_kt hY hYS hIx hX (q := mq_176) mq_176_at mq_176_pl mq_176_k cs_cy hcs cn_511_ok, ?_⟩
  exact fun _ h => absurd h List.not_mem_nil
theorem sm_177 (hX : ∀ i, i < 2 → X i = some ((x_tab i).map Int32.ofInt)) (hcs : ∀ d', d = d' + 1 → ∀ y, ∀ C ∈ cs_at y, c_sem l X (yY xa) xa d' C) : ∀ C ∈ [cn_508, cn_509], c_sem l X (yY xa) xa d C := by
  have hY := yY_ok xa
  have hYS := yY_str xa
  have hIx := ix_K_ok (l := l) (X := X) hY hYS
  refine List.forall_mem_cons.mpr ⟨c_meth mq_177_kt hY hYS hIx hX (q := mq_177) mq_177_at mq_177_pl mq_177_k cs_cy hcs cn_508_ok, ?_⟩
  refine List.forall_mem_cons.mpr ⟨c_meth mq_177_kt hY hYS hIx hX (q := mq_177) mq_177_at mq_177_pl mq_177_k cs_cy hcs cn_509_ok, ?_⟩
  exact fun _ h => absurd h List.not_mem_nil
theorem sm_178 (hX : ∀ i, i < 2 → X i = some ((x_tab i).map Int32.ofInt)) (hcs : ∀ d', d = d' + 1 → ∀ y, ∀ C ∈ cs_at y, c_sem l X (yY xa) xa d' C) : ∀ C ∈ [cn_506, cn_507], c_sem l X (yY xa) xa d C := by
  have hY := yY_ok xa
  have hYS := yY_str xa
  have hIx := ix_K_ok (l := l) (X := X) hY hYS
  refine List.forall_mem_cons.mpr ⟨c_meth mq_178_kt hY hYS hIx hX (q := mq_178) mq_178_at mq_178_pl mq_178_k cs_cy hcs cn_506_ok, ?_⟩
  refine List.forall_mem_cons.mpr ⟨c_meth mq_178_kt hY hYS hIx hX (q := mq_178) mq_178_at mq_178_pl mq_178_k cs_cy hcs cn_507_ok, ?_⟩
  exact fun _ h => absurd h List.not_mem_nil
theorem sm_179 (hX : ∀ i, i < 2 → X i = some ((x_tab i).map Int32.ofInt)) (hcs : ∀ d', d = d' + 1 → ∀ y, ∀ C ∈ cs_at y, c_sem l X (yY xa) xa d' C) : ∀ C ∈ [cn_504, cn_505], c_sem l X (yY xa) xa d C := by
  have hY := yY_ok xa
  have hYS := yY_str xa
  have hIx := ix_K_ok (l := l) (X := X) hY hYS
  refine List.forall_mem_cons.mpr ⟨c_meth mq_179_kt hY hYS hIx hX (q := mq_179) mq_179_at mq_179_pl mq_179_k cs_cy hcs cn_504_ok, ?_⟩
  refine List.forall_mem_cons.mpr ⟨c_meth mq_179_kt hY hYS hIx hX (q := mq_179) mq_179_at mq_179_pl mq_179_k cs_cy hcs cn_505_ok, ?_⟩
  exact fun _ h => absurd h List.not_mem_nil
theorem sm_180 (hX : ∀ i, i < 2 → X i = some ((x_tab i).map Int32.ofInt)) (hcs : ∀ d', d = d' + 1 → ∀ y, ∀ C ∈ cs_at y, c_sem l X (yY xa) xa d' C) : ∀ C ∈ [cn_78], c_sem l X (yY xa) xa d C := by
  have hY := yY_ok xa
  have hYS := yY_str xa
  have hIx := ix_K_ok (l := l) (X := X) hY hYS
  intro C hC
  obtain rfl := List.mem_singleton.mp hC
  exact c_meth mq_180_kt hY hYS hIx hX (q := mq_180) mq_180_at mq_180_pl mq_180_k cs_cy hcs cn_78_ok
theorem sm_181 (hX : ∀ i, i < 2 → X i = some ((x_tab i).map Int32.ofInt)) (hcs : ∀ d', d = d' + 1 → ∀ y, ∀ C ∈ cs_at y, c_sem l X (yY xa) xa d' C) : ∀ C ∈ [cn_575], c_sem l X (yY xa) xa d C := by
  have hY := yY_ok xa
  have hYS := yY_str xa
  have hIx := ix_K_ok (l := l) (X := X) hY hYS
  intro C hC
  obtain rfl := List.mem_singleton.mp hC
  exact c_meth mq_181_kt hY hYS hIx hX (q := mq_181) mq_181_at mq_181_pl mq_181_k cs_cy hcs cn_575_ok
theorem sm_182 (hX : ∀ i, i < 2 → X i = some ((x_tab i).map Int32.ofInt)) (hcs : ∀ d', d = d' + 1 → ∀ y, ∀ C ∈ cs_at y, c_sem l X (yY xa) xa d' C) : ∀ C ∈ [cn_79], c_sem l X (yY xa) xa d C := by
  have hY := yY_ok xa
  have hYS := yY_str xa
  have hIx := ix_K_ok (l := l) (X := X) hY hYS
  intro C hC
  obtain rfl := List.mem_singleton.mp hC
  exact c_meth mq_182_kt hY hYS hIx hX (q := mq_182) mq_182_at mq_182_pl mq_182_k cs_cy hcs cn_79_ok
theorem sm_183 (hX : ∀ i, i < 2 → X i = some ((x_tab i).map Int32.ofInt)) (hcs : ∀ d', d = d' + 1 → ∀ y, ∀ C ∈ cs_at y, c_sem l X (yY xa) xa d' C) : ∀ C ∈ [cn_80, cn_81], c_sem l X (yY xa) xa d C := by
  have hY := yY_ok xa
  have hYS := yY_str xa
  have hIx := ix_K_ok (l := l) (X := X) hY hYS
  refine List.forall_mem_cons.mpr ⟨c_meth mq_183_kt hY hYS hIx hX (q := mq_183) mq_183_at mq_183_pl mq_183_k cs_cy hcs cn_80_ok, ?_⟩
  refine List.forall_mem_cons.mpr ⟨c_meth mq_183_kt hY hYS hIx hX (q := mq_183) mq_183_at mq_183_pl mq_183_k cs_cy hcs cn_81_ok, ?_⟩
  exact fun _ h => absurd h List.not_mem_nil
theorem sm_184 (hX : ∀ i, i < 2 → X i = some ((x_tab i).map Int32.ofInt)) (hcs : ∀ d', d = d' + 1 → ∀ y, ∀ C ∈ cs_at y, c_sem l X (yY xa) xa d' C) : ∀ C ∈ [cn_289, cn_290], c_sem l X (yY xa) xa d C := by
  have hY := yY_ok xa
  have hYS := yY_str xa
  have hIx := ix_K_ok (l := l) (X := X) hY hYS
  refine List.forall_mem_cons.mpr ⟨c_meth mq_184_kt hY hYS hIx hX (q := mq_184) mq_184_at mq_184_pl mq_184_k cs_cy hcs cn_289_ok, ?_⟩
  refine List.forall_mem_cons.mpr ⟨c_meth mq_184_kt hY hYS hIx hX (q := mq_184) mq_184_at mq_184_pl mq_184_k cs_cy hcs cn_290_ok, ?_⟩
  exact fun _ h => absurd h List.not_mem_nil
theorem sm_185 (hX : ∀ i, i < 2 → X i = some ((x_tab i).map Int32.ofInt)) (hcs : ∀ d', d = d' + 1 → ∀ y, ∀ C ∈ cs_at y, c_sem l X (yY xa) xa d' C) : ∀ C ∈ [cn_40], c_sem l X (yY xa) xa d C := by
  have hY := yY_ok xa
  have hYS := yY_str xa
  have hIx := ix_K_ok (l := l) (X := X) hY hYS
  intro C hC
  obtain rfl := List.mem_singleton.mp hC
  exact c_meth mq_185_kt hY hYS hIx hX (q := mq_185) mq_185_at mq_185_pl mq_185_k cs_cy hcs cn_40_ok
theorem sm_186 (hX : ∀ i, i < 2 → X i = some ((x_tab i).map Int32.ofInt)) (hcs : ∀ d', d = d' + 1 → ∀ y, ∀ C ∈ cs_at y, c_sem l X (yY xa) xa d' C) : ∀ C ∈ [cn_97, cn_98], c_sem l X (yY xa) xa d C := by
  have hY := yY_ok xa
  have hYS := yY_str xa
  have hIx := ix_K_ok (l := l) (X := X) hY hYS
  refine List.forall_mem_cons.mpr ⟨c_meth mq_186_kt hY hYS hIx hX (q := mq_186) mq_186_at mq_186_pl mq_186_k cs_cy hcs cn_97_ok, ?_⟩
  refine List.forall_mem_cons.mpr ⟨c_meth mq_186_kt hY hYS hIx hX (q := mq_186) mq_186_at mq_186_pl mq_186_k cs_cy hcs cn_98_ok, ?_⟩
  exact fun _ h => absurd h List.not_mem_nil
theorem sm_187 (hX : ∀ i, i < 2 → X i = some ((x_tab i).map Int32.ofInt)) (hcs : ∀ d', d = d' + 1 → ∀ y, ∀ C ∈ cs_at y, c_sem l X (yY xa) xa d' C) : ∀ C ∈ [cn_553, cn_554, cn_555, cn_556, cn_557, cn_558, cn_559, cn_560, cn_561, cn_562, cn_563, cn_564, cn_565, cn_566, cn_567, cn_568, cn_569, cn_570, cn_571], c_sem l X (yY xa) xa d C := by
  have hY := yY_ok xa
  have hYS := yY_str xa
  have hIx := ix_K_ok (l := l) (X := X) hY hYS
  refine List.forall_mem_cons.mpr ⟨c_meth mq_187_kt hY hYS hIx hX (q := mq_187) mq_187_at mq_187_pl mq_187_k cs_cy hcs cn_553_ok, ?_⟩
  refine List.forall_mem_cons.mpr ⟨c_meth mq_187_kt hY hYS hIx hX (q := mq_187) mq_187_at mq_187_pl mq_187_k cs_cy hcs cn_554_ok, ?_⟩
  refine List.forall_mem_cons.mpr ⟨c_meth mq_187_kt hY hYS hIx hX (q := mq_187) mq_187_at mq_187_pl mq_187_k cs_cy hcs cn_555_ok, ?_⟩
  refine List.forall_mem_cons.mpr ⟨c_meth mq_187_kt hY hYS hIx hX (q := mq_187) mq_187_at mq_187_pl mq_187_k cs_cy hcs cn_556_ok, ?_⟩
  refine List.forall_mem_cons.mpr ⟨c_meth mq_187_kt hY hYS hIx hX (q := mq_187) mq_187_at mq_187_pl mq_187_k cs_cy hcs cn_557_ok, ?_⟩
  refine List.forall_mem_cons.mpr ⟨c_meth mq_187_kt hY hYS hIx hX (q := mq_187) mq_187_at mq_187_pl mq_187_k cs_cy hcs cn_558_ok, ?_⟩
  refine List.forall_mem_cons.mpr ⟨c_meth mq_187_kt hY hYS hIx hX (q := mq_187) mq_187_at mq_187_pl mq_187_k cs_cy hcs cn_559_ok, ?_⟩
  refine List.forall_mem_cons.mpr ⟨c_meth mq_187_kt hY hYS hIx hX (q := mq_187) mq_187_at mq_187_pl mq_187_k cs_cy hcs cn_560_ok, ?_⟩
  refine List.forall_mem_cons.mpr ⟨c_meth mq_187_kt hY hYS hIx hX (q := mq_187) mq_187_at mq_187_pl mq_187_k cs_cy hcs cn_561_ok, ?_⟩
  refine List.forall_mem_cons.mpr ⟨c_meth mq_187_kt hY hYS hIx hX (q := mq_187) mq_187_at mq_187_pl mq_187_k cs_cy hcs cn_562_ok, ?_⟩
  refine List.forall_mem_cons.mpr ⟨c_meth mq_187_kt hY hYS hIx hX (q := mq_187) mq_187_at mq_187_pl mq_187_k cs_cy hcs cn_563_ok, ?_⟩
  refine List.forall_mem_cons.mpr ⟨c_meth mq_187_kt hY hYS hIx hX (q := mq_187) mq_187_at mq_187_pl mq_187_k cs_cy hcs cn_564_ok, ?_⟩
  refine List.forall_mem_cons.mpr ⟨c_meth mq_187_kt hY hYS hIx hX (q := mq_187) mq_187_at mq_187_pl mq_187_k cs_cy hcs cn_565_ok, ?_⟩
  refine List.forall_mem_cons.mpr ⟨c_meth mq_187_kt hY hYS hIx hX (q := mq_187) mq_187_at mq_187_pl mq_187_k cs_cy hcs cn_566_ok, ?_⟩
  refine List.forall_mem_cons.mpr ⟨c_meth mq_187_kt hY hYS hIx hX (q := mq_187) mq_187_at mq_187_pl mq_187_k cs_cy hcs cn_567_ok, ?_⟩
  refine List.forall_mem_cons.mpr ⟨c_meth mq_187_kt hY hYS hIx hX (q := mq_187) mq_187_at mq_187_pl mq_187_k cs_cy hcs cn_568_ok, ?_⟩
  refine List.forall_mem_cons.mpr ⟨c_meth mq_187_kt hY hYS hIx hX (q := mq_187) mq_187_at mq_187_pl mq_187_k cs_cy hcs cn_569_ok, ?_⟩
  refine List.forall_mem_cons.mpr ⟨c_meth mq_187_kt hY hYS hIx hX (q := mq_187) mq_187_at mq_187_pl mq_187_k cs_cy hcs cn_570_ok, ?_⟩
  refine List.forall_mem_cons.mpr ⟨c_meth mq_187_kt hY hYS hIx hX (q := mq_187) mq_187_at mq_187_pl mq_187_k cs_cy hcs cn_571_ok, ?_⟩
  exact fun _ h => absurd h List.not_mem_nil
theorem sm_188 (hX : ∀ i, i < 2 → X i = some ((x_tab i).map Int32.ofInt)) (hcs : ∀ d', d = d' + 1 → ∀ y, ∀ C ∈ cs_at y, c_sem l X (yY xa) xa d' C) : ∀ C ∈ [cn_532, cn_533, cn_534, cn_535, cn_536, cn_537, cn_538, cn_539, cn_540, cn_541, cn_542, cn_543, cn_544, cn_545, cn_546, cn_547, cn_548, cn_549, cn_550], c_sem l X (yY xa) xa d C := by
  have hY := yY_ok xa
  have hYS := yY_str xa
  have hIx := ix_K_ok (l := l) (X := X) hY hYS
  refine List.forall_mem_cons.mpr ⟨c_meth mq_188_kt hY hYS hIx hX (q := mq_188) mq_188_at mq_188_pl mq_188_k cs_cy hcs cn_532_ok, ?_⟩
  refine List.forall_mem_cons.mpr ⟨c_meth mq_188_kt hY hYS hIx hX (q := mq_188) mq_188_at mq_188_pl mq_188_k cs_cy hcs cn_533_ok, ?_⟩
  refine List.forall_mem_cons.mpr ⟨c_meth mq_188_kt hY hYS hIx hX (q := mq_188) mq_188_at mq_188_pl mq_188_k cs_cy hcs cn_534_ok, ?_⟩
  refine List.forall_mem_cons.mpr ⟨c_meth mq_188_kt hY hYS hIx hX (q := mq_188) mq_188_at mq_188_pl mq_188_k cs_cy hcs cn_535_ok, ?_⟩
  refine List.forall_mem_cons.mpr ⟨c_meth mq_188_kt hY hYS hIx hX (q := mq_188) mq_188_at mq_188_pl mq_188_k cs_cy hcs cn_536_ok, ?_⟩
  refine List.forall_mem_cons.mpr ⟨c_meth mq_188_kt hY hYS hIx hX (q := mq_188) mq_188_at mq_188_pl mq_188_k cs_cy hcs cn_537_ok, ?_⟩
  refine List.forall_mem_cons.mpr ⟨c_meth mq_188_kt hY hYS hIx hX (q := mq_188) mq_188_at mq_188_pl mq_188_k cs_cy hcs cn_538_ok, ?_⟩
  refine List.forall_mem_cons.mpr ⟨c_meth mq_188_kt hY hYS hIx hX (q := mq_188) mq_188_at mq_188_pl mq_188_k cs_cy hcs cn_539_ok, ?_⟩
  refine List.forall_mem_cons.mpr ⟨c_meth mq_188_kt hY hYS hIx hX (q := mq_188) mq_188_at mq_188_pl mq_188_k cs_cy hcs cn_540_ok, ?_⟩
  refine List.forall_mem_cons.mpr ⟨c_meth mq_188_kt hY hYS hIx hX (q := mq_188) mq_188_at mq_188_pl mq_188_k cs_cy hcs cn_541_ok, ?_⟩
  refine List.forall_mem_cons.mpr ⟨c_meth mq_188_kt hY hYS hIx hX (q := mq_188) mq_188_at mq_188_pl mq_188_k cs_cy hcs cn_542_ok, ?_⟩
  refine List.forall_mem_cons.mpr ⟨c_meth mq_188_kt hY hYS hIx hX (q := mq_188) mq_188_at mq_188_pl mq_188_k cs_cy hcs cn_543_ok, ?_⟩
  refine List.forall_mem_cons.mpr ⟨c_meth mq_188_kt hY hYS hIx hX (q := mq_188) mq_188_at mq_188_pl mq_188_k cs_cy hcs cn_544_ok, ?_⟩
  refine List.forall_mem_cons.mpr ⟨c_meth mq_188_kt hY hYS hIx hX (q := mq_188) mq_188_at mq_188_pl mq_188_k cs_cy hcs cn_545_ok, ?_⟩
  refine List.forall_mem_cons.mpr ⟨c_meth mq_188_kt hY hYS hIx hX (q := mq_188) mq_188_at mq_188_pl mq_188_k cs_cy hcs cn_546_ok, ?_⟩
  refine List.forall_mem_cons.mpr ⟨c_meth mq_188_kt hY hYS hIx hX (q := mq_188) mq_188_at mq_188_pl mq_188_k cs_cy hcs cn_547_ok, ?_⟩
  refine List.forall_mem_cons.mpr ⟨c_meth mq_188_kt hY hYS hIx hX (q := mq_188) mq_188_at mq_188_pl mq_188_k cs_cy hcs cn_548_ok, ?_⟩
  refine List.forall_mem_cons.mpr ⟨c_meth mq_188_kt hY hYS hIx hX (q := mq_188) mq_188_at mq_188_pl mq_188_k cs_cy hcs cn_549_ok, ?_⟩
  refine List.forall_mem_cons.mpr ⟨c_meth mq_188_kt hY hYS hIx hX (q := mq_188) mq_188_at mq_188_pl mq_188_k cs_cy hcs cn_550_ok, ?_⟩
  exact fun _ h => absurd h List.not_mem_nil
theorem sm_189 (hX : ∀ i, i < 2 → X i = some ((x_tab i).map Int32.ofInt)) (hcs : ∀ d', d = d' + 1 → ∀ y, ∀ C ∈ cs_at y, c_sem l X (yY xa) xa d' C) : ∀ C ∈ [cn_512, cn_513, cn_514, cn_515, cn_516, cn_517, cn_518, cn_519, cn_520, cn_521, cn_522, cn_523, cn_524, cn_525, cn_526, cn_527, cn_528, cn_529, cn_530], c_sem l X (yY xa) xa d C := by
  have hY := yY_ok xa
  have hYS := yY_str xa
  have hIx := ix_K_ok (l := l) (X := X) hY hYS
  refine List.forall_mem_cons.mpr ⟨c_meth mq_189_kt hY hYS hIx hX (q := mq_189) mq_189_at mq_189_pl mq_189_k cs_cy hcs cn_512_ok, ?_⟩
  refine List.forall_mem_cons.mpr ⟨c_meth mq_189_kt hY hYS hIx hX (q := mq_189) mq_189_at mq_189_pl mq_189_k cs_cy hcs cn_513_ok, ?_⟩
  refine List.forall_mem_cons.mpr ⟨c_meth mq_189_kt hY hYS hIx hX (q := mq_189) mq_189_at mq_189_pl mq_189_k cs_cy hcs cn_514_ok, ?_⟩
  refine List.forall_mem_cons.mpr ⟨c_meth mq_189_kt hY hYS hIx hX (q := mq_189) mq_189_at mq_189_pl mq_189_k cs_cy hcs cn_515_ok, ?_⟩
  refine List.forall_mem_cons.mpr ⟨c_meth mq_189_kt hY hYS hIx hX (q := mq_189) mq_189_at mq_189_pl mq_189_k cs_cy hcs cn_516_ok, ?_⟩
  refine List.forall_mem_cons.mpr ⟨c_meth mq_189_kt hY hYS hIx hX (q := mq_189) mq_189_at mq_189_pl mq_189_k cs_cy hcs cn_517_ok, ?_⟩
  refine List.forall_mem_cons.mpr ⟨c_meth mq_189_kt hY hYS hIx hX (q := mq_189) mq_189_at mq_189_pl mq_189_k cs_cy hcs cn_518_ok, ?_⟩
  refine List.forall_mem_cons.mpr ⟨c_meth mq_189_kt hY hYS hIx hX (q := mq_189) mq_189_at mq_189_pl mq_189_k cs_cy hcs cn_519_ok, ?_⟩
  refine List.forall_mem_cons.mpr ⟨c_meth mq_189_kt hY hYS hIx hX (q := mq_189) mq_189_at mq_189_pl mq_189_k cs_cy hcs cn_520_ok, ?_⟩
  refine List.forall_mem_cons.mpr ⟨c_meth mq_189_kt hY hYS hIx hX (q := mq_189) mq_189_at mq_189_pl mq_189_k cs_cy hcs cn_521_ok, ?_⟩
  refine List.forall_mem_cons.mpr ⟨c_meth mq_189_kt hY hYS hIx hX (q := mq_189) mq_189_at mq_189_pl mq_189_k cs_cy hcs cn_522_ok, ?_⟩
  refine List.forall_mem_cons.mpr ⟨c_meth mq_189_kt hY hYS hIx hX (q := mq_189) mq_189_at mq_189_pl mq_189_k cs_cy hcs cn_523_ok, ?_⟩
  refine List.forall_mem_cons.mpr ⟨c_meth mq_189_kt hY hYS hIx hX (q := mq_189) mq_189_at mq_189_pl mq_189_k cs_cy hcs cn_524_ok, ?_⟩
  refine List.forall_mem_cons.mpr ⟨c_meth mq_189_kt hY hYS hIx hX (q := mq_189) mq_189_at mq_189_pl mq_189_k cs_cy hcs cn_525_ok, ?_⟩
  refine List.forall_mem_cons.mpr ⟨c_meth mq_189_kt hY hYS hIx hX (q := mq_189) mq_189_at mq_189_pl mq_189_k cs_cy hcs cn_526_ok, ?_⟩
  refine List.forall_mem_cons.mpr ⟨c_meth mq_189_kt hY hYS hIx hX (q := mq_189) mq_189_at mq_189_pl mq_189_k cs_cy hcs cn_527_ok, ?_⟩
  refine List.forall_mem_cons.mpr ⟨c_meth mq_189_kt hY hYS hIx hX (q := mq_189) mq_189_at mq_189_pl mq_189_k cs_cy hcs cn_528_ok, ?_⟩
  refine List.forall_mem_cons.mpr ⟨c_meth mq_189_kt hY hYS hIx hX (q := mq_189) mq_189_at mq_189_pl mq_189_k cs_cy hcs cn_529_ok, ?_⟩
  refine List.forall_mem_cons.mpr ⟨c_meth mq_189_kt hY hYS hIx hX (q := mq_189) mq_189_at mq_189_pl mq_189_k cs_cy hcs cn_530_ok, ?_⟩
  exact fun _ h => absurd h List.not_mem_nil
theorem sm_190 (hX : ∀ i, i < 2 → X i = some ((x_tab i).map Int32.ofInt)) (hcs : ∀ d', d = d' + 1 → ∀ y, ∀ C ∈ cs_at y, c_sem l X (yY xa) xa d' C) : ∀ C ∈ [cn_333], c_sem l X (yY xa) xa d C := by
  have hY := yY_ok xa
  have hYS := yY_str xa
  have hIx := ix_K_ok (l := l) (X := X) hY hYS
  intro C hC
  obtain rfl := List.mem_singleton.mp hC
  exact c_meth mq_190_kt hY hYS hIx hX (q := mq_190) mq_190_at mq_190_pl mq_190_k cs_cy hcs cn_333_ok
theorem sm_191 (hX : ∀ i, i < 2 → X i = some ((x_tab i).map Int32.ofInt)) (hcs : ∀ d', d = d' + 1 → ∀ y, ∀ C ∈ cs_at y, c_sem l X (yY xa) xa d' C) : ∀ C ∈ [cn_277], c_sem l X (yY xa) xa d C := by
  have hY := yY_ok xa
  have hYS := yY_str xa
  have hIx := ix_K_ok (l := l) (X := X) hY hYS
  intro C hC
  obtain rfl := List.mem_singleton.mp hC
  exact c_meth mq_191_kt hY hYS hIx hX (q := mq_191) mq_191_at mq_191_pl mq_191_k cs_cy hcs cn_277_ok
theorem sc_5 (hX : ∀ i, i < 2 → X i = some ((x_tab i).map Int32.ofInt)) (hcs : ∀ d', d = d' + 1 → ∀ y, ∀ C ∈ cs_at y, c_sem l X (yY xa) xa d' C) : ∀ r ∈ cs_tab_5, ∀ C ∈ r, c_sem l X (yY xa) xa d C := by
  unfold cs_tab_5
  refine List.forall_mem_cons.mpr ⟨sm_160 hX hcs, ?_⟩
  refine List.forall_mem_cons.mpr ⟨sm_161 hX hcs, ?_⟩
  refine List.forall_mem_cons.mpr ⟨sm_162 hX hcs, ?_⟩
  refine List.forall_mem_cons.mpr ⟨sm_163 hX hcs, ?_⟩
  refine List.forall_mem_cons.mpr ⟨sm_164 hX hcs, ?_⟩
  refine List.forall_mem_cons.mpr ⟨sm_165 hX hcs, ?_⟩
  refine List.forall_mem_cons.mpr ⟨sm_166 hX hcs, ?_⟩
  refine List.forall_mem_cons.mpr ⟨sm_167 hX hcs, ?_⟩
  refine List.forall_mem_cons.mpr ⟨sm_168 hX hcs, ?_⟩
  refine List.forall_mem_cons.mpr ⟨sm_169 hX hcs, ?_⟩
  refine List.forall_mem_cons.mpr ⟨sm_170 hX hcs, ?_⟩
  refine List.forall_mem_cons.mpr ⟨sm_171 hX hcs, ?_⟩
  refine List.forall_mem_cons.mpr ⟨sm_172 hX hcs, ?_⟩
  refine List.forall_mem_cons.mpr ⟨sm_173 hX hcs, ?_⟩
  refine List.forall_mem_cons.mpr ⟨sm_174 hX hcs, ?_⟩
  refine List.forall_mem_cons.mpr ⟨sm_175 hX hcs, ?_⟩
  refine List.forall_mem_cons.mpr ⟨sm_176 hX hcs, ?_⟩
  refine List.forall_mem_cons.mpr ⟨sm_177 hX hcs, ?_⟩
  refine List.forall_mem_cons.mpr ⟨sm_178 hX hcs, ?_⟩
  refine List.forall_mem_cons.mpr ⟨sm_179 hX hcs, ?_⟩
  refine List.forall_mem_cons.mpr ⟨sm_180 hX hcs, ?_⟩
  refine List.forall_mem_cons.mpr ⟨sm_181 hX hcs, ?_⟩
  refine List.forall_mem_cons.mpr ⟨sm_182 hX hcs, ?_⟩
  refine List.forall_mem_cons.mpr ⟨sm_183 hX hcs, ?_⟩
  refine List.forall_mem_cons.mpr ⟨sm_184 hX hcs, ?_⟩
  refine List.forall_mem_cons.mpr ⟨sm_185 hX hcs, ?_⟩
  refine List.forall_mem_cons.mpr ⟨sm_186 hX hcs, ?_⟩
  refine List.forall_mem_cons.mpr ⟨sm_187 hX hcs, ?_⟩
  refine List.forall_mem_cons.mpr ⟨sm_188 hX hcs, ?_⟩
  refine List.forall_mem_cons.mpr ⟨sm_189 hX hcs, ?_⟩
  refine List.forall_mem_cons.mpr ⟨sm_190 hX hcs, ?_⟩
  refine List.forall_mem_cons.mpr ⟨sm_191 hX hcs, ?_⟩
  exact fun _ h => absurd h List.not_mem_nil
end AS
end
section
/-! ALL CONTRACTS TOGETHER, 6 -/
section AS
variable {l : Launch} {X : Nat → Option (List Int32)} {xa : Nat → Nat} {d : Nat}
theorem sm_192 (hX : ∀ i, i < 2 → X i = some ((x_tab i).map Int32.ofInt)) (hcs : ∀ d', d = d' + 1 → ∀ y, ∀ C ∈ cs_at y, c_sem l X (yY xa) xa d' C) : ∀ C ∈ [cn_286], c_sem l X (yY xa) xa d C := by
  have hY := yY_ok xa
  have hYS := yY_str xa
  have hIx := ix_K_ok (l := l) (X := X) hY hYS
  intro C hC
  obtain rfl := List.mem_singleton.mp hC
  exact c_meth mq_192_kt hY hYS hIx hX (q := mq_192) mq_192_at mq_192_pl mq_192_k cs_cy hcs cn_286_ok
theorem sm_193 (hX : ∀ i, i < 2 → X i = some ((x_tab i).map Int32.ofInt)) (hcs : ∀ d', d = d' + 1 → ∀ y, ∀ C ∈ cs_at y, c_sem l X (yY xa) xa d' C) : ∀ C ∈ [cn_326], c_sem l X (yY xa) xa d C := by
  have hY := yY_ok xa
  have hYS := yY_str xa
  have hIx := ix_K_ok (l := l) (X := X) hY hYS
  intro C hC
  obtain rfl := List.mem_singleton.mp hC
  exact c_meth mq_193_kt hY hYS hIx hX (q := mq_193) mq_193_at mq_193_pl mq_193_k cs_cy hcs cn_326_ok
theorem sm_194 (hX : ∀ i, i < 2 → X i = some ((x_tab i).map Int32.ofInt)) (hcs : ∀ d', d = d' + 1 → ∀ y, ∀ C ∈ cs_at y, c_sem l X (yY xa) xa d' C) : ∀ C ∈ [cn_336], c_sem l X (yY xa) xa d C := by
  have hY := yY_ok xa
  have hYS := yY_str xa
  have hIx := ix_K_ok (l := l) (X := X) hY hYS
  intro C hC
  obtain rfl := List.mem_singleton.mp hC
  exact c_meth mq_194_kt hY hYS hIx hX (q := mq_194) mq_194_at mq_194_pl mq_194_k cs_cy hcs cn_336_ok
theorem sm_195 (hX : ∀ i, i < 2 → X i = some ((x_tab i).map Int32.ofInt)) (hcs : ∀ d', d = d' + 1 → ∀ y, ∀ C ∈ cs_at y, c_sem l X (yY xa) xa d' C) : ∀ C ∈ [cn_374], c_sem l X (yY xa) xa d C := by
  have hY := yY_ok xa
  have hYS := yY_str xa
  have hIx := ix_K_ok (l := l) (X := X) hY hYS
  intro C hC
  obtain rfl := List.mem_singleton.mp hC
  exact c_meth mq_195_kt hY hYS hIx hX (q := mq_195) mq_195_at mq_195_pl mq_195_k cs_cy hcs cn_374_ok
theorem sm_196 (hX : ∀ i, i < 2 → X i = some ((x_tab i).map Int32.ofInt)) (hcs : ∀ d', d = d' + 1 → ∀ y, ∀ C ∈ cs_at y, c_sem l X (yY xa) xa d' C) : ∀ C ∈ [cn_334], c_sem l X (yY xa) xa d C := by
  have hY := yY_ok xa
  have hYS := yY_str xa
  have hIx := ix_K_ok (l := l) (X := X) hY hYS
  intro C hC
  obtain rfl := List.mem_singleton.mp hC
  exact c_meth mq_196_kt hY hYS hIx hX (q := mq_196) mq_196_at mq_196_pl mq_196_k cs_cy hcs cn_334_ok
theorem sm_197 (hX : ∀ i, i < 2 → X i = some ((x_tab i).map Int32.ofInt)) (hcs : ∀ d', d = d' + 1 → ∀ y, ∀ C ∈ cs_at y, c_sem l X (yY xa) xa d' C) : ∀ C ∈ [cn_283, cn_284], c_sem l X (yY xa) xa d C := by
  have hY := yY_ok xa
  have hYS := yY_str xa
  have hIx := ix_K_ok (l := l) (X := X) hY hYS
  refine List.forall_mem_cons.mpr ⟨c_meth mq_197_kt hY hYS hIx hX (q := mq_197) mq_197_at mq_197_pl mq_197_k cs_cy hcs cn_283_ok, ?_⟩
  refine List.forall_mem_cons.mpr ⟨c_meth mq_197_kt hY hYS hIx hX (q := mq_197) mq_197_at mq_197_pl mq_197_k cs_cy hcs cn_284_ok, ?_⟩
  exact fun _ h => absurd h List.not_mem_nil
theorem sm_198 (hX : ∀ i, i < 2 → X i = some ((x_tab i).map Int32.ofInt)) (hcs : ∀ d', d = d' + 1 → ∀ y, ∀ C ∈ cs_at y, c_sem l X (yY xa) xa d' C) : ∀ C ∈ [cn_44, cn_45, cn_46, cn_47, cn_48, cn_49, cn_50, cn_51, cn_52, cn_53, cn_54, cn_55, cn_56, cn_57, cn_58, cn_59, cn_60, cn_61, cn_62, cn_63, cn_64, cn_65, cn_66, cn_67, cn_68, cn_69, cn_70, cn_71, cn_72, cn_73, cn_74, cn_75, cn_76], c_sem l X (yY xa) xa d C := by
  have hY := yY_ok xa
  have hYS := yY_str xa
  have hIx := ix_K_ok (l := l) (X := X) hY hYS
  refine List.forall_mem_cons.mpr ⟨c_meth mq_198_kt hY hYS hIx hX (q := mq_198) mq_198_at mq_198_pl mq_198_k cs_cy hcs cn_44_ok, ?_⟩
  refine List.forall_mem_cons.mpr ⟨c_meth mq_198_kt hY hYS hIx hX (q := mq_198) mq_198_at mq_198_pl mq_198_k cs_cy hcs cn_45_ok, ?_⟩
  refine List.forall_mem_cons.mpr ⟨c_meth mq_198_kt hY hYS hIx hX (q := mq_198) mq_198_at mq_198_pl mq_198_k cs_cy hcs cn_46_ok, ?_⟩
  refine List.forall_mem_cons.mpr ⟨c_meth mq_198_kt hY hYS hIx hX (q := mq_198) mq_198_at mq_198_pl mq_198_k cs_cy hcs cn_47_ok, ?_⟩
  refine List.forall_mem_cons.mpr ⟨c_meth mq_198_kt hY hYS hIx hX (q := mq_198) mq_198_at mq_198_pl mq_198_k cs_cy hcs cn_48_ok, ?_⟩
  refine List.forall_mem_cons.mpr ⟨c_meth mq_198_kt hY hYS hIx hX (q := mq_198) mq_198_at mq_198_pl mq_198_k cs_cy hcs cn_49_ok, ?_⟩
  refine List.forall_mem_cons.mpr ⟨c_meth mq_198_kt hY hYS hIx hX (q := mq_198) mq_198_at mq_198_pl mq_198_k cs_cy hcs cn_50_ok, ?_⟩
  refine List.forall_mem_cons.mpr ⟨c_meth mq_198_kt hY hYS hIx hX (q := mq_198) mq_198_at mq_198_pl mq_198_k cs_cy hcs cn_51_ok, ?_⟩
  refine List.forall_mem_cons.mpr ⟨c_meth mq_198_kt hY hYS hIx hX (q := mq_198) mq_198_at mq_198_pl mq_198_k cs_cy hcs cn_52_ok, ?_⟩
  refine List.forall_mem_cons.mpr ⟨c_meth mq_198_kt hY hYS hIx hX (q := mq_198) mq_198_at mq_198_pl mq_198_k cs_cy hcs cn_53_ok, ?_⟩
  refine List.forall_mem_cons.mpr ⟨c_meth mq_198_kt hY hYS hIx hX (q := mq_198) mq_198_at mq_198_pl mq_198_k cs_cy hcs cn_54_ok, ?_⟩
  refine List.forall_mem_cons.mpr ⟨c_meth mq_198_kt hY hYS hIx hX (q := mq_198) mq_198_at mq_198_pl mq_198_k cs_cy hcs cn_55_ok, ?_⟩
  refine List.forall_mem_cons.mpr ⟨c_meth mq_198_kt hY hYS hIx hX (q := mq_198) mq_198_at mq_198_pl mq_198_k cs_cy hcs cn_56_ok, ?_⟩
  refine List.forall_mem_cons.mpr ⟨c_meth mq_198_kt hY hYS hIx hX (q := mq_198) mq_198_at mq_198_pl mq_198_k cs_cy hcs cn_57_ok, ?_⟩
  refine List.forall_mem_cons.mpr ⟨c_meth mq_198_kt hY hYS hIx hX (q := mq_198) mq_198_at mq_198_pl mq_198_k cs_cy hcs cn_58_ok, ?_⟩
  refine List.forall_mem_cons.mpr ⟨c_meth mq_198_kt hY hYS hIx hX (q := mq_198) mq_198_at mq_198_pl mq_198_k cs_cy hcs cn_59_ok, ?_⟩
  refine List.forall_mem_cons.mpr ⟨c_meth mq_198_kt hY hYS hIx hX (q := mq_198) mq_198_at mq_198_pl mq_198_k cs_cy hcs cn_60_ok, ?_⟩
  refine List.forall_mem_cons.mpr ⟨c_meth mq_198_kt hY hYS hIx hX (q := mq_198) mq_198_at mq_198_pl mq_198_k cs_cy hcs cn_61_ok, ?_⟩
  refine List.forall_mem_cons.mpr ⟨c_meth mq_198_kt hY hYS hIx hX (q := mq_198) mq_198_at mq_198_pl mq_198_k cs_cy hcs cn_62_ok, ?_⟩
  refine List.forall_mem_cons.mpr ⟨c_meth mq_198_kt hY hYS hIx hX (q := mq_198) mq_198_at mq_198_pl mq_198_k cs_cy hcs cn_63_ok, ?_⟩
  refine List.forall_mem_cons.mpr ⟨c_meth mq_198_kt hY hYS hIx hX (q := mq_198) mq_198_at mq_198_pl mq_198_k cs_cy hcs cn_64_ok, ?_⟩
  refine List.forall_mem_cons.mpr ⟨c_meth mq_198_kt hY hYS hIx hX (q := mq_198) mq_198_at mq_198_pl mq_198_k cs_cy hcs cn_65_ok, ?_⟩
  refine List.forall_mem_cons.mpr ⟨c_meth mq_198_kt hY hYS hIx hX (q := mq_198) mq_198_at mq_198_pl mq_198_k cs_cy hcs cn_66_ok, ?_⟩
  refine List.forall_mem_cons.mpr ⟨c_meth mq_198_kt hY hYS hIx hX (q := mq_198) mq_198_at mq_198_pl mq_198_k cs_cy hcs cn_67_ok, ?_⟩
  refine List.forall_mem_cons.mpr ⟨c_meth mq_198_kt hY hYS hIx hX (q := mq_198) mq_198_at mq_198_pl mq_198_k cs_cy hcs cn_68_ok, ?_⟩
  refine List.forall_mem_cons.mpr ⟨c_meth mq_198_kt hY hYS hIx hX (q := mq_198) mq_198_at mq_198_pl mq_198_k cs_cy hcs cn_69_ok, ?_⟩
  refine List.forall_mem_cons.mpr ⟨c_meth mq_198_kt hY hYS hIx hX (q := mq_198) mq_198_at mq_198_pl mq_198_k cs_cy hcs cn_70_ok, ?_⟩
  refine List.forall_mem_cons.mpr ⟨c_meth mq_198_kt hY hYS hIx hX (q := mq_198) mq_198_at mq_198_pl mq_198_k cs_cy hcs cn_71_ok, ?_⟩
  refine List.forall_mem_cons.mpr ⟨c_meth mq_198_kt hY hYS hIx hX (q := mq_198) mq_198_at mq_198_pl mq_198_k cs_cy hcs cn_72_ok, ?_⟩
  refine List.forall_mem_cons.mpr ⟨c_meth mq_198_kt hY hYS hIx hX (q := mq_198) mq_198_at mq_198_pl mq_198_k cs_cy hcs cn_73_ok, ?_⟩
  refine List.forall_mem_cons.mpr ⟨c_meth mq_198_kt hY hYS hIx hX (q := mq_198) mq_198_at mq_198_pl mq_198_k cs_cy hcs cn_74_ok, ?_⟩
  refine List.forall_mem_cons.mpr ⟨c_meth mq_198_kt hY hYS hIx hX (q := mq_198) mq_198_at mq_198_pl mq_198_k cs_cy hcs cn_75_ok, ?_⟩
  refine List.forall_mem_cons.mpr ⟨c_meth mq_198_kt hY hYS hIx hX (q := mq_198) mq_198_at mq_198_pl mq_198_k cs_cy hcs cn_76_ok, ?_⟩
  exact fun _ h => absurd h List.not_mem_nil
theorem sm_199 (hX : ∀ i, i < 2 → X i = some ((x_tab i).map Int32.ofInt)) (hcs : ∀ d', d = d' + 1 → ∀ y, ∀ C ∈ cs_at y, c_sem l X (yY xa) xa d' C) : ∀ C ∈ [cn_273], c_sem l X (yY xa) xa d C := by
  have hY := yY_ok xa
  have hYS := yY_str xa
  have hIx := ix_K_ok (l := l) (X := X) hY hYS
  intro C hC
  obtain rfl := List.mem_singleton.mp hC
  exact c_meth mq_199_kt hY hYS hIx hX (q := mq_199) mq_199_at mq_199_pl mq_199_k cs_cy hcs cn_273_ok
theorem sm_200 (hX : ∀ i, i < 2 → X i = some ((x_tab i).map Int32.ofInt)) (hcs : ∀ d', d = d' + 1 → ∀ y, ∀ C ∈ cs_at y, c_sem l X (yY xa) xa d' C) : ∀ C ∈ [cn_95], c_sem l X (yY xa) xa d C := by
  have hY := yY_ok xa
  have hYS := yY_str xa
  have hIx := ix_K_ok (l := l) (X := X) hY hYS
  intro C hC
  obtain rfl := List.mem_singleton.mp hC
  exact c_meth mq_200_kt hY hYS hIx hX (q := mq_200) mq_200_at mq_200_pl mq_200_k cs_cy hcs cn_95_ok
theorem sm_201 (hX : ∀ i, i < 2 → X i = some ((x_tab i).map Int32.ofInt)) (hcs : ∀ d', d = d' + 1 → ∀ y, ∀ C ∈ cs_at y, c_sem l X (yY xa) xa d' C) : ∀ C ∈ [cn_375], c_sem l X (yY xa) xa d C := by
  have hY := yY_ok xa
  have hYS := yY_str xa
  have hIx := ix_K_ok (l := l) (X := X) hY hYS
  intro C hC
  obtain rfl := List.mem_singleton.mp hC
  exact c_meth mq_201_kt hY hYS hIx hX (q := mq_201) mq_201_at mq_201_pl mq_201_k cs_cy hcs cn_375_ok
theorem sm_202 (hX : ∀ i, i < 2 → X i = some ((x_tab i).map Int32.ofInt)) (hcs : ∀ d', d = d' + 1 → ∀ y, ∀ C ∈ cs_at y, c_sem l X (yY xa) xa d' C) : ∀ C ∈ [cn_335], c_sem l X (yY xa) xa d C := by
  have hY := yY_ok xa
  have hYS := yY_str xa
  have hIx := ix_K_ok (l := l) (X := X) hY hYS
  intro C hC
  obtain rfl := List.mem_singleton.mp hC
  exact c_meth mq_202_kt hY hYS hIx hX (q := mq_202) mq_202_at mq_202_pl mq_202_k cs_cy hcs cn_335_ok
theorem sm_203 (hX : ∀ i, i < 2 → X i = some ((x_tab i).map Int32.ofInt)) (hcs : ∀ d', d = d' + 1 → ∀ y, ∀ C ∈ cs_at y, c_sem l X (yY xa) xa d' C) : ∀ C ∈ [cn_274], c_sem l X (yY xa) xa d C := by
  have hY := yY_ok xa
  have hYS := yY_str xa
  have hIx := ix_K_ok (l := l) (X := X) hY hYS
  intro C hC
  obtain rfl := List.mem_singleton.mp hC
  exact c_meth mq_203_kt hY hYS hIx hX (q := mq_203) mq_203_at mq_203_pl mq_203_k cs_cy hcs cn_274_ok
theorem sm_204 (hX : ∀ i, i < 2 → X i = some ((x_tab i).map Int32.ofInt)) (hcs : ∀ d', d = d' + 1 → ∀ y, ∀ C ∈ cs_at y, c_sem l X (yY xa) xa d' C) : ∀ C ∈ [cn_603], c_sem l X (yY xa) xa d C := by
  have hY := yY_ok xa
  have hYS := yY_str xa
  have hIx := ix_K_ok (l := l) (X := X) hY hYS
  intro C hC
  obtain rfl := List.mem_singleton.mp hC
  exact c_meth mq_204_kt hY hYS hIx hX (q := mq_204) mq_204_at mq_204_pl mq_204_k cs_cy hcs cn_603_ok
theorem sm_205 (hX : ∀ i, i < 2 → X i = some ((x_tab i).map Int32.ofInt)) (hcs : ∀ d', d = d' + 1 → ∀ y, ∀ C ∈ cs_at y, c_sem l X (yY xa) xa d' C) : ∀ C ∈ [cn_592], c_sem l X (yY xa) xa d C := by
  have hY := yY_ok xa
  have hYS := yY_str xa
  have hIx := ix_K_ok (l := l) (X := X) hY hYS
  intro C hC
  obtain rfl := List.mem_singleton.mp hC
  exact c_meth mq_205_kt hY hYS hIx hX (q := mq_205) mq_205_at mq_205_pl mq_205_k cs_cy hcs cn_592_ok
theorem sm_206 (hX : ∀ i, i < 2 → X i = some ((x_tab i).map Int32.ofInt)) (hcs : ∀ d', d = d' + 1 → ∀ y, ∀ C ∈ cs_at y, c_sem l X (yY xa) xa d' C) : ∀ C ∈ [cn_36], c_sem l X (yY xa) xa d C := by
  have hY := yY_ok xa
  have hYS := yY_str xa
  have hIx := ix_K_ok (l := l) (X := X) hY hYS
  intro C hC
  obtain rfl := List.mem_singleton.mp hC
  exact c_meth mq_206_kt hY hYS hIx hX (q := mq_206) mq_206_at mq_206_pl mq_206_k cs_cy hcs cn_36_ok
theorem sm_207 (hX : ∀ i, i < 2 → X i = some ((x_tab i).map Int32.ofInt)) (hcs : ∀ d', d = d' + 1 → ∀ y, ∀ C ∈ cs_at y, c_sem l X (yY xa) xa d' C) : ∀ C ∈ [cn_579, cn_580], c_sem l X (yY xa) xa d C := by
  have hY := yY_ok xa
  have hYS := yY_str xa
  have hIx := ix_K_ok (l := l) (X := X) hY hYS
  refine List.forall_mem_cons.mpr ⟨c_meth mq_207_kt hY hYS hIx hX (q := mq_207) mq_207_at mq_207_pl mq_207_k cs_cy hcs cn_579_ok, ?_⟩
  refine List.forall_mem_cons.mpr ⟨c_meth mq_207_kt hY hYS hIx hX (q := mq_207) mq_207_at mq_207_pl mq_207_k cs_cy hcs cn_580_ok, ?_⟩
  exact fun _ h => absurd h List.not_mem_nil
theorem sm_208 (hX : ∀ i, i < 2 → X i = some ((x_tab i).map Int32.ofInt)) (hcs : ∀ d', d = d' + 1 → ∀ y, ∀ C ∈ cs_at y, c_sem l X (yY xa) xa d' C) : ∀ C ∈ [cn_573, cn_574], c_sem l X (yY xa) xa d C := by
  have hY := yY_ok xa
  have hYS := yY_str xa
  have hIx := ix_K_ok (l := l) (X := X) hY hYS
  refine List.forall_mem_cons.mpr ⟨c_meth mq_208_kt hY hYS hIx hX (q := mq_208) mq_208_at mq_208_pl mq_208_k cs_cy hcs cn_573_ok, ?_⟩
  refine List.forall_mem_cons.mpr ⟨c_meth mq_208_kt hY hYS hIx hX (q := mq_208) mq_208_at mq_208_pl mq_208_k cs_cy hcs cn_574_ok, ?_⟩
  exact fun _ h => absurd h List.not_mem_nil
theorem sm_209 (hX : ∀ i, i < 2 → X i = some ((x_tab i).map Int32.ofInt)) (hcs : ∀ d', d = d' + 1 → ∀ y, ∀ C ∈ cs_at y, c_sem l X (yY xa) xa d' C) : ∀ C ∈ [cn_327, cn_328], c_sem l X (yY xa) xa d C := by
  have hY := yY_ok xa
  have hYS := yY_str xa
  have hIx := ix_K_ok (l := l) (X := X) hY hYS
  refine List.forall_mem_cons.mpr ⟨c_meth mq_209_kt hY hYS hIx hX (q := mq_209) mq_209_at mq_209_pl mq_209_k cs_cy hcs cn_327_ok, ?_⟩
  refine List.forall_mem_cons.mpr ⟨c_meth mq_209_kt hY hYS hIx hX (q := mq_209) mq_209_at mq_209_pl mq_209_k cs_cy hcs cn_328_ok, ?_⟩
  exact fun _ h => absurd h List.not_mem_nil
theorem sm_210 (hX : ∀ i, i < 2 → X i = some ((x_tab i).map Int32.ofInt)) (hcs : ∀ d', d = d' + 1 → ∀ y, ∀ C ∈ cs_at y, c_sem l X (yY xa) xa d' C) : ∀ C ∈ [cn_94], c_sem l X (yY xa) xa d C := by
  have hY := yY_ok xa
  have hYS := yY_str xa
  have hIx := ix_K_ok (l := l) (X := X) hY hYS
  intro C hC
  obtain rfl := List.mem_singleton.mp hC
  exact c_meth mq_210_kt hY hYS hIx hX (q := mq_210) mq_210_at mq_210_pl mq_210_k cs_cy hcs cn_94_ok
theorem sm_211 (hX : ∀ i, i < 2 → X i = some ((x_tab i).map Int32.ofInt)) (hcs : ∀ d', d = d' + 1 → ∀ y, ∀ C ∈ cs_at y, c_sem l X (yY xa) xa d' C) : ∀ C ∈ [cn_332], c_sem l X (yY xa) xa d C := by
  have hY := yY_ok xa
  have hYS := yY_str xa
  have hIx := ix_K_ok (l := l) (X := X) hY hYS
  intro C hC
  obtain rfl := List.mem_singleton.mp hC
  exact c_meth mq_211_kt hY hYS hIx hX (q := mq_211) mq_211_at mq_211_pl mq_211_k cs_cy hcs cn_332_ok
theorem sm_212 (hX : ∀ i, i < 2 → X i = some ((x_tab i).map Int32.ofInt)) (hcs : ∀ d', d = d' + 1 → ∀ y, ∀ C ∈ cs_at y, c_sem l X (yY xa) xa d' C) : ∀ C ∈ [cn_618], c_sem l X (yY xa) xa d C := by
  have hY := yY_ok xa
  have hYS := yY_str xa
  have hIx := ix_K_ok (l := l) (X := X) hY hYS
  intro C hC
  obtain rfl := List.mem_singleton.mp hC
  exact cn_w_sem hY hYS hIx hX cs_cy hcs
theorem sm_213 (hX : ∀ i, i < 2 → X i = some ((x_tab i).map Int32.ofInt)) (hcs : ∀ d', d = d' + 1 → ∀ y, ∀ C ∈ cs_at y, c_sem l X (yY xa) xa d' C) : ∀ C ∈ ra_list, c_sem l X (yY xa) xa d C := by
  have hY := yY_ok xa
  have hYS := yY_str xa
  have hIx := ix_K_ok (l := l) (X := X) hY hYS
  intro C hC
  have hc := List.all_eq_true.mp ra_all C hC
  obtain ⟨n, -, rfl⟩ := List.mem_map.mp hC
  exact c_meth mq_213_kt hY hYS hIx hX (q := mq_213) mq_213_at mq_213_pl mq_213_k cs_cy hcs hc
theorem sm_214 (hX : ∀ i, i < 2 → X i = some ((x_tab i).map Int32.ofInt)) (hcs : ∀ d', d = d' + 1 → ∀ y, ∀ C ∈ cs_at y, c_sem l X (yY xa) xa d' C) : ∀ C ∈ [cn_424], c_sem l X (yY xa) xa d C := by
  have hY := yY_ok xa
  have hYS := yY_str xa
  have hIx := ix_K_ok (l := l) (X := X) hY hYS
  intro C hC
  obtain rfl := List.mem_singleton.mp hC
  exact c_meth mq_214_kt hY hYS hIx hX (q := mq_214) mq_214_at mq_214_pl mq_214_k cs_cy hcs cn_424_ok
theorem sm_215 (hX : ∀ i, i < 2 → X i = some ((x_tab i).map Int32.ofInt)) (hcs : ∀ d', d = d' + 1 → ∀ y, ∀ C ∈ cs_at y, c_sem l X (yY xa) xa d' C) : ∀ C ∈ [cn_372, cn_584], c_sem l X (yY xa) xa d C := by
  have hY := yY_ok xa
  have hYS := yY_str xa
  have hIx := ix_K_ok (l := l) (X := X) hY hYS
  refine List.forall_mem_cons.mpr ⟨c_meth mq_215_kt hY hYS hIx hX (q := mq_215) mq_215_at mq_215_pl mq_215_k cs_cy hcs cn_372_ok, ?_⟩
  refine List.forall_mem_cons.mpr ⟨c_meth mq_215_kt hY hYS hIx hX (q := mq_215) mq_215_at mq_215_pl mq_215_k cs_cy hcs cn_584_ok, ?_⟩
  exact fun _ h => absurd h List.not_mem_nil
theorem sm_216 (hX : ∀ i, i < 2 → X i = some ((x_tab i).map Int32.ofInt)) (hcs : ∀ d', d = d' + 1 → ∀ y, ∀ C ∈ cs_at y, c_sem l X (yY xa) xa d' C) : ∀ C ∈ [cn_96], c_sem l X (yY xa) xa d C := by
  have hY := yY_ok xa
  have hYS := yY_str xa
  have hIx := ix_K_ok (l := l) (X := X) hY hYS
  intro C hC
  obtain rfl := List.mem_singleton.mp hC
  exact c_meth mq_216_kt hY hYS hIx hX (q := mq_216) mq_216_at mq_216_pl mq_216_k cs_cy hcs cn_96_ok
theorem sm_217 (hX : ∀ i, i < 2 → X i = some ((x_tab i).map Int32.ofInt)) (hcs : ∀ d', d = d' + 1 → ∀ y, ∀ C ∈ cs_at y, c_sem l X (yY xa) xa d' C) : ∀ C ∈ [cn_598], c_sem l X (yY xa) xa d C := by
  have hY := yY_ok xa
  have hYS := yY_str xa
  have hIx := ix_K_ok (l := l) (X := X) hY hYS
  intro C hC
  obtain rfl := List.mem_singleton.mp hC
  exact c_meth mq_217_kt hY hYS hIx hX (q := mq_217) mq_217_at mq_217_pl mq_217_k cs_cy hcs cn_598_ok
theorem sm_218 (hX : ∀ i, i < 2 → X i = some ((x_tab i).map Int32.ofInt)) (hcs : ∀ d', d = d' + 1 → ∀ y, ∀ C ∈ cs_at y, c_sem l X (yY xa) xa d' C) : ∀ C ∈ [cn_276], c_sem l X (yY xa) xa d C := by
  have hY := yY_ok xa
  have hYS := yY_str xa
  have hIx := ix_K_ok (l := l) (X := X) hY hYS
  intro C hC
  obtain rfl := List.mem_singleton.mp hC
  exact c_meth mq_218_kt hY hYS hIx hX (q := mq_218) mq_218_at mq_218_pl mq_218_k cs_cy hcs cn_276_ok
theorem sm_219 (hX : ∀ i, i < 2 → X i = some ((x_tab i).map Int32.ofInt)) (hcs : ∀ d', d = d' + 1 → ∀ y, ∀ C ∈ cs_at y, c_sem l X (yY xa) xa d' C) : ∀ C ∈ [cn_280], c_sem l X (yY xa) xa d C := by
  have hY := yY_ok xa
  have hYS := yY_str xa
  have hIx := ix_K_ok (l := l) (X := X) hY hYS
  intro C hC
  obtain rfl := List.mem_singleton.mp hC
  exact c_meth mq_219_kt hY hYS hIx hX (q := mq_219) mq_219_at mq_219_pl mq_219_k cs_cy hcs cn_280_ok
theorem sm_220 (hX : ∀ i, i < 2 → X i = some ((x_tab i).map Int32.ofInt)) (hcs : ∀ d', d = d' + 1 → ∀ y, ∀ C ∈ cs_at y, c_sem l X (yY xa) xa d' C) : ∀ C ∈ [cn_588], c_sem l X (yY xa) xa d C := by
  have hY := yY_ok xa
  have hYS := yY_str xa
  have hIx := ix_K_ok (l := l) (X := X) hY hYS
  intro C hC
  obtain rfl := List.mem_singleton.mp hC
  exact c_meth mq_220_kt hY hYS hIx hX (q := mq_220) mq_220_at mq_220_pl mq_220_k cs_cy hcs cn_588_ok
theorem sm_221 (hX : ∀ i, i < 2 → X i = some ((x_tab i).map Int32.ofInt)) (hcs : ∀ d', d = d' + 1 → ∀ y, ∀ C ∈ cs_at y, c_sem l X (yY xa) xa d' C) : ∀ C ∈ [cn_581, cn_582], c_sem l X (yY xa) xa d C := by
  have hY := yY_ok xa
  have hYS := yY_str xa
  have hIx := ix_K_ok (l := l) (X := X) hY hYS
  refine List.forall_mem_cons.mpr ⟨c_meth mq_221_kt hY hYS hIx hX (q := mq_221) mq_221_at mq_221_pl mq_221_k cs_cy hcs cn_581_ok, ?_⟩
  refine List.forall_mem_cons.mpr ⟨c_meth mq_221_kt hY hYS hIx hX (q := mq_221) mq_221_at mq_221_pl mq_221_k cs_cy hcs cn_582_ok, ?_⟩
  exact fun _ h => absurd h List.not_mem_nil
theorem sm_222 (hX : ∀ i, i < 2 → X i = some ((x_tab i).map Int32.ofInt)) (hcs : ∀ d', d = d' + 1 → ∀ y, ∀ C ∈ cs_at y, c_sem l X (yY xa) xa d' C) : ∀ C ∈ [cn_329], c_sem l X (yY xa) xa d C := by
  have hY := yY_ok xa
  have hYS := yY_str xa
  have hIx := ix_K_ok (l := l) (X := X) hY hYS
  intro C hC
  obtain rfl := List.mem_singleton.mp hC
  exact c_meth mq_222_kt hY hYS hIx hX (q := mq_222) mq_222_at mq_222_pl mq_222_k cs_cy hcs cn_329_ok
theorem sm_223 (hX : ∀ i, i < 2 → X i = some ((x_tab i).map Int32.ofInt)) (hcs : ∀ d', d = d' + 1 → ∀ y, ∀ C ∈ cs_at y, c_sem l X (yY xa) xa d' C) : ∀ C ∈ [cn_337, cn_338], c_sem l X (yY xa) xa d C := by
  have hY := yY_ok xa
  have hYS := yY_str xa
  have hIx := ix_K_ok (l := l) (X := X) hY hYS
  refine List.forall_mem_cons.mpr ⟨c_meth mq_223_kt hY hYS hIx hX (q := mq_223) mq_223_at mq_223_pl mq_223_k cs_cy hcs cn_337_ok, ?_⟩
  refine List.forall_mem_cons.mpr ⟨c_meth mq_223_kt hY hYS hIx hX (q := mq_223) mq_223_at mq_223_pl mq_223_k cs_cy hcs cn_338_ok, ?_⟩
  exact fun _ h => absurd h List.not_mem_nil
theorem sc_6 (hX : ∀ i, i < 2 → X i = some ((x_tab i).map Int32.ofInt)) (hcs : ∀ d', d = d' + 1 → ∀ y, ∀ C ∈ cs_at y, c_sem l X (yY xa) xa d' C) : ∀ r ∈ cs_tab_6, ∀ C ∈ r, c_sem l X (yY xa) xa d C := by
  unfold cs_tab_6
  refine List.forall_mem_cons.mpr ⟨sm_192 hX hcs, ?_⟩
  refine List.forall_mem_cons.mpr ⟨sm_193 hX hcs, ?_⟩
  refine List.forall_mem_cons.mpr ⟨sm_194 hX hcs, ?_⟩
  refine List.forall_mem_cons.mpr ⟨sm_195 hX hcs, ?_⟩
  refine List.forall_mem_cons.mpr ⟨sm_196 hX hcs, ?_⟩
  refine List.forall_mem_cons.mpr ⟨sm_197 hX hcs, ?_⟩
  refine List.forall_mem_cons.mpr ⟨sm_198 hX hcs, ?_⟩
  refine List.forall_mem_cons.mpr ⟨sm_199 hX hcs, ?_⟩
  refine List.forall_mem_cons.mpr ⟨sm_200 hX hcs, ?_⟩
  refine List.forall_mem_cons.mpr ⟨sm_201 hX hcs, ?_⟩
  refine List.forall_mem_cons.mpr ⟨sm_202 hX hcs, ?_⟩
  refine List.forall_mem_cons.mpr ⟨sm_203 hX hcs, ?_⟩
  refine List.forall_mem_cons.mpr ⟨sm_204 hX hcs, ?_⟩
  refine List.forall_mem_cons.mpr ⟨sm_205 hX hcs, ?_⟩
  refine List.forall_mem_cons.mpr ⟨sm_206 hX hcs, ?_⟩
  refine List.forall_mem_cons.mpr ⟨sm_207 hX hcs, ?_⟩
  refine List.forall_mem_cons.mpr ⟨sm_208 hX hcs, ?_⟩
  refine List.forall_mem_cons.mpr ⟨sm_209 hX hcs, ?_⟩
  refine List.forall_mem_cons.mpr ⟨sm_210 hX hcs, ?_⟩
  refine List.forall_mem_cons.mpr ⟨sm_211 hX hcs, ?_⟩
  refine List.forall_mem_cons.mpr ⟨sm_212 hX hcs, ?_⟩
  refine List.forall_mem_cons.mpr ⟨sm_213 hX hcs, ?_⟩
  refine List.forall_mem_cons.mpr ⟨sm_214 hX hcs, ?_⟩
  refine List.forall_mem_cons.mpr ⟨sm_215 hX hcs, ?_⟩
  refine List.forall_mem_cons.mpr ⟨sm_216 hX hcs, ?_⟩
  refine List.forall_mem_cons.mpr ⟨sm_217 hX hcs, ?_⟩
  refine List.forall_mem_cons.mpr ⟨sm_218 hX hcs, ?_⟩
  refine List.forall_mem_cons.mpr ⟨sm_219 hX hcs, ?_⟩
  refine List.forall_mem_cons.mpr ⟨sm_220 hX hcs, ?_⟩
  refine List.forall_mem_cons.mpr ⟨sm_221 hX hcs, ?_⟩
  refine List.forall_mem_cons.mpr ⟨sm_222 hX hcs, ?_⟩
  refine List.forall_mem_cons.mpr ⟨sm_223 hX hcs, ?_⟩
  exact fun _ h => absurd h List.not_mem_nil
end AS
end
section
/-! ALL CONTRACTS TOGETHER, 7 -/
section AS
variable {l : Launch} {X : Nat → Option (List Int32)} {xa : Nat → Nat} {d : Nat}
theorem sm_224 (hX : ∀ i, i < 2 → X i = some ((x_tab i).map Int32.ofInt)) (hcs : ∀ d', d = d' + 1 → ∀ y, ∀ C ∈ cs_at y, c_sem l X (yY xa) xa d' C) : ∀ C ∈ [cn_100, cn_101, cn_102, cn_103, cn_104, cn_105, cn_106, cn_107, cn_108, cn_109, cn_110, cn_111, cn_112, cn_113, cn_114, cn_115], c_sem l X (yY xa) xa d C := by
  have hY := yY_ok xa
  have hYS := yY_str xa
  have hIx := ix_K_ok (l := l) (X := X) hY hYS
  refine List.forall_mem_cons.mpr ⟨c_meth mq_224_kt hY hYS hIx hX (q := mq_224) mq_224_at mq_224_pl mq_224_k cs_cy hcs cn_100_ok, ?_⟩
  refine List.forall_mem_cons.mpr ⟨c_meth mq_224_kt hY hYS hIx hX (q := mq_224) mq_224_at mq_224_pl mq_224_k cs_cy hcs cn_101_ok, ?_⟩
  refine List.forall_mem_cons.mpr ⟨c_meth mq_224_kt hY hYS hIx hX (q := mq_224) mq_224_at mq_224_pl mq_224_k cs_cy hcs cn_102_ok, ?_⟩
  refine List.forall_mem_cons.mpr ⟨c_meth mq_224_kt hY hYS hIx hX (q := mq_224) mq_224_at mq_224_pl mq_224_k cs_cy hcs cn_103_ok, ?_⟩
  refine List.forall_mem_cons.mpr ⟨c_meth mq_224_kt hY hYS hIx hX (q := mq_224) mq_224_at mq_224_pl mq_224_k cs_cy hcs cn_104_ok, ?_⟩
  refine List.forall_mem_cons.mpr ⟨c_meth mq_224_kt hY hYS hIx hX (q := mq_224) mq_224_at mq_224_pl mq_224_k cs_cy hcs cn_105_ok, ?_⟩
  refine List.forall_mem_cons.mpr ⟨c_meth mq_224_kt hY hYS hIx hX (q := mq_224) mq_224_at mq_224_pl mq_224_k cs_cy hcs cn_106_ok, ?_⟩
  refine List.forall_mem_cons.mpr ⟨c_meth mq_224_kt hY hYS hIx hX (q := mq_224) mq_224_at mq_224_pl mq_224_k cs_cy hcs cn_107_ok, ?_⟩
  refine List.forall_mem_cons.mpr ⟨c_meth mq_224_kt hY hYS hIx hX (q := mq_224) mq_224_at mq_224_pl mq_224_k cs_cy hcs cn_108_ok, ?_⟩
  refine List.forall_mem_cons.mpr ⟨c_meth mq_224_kt hY hYS hIx hX (q := mq_224) mq_224_at mq_224_pl mq_224_k cs_cy hcs cn_109_ok, ?_⟩
  refine List.forall_mem_cons.mpr ⟨c_meth mq_224_kt hY hYS hIx hX (q := mq_224) mq_224_at mq_224_pl mq_224_k cs_cy hcs cn_110_ok, ?_⟩
  refine List.forall_mem_cons.mpr ⟨c_meth mq_224_kt hY hYS hIx hX (q := mq_224) mq_224_at mq_224_pl mq_224_k cs_cy hcs cn_111_ok, ?_⟩
  refine List.forall_mem_cons.mpr ⟨c_meth mq_224_kt hY hYS hIx hX (q := mq_224) mq_224_at mq_224_pl mq_224_k cs_cy hcs cn_112_ok, ?_⟩
  refine List.forall_mem_cons.mpr ⟨c_meth mq_224_kt hY hYS hIx hX (q := mq_224) mq_224_at mq_224_pl mq_224_k cs_cy hcs cn_113_ok, ?_⟩
  refine List.forall_mem_cons.mpr ⟨c_meth mq_224_kt hY hYS hIx hX (q := mq_224) mq_224_at mq_224_pl mq_224_k cs_cy hcs cn_114_ok, ?_⟩
  refine List.forall_mem_cons.mpr ⟨c_meth mq_224_kt hY hYS hIx hX (q := mq_224) mq_224_at mq_224_pl mq_224_k cs_cy hcs cn_115_ok, ?_⟩
  exact fun _ h => absurd h List.not_mem_nil
theorem sm_225 (hX : ∀ i, i < 2 → X i = some ((x_tab i).map Int32.ofInt)) (hcs : ∀ d', d = d' + 1 → ∀ y, ∀ C ∈ cs_at y, c_sem l X (yY xa) xa d' C) : ∀ C ∈ [cn_587], c_sem l X (yY xa) xa d C := by
  have hY := yY_ok xa
  have hYS := yY_str xa
  have hIx := ix_K_ok (l := l) (X := X) hY hYS
  intro C hC
  obtain rfl := List.mem_singleton.mp hC
  exact c_meth mq_225_kt hY hYS hIx hX (q := mq_225) mq_225_at mq_225_pl mq_225_k cs_cy hcs cn_587_ok
theorem sm_226 (hX : ∀ i, i < 2 → X i = some ((x_tab i).map Int32.ofInt)) (hcs : ∀ d', d = d' + 1 → ∀ y, ∀ C ∈ cs_at y, c_sem l X (yY xa) xa d' C) : ∀ C ∈ [cn_586], c_sem l X (yY xa) xa d C := by
  have hY := yY_ok xa
  have hYS := yY_str xa
  have hIx := ix_K_ok (l := l) (X := X) hY hYS
  intro C hC
  obtain rfl := List.mem_singleton.mp hC
  exact c_meth mq_226_kt hY hYS hIx hX (q := mq_226) mq_226_at mq_226_pl mq_226_k cs_cy hcs cn_586_ok
theorem sm_227 (hX : ∀ i, i < 2 → X i = some ((x_tab i).map Int32.ofInt)) (hcs : ∀ d', d = d' + 1 → ∀ y, ∀ C ∈ cs_at y, c_sem l X (yY xa) xa d' C) : ∀ C ∈ [cn_616], c_sem l X (yY xa) xa d C := by
  have hY := yY_ok xa
  have hYS := yY_str xa
  have hIx := ix_K_ok (l := l) (X := X) hY hYS
  intro C hC
  obtain rfl := List.mem_singleton.mp hC
  exact c_meth mq_227_kt hY hYS hIx hX (q := mq_227) mq_227_at mq_227_pl mq_227_k cs_cy hcs cn_616_ok
theorem sm_228 (hX : ∀ i, i < 2 → X i = some ((x_tab i).map Int32.ofInt)) (hcs : ∀ d', d = d' + 1 → ∀ y, ∀ C ∈ cs_at y, c_sem l X (yY xa) xa d' C) : ∀ C ∈ [cn_37], c_sem l X (yY xa) xa d C := by
  have hY := yY_ok xa
  have hYS := yY_str xa
  have hIx := ix_K_ok (l := l) (X := X) hY hYS
  intro C hC
  obtain rfl := List.mem_singleton.mp hC
  exact c_meth mq_228_kt hY hYS hIx hX (q := mq_228) mq_228_at mq_228_pl mq_228_k cs_cy hcs cn_37_ok
theorem sm_229 (hX : ∀ i, i < 2 → X i = some ((x_tab i).map Int32.ofInt)) (hcs : ∀ d', d = d' + 1 → ∀ y, ∀ C ∈ cs_at y, c_sem l X (yY xa) xa d' C) : ∀ C ∈ [cn_614, cn_615], c_sem l X (yY xa) xa d C := by
  have hY := yY_ok xa
  have hYS := yY_str xa
  have hIx := ix_K_ok (l := l) (X := X) hY hYS
  refine List.forall_mem_cons.mpr ⟨c_meth mq_229_kt hY hYS hIx hX (q := mq_229) mq_229_at mq_229_pl mq_229_k cs_cy hcs cn_614_ok, ?_⟩
  refine List.forall_mem_cons.mpr ⟨c_meth mq_229_kt hY hYS hIx hX (q := mq_229) mq_229_at mq_229_pl mq_229_k cs_cy hcs cn_615_ok, ?_⟩
  exact fun _ h => absurd h List.not_mem_nil
theorem sm_230 (hX : ∀ i, i < 2 → X i = some ((x_tab i).map Int32.ofInt)) (hcs : ∀ d', d = d' + 1 → ∀ y, ∀ C ∈ cs_at y, c_sem l X (yY xa) xa d' C) : ∀ C ∈ [cn_590, cn_591, cn_600, cn_601, cn_606, cn_607, cn_609, cn_610, cn_612, cn_613], c_sem l X (yY xa) xa d C := by
  have hY := yY_ok xa
  have hYS := yY_str xa
  have hIx := ix_K_ok (l := l) (X := X) hY hYS
  refine List.forall_mem_cons.mpr ⟨c_meth mq_230_kt hY hYS hIx hX (q := mq_230) mq_230_at mq_230_pl mq_230_k cs_cy hcs cn_590_ok, ?_⟩
  refine List.forall_mem_cons.mpr ⟨c_meth mq_230_kt hY hYS hIx hX (q := mq_230) mq_230_at mq_230_pl mq_230_k cs_cy hcs cn_591_ok, ?_⟩
  refine List.forall_mem_cons.mpr ⟨c_meth mq_230_kt hY hYS hIx hX (q := mq_230) mq_230_at mq_230_pl mq_230_k cs_cy hcs cn_600_ok, ?_⟩
  refine List.forall_mem_cons.mpr ⟨c_meth mq_230_kt hY hYS hIx hX (q := mq_230) mq_230_at mq_230_pl mq_230_k cs_cy hcs cn_601_ok, ?_⟩
  refine List.forall_mem_cons.mpr ⟨c_meth mq_230_kt hY hYS hIx hX (q := mq_230) mq_230_at mq_230_pl mq_230_k cs_cy hcs cn_606_ok, ?_⟩
  refine List.forall_mem_cons.mpr ⟨c_meth mq_230_kt hY hYS hIx hX (q := mq_230) mq_230_at mq_230_pl mq_230_k cs_cy hcs cn_607_ok, ?_⟩
  refine List.forall_mem_cons.mpr ⟨c_meth mq_230_kt hY hYS hIx hX (q := mq_230) mq_230_at mq_230_pl mq_230_k cs_cy hcs cn_609_ok, ?_⟩
  refine List.forall_mem_cons.mpr ⟨c_meth mq_230_kt hY hYS hIx hX (q := mq_230) mq_230_at mq_230_pl mq_230_k cs_cy hcs cn_610_ok, ?_⟩
  refine List.forall_mem_cons.mpr ⟨c_meth mq_230_kt hY hYS hIx hX (q := mq_230) mq_230_at mq_230_pl mq_230_k cs_cy hcs cn_612_ok, ?_⟩
  refine List.forall_mem_cons.mpr ⟨c_meth mq_230_kt hY hYS hIx hX (q := mq_230) mq_230_at mq_230_pl mq_230_k cs_cy hcs cn_613_ok, ?_⟩
  exact fun _ h => absurd h List.not_mem_nil
theorem sm_231 (hX : ∀ i, i < 2 → X i = some ((x_tab i).map Int32.ofInt)) (hcs : ∀ d', d = d' + 1 → ∀ y, ∀ C ∈ cs_at y, c_sem l X (yY xa) xa d' C) : ∀ C ∈ [cn_288], c_sem l X (yY xa) xa d C := by
  have hY := yY_ok xa
  have hYS := yY_str xa
  have hIx := ix_K_ok (l := l) (X := X) hY hYS
  intro C hC
  obtain rfl := List.mem_singleton.mp hC
  exact c_meth mq_231_kt hY hYS hIx hX (q := mq_231) mq_231_at mq_231_pl mq_231_k cs_cy hcs cn_288_ok
theorem sm_232 (hX : ∀ i, i < 2 → X i = some ((x_tab i).map Int32.ofInt)) (hcs : ∀ d', d = d' + 1 → ∀ y, ∀ C ∈ cs_at y, c_sem l X (yY xa) xa d' C) : ∀ C ∈ [cn_617], c_sem l X (yY xa) xa d C := by
  have hY := yY_ok xa
  have hYS := yY_str xa
  have hIx := ix_K_ok (l := l) (X := X) hY hYS
  intro C hC
  obtain rfl := List.mem_singleton.mp hC
  exact c_meth mq_232_kt hY hYS hIx hX (q := mq_232) mq_232_at mq_232_pl mq_232_k cs_cy hcs cn_617_ok
theorem sm_233 (hX : ∀ i, i < 2 → X i = some ((x_tab i).map Int32.ofInt)) (hcs : ∀ d', d = d' + 1 → ∀ y, ∀ C ∈ cs_at y, c_sem l X (yY xa) xa d' C) : ∀ C ∈ [cn_604], c_sem l X (yY xa) xa d C := by
  have hY := yY_ok xa
  have hYS := yY_str xa
  have hIx := ix_K_ok (l := l) (X := X) hY hYS
  intro C hC
  obtain rfl := List.mem_singleton.mp hC
  exact c_meth mq_233_kt hY hYS hIx hX (q := mq_233) mq_233_at mq_233_pl mq_233_k cs_cy hcs cn_604_ok
theorem sm_234 (hX : ∀ i, i < 2 → X i = some ((x_tab i).map Int32.ofInt)) (hcs : ∀ d', d = d' + 1 → ∀ y, ∀ C ∈ cs_at y, c_sem l X (yY xa) xa d' C) : ∀ C ∈ [cn_593], c_sem l X (yY xa) xa d C := by
  have hY := yY_ok xa
  have hYS := yY_str xa
  have hIx := ix_K_ok (l := l) (X := X) hY hYS
  intro C hC
  obtain rfl := List.mem_singleton.mp hC
  exact c_meth mq_234_kt hY hYS hIx hX (q := mq_234) mq_234_at mq_234_pl mq_234_k cs_cy hcs cn_593_ok
theorem sm_235 (hX : ∀ i, i < 2 → X i = some ((x_tab i).map Int32.ofInt)) (hcs : ∀ d', d = d' + 1 → ∀ y, ∀ C ∈ cs_at y, c_sem l X (yY xa) xa d' C) : ∀ C ∈ [cn_77], c_sem l X (yY xa) xa d C := by
  have hY := yY_ok xa
  have hYS := yY_str xa
  have hIx := ix_K_ok (l := l) (X := X) hY hYS
  intro C hC
  obtain rfl := List.mem_singleton.mp hC
  exact c_meth mq_235_kt hY hYS hIx hX (q := mq_235) mq_235_at mq_235_pl mq_235_k cs_cy hcs cn_77_ok
theorem sm_236 (hX : ∀ i, i < 2 → X i = some ((x_tab i).map Int32.ofInt)) (hcs : ∀ d', d = d' + 1 → ∀ y, ∀ C ∈ cs_at y, c_sem l X (yY xa) xa d' C) : ∀ C ∈ [cn_93], c_sem l X (yY xa) xa d C := by
  have hY := yY_ok xa
  have hYS := yY_str xa
  have hIx := ix_K_ok (l := l) (X := X) hY hYS
  intro C hC
  obtain rfl := List.mem_singleton.mp hC
  exact c_meth mq_236_kt hY hYS hIx hX (q := mq_236) mq_236_at mq_236_pl mq_236_k cs_cy hcs cn_93_ok
theorem sm_237 (hX : ∀ i, i < 2 → X i = some ((x_tab i).map Int32.ofInt)) (hcs : ∀ d', d = d' + 1 → ∀ y, ∀ C ∈ cs_at y, c_sem l X (yY xa) xa d' C) : ∀ C ∈ [cn_287], c_sem l X (yY xa) xa d C := by
  have hY := yY_ok xa
  have hYS := yY_str xa
  have hIx := ix_K_ok (l := l) (X := X) hY hYS
  intro C hC
  obtain rfl := List.mem_singleton.mp hC
  exact c_meth mq_237_kt hY hYS hIx hX (q := mq_237) mq_237_at mq_237_pl mq_237_k cs_cy hcs cn_287_ok
theorem sm_238 (hX : ∀ i, i < 2 → X i = some ((x_tab i).map Int32.ofInt)) (hcs : ∀ d', d = d' + 1 → ∀ y, ∀ C ∈ cs_at y, c_sem l X (yY xa) xa d' C) : ∀ C ∈ [cn_585], c_sem l X (yY xa) xa d C := by
  have hY := yY_ok xa
  have hYS := yY_str xa
  have hIx := ix_K_ok (l := l) (X := X) hY hYS
  intro C hC
  obtain rfl := List.mem_singleton.mp hC
  exact c_meth mq_238_kt hY hYS hIx hX (q := mq_238) mq_238_at mq_238_pl mq_238_k cs_cy hcs cn_585_ok
theorem sm_239 (hX : ∀ i, i < 2 → X i = some ((x_tab i).map Int32.ofInt)) (hcs : ∀ d', d = d' + 1 → ∀ y, ∀ C ∈ cs_at y, c_sem l X (yY xa) xa d' C) : ∀ C ∈ [cn_576], c_sem l X (yY xa) xa d C := by
  have hY := yY_ok xa
  have hYS := yY_str xa
  have hIx := ix_K_ok (l := l) (X := X) hY hYS
  intro C hC
  obtain rfl := List.mem_singleton.mp hC
  exact c_meth mq_239_kt hY hYS hIx hX (q := mq_239) mq_239_at mq_239_pl mq_239_k cs_cy hcs cn_576_ok
theorem sm_240 (hX : ∀ i, i < 2 → X i = some ((x_tab i).map Int32.ofInt)) (hcs : ∀ d', d = d' + 1 → ∀ y, ∀ C ∈ cs_at y, c_sem l X (yY xa) xa d' C) : ∀ C ∈ [cn_503], c_sem l X (yY xa) xa d C := by
  have hY := yY_ok xa
  have hYS := yY_str xa
  have hIx := ix_K_ok (l := l) (X := X) hY hYS
  intro C hC
  obtain rfl := List.mem_singleton.mp hC
  exact c_meth mq_240_kt hY hYS hIx hX (q := mq_240) mq_240_at mq_240_pl mq_240_k cs_cy hcs cn_503_ok
theorem sm_241 (hX : ∀ i, i < 2 → X i = some ((x_tab i).map Int32.ofInt)) (hcs : ∀ d', d = d' + 1 → ∀ y, ∀ C ∈ cs_at y, c_sem l X (yY xa) xa d' C) : ∀ C ∈ [cn_0], c_sem l X (yY xa) xa d C := by
  have hY := yY_ok xa
  have hYS := yY_str xa
  have hIx := ix_K_ok (l := l) (X := X) hY hYS
  intro C hC
  obtain rfl := List.mem_singleton.mp hC
  exact cn_0_sem hY d
theorem sm_242 (hX : ∀ i, i < 2 → X i = some ((x_tab i).map Int32.ofInt)) (hcs : ∀ d', d = d' + 1 → ∀ y, ∀ C ∈ cs_at y, c_sem l X (yY xa) xa d' C) : ∀ C ∈ [cn_577], c_sem l X (yY xa) xa d C := by
  have hY := yY_ok xa
  have hYS := yY_str xa
  have hIx := ix_K_ok (l := l) (X := X) hY hYS
  intro C hC
  obtain rfl := List.mem_singleton.mp hC
  exact c_meth mq_242_kt hY hYS hIx hX (q := mq_242) mq_242_at mq_242_pl mq_242_k cs_cy hcs cn_577_ok
theorem sm_243 (hX : ∀ i, i < 2 → X i = some ((x_tab i).map Int32.ofInt)) (hcs : ∀ d', d = d' + 1 → ∀ y, ∀ C ∈ cs_at y, c_sem l X (yY xa) xa d' C) : ∀ C ∈ [cn_572], c_sem l X (yY xa) xa d C := by
  have hY := yY_ok xa
  have hYS := yY_str xa
  have hIx := ix_K_ok (l := l) (X := X) hY hYS
  intro C hC
  obtain rfl := List.mem_singleton.mp hC
  exact c_meth mq_243_kt hY hYS hIx hX (q := mq_243) mq_243_at mq_243_pl mq_243_k cs_cy hcs cn_572_ok
theorem sm_244 (hX : ∀ i, i < 2 → X i = some ((x_tab i).map Int32.ofInt)) (hcs : ∀ d', d = d' + 1 → ∀ y, ∀ C ∈ cs_at y, c_sem l X (yY xa) xa d' C) : ∀ C ∈ [cn_552], c_sem l X (yY xa) xa d C := by
  have hY := yY_ok xa
  have hYS := yY_str xa
  have hIx := ix_K_ok (l := l) (X := X) hY hYS
  intro C hC
  obtain rfl := List.mem_singleton.mp hC
  exact c_meth mq_244_kt hY hYS hIx hX (q := mq_244) mq_244_at mq_244_pl mq_244_k cs_cy hcs cn_552_ok
theorem sm_245 (hX : ∀ i, i < 2 → X i = some ((x_tab i).map Int32.ofInt)) (hcs : ∀ d', d = d' + 1 → ∀ y, ∀ C ∈ cs_at y, c_sem l X (yY xa) xa d' C) : ∀ C ∈ [cn_611], c_sem l X (yY xa) xa d C := by
  have hY := yY_ok xa
  have hYS := yY_str xa
  have hIx := ix_K_ok (l := l) (X := X) hY hYS
  intro C hC
  obtain rfl := List.mem_singleton.mp hC
  exact c_meth mq_245_kt hY hYS hIx hX (q := mq_245) mq_245_at mq_245_pl mq_245_k cs_cy hcs cn_611_ok
theorem sm_246 (hX : ∀ i, i < 2 → X i = some ((x_tab i).map Int32.ofInt)) (hcs : ∀ d', d = d' + 1 → ∀ y, ∀ C ∈ cs_at y, c_sem l X (yY xa) xa d' C) : ∀ C ∈ [cn_39, cn_578, cn_589, cn_599, cn_605, cn_608], c_sem l X (yY xa) xa d C := by
  have hY := yY_ok xa
  have hYS := yY_str xa
  have hIx := ix_K_ok (l := l) (X := X) hY hYS
  refine List.forall_mem_cons.mpr ⟨c_meth mq_246_kt hY hYS hIx hX (q := mq_246) mq_246_at mq_246_pl mq_246_k cs_cy hcs cn_39_ok, ?_⟩
  refine List.forall_mem_cons.mpr ⟨c_meth mq_246_kt hY hYS hIx hX (q := mq_246) mq_246_at mq_246_pl mq_246_k cs_cy hcs cn_578_ok, ?_⟩
  refine List.forall_mem_cons.mpr ⟨c_meth mq_246_kt hY hYS hIx hX (q := mq_246) mq_246_at mq_246_pl mq_246_k cs_cy hcs cn_589_ok, ?_⟩
  refine List.forall_mem_cons.mpr ⟨c_meth mq_246_kt hY hYS hIx hX (q := mq_246) mq_246_at mq_246_pl mq_246_k cs_cy hcs cn_599_ok, ?_⟩
  refine List.forall_mem_cons.mpr ⟨c_meth mq_246_kt hY hYS hIx hX (q := mq_246) mq_246_at mq_246_pl mq_246_k cs_cy hcs cn_605_ok, ?_⟩
  refine List.forall_mem_cons.mpr ⟨c_meth mq_246_kt hY hYS hIx hX (q := mq_246) mq_246_at mq_246_pl mq_246_k cs_cy hcs cn_608_ok, ?_⟩
  exact fun _ h => absurd h List.not_mem_nil
theorem sm_247 (hX : ∀ i, i < 2 → X i = some ((x_tab i).map Int32.ofInt)) (hcs : ∀ d', d = d' + 1 → ∀ y, ∀ C ∈ cs_at y, c_sem l X (yY xa) xa d' C) : ∀ C ∈ [cn_275], c_sem l X (yY xa) xa d C := by
  have hY := yY_ok xa
  have hYS := yY_str xa
  have hIx := ix_K_ok (l := l) (X := X) hY hYS
  intro C hC
  obtain rfl := List.mem_singleton.mp hC
  exact c_meth mq_247_kt hY hYS hIx hX (q := mq_247) mq_247_at mq_247_pl mq_247_k cs_cy hcs cn_275_ok
theorem sm_249 (hX : ∀ i, i < 2 → X i = some ((x_tab i).map Int32.ofInt)) (hcs : ∀ d', d = d' + 1 → ∀ y, ∀ C ∈ cs_at y, c_sem l X (yY xa) xa d' C) : ∀ C ∈ [cn_602], c_sem l X (yY xa) xa d C := by
  have hY := yY_ok xa
  have hYS := yY_str xa
  have hIx := ix_K_ok (l := l) (X := X) hY hYS
  intro C hC
  obtain rfl := List.mem_singleton.mp hC
  exact c_meth mq_249_kt hY hYS hIx hX (q := mq_249) mq_249_at mq_249_pl mq_249_k cs_cy hcs cn_602_ok
theorem sm_250 (hX : ∀ i, i < 2 → X i = some ((x_tab i).map Int32.ofInt)) (hcs : ∀ d', d = d' + 1 → ∀ y, ∀ C ∈ cs_at y, c_sem l X (yY xa) xa d' C) : ∀ C ∈ [cn_595], c_sem l X (yY xa) xa d C := by
  have hY := yY_ok xa
  have hYS := yY_str xa
  have hIx := ix_K_ok (l := l) (X := X) hY hYS
  intro C hC
  obtain rfl := List.mem_singleton.mp hC
  exact c_meth mq_250_kt hY hYS hIx hX (q := mq_250) mq_250_at mq_250_pl mq_250_k cs_cy hcs cn_595_ok
theorem sm_251 (hX : ∀ i, i < 2 → X i = some ((x_tab i).map Int32.ofInt)) (hcs : ∀ d', d = d' + 1 → ∀ y, ∀ C ∈ cs_at y, c_sem l X (yY xa) xa d' C) : ∀ C ∈ [cn_551], c_sem l X (yY xa) xa d C := by
  have hY := yY_ok xa
  have hYS := yY_str xa
  have hIx := ix_K_ok (l := l) (X := X) hY hYS
  intro C hC
  obtain rfl := List.mem_singleton.mp hC
  exact c_meth mq_251_kt hY hYS hIx hX (q := mq_251) mq_251_at mq_251_pl mq_251_k cs_cy hcs cn_551_ok
theorem sm_252 (hX : ∀ i, i < 2 → X i = some ((x_tab i).map Int32.ofInt)) (hcs : ∀ d', d = d' + 1 → ∀ y, ∀ C ∈ cs_at y, c_sem l X (yY xa) xa d' C) : ∀ C ∈ [cn_291], c_sem l X (yY xa) xa d C := by
  have hY := yY_ok xa
  have hYS := yY_str xa
  have hIx := ix_K_ok (l := l) (X := X) hY hYS
  intro C hC
  obtain rfl := List.mem_singleton.mp hC
  exact c_meth mq_252_kt hY hYS hIx hX (q := mq_252) mq_252_at mq_252_pl mq_252_k cs_cy hcs cn_291_ok
theorem sm_253 (hX : ∀ i, i < 2 → X i = some ((x_tab i).map Int32.ofInt)) (hcs : ∀ d', d = d' + 1 → ∀ y, ∀ C ∈ cs_at y, c_sem l X (yY xa) xa d' C) : ∀ C ∈ [cn_597], c_sem l X (yY xa) xa d C := by
  have hY := yY_ok xa
  have hYS := yY_str xa
  have hIx := ix_K_ok (l := l) (X := X) hY hYS
  intro C hC
  obtain rfl := List.mem_singleton.mp hC
  exact c_meth mq_253_kt hY hYS hIx hX (q := mq_253) mq_253_at mq_253_pl mq_253_k cs_cy hcs cn_597_ok
theorem sm_254 (hX : ∀ i, i < 2 → X i = some ((x_tab i).map Int32.ofInt)) (hcs : ∀ d', d = d' + 1 → ∀ y, ∀ C ∈ cs_at y, c_sem l X (yY xa) xa d' C) : ∀ C ∈ [cn_583], c_sem l X (yY xa) xa d C := by
  have hY := yY_ok xa
  have hYS := yY_str xa
  have hIx := ix_K_ok (l := l) (X := X) hY hYS
  intro C hC
  obtain rfl := List.mem_singleton.mp hC
  exact c_meth mq_254_kt hY hYS hIx hX (q := mq_254) mq_254_at mq_254_pl mq_254_k cs_cy hcs cn_583_ok
theorem sm_255 (hX : ∀ i, i < 2 → X i = some ((x_tab i).map Int32.ofInt)) (hcs : ∀ d', d = d' + 1 → ∀ y, ∀ C ∈ cs_at y, c_sem l X (yY xa) xa d' C) : ∀ C ∈ [cn_82, cn_83, cn_84, cn_85, cn_86, cn_87, cn_88, cn_89, cn_90, cn_91], c_sem l X (yY xa) xa d C := by
  have hY := yY_ok xa
  have hYS := yY_str xa
  have hIx := ix_K_ok (l := l) (X := X) hY hYS
  refine List.forall_mem_cons.mpr ⟨c_meth mq_255_kt hY hYS hIx hX (q := mq_255) mq_255_at mq_255_pl mq_255_k cs_cy hcs cn_82_ok, ?_⟩
  refine List.forall_mem_cons.mpr ⟨c_meth mq_255_kt hY hYS hIx hX (q := mq_255) mq_255_at mq_255_pl mq_255_k cs_cy hcs cn_83_ok, ?_⟩
  refine List.forall_mem_cons.mpr ⟨c_meth mq_255_kt hY hYS hIx hX (q := mq_255) mq_255_at mq_255_pl mq_255_k cs_cy hcs cn_84_ok, ?_⟩
  refine List.forall_mem_cons.mpr ⟨c_meth mq_255_kt hY hYS hIx hX (q := mq_255) mq_255_at mq_255_pl mq_255_k cs_cy hcs cn_85_ok, ?_⟩
  refine List.forall_mem_cons.mpr ⟨c_meth mq_255_kt hY hYS hIx hX (q := mq_255) mq_255_at mq_255_pl mq_255_k cs_cy hcs cn_86_ok, ?_⟩
  refine List.forall_mem_cons.mpr ⟨c_meth mq_255_kt hY hYS hIx hX (q := mq_255) mq_255_at mq_255_pl mq_255_k cs_cy hcs cn_87_ok, ?_⟩
  refine List.forall_mem_cons.mpr ⟨c_meth mq_255_kt hY hYS hIx hX (q := mq_255) mq_255_at mq_255_pl mq_255_k cs_cy hcs cn_88_ok, ?_⟩
  refine List.forall_mem_cons.mpr ⟨c_meth mq_255_kt hY hYS hIx hX (q := mq_255) mq_255_at mq_255_pl mq_255_k cs_cy hcs cn_89_ok, ?_⟩
  refine List.forall_mem_cons.mpr ⟨c_meth mq_255_kt hY hYS hIx hX (q := mq_255) mq_255_at mq_255_pl mq_255_k cs_cy hcs cn_90_ok, ?_⟩
  refine List.forall_mem_cons.mpr ⟨c_meth mq_255_kt hY hYS hIx hX (q := mq_255) mq_255_at mq_255_pl mq_255_k cs_cy hcs cn_91_ok, ?_⟩
  exact fun _ h => absurd h List.not_mem_nil
theorem sc_7 (hX : ∀ i, i < 2 → X i = some ((x_tab i).map Int32.ofInt)) (hcs : ∀ d', d = d' + 1 → ∀ y, ∀ C ∈ cs_at y, c_sem l X (yY xa) xa d' C) : ∀ r ∈ cs_tab_7, ∀ C ∈ r, c_sem l X (yY xa) xa d C := by
  unfold cs_tab_7
  refine List.forall_mem_cons.mpr ⟨sm_224 hX hcs, ?_⟩
  refine List.forall_mem_cons.mpr ⟨sm_225 hX hcs, ?_⟩
  refine List.forall_mem_cons.mpr ⟨sm_226 hX hcs, ?_⟩
  refine List.forall_mem_cons.mpr ⟨sm_227 hX hcs, ?_⟩
  refine List.forall_mem_cons.mpr ⟨sm_228 hX hcs, ?_⟩
  refine List.forall_mem_cons.mpr ⟨sm_229 hX hcs, ?_⟩
  refine List.forall_mem_cons.mpr ⟨sm_230 hX hcs, ?_⟩
  refine List.forall_mem_cons.mpr ⟨sm_231 hX hcs, ?_⟩
  refine List.forall_mem_cons.mpr ⟨sm_232 hX hcs, ?_⟩
  refine List.forall_mem_cons.mpr ⟨sm_233 hX hcs, ?_⟩
  refine List.forall_mem_cons.mpr ⟨sm_234 hX hcs, ?_⟩
  refine List.forall_mem_cons.mpr ⟨sm_235 hX hcs, ?_⟩
  refine List.forall_mem_cons.mpr ⟨sm_236 hX hcs, ?_⟩
  refine List.forall_mem_cons.mpr ⟨sm_237 hX hcs, ?_⟩
  refine List.forall_mem_cons.mpr ⟨sm_238 hX hcs, ?_⟩
  refine List.forall_mem_cons.mpr ⟨sm_239 hX hcs, ?_⟩
  refine List.forall_mem_cons.mpr ⟨sm_240 hX hcs, ?_⟩
  refine List.forall_mem_cons.mpr ⟨sm_241 hX hcs, ?_⟩
  refine List.forall_mem_cons.mpr ⟨sm_242 hX hcs, ?_⟩
  refine List.forall_mem_cons.mpr ⟨sm_243 hX hcs, ?_⟩
  refine List.forall_mem_cons.mpr ⟨sm_244 hX hcs, ?_⟩
  refine List.forall_mem_cons.mpr ⟨sm_245 hX hcs, ?_⟩
  refine List.forall_mem_cons.mpr ⟨sm_246 hX hcs, ?_⟩
  refine List.forall_mem_cons.mpr ⟨sm_247 hX hcs, ?_⟩
  refine List.forall_mem_cons.mpr ⟨(fun _ h => absurd h List.not_mem_nil), ?_⟩
  refine List.forall_mem_cons.mpr ⟨sm_249 hX hcs, ?_⟩
  refine List.forall_mem_cons.mpr ⟨sm_250 hX hcs, ?_⟩
  refine List.forall_mem_cons.mpr ⟨sm_251 hX hcs, ?_⟩
  refine List.forall_mem_cons.mpr ⟨sm_252 hX hcs, ?_⟩
  refine List.forall_mem_cons.mpr ⟨sm_253 hX hcs, ?_⟩
  refine List.forall_mem_cons.mpr ⟨sm_254 hX hcs, ?_⟩
  refine List.forall_mem_cons.mpr ⟨sm_255 hX hcs, ?_⟩
  exact fun _ h => absurd h List.not_mem_nil
end AS
end
section
/-! ALL CONTRACTS TOGETHER, 8 -/
section AS
variable {l : Launch} {X : Nat → Option (List Int32)} {xa : Nat → Nat} {d : Nat}
theorem sm_256 (hX : ∀ i, i < 2 → X i = some ((x_tab i).map Int32.ofInt)) (hcs : ∀ d', d = d' + 1 → ∀ y, ∀ C ∈ cs_at y, c_sem l X (yY xa) xa d' C) : ∀ C ∈ [cn_594], c_sem l X (yY xa) xa d C := by
  have hY := yY_ok xa
  have hYS := yY_str xa
  have hIx := ix_K_ok (l := l) (X := X) hY hYS
  intro C hC
  obtain rfl := List.mem_singleton.mp hC
  exact c_meth mq_256_kt hY hYS hIx hX (q := mq_256) mq_256_at mq_256_pl mq_256_k cs_cy hcs cn_594_ok
theorem sm_257 (hX : ∀ i, i < 2 → X i = some ((x_tab i).map Int32.ofInt)) (hcs : ∀ d', d = d' + 1 → ∀ y, ∀ C ∈ cs_at y, c_sem l X (yY xa) xa d' C) : ∀ C ∈ [cn_596], c_sem l X (yY xa) xa d C := by
  have hY := yY_ok xa
  have hYS := yY_str xa
  have hIx := ix_K_ok (l := l) (X := X) hY hYS
  intro C hC
  obtain rfl := List.mem_singleton.mp hC
  exact c_meth mq_257_kt hY hYS hIx hX (q := mq_257) mq_257_at mq_257_pl mq_257_k cs_cy hcs cn_596_ok
theorem sm_258 (hX : ∀ i, i < 2 → X i = some ((x_tab i).map Int32.ofInt)) (hcs : ∀ d', d = d' + 1 → ∀ y, ∀ C ∈ cs_at y, c_sem l X (yY xa) xa d' C) : ∀ C ∈ [cn_279], c_sem l X (yY xa) xa d C := by
  have hY := yY_ok xa
  have hYS := yY_str xa
  have hIx := ix_K_ok (l := l) (X := X) hY hYS
  intro C hC
  obtain rfl := List.mem_singleton.mp hC
  exact c_meth mq_258_kt hY hYS hIx hX (q := mq_258) mq_258_at mq_258_pl mq_258_k cs_cy hcs cn_279_ok
theorem sm_259 (hX : ∀ i, i < 2 → X i = some ((x_tab i).map Int32.ofInt)) (hcs : ∀ d', d = d' + 1 → ∀ y, ∀ C ∈ cs_at y, c_sem l X (yY xa) xa d' C) : ∀ C ∈ [cn_270], c_sem l X (yY xa) xa d C := by
  have hY := yY_ok xa
  have hYS := yY_str xa
  have hIx := ix_K_ok (l := l) (X := X) hY hYS
  intro C hC
  obtain rfl := List.mem_singleton.mp hC
  exact c_meth mq_259_kt hY hYS hIx hX (q := mq_259) mq_259_at mq_259_pl mq_259_k cs_cy hcs cn_270_ok
theorem sm_260 (hX : ∀ i, i < 2 → X i = some ((x_tab i).map Int32.ofInt)) (hcs : ∀ d', d = d' + 1 → ∀ y, ∀ C ∈ cs_at y, c_sem l X (yY xa) xa d' C) : ∀ C ∈ [cn_373], c_sem l X (yY xa) xa d C := by
  have hY := yY_ok xa
  have hYS := yY_str xa
  have hIx := ix_K_ok (l := l) (X := X) hY hYS
  intro C hC
  obtain rfl := List.mem_singleton.mp hC
  exact c_meth mq_260_kt hY hYS hIx hX (q := mq_260) mq_260_at mq_260_pl mq_260_k cs_cy hcs cn_373_ok
theorem sm_261 (hX : ∀ i, i < 2 → X i = some ((x_tab i).map Int32.ofInt)) (hcs : ∀ d', d = d' + 1 → ∀ y, ∀ C ∈ cs_at y, c_sem l X (yY xa) xa d' C) : ∀ C ∈ [cn_285], c_sem l X (yY xa) xa d C := by
  have hY := yY_ok xa
  have hYS := yY_str xa
  have hIx := ix_K_ok (l := l) (X := X) hY hYS
  intro C hC
  obtain rfl := List.mem_singleton.mp hC
  exact c_meth mq_261_kt hY hYS hIx hX (q := mq_261) mq_261_at mq_261_pl mq_261_k cs_cy hcs cn_285_ok
theorem sc_8 (hX : ∀ i, i < 2 → X i = some ((x_tab i).map Int32.ofInt)) (hcs : ∀ d', d = d' + 1 → ∀ y, ∀ C ∈ cs_at y, c_sem l X (yY xa) xa d' C) : ∀ r ∈ cs_tab_8, ∀ C ∈ r, c_sem l X (yY xa) xa d C := by
  unfold cs_tab_8
  refine List.forall_mem_cons.mpr ⟨sm_256 hX hcs, ?_⟩
  refine List.forall_mem_cons.mpr ⟨sm_257 hX hcs, ?_⟩
  refine List.forall_mem_cons.mpr ⟨sm_258 hX hcs, ?_⟩
  refine List.forall_mem_cons.mpr ⟨sm_259 hX hcs, ?_⟩
  refine List.forall_mem_cons.mpr ⟨sm_260 hX hcs, ?_⟩
  refine List.forall_mem_cons.mpr ⟨sm_261 hX hcs, ?_⟩
  exact fun _ h => absurd h List.not_mem_nil
end AS
end
section
/-! ALL CONTRACTS, whatever frames are left -/
section AS
variable {l : Launch} {X : Nat → Option (List Int32)} {xa : Nat → Nat} {d : Nat}
theorem as_step (hX : ∀ i, i < 2 → X i = some ((x_tab i).map Int32.ofInt)) (hcs : ∀ d', d = d' + 1 → ∀ y, ∀ C ∈ cs_at y, c_sem l X (yY xa) xa d' C) : ∀ y, ∀ C ∈ cs_at y, c_sem l X (yY xa) xa d C := by
  refine cs_all ?_
  unfold cs_tabs
  refine List.forall_mem_cons.mpr ⟨sc_0 hX hcs, ?_⟩
  refine List.forall_mem_cons.mpr ⟨sc_1 hX hcs, ?_⟩
  refine List.forall_mem_cons.mpr ⟨sc_2 hX hcs, ?_⟩
  refine List.forall_mem_cons.mpr ⟨sc_3 hX hcs, ?_⟩
  refine List.forall_mem_cons.mpr ⟨sc_4 hX hcs, ?_⟩
  refine List.forall_mem_cons.mpr ⟨sc_5 hX hcs, ?_⟩
  refine List.forall_mem_cons.mpr ⟨sc_6 hX hcs, ?_⟩
  refine List.forall_mem_cons.mpr ⟨sc_7 hX hcs, ?_⟩
  refine List.forall_mem_cons.mpr ⟨sc_8 hX hcs, ?_⟩
  exact fun _ h => absurd h List.not_mem_nil
end AS
theorem all_sem {l : Launch} {X : Nat → Option (List Int32)} {xa : Nat → Nat} (hX : ∀ i, i < 2 → X i = some ((x_tab i).map Int32.ofInt)) : ∀ (d y : Nat), ∀ C ∈ cs_at y, c_sem l X (yY xa) xa d C := by
  intro d
  induction d with
  | zero => exact as_step hX (fun d' h => by omega)
  | succ d ih => exact as_step hX (fun d' h => by
      obtain rfl : d' = d := by omega
      exact ih)
end
section
/-! THE CONSTRUCTORS RUN -/
def xt_5 : List (List a_K) := [[(0, .aload_n 0, 1, 0, []), (1, .invokespecial 3, 3, 0, [1, 156]), (4, .aload_n 0, 1, 0, []), (5, .bipush (9), 2, 0, []), (7, .newarray .int, 2, 0, [0, 1, 87]), (9, .putfield 9, 3, 0, [22, 8, 0, 0]), (12, .aload_n 0, 1, 0, []), (13, .bipush (9), 2, 0, []), (15, .newarray .int, 2, 0, [0, 1, 87]), (17, .putfield 15, 3, 0, [23, 8, 1, 0]), (20, .aload_n 0, 1, 0, []), (21, .iconst (5), 1, 0, []), (22, .newarray .int, 2, 0, [0, 1, 87]), (24, .putfield 18, 3, 0, [24, 8, 2, 0]), (27, .aload_n 0, 1, 0, []), (28, .iconst (5), 1, 0, []), (29, .newarray .int, 2, 0, [0, 1, 87]), (31, .putfield 21, 3, 0, [25, 8, 3, 0])],
  [(34, .aload_n 0, 1, 0, []), (35, .iconst (5), 1, 0, []), (36, .newarray .int, 2, 0, [0, 1, 87]), (38, .putfield 24, 3, 0, [26, 8, 4, 0]), (41, .aload_n 0, 1, 0, []), (42, .iconst (-1), 1, 0, []), (43, .putfield 27, 3, 0, [28, 8, 6, 0]), (46, .aload_n 0, 1, 0, []), (47, .iconst (2), 1, 0, []), (48, .putfield 31, 3, 0, [30, 8, 8, 0]), (51, .return_, 1, 0, [])]]
def xt_7 : List (List a_K) := [[(0, .aload_n 0, 1, 0, []), (1, .invokespecial 3, 3, 0, [2, 39]), (4, .aload_n 0, 1, 0, []), (5, .bipush (12), 2, 0, []), (7, .anewarray 11, 3, 0, [2, 40]), (10, .putfield 13, 3, 0, [45, 3, 0, 0]), (13, .aload_n 0, 1, 0, []), (14, .iconst (2), 1, 0, []), (15, .anewarray 11, 3, 0, [2, 40]), (18, .putfield 17, 3, 0, [46, 3, 1, 0]), (21, .aload_n 0, 1, 0, []), (22, .iconst (2), 1, 0, []), (23, .newarray .int, 2, 0, [0, 1, 87]), (25, .putfield 20, 3, 0, [47, 3, 2, 0]), (28, .iconst (0), 1, 0, []), (29, .istore_n 1, 1, 0, []), (30, .iload_n 1, 1, 0, []), (31, .bipush (12), 2, 0, [])],
  [(33, .if_icmp .ge (22), 3, 0, []), (36, .aload_n 0, 1, 0, []), (37, .getfield 13, 3, 0, [45, 3, 0, 0]), (40, .iload_n 1, 1, 0, []), (41, .new 11, 3, 0, [8, 2, 40, 1, 152, 1, 5]), (44, .dup, 1, 0, []), (45, .invokespecial 24, 3, 0, [315, 5, 1, 1]), (48, .aastore, 1, 0, []), (49, .iinc 1 (1), 3, 0, []), (52, .goto (-22), 3, 0, []), (55, .iconst (0), 1, 0, []), (56, .istore_n 1, 1, 0, []), (57, .iload_n 1, 1, 0, []), (58, .iconst (2), 1, 0, []), (59, .if_icmp .ge (29), 3, 0, []), (62, .aload_n 0, 1, 0, []), (63, .getfield 17, 3, 0, [46, 3, 1, 0])],
  [(66, .iload_n 1, 1, 0, []), (67, .new 11, 3, 0, [8, 2, 40, 1, 152, 1, 5]), (70, .dup, 1, 0, []), (71, .invokespecial 24, 3, 0, [315, 5, 1, 1]), (74, .aastore, 1, 0, []), (75, .aload_n 0, 1, 0, []), (76, .getfield 20, 3, 0, [47, 3, 2, 0]), (79, .iload_n 1, 1, 0, []), (80, .iconst (-1), 1, 0, []), (81, .iastore, 1, 0, []), (82, .iinc 1 (1), 3, 0, []), (85, .goto (-28), 3, 0, []), (88, .return_, 1, 0, [])]]
def xt_13 : List (List a_K) := [[(0, .aload_n 0, 1, 0, []), (1, .invokespecial 1, 3, 0, [2, 224]), (4, .aload_n 0, 1, 0, []), (5, .bipush (9), 2, 0, []), (7, .anewarray 9, 3, 0, [2, 225]), (10, .putfield 11, 3, 0, [87, 10, 2, 0]), (13, .aload_n 0, 1, 0, []), (14, .bipush (9), 2, 0, []), (16, .newarray .long, 2, 0, [4, 3, 13]), (18, .putfield 15, 3, 0, [88, 10, 3, 0]), (21, .aload_n 0, 1, 0, []), (22, .aload_n 1, 1, 0, []), (23, .putfield 19, 3, 0, [85, 10, 0, 0]), (26, .aload_n 0, 1, 0, []), (27, .aload_n 2, 1, 0, []), (28, .putfield 23, 3, 0, [86, 10, 1, 0]), (31, .iconst (0), 1, 0, [])],
  [(32, .istore_n 3, 1, 0, []), (33, .iload_n 3, 1, 0, []), (34, .bipush (8), 2, 0, []), (36, .if_icmp .gt (22), 3, 0, []), (39, .aload_n 0, 1, 0, []), (40, .getfield 11, 3, 0, [87, 10, 2, 0]), (43, .iload_n 3, 1, 0, []), (44, .new 9, 3, 0, [8, 2, 225, 1, 152, 1, 5]), (47, .dup, 1, 0, []), (48, .invokespecial 27, 3, 0, [319, 5, 1, 1]), (51, .aastore, 1, 0, []), (52, .iinc 3 (1), 3, 0, []), (55, .goto (-22), 3, 0, []), (58, .return_, 1, 0, [])]]
def xt_159 : List (List a_K) := [[(0, .aload_n 0, 1, 0, []), (1, .invokespecial 3, 3, 0, [6, 141]), (4, .aload_n 0, 1, 0, []), (5, .bipush (37), 2, 0, []), (7, .newarray .int, 2, 0, [0, 1, 87]), (9, .putfield 9, 3, 0, [107, 13, 0, 0]), (12, .aload_n 0, 1, 0, []), (13, .bipush (30), 2, 0, []), (15, .newarray .int, 2, 0, [0, 1, 87]), (17, .putfield 13, 3, 0, [111, 13, 4, 0]), (20, .aload_n 0, 1, 0, []), (21, .iconst (5), 1, 0, []), (22, .putfield 16, 3, 0, [112, 13, 5, 0]), (25, .aload_n 0, 1, 0, []), (26, .iconst (1), 1, 0, []), (27, .putfield 20, 3, 0, [113, 13, 6, 0]), (30, .aload_n 0, 1, 0, []), (31, .bipush (80), 2, 0, [])],
  [(33, .newarray .byte, 2, 0, [1, 4, 65]), (35, .putfield 23, 3, 0, [114, 13, 7, 0]), (38, .aload_n 0, 1, 0, []), (39, .bipush (16), 2, 0, []), (41, .newarray .long, 2, 0, [4, 3, 13]), (43, .putfield 27, 3, 0, [116, 13, 9, 0]), (46, .aload_n 0, 1, 0, []), (47, .bipush (9), 2, 0, []), (49, .newarray .int, 2, 0, [0, 1, 87]), (51, .putfield 31, 3, 0, [124, 13, 17, 0]), (54, .aload_n 0, 1, 0, []), (55, .bipush (35), 2, 0, []), (57, .newarray .int, 2, 0, [0, 1, 87]), (59, .putfield 34, 3, 0, [125, 13, 18, 0]), (62, .aload_n 0, 1, 0, []), (63, .bipush (40), 2, 0, [])],
  [(65, .newarray .byte, 2, 0, [1, 4, 65]), (67, .putfield 37, 3, 0, [126, 13, 19, 0]), (70, .aload_n 0, 1, 0, []), (71, .bipush (7), 2, 0, []), (73, .newarray .int, 2, 0, [0, 1, 87]), (75, .putfield 40, 3, 0, [129, 13, 22, 0]), (78, .aload_n 0, 1, 0, []), (79, .iconst (-1), 1, 0, []), (80, .putfield 43, 3, 0, [130, 13, 23, 0]), (83, .aload_n 0, 1, 0, []), (84, .sipush (444), 3, 0, []), (87, .newarray .int, 2, 0, [0, 1, 87]), (89, .putfield 46, 3, 0, [131, 13, 24, 0]), (92, .aload_n 0, 1, 0, []), (93, .bipush (37), 2, 0, []), (95, .newarray .int, 2, 0, [0, 1, 87])],
  [(97, .putfield 49, 3, 0, [133, 13, 26, 0]), (100, .aload_n 0, 1, 0, []), (101, .bipush (9), 2, 0, []), (103, .newarray .int, 2, 0, [0, 1, 87]), (105, .putfield 52, 3, 0, [134, 13, 27, 0]), (108, .aload_n 0, 1, 0, []), (109, .sipush (240), 3, 0, []), (112, .newarray .int, 2, 0, [0, 1, 87]), (114, .putfield 55, 3, 0, [143, 13, 36, 0]), (117, .aload_n 0, 1, 0, []), (118, .bipush (37), 2, 0, []), (120, .newarray .int, 2, 0, [0, 1, 87]), (122, .putfield 58, 3, 0, [144, 13, 37, 0]), (125, .aload_n 0, 1, 0, []), (126, .iconst (5), 1, 0, []), (127, .newarray .int, 2, 0, [0, 1, 87])],
  [(129, .putfield 61, 3, 0, [145, 13, 38, 0]), (132, .aload_n 0, 1, 0, []), (133, .iconst (5), 1, 0, []), (134, .newarray .int, 2, 0, [0, 1, 87]), (136, .putfield 64, 3, 0, [147, 13, 40, 0]), (139, .aload_n 0, 1, 0, []), (140, .iconst (5), 1, 0, []), (141, .newarray .int, 2, 0, [0, 1, 87]), (143, .putfield 67, 3, 0, [148, 13, 41, 0]), (146, .aload_n 0, 1, 0, []), (147, .iconst (5), 1, 0, []), (148, .newarray .int, 2, 0, [0, 1, 87]), (150, .putfield 70, 3, 0, [151, 13, 44, 0]), (153, .aload_n 0, 1, 0, []), (154, .bipush (100), 2, 0, []), (156, .newarray .boolean, 2, 0, [3, 7, 71]), (158, .putfield 73, 3, 0, [152, 13, 45, 0])],
  [(161, .aload_n 0, 1, 0, []), (162, .sipush (185), 3, 0, []), (165, .newarray .int, 2, 0, [0, 1, 87]), (167, .putfield 77, 3, 0, [153, 13, 46, 0]), (170, .aload_n 0, 1, 0, []), (171, .iconst (5), 1, 0, []), (172, .newarray .int, 2, 0, [0, 1, 87]), (174, .putfield 80, 3, 0, [154, 13, 47, 0]), (177, .aload_n 0, 1, 0, []), (178, .iconst (5), 1, 0, []), (179, .newarray .int, 2, 0, [0, 1, 87]), (181, .putfield 83, 3, 0, [155, 13, 48, 0]), (184, .aload_n 0, 1, 0, []), (185, .bipush (8), 2, 0, []), (187, .newarray .int, 2, 0, [0, 1, 87]), (189, .putfield 86, 3, 0, [157, 13, 50, 0])],
  [(192, .aload_n 0, 1, 0, []), (193, .bipush (9), 2, 0, []), (195, .newarray .int, 2, 0, [0, 1, 87]), (197, .putfield 89, 3, 0, [158, 13, 51, 0]), (200, .aload_n 0, 1, 0, []), (201, .bipush (74), 2, 0, []), (203, .newarray .int, 2, 0, [0, 1, 87]), (205, .putfield 92, 3, 0, [160, 13, 53, 0]), (208, .aload_n 0, 1, 0, []), (209, .iconst (2), 1, 0, []), (210, .newarray .boolean, 2, 0, [3, 7, 71]), (212, .putfield 95, 3, 0, [161, 13, 54, 0]), (215, .aload_n 0, 1, 0, []), (216, .iconst (2), 1, 0, []), (217, .newarray .int, 2, 0, [0, 1, 87]), (219, .putfield 98, 3, 0, [162, 13, 55, 0]), (222, .aload_n 0, 1, 0, []), (223, .getfield 9, 3, 0, [107, 13, 0, 0])],
  [(226, .bipush (34), 2, 0, []), (228, .iconst (-1), 1, 0, []), (229, .iastore, 1, 0, []), (230, .aload_n 0, 1, 0, []), (231, .getfield 9, 3, 0, [107, 13, 0, 0]), (234, .bipush (36), 2, 0, []), (236, .iconst (2), 1, 0, []), (237, .iastore, 1, 0, []), (238, .return_, 1, 0, [])]]
def xt_12 : List (List a_K) := [[(0, .aload_n 0, 1, 0, []), (1, .invokespecial 3, 3, 0, [2, 192]), (4, .aload_n 0, 1, 0, []), (5, .bipush (6), 2, 0, []), (7, .anewarray 11, 3, 0, [2, 193]), (10, .putfield 13, 3, 0, [80, 9, 2, 0]), (13, .aload_n 0, 1, 0, []), (14, .iconst (5), 1, 0, []), (15, .newarray .int, 2, 0, [0, 1, 87]), (17, .putfield 17, 3, 0, [81, 9, 3, 0]), (20, .aload_n 0, 1, 0, []), (21, .iconst (5), 1, 0, []), (22, .newarray .int, 2, 0, [0, 1, 87]), (24, .putfield 21, 3, 0, [82, 9, 4, 0]), (27, .aload_n 0, 1, 0, []), (28, .aload_n 1, 1, 0, []), (29, .putfield 24, 3, 0, [78, 9, 0, 0])],
  [(32, .aload_n 0, 1, 0, []), (33, .aload_n 2, 1, 0, []), (34, .putfield 28, 3, 0, [79, 9, 1, 0]), (37, .iconst (0), 1, 0, []), (38, .istore_n 3, 1, 0, []), (39, .iload_n 3, 1, 0, []), (40, .iconst (5), 1, 0, []), (41, .if_icmp .gt (22), 3, 0, []), (44, .aload_n 0, 1, 0, []), (45, .getfield 13, 3, 0, [80, 9, 2, 0]), (48, .iload_n 3, 1, 0, []), (49, .new 11, 3, 0, [8, 2, 193, 1, 152, 1, 5]), (52, .dup, 1, 0, []), (53, .invokespecial 32, 3, 0, [318, 5, 1, 1]), (56, .aastore, 1, 0, []), (57, .iinc 3 (1), 3, 0, []), (60, .goto (-21), 3, 0, []), (63, .return_, 1, 0, [])]]
def xt_0 : List (List a_K) := [[(0, .aload_n 0, 1, 0, []), (1, .invokespecial 3, 3, 0, [1, 33]), (4, .aload_n 0, 1, 0, []), (5, .new 9, 3, 0, [6, 1, 36, 1, 37, 1, 2]), (8, .dup, 1, 0, []), (9, .invokespecial 11, 3, 0, [312, 1, 1, 1]), (12, .putfield 12, 3, 0, [93, 12, 0, 0]), (15, .aload_n 0, 1, 0, []), (16, .new 16, 3, 0, [1, 1, 58, 1, 59, 1, 3]), (19, .dup, 1, 0, []), (20, .invokespecial 18, 3, 0, [313, 2, 1, 1]), (23, .putfield 19, 3, 0, [94, 12, 1, 0]), (26, .aload_n 0, 1, 0, []), (27, .new 23, 3, 0, [8, 1, 151, 1, 152, 1, 5]), (30, .dup, 1, 0, []), (31, .invokespecial 25, 3, 0, [314, 5, 1, 1])],
  [(34, .putfield 26, 3, 0, [95, 12, 2, 0]), (37, .aload_n 0, 1, 0, []), (38, .new 23, 3, 0, [8, 1, 151, 1, 152, 1, 5]), (41, .dup, 1, 0, []), (42, .invokespecial 25, 3, 0, [314, 5, 1, 1]), (45, .putfield 30, 3, 0, [96, 12, 3, 0]), (48, .aload_n 0, 1, 0, []), (49, .new 33, 3, 0, [0, 1, 212, 1, 213, 1, 6]), (52, .dup, 1, 0, []), (53, .aload_n 0, 1, 0, []), (54, .getfield 19, 3, 0, [94, 12, 1, 0]), (57, .invokespecial 35, 3, 0, [3, 6, 1, 0]), (60, .putfield 38, 3, 0, [97, 12, 4, 0]), (63, .aload_n 0, 1, 0, [])],
  [(64, .new 42, 3, 0, [3, 2, 34, 2, 35, 1, 7]), (67, .dup, 1, 0, []), (68, .invokespecial 44, 3, 0, [4, 7, 1, 0]), (71, .putfield 45, 3, 0, [98, 12, 5, 0]), (74, .aload_n 0, 1, 0, []), (75, .new 49, 3, 0, [5, 2, 60, 2, 61, 1, 8]), (78, .dup, 1, 0, []), (79, .aload_n 0, 1, 0, []), (80, .getfield 12, 3, 0, [93, 12, 0, 0]), (83, .invokespecial 51, 3, 0, [5, 8, 1, 0]), (86, .putfield 54, 3, 0, [99, 12, 6, 0]), (89, .aload_n 0, 1, 0, []), (90, .new 58, 3, 0, [11, 2, 78, 2, 79, 1, 9]), (93, .dup, 1, 0, []), (94, .aload_n 0, 1, 0, []), (95, .getfield 12, 3, 0, [93, 12, 0, 0])],
  [(98, .invokespecial 60, 3, 0, [6, 9, 1, 0]), (101, .putfield 61, 3, 0, [100, 12, 7, 0]), (104, .aload_n 0, 1, 0, []), (105, .new 65, 3, 0, [2, 2, 104, 2, 105, 1, 10]), (108, .dup, 1, 0, []), (109, .aload_n 0, 1, 0, []), (110, .getfield 19, 3, 0, [94, 12, 1, 0]), (113, .aload_n 0, 1, 0, []), (114, .getfield 38, 3, 0, [97, 12, 4, 0]), (117, .invokespecial 67, 3, 0, [7, 10, 1, 0]), (120, .putfield 70, 3, 0, [101, 12, 8, 0]), (123, .aload_n 0, 1, 0, []), (124, .new 74, 3, 0, [7, 2, 159, 2, 160, 1, 11]), (127, .dup, 1, 0, [])],
  [(128, .aload_n 0, 1, 0, []), (129, .getfield 19, 3, 0, [94, 12, 1, 0]), (132, .aload_n 0, 1, 0, []), (133, .getfield 38, 3, 0, [97, 12, 4, 0]), (136, .invokespecial 76, 3, 0, [8, 11, 1, 0]), (139, .putfield 77, 3, 0, [102, 12, 9, 0]), (142, .aload_n 0, 1, 0, []), (143, .new 81, 3, 0, [9, 2, 187, 2, 188, 1, 12]), (146, .dup, 1, 0, []), (147, .aload_n 0, 1, 0, []), (148, .getfield 19, 3, 0, [94, 12, 1, 0]), (151, .aload_n 0, 1, 0, []), (152, .getfield 38, 3, 0, [97, 12, 4, 0]), (155, .invokespecial 83, 3, 0, [9, 12, 1, 0]), (158, .putfield 84, 3, 0, [103, 12, 10, 0])],
  [(161, .aload_n 0, 1, 0, []), (162, .new 88, 3, 0, [10, 2, 219, 2, 220, 1, 13]), (165, .dup, 1, 0, []), (166, .aload_n 0, 1, 0, []), (167, .getfield 19, 3, 0, [94, 12, 1, 0]), (170, .aload_n 0, 1, 0, []), (171, .getfield 38, 3, 0, [97, 12, 4, 0]), (174, .invokespecial 90, 3, 0, [10, 13, 1, 0]), (177, .putfield 91, 3, 0, [104, 12, 11, 0]), (180, .aload_n 0, 1, 0, []), (181, .bipush (9), 2, 0, []), (183, .newarray .long, 2, 0, [4, 3, 13]), (185, .putfield 95, 3, 0, [105, 12, 12, 0]), (188, .return_, 1, 0, [])]]
def xt_10 : List (List a_K) := [[(0, .aload_n 0, 1, 0, []), (1, .invokespecial 5, 3, 0, [2, 109]), (4, .aload_n 0, 1, 0, []), (5, .new 11, 3, 0, [8, 2, 110, 1, 152, 1, 5]), (8, .dup, 1, 0, []), (9, .invokespecial 13, 3, 0, [316, 5, 1, 1]), (12, .putfield 14, 3, 0, [60, 2, 2, 0]), (15, .aload_n 0, 1, 0, []), (16, .new 11, 3, 0, [8, 2, 110, 1, 152, 1, 5]), (19, .dup, 1, 0, []), (20, .invokespecial 13, 3, 0, [316, 5, 1, 1]), (23, .putfield 18, 3, 0, [61, 2, 3, 0]), (26, .aload_n 0, 1, 0, []), (27, .iconst (4), 1, 0, []), (28, .newarray .int, 2, 0, [0, 1, 87]), (30, .putfield 21, 3, 0, [62, 2, 4, 0])],
  [(33, .aload_n 0, 1, 0, []), (34, .iconst (4), 1, 0, []), (35, .newarray .int, 2, 0, [0, 1, 87]), (37, .putfield 25, 3, 0, [63, 2, 5, 0]), (40, .aload_n 0, 1, 0, []), (41, .iconst (4), 1, 0, []), (42, .newarray .int, 2, 0, [0, 1, 87]), (44, .putfield 28, 3, 0, [64, 2, 6, 0]), (47, .aload_n 0, 1, 0, []), (48, .iconst (3), 1, 0, []), (49, .newarray .int, 2, 0, [0, 1, 87]), (51, .putfield 31, 3, 0, [65, 2, 7, 0]), (54, .aload_n 0, 1, 0, []), (55, .sipush (375), 3, 0, []), (58, .newarray .int, 2, 0, [0, 1, 87]), (60, .putfield 34, 3, 0, [66, 2, 8, 0]), (63, .aload_n 0, 1, 0, [])],
  [(64, .aload_n 1, 1, 0, []), (65, .putfield 37, 3, 0, [58, 2, 0, 0]), (68, .aload_n 0, 1, 0, []), (69, .aload_n 2, 1, 0, []), (70, .putfield 41, 3, 0, [59, 2, 1, 0]), (73, .return_, 1, 0, [])]]
def xt_2 : List (List a_K) := [[(0, .aload_n 0, 1, 0, []), (1, .invokespecial 3, 3, 0, [1, 63]), (4, .aload_n 0, 1, 0, []), (5, .new 9, 3, 0, [4, 1, 64, 1, 65, 1, 4]), (8, .dup, 1, 0, []), (9, .invokespecial 11, 3, 0, [1, 3, 1, 0]), (12, .putfield 12, 3, 0, [8, 1, 0, 0]), (15, .aload_n 0, 1, 0, []), (16, .bipush (30), 2, 0, []), (18, .newarray .int, 2, 0, [0, 1, 87]), (20, .putfield 18, 3, 0, [9, 1, 1, 0]), (23, .aload_n 0, 1, 0, []), (24, .bipush (9), 2, 0, []), (26, .newarray .int, 2, 0, [0, 1, 87]), (28, .putfield 22, 3, 0, [10, 1, 2, 0]), (31, .aload_n 0, 1, 0, [])],
  [(32, .iconst (5), 1, 0, []), (33, .newarray .int, 2, 0, [0, 1, 87]), (35, .putfield 25, 3, 0, [11, 1, 3, 0]), (38, .aload_n 0, 1, 0, []), (39, .bipush (30), 2, 0, []), (41, .newarray .int, 2, 0, [0, 1, 87]), (43, .putfield 28, 3, 0, [12, 1, 4, 0]), (46, .aload_n 0, 1, 0, []), (47, .iconst (5), 1, 0, []), (48, .putfield 31, 3, 0, [20, 1, 12, 0]), (51, .aload_n 0, 1, 0, []), (52, .iconst (1), 1, 0, []), (53, .putfield 35, 3, 0, [21, 1, 13, 0]), (56, .return_, 1, 0, [])]]
def xt_6 : List (List a_K) := [[(0, .aload_n 0, 1, 0, []), (1, .invokespecial 3, 3, 0, [1, 217]), (4, .aload_n 0, 1, 0, []), (5, .bipush (9), 2, 0, []), (7, .newarray .int, 2, 0, [0, 1, 87]), (9, .putfield 9, 3, 0, [32, 0, 1, 0]), (12, .aload_n 0, 1, 0, []), (13, .bipush (9), 2, 0, []), (15, .newarray .int, 2, 0, [0, 1, 87]), (17, .putfield 15, 3, 0, [33, 0, 2, 0]), (20, .aload_n 0, 1, 0, []), (21, .bipush (9), 2, 0, []), (23, .newarray .int, 2, 0, [0, 1, 87]), (25, .putfield 18, 3, 0, [34, 0, 3, 0]), (28, .aload_n 0, 1, 0, []), (29, .iconst (-1), 1, 0, []), (30, .putfield 21, 3, 0, [35, 0, 4, 0])],
  [(33, .aload_n 0, 1, 0, []), (34, .aload_n 1, 1, 0, []), (35, .putfield 25, 3, 0, [31, 0, 0, 0]), (38, .return_, 1, 0, [])]]
def xt_4 : List (List a_K) := [[(0, .aload_n 0, 1, 0, []), (1, .getfield 9, 3, 0, [4, 4, 0, 0]), (4, .iconst (0), 1, 0, []), (5, .sipush (1000), 3, 0, []), (8, .iastore, 1, 0, []), (9, .aload_n 0, 1, 0, []), (10, .getfield 9, 3, 0, [4, 4, 0, 0]), (13, .iconst (1), 1, 0, []), (14, .iconst (2), 1, 0, []), (15, .iastore, 1, 0, []), (16, .aload_n 0, 1, 0, []), (17, .getfield 9, 3, 0, [4, 4, 0, 0]), (20, .iconst (2), 1, 0, []), (21, .sipush (2047), 3, 0, []), (24, .iastore, 1, 0, []), (25, .aload_n 0, 1, 0, []), (26, .iconst (3), 1, 0, []), (27, .putfield 22, 3, 0, [7, 4, 3, 0]), (30, .return_, 1, 0, [])]]
def xt_11 : List (List a_K) := [[(0, .aload_n 0, 1, 0, []), (1, .invokespecial 3, 3, 0, [2, 164]), (4, .aload_n 0, 1, 0, []), (5, .new 9, 3, 0, [8, 2, 165, 1, 152, 1, 5]), (8, .dup, 1, 0, []), (9, .invokespecial 11, 3, 0, [317, 5, 1, 1]), (12, .putfield 12, 3, 0, [74, 7, 2, 0]), (15, .aload_n 0, 1, 0, []), (16, .new 9, 3, 0, [8, 2, 165, 1, 152, 1, 5]), (19, .dup, 1, 0, []), (20, .invokespecial 11, 3, 0, [317, 5, 1, 1]), (23, .putfield 18, 3, 0, [75, 7, 3, 0]), (26, .aload_n 0, 1, 0, []), (27, .aload_n 1, 1, 0, []), (28, .putfield 21, 3, 0, [72, 7, 0, 0]), (31, .aload_n 0, 1, 0, [])],
  [(32, .aload_n 2, 1, 0, []), (33, .putfield 25, 3, 0, [73, 7, 1, 0]), (36, .return_, 1, 0, [])]]
def xt_9 : List (List a_K) := [[(0, .aload_n 0, 1, 0, []), (1, .invokespecial 5, 3, 0, [2, 83]), (4, .aload_n 0, 1, 0, []), (5, .bipush (30), 2, 0, []), (7, .newarray .int, 2, 0, [0, 1, 87]), (9, .putfield 11, 3, 0, [54, 11, 1, 0]), (12, .aload_n 0, 1, 0, []), (13, .bipush (30), 2, 0, []), (15, .newarray .int, 2, 0, [0, 1, 87]), (17, .putfield 15, 3, 0, [55, 11, 2, 0]), (20, .aload_n 0, 1, 0, []), (21, .bipush (30), 2, 0, []), (23, .newarray .int, 2, 0, [0, 1, 87]), (25, .putfield 18, 3, 0, [56, 11, 3, 0]), (28, .aload_n 0, 1, 0, []), (29, .aload_n 1, 1, 0, []), (30, .putfield 21, 3, 0, [53, 11, 0, 0])],
  [(33, .return_, 1, 0, [])]]
def xt_3 : List (List a_K) := [[(0, .aload_n 0, 1, 0, []), (1, .invokespecial 3, 3, 0, [1, 69]), (4, .aload_n 0, 1, 0, []), (5, .bipush (40), 2, 0, []), (7, .newarray .int, 2, 0, [0, 1, 87]), (9, .putfield 9, 3, 0, [4, 4, 0, 0]), (12, .aload_n 0, 1, 0, []), (13, .bipush (40), 2, 0, []), (15, .newarray .int, 2, 0, [0, 1, 87]), (17, .putfield 13, 3, 0, [5, 4, 1, 0]), (20, .aload_n 0, 1, 0, []), (21, .bipush (7), 2, 0, []), (23, .newarray .int, 2, 0, [0, 1, 87]), (25, .putfield 16, 3, 0, [6, 4, 2, 0]), (28, .aload_n 0, 1, 0, []), (29, .invokevirtual 19, 3, 0, [2, 4, 0, 0])],
  [(32, .return_, 1, 0, [])]]
def xt_8 : List (List a_K) := [[(0, .aload_n 0, 1, 0, []), (1, .invokespecial 3, 3, 0, [2, 65]), (4, .aload_n 0, 1, 0, []), (5, .bipush (40), 2, 0, []), (7, .newarray .int, 2, 0, [0, 1, 87]), (9, .putfield 11, 3, 0, [51, 5, 1, 0]), (12, .aload_n 0, 1, 0, []), (13, .aload_n 1, 1, 0, []), (14, .putfield 17, 3, 0, [50, 5, 0, 0]), (17, .return_, 1, 0, [])]]
def xt_1 : List (List a_K) := [[(0, .aload_n 0, 1, 0, []), (1, .invokespecial 3, 3, 0, [1, 41]), (4, .aload_n 0, 1, 0, []), (5, .bipush (80), 2, 0, []), (7, .newarray .char, 2, 0, [2, 1, 57]), (9, .putfield 11, 3, 0, [0, 6, 0, 0]), (12, .return_, 1, 0, [])]]
noncomputable def x_one (c : Nat) (ini : Bool) (cc : ByteArray) (q : a_K) : Bool := k_dec cc q && x_wchk c ini q.2.1 q.2.2.2.2
noncomputable def x_seq (c : Nat) (ini : Bool) (code : ByteArray) : List a_K → Nat → List UInt8 → Bool
  | [], _, _ => true
  | q :: t, pc, l => Nat.beq q.1 pc && ((d_dec code q l && x_wchk c ini q.2.1 q.2.2.2.2) && x_seq c ini code t (pc + q.2.2.1) (l.drop q.2.2.1))
theorem x_seq_ok {c : Nat} {ini : Bool} {code : ByteArray} : ∀ (r : List a_K) (pc : Nat) (l : List UInt8), code.data.toList.drop pc = l → x_seq c ini code r pc l = true → r.all (x_one c ini code) = true
  | [], _, _, _, _ => rfl
  | q :: t, pc, l, hl, h => by
    obtain ⟨h1, h⟩ := Bool.and_eq_true _ _ |>.mp h
    obtain ⟨h2, h3⟩ := Bool.and_eq_true _ _ |>.mp h
    obtain ⟨h4, h5⟩ := Bool.and_eq_true _ _ |>.mp h2
    have e := Nat.eq_of_beq_eq_true h1
    have a1 : x_one c ini code q = true := Bool.and_eq_true _ _ |>.mpr ⟨d_dec_ok (by rw [e]; exact hl) h4, h5⟩
    have a2 := x_seq_ok t (pc + q.2.2.1) (l.drop q.2.2.1) (by rw [← hl, List.drop_drop]) h3
    exact Bool.and_eq_true _ _ |>.mpr ⟨a1, a2⟩
noncomputable def x_row (c : Nat) (ini : Bool) (code : ByteArray) (r : List a_K) : Bool := match r with
  | [] => true
  | q :: _ => x_seq c ini code r q.1 (code.data.toList.drop q.1)
theorem x_row_ok {c : Nat} {ini : Bool} {code : ByteArray} {r : List a_K} (h : x_row c ini code r = true) : r.all (x_one c ini code) = true := by
  cases r with
  | nil => rfl
  | cons q t => exact x_seq_ok (q :: t) q.1 _ rfl h
theorem x_allQ {c : Nat} {ini : Bool} {code : ByteArray} {K : List (List a_K)} (h : K.all (x_row c ini code) = true) : K.all (fun r => r.all (x_one c ini code)) = true := List.all_eq_true.mpr fun r hr => x_row_ok (List.all_eq_true.mp h r hr)
theorem x_all_ok {c : Nat} {ini : Bool} {own : String} {cc : ByteArray} {code : List (List a_K)} (ho : own = a_R c) (h : code.all (fun r => r.all (x_one c ini cc)) = true) : ∀ r ∈ code, ∀ e ∈ r, decode cc e.1 = .ok (e.2.1, e.2.2.1) ∧ x_wd own (ini = true) e.2.1 e.2.2.2.2 := fun r hr e he => by
  obtain ⟨h1, h2⟩ := Bool.and_eq_true _ _ |>.mp (List.all_eq_true.mp (List.all_eq_true.mp h r hr) e he)
  rw [ho]
  exact ⟨k_dec_ok h1, x_wchk_ok h2⟩
def xcode : Nat → List (List a_K) := fun y => match y with
  | 0 => xt_0
  | 1 => xt_1
  | 2 => xt_2
  | 3 => xt_3
  | 4 => xt_4
  | 5 => xt_5
  | 6 => xt_6
  | 7 => xt_7
  | 8 => xt_8
  | 9 => xt_9
  | 10 => xt_10
  | 11 => xt_11
  | 12 => xt_12
  | 13 => xt_13
  | 159 => xt_159
  | _ => []
theorem xt_5_ok : xt_5.all (fun r => r.all (x_one 8 true prog_10_method_1_code)) = true := x_allQ (by decide +kernel)
theorem xt_7_ok : xt_7.all (fun r => r.all (x_one 3 true prog_5_method_1_code)) = true := x_allQ (by decide +kernel)
theorem xt_13_ok : xt_13.all (fun r => r.all (x_one 10 true prog_12_method_1_code)) = true := x_allQ (by decide +kernel)
theorem xt_159_ok : xt_159.all (fun r => r.all (x_one 13 true prog_15_method_1_code)) = true := x_allQ (by decide +kernel)
theorem xt_12_ok : xt_12.all (fun r => r.all (x_one 9 true prog_11_method_1_code)) = true := x_allQ (by decide +kernel)
theorem xt_0_ok : xt_0.all (fun r => r.all (x_one 12 true prog_1_method_1_code)) = true := x_allQ (by decide +kernel)
theorem xt_10_ok : xt_10.all (fun r => r.all (x_one 2 true prog_4_method_1_code)) = true := x_allQ (by decide +kernel)
theorem xt_2_ok : xt_2.all (fun r => r.all (x_one 1 true prog_3_method_1_code)) = true := x_allQ (by decide +kernel)
theorem xt_6_ok : xt_6.all (fun r => r.all (x_one 0 true prog_2_method_1_code)) = true := x_allQ (by decide +kernel)
theorem xt_4_ok : xt_4.all (fun r => r.all (x_one 4 false prog_6_method_2_code)) = true := x_allQ (by decide +kernel)
theorem xt_11_ok : xt_11.all (fun r => r.all (x_one 7 true prog_9_method_1_code)) = true := x_allQ (by decide +kernel)
theorem xt_9_ok : xt_9.all (fun r => r.all (x_one 11 true prog_13_method_1_code)) = true := x_allQ (by decide +kernel)
theorem xt_3_ok : xt_3.all (fun r => r.all (x_one 4 true prog_6_method_1_code)) = true := x_allQ (by decide +kernel)
theorem xt_8_ok : xt_8.all (fun r => r.all (x_one 5 true prog_7_method_1_code)) = true := x_allQ (by decide +kernel)
theorem xt_1_ok : xt_1.all (fun r => r.all (x_one 6 true prog_8_method_1_code)) = true := x_allQ (by decide +kernel)
theorem xcode_ok : x_codeOk xcode := by
  intro y q hq r hr e he
  unfold xcode at hr
  split at hr
  · cases hq
    have h := x_all_ok (own := RX12) (c := 12) rfl xt_0_ok r hr e he
    exact ⟨h.1, by simpa using h.2⟩
  · cases hq
    have h := x_all_ok (own := RX6) (c := 6) rfl xt_1_ok r hr e he
    exact ⟨h.1, by simpa using h.2⟩
  · cases hq
    have h := x_all_ok (own := RX1) (c := 1) rfl xt_2_ok r hr e he
    exact ⟨h.1, by simpa using h.2⟩
  · cases hq
    have h := x_all_ok (own := RX4) (c := 4) rfl xt_3_ok r hr e he
    exact ⟨h.1, by simpa using h.2⟩
  · cases hq
    have h := x_all_ok (own := RX4) (c := 4) rfl xt_4_ok r hr e he
    exact ⟨h.1, by simpa using h.2⟩
  · cases hq
    have h := x_all_ok (own := RX8) (c := 8) rfl xt_5_ok r hr e he
    exact ⟨h.1, by simpa using h.2⟩
  · cases hq
    have h := x_all_ok (own := RX0) (c := 0) rfl xt_6_ok r hr e he
    exact ⟨h.1, by simpa using h.2⟩
  · cases hq
    have h := x_all_ok (own := RX3) (c := 3) rfl xt_7_ok r hr e he
    exact ⟨h.1, by simpa using h.2⟩
  · cases hq
    have h := x_all_ok (own := RX5) (c := 5) rfl xt_8_ok r hr e he
    exact ⟨h.1, by simpa using h.2⟩
  · cases hq
    have h := x_all_ok (own := RX11) (c := 11) rfl xt_9_ok r hr e he
    exact ⟨h.1, by simpa using h.2⟩
  · cases hq
    have h := x_all_ok (own := RX2) (c := 2) rfl xt_10_ok r hr e he
    exact ⟨h.1, by simpa using h.2⟩
  · cases hq
    have h := x_all_ok (own := RX7) (c := 7) rfl xt_11_ok r hr e he
    exact ⟨h.1, by simpa using h.2⟩
  · cases hq
    have h := x_all_ok (own := RX9) (c := 9) rfl xt_12_ok r hr e he
    exact ⟨h.1, by simpa using h.2⟩
  · cases hq
    have h := x_all_ok (own := RX10) (c := 10) rfl xt_13_ok r hr e he
    exact ⟨h.1, by simpa using h.2⟩
  · cases hq
    have h := x_all_ok (own := RX13) (c := 13) rfl xt_159_ok r hr e he
    exact ⟨h.1, by simpa using h.2⟩
  · cases hr
/-- the cells behind both constructors, and the law's own row -/
def xs_0 : m_H := [(.inr 12, x_dfs 12)]
noncomputable def xs_1 : Option (m_H × Nat × Nat) := x_exec xcode 3000 8 0 (xs_0, 0, 0, 0, lv_args 0 [.ref 0], [])
noncomputable def xs_2 : Option (m_H × Nat × Nat) := match xs_1 with
  | some (σ, _, _) => x_exec xcode 3000 8 159 (σ ++ [(.inr 13, x_dfs 13)], 0, 0, 0, lv_args 0 [.ref σ.length], [])
  | none => none
noncomputable def t_okb (t : Nat × Int × Int) (v : Value) : Bool := match t.1, v with
  | 0, .int x => i_le t.2.1 x.toInt && i_le x.toInt t.2.2
  | 1, .ref k => Nat.beq k t.2.1.toNat
  | 2, .long _ => true
  | 3, .int x => i_eq x.toInt 0
  | 4, .null => true
  | 4, .ref _ => true
  | _, _ => false
def m_vOkb : Value → Bool
  | .ref k => Nat.blt k h_N
  | _ => true
noncomputable def r_okb (p : Nat) : Nat → List Value → Bool
  | _, [] => true
  | k, v :: vs => t_okb (h_ty p k) v && (m_vOkb v && r_okb p (k + 1) vs)
noncomputable def h_okb : Nat → m_H → Bool
  | _, [] => true
  | p, c :: σ => decide (c.1 = h_kd p) && (Nat.beq c.2.length (h_ln p) && (r_okb p 0 c.2 && h_okb (p + 1) σ))
noncomputable def xs_3b : Bool := match xs_1, xs_2 with
  | some (a, c1, s1), some (b, c2, s2) => Nat.beq a.length 251 && (Nat.beq b.length 278 && (Nat.ble c1 300 && (Nat.ble c2 300 && (Nat.ble s1 4000 && (Nat.ble s2 4000 && h_okb 0 (b ++ [(.inl 4, [.long 0])]))))))
  | _, _ => false
set_option maxRecDepth 1000000 in
theorem xs_ok : xs_3b = true := by decide +kernel
end
section
/-! THE SAME FRAME, seen from a later heap: nothing made yet -/
section RB
variable {p : Program} {l : Launch} {e : Env} {R : Room} {s : State} {m : MethodId} {args : Array Value} {below : List Frame} {meth : Method} {c : Code}
def s_base (s : State) (m : MethodId) (args : Array Value) (below : List Frame) (T : State) : State := (T.setVm s.vm).setFrames (.invoking m args :: below)
theorem st_tr {R' : Room} {T0 T2 : State} {locs locs2 : List Loc} {k n c2 n2 : Nat} (X1 : Stand p l e R s m args below meth c T0 locs k n) (X2 : Stand p l e R' (s_base s m args below T0) m args below meth c T2 locs2 c2 n2) : Stand p l e R s m args below meth c T2 (locs ++ locs2) (k + c2) (n + n2) := by
  have hsame : (T0.setVm s.vm).sameButNew (T2.setVm s.vm) locs2 c2 n2 := by
    obtain ⟨e, q⟩ := X2.same
    refine ⟨?_, q⟩
    unfold s_base at e
    rw [State.setFrames_setFrames] at e
    exact e
  have hl : e.platform.stackLimits T2.me = e.platform.stackLimits s.me := by
    refine X2.limits.trans ?_
    unfold s_base
    rw [State.stackLimits_setFrames]
    exact X1.limits
  have hb : T2.me.stackBytes = s.me.stackBytes := by
    refine X2.bytes.trans ?_
    unfold s_base
    rw [State.stackBytes_setFrames]
    exact X1.bytes
  exact ⟨X1.admits, X1.cas, X1.clock, X1.frames, X1.room, X1.hears, X1.method, X1.code, X2.here, X2.tail, X2.warmed, hl, hb, X1.same.trans hsame⟩
end RB
section RM
variable {p : Program} {l : Launch} {e : Env} {R : Room} {s : State} {m : MethodId} {args : Array Value} {below : List Frame} {meth : Method} {c : Code} {QQ : State → Prop} {dC : Nat → ClassId} {dI : Nat → Nat → Nat} {aC : Nat → ClassId} {A : Nat → Prop} {n0 : Nat} {ad0 xa : Nat → Nat} {nL : Nat} {cc : ByteArray} {own : String} {X : Nat → Option (List Int32)} {Y : (Nat → Prop) → State → Heap → Prop}
def r_small (R : Room) : Room := { frames := R.frames, cells := 1, slots := 6, locals := R.locals }
theorem mV_reb (hY : m_Yok Y) (hC : m_Ctx p s m args meth c cc nL own dC dI aC A xa X Y) {σ : m_H} {k n pc : Nat} {ls : List (Nat × Value)} {st : List Value} (hk : k + 1 ≤ R.cells) (hn : n + 6 ≤ R.slots)
    (h : ∀ s' : State, m_Ctx p s' m args meth c cc nL own dC dI aC A xa X Y → (∀ (σ2 : m_H) (c2 n2 pc2 : Nat) (ls2 : List (Nat × Value)) (st2 : List Value), mV p l e R s m args below meth c QQ dC dI aC A n0 ad0 xa nL (σ2, k + c2, n + n2, pc2, ls2, st2) → mV p l e (r_small R) s' m args below meth c QQ dC dI aC A n0 ad0 xa nL (σ2, c2, n2, pc2, ls2, st2)) →
      mV p l e (r_small R) s' m args below meth c QQ dC dI aC A n0 ad0 xa nL (σ, 0, 0, pc, ls, st)) : mV p l e R s m args below meth c QQ dC dI aC A n0 ad0 xa nL (σ, k, n, pc, ls, st) := by
  intro ad H locs lsC h1 h2 h3 h4 h5 h6 T0 hT X1
  have X2 := vx_rebase X1 (R' := r_small R) (Nat.le_refl _) (Nat.le_refl _) hk hn
  have hH : (s_base s m args below T0).heap = H := hT
  have hvm : (s_base s m args below T0).vm = s.vm := rfl
  have hW : s.WarmedH (s_base s m args below T0).vm := by rw [hvm]; exact State.WarmedH.refl s
  have hE : m_Ext X Y xa A s H := m_Ext.kept hY h5.2.1 hC.2.2.2.2.2.2.2.1
  have hE2 : m_Ext X Y xa A (s_base s m args below T0) (s_base s m args below T0).heap := by rw [hH]; exact hE.warm hY hW
  have hC2 : m_Ctx p (s_base s m args below T0) m args meth c cc nL own dC dI aC A xa X Y := ⟨hC.1, hC.2.1, hC.2.2.1, hC.2.2.2.1, fun w hw => pay_in hC.2.2.2.2.1 (a_good (fun w h => h)) w hw _ _ hW, va_K.moved hW.alike hC.2.2.2.2.2.1, fun q hq => hC.2.2.2.2.2.2.1 q (by rw [hH] at hq; exact Nat.le_trans h5.1 hq), hE2, hC.2.2.2.2.2.2.2.2⟩
  refine h (s_base s m args below T0) hC2 ?_ ad H [] lsC h1 h2 h3 h4 (by rw [hH]; exact va_S.rf) h6 T0 hT X2
  intro σ2 c2 n2 pc2 ls2 st2 hm ad2 H2 locs2 lsC2 g1 g2 g3 g4 g5 g6 T2 hT2 X3
  rw [hH] at g5
  exact hm ad2 H2 (locs ++ locs2) lsC2 g1 g2 g3 g4 ⟨Nat.le_trans h5.1 g5.1, fun q q1 q2 => (g5.2.1 q (Nat.lt_of_lt_of_le q1 h5.1) q2).trans (h5.2.1 q q1 q2), fun q hq => by
    rcases List.mem_append.mp hq with h | h
    · exact h5.2.2 q h
    · exact g5.2.2 q h⟩ g6 T2 hT2 (st_tr X1 X3)
end RM
end
section
/-! THE READER, one instruction more: the law reads its script -/
section GB
variable {p : Program} {l : Launch} {e : Env} {R : Room} {s : State} {m : MethodId} {args : Array Value} {below : List Frame} {meth : Method} {c : Code} {dC : Nat → ClassId} {dI : Nat → Nat → Nat} {aC : Nat → ClassId} {ad0 xa : Nat → Nat} {nL : Nat} {cc : ByteArray} {own : String} {X : Nat → Option (List Int32)} {Y : (Nat → Prop) → State → Heap → Prop}
variable {Z : z_G → z_Q → Prop} {T fv : Int} {ρ0 : List Int} {σ0 : m_H} {md : A_D} {sz nr : Nat} {alts : List A_A} {cuts : List A_S} {code : List (List a_K)} {cs : Nat → List A_C} {dp : A_L} {dc : Nat} {dv : Int}
theorem a_nx_ok {QQ : z_Q → State → Prop} {A : Nat → Prop} {n0 : Nat} (hC : m_Ctx p s m args meth c cc nL own dC dI aC A xa X Y) (hY : m_Yok Y) (hYS : ∀ A U H, Y A U H → y_str xa A U H) (hIx : ix_K l X Y xa) (hX : ∀ i, i < 2 → X i = some ((x_tab i).map Int32.ofInt)) (hT : T ≤ 1073741824) (hn0 : n0 ≤ h_N) (hcy : ∀ y, ∀ C ∈ cs y, C.1 = y) (hcs : ∀ d, dc = d + 1 → ∀ y, ∀ C ∈ cs y, c_sem l X Y xa d C) (hdp : l_ev ρ0 dp = some dv) (hdv : dv ≤ (dc : Int)) (hR0 : dc ≤ R.frames ∧ 40 * dc ≤ R.locals)
    {q : a_K} {S : A_S} {g : m_G} {L : List A_S} {B : Int} {ρ : List Int} (hq : k_ok own cc q) (hpc : q.1 = S.1) (hkq : k_get code S.1 = some q) (hg : g_ok T fv ρ0 σ0 md B ρ S g) (hL : a_nx cs md dp nL q S = some L) (kk : ∀ S ∈ L, ∀ (B : Int) (ρ : List Int) (g : m_G), g_ok T fv ρ0 σ0 md B ρ S g → mW code Z p l e R s m args below meth c QQ dC dI aC A n0 ad0 xa nL g) : mW code Z p l e R s m args below meth c QQ dC dI aC A n0 ad0 xa nL g := by
  obtain ⟨k1, k2, k3, k4, k5, k6, k7⟩ := hq
  rw [hpc] at k1
  obtain ⟨pc, E, F, ls, st, ov, bu, ph⟩ := S
  obtain ⟨σ, ce, sl, pc', lsC, stC⟩ := g
  have hpc2 : pc' = pc := hg.pc
  subst hpc2
  obtain ⟨q0, i, n, fl, aux⟩ := q
  have hpc : q0 = pc' := hpc
  subst hpc
  have kdx : z_dx code cc q0 i n aux := ⟨k1, fl, hkq⟩
  unfold a_nx at hL
  simp only at hL k1 k2 k3 k4 k5 k6 k7
  split at hL
  · rename_i x j y w ne
    cases hn : Nat.beq n 3
    · rw [hn] at hL; cases hL
    · rw [hn] at hL
      have hn := Nat.eq_of_beq_eq_true hn
      subst hn
      exact st_inv_ok hC hY hT (Or.inl rfl) hg kdx (k3 x j y w ne (Or.inl rfl) rfl) (hcy y) (fun d hd => hcs d hd y) hdp hdv hR0 hn0 hL kk
  · rename_i x j y w ne
    cases hn : Nat.beq n 3
    · rw [hn] at hL; cases hL
    · rw [hn] at hL
      have hn := Nat.eq_of_beq_eq_true hn
      subst hn
      exact st_inv_ok hC hY hT (Or.inr rfl) hg kdx (k3 x j y w ne (Or.inr rfl) rfl) (hcy y) (fun d hd => hcs d hd y) hdp hdv hR0 hn0 hL kk
  · rename_i x a b
    cases hn : Nat.beq n 3
    · rw [hn] at hL; cases hL
    · rw [hn] at hL
      have hn := Nat.eq_of_beq_eq_true hn
      subst hn
      exact st_cpy_ok hC hg kdx (k4 x a b rfl rfl) hdp hdv hR0 hL kk
  · rename_i x kd a b
    cases hn : Nat.beq n 3
    · rw [hn] at hL; cases hL
    · rw [hn] at hL
      have hn := Nat.eq_of_beq_eq_true hn
      subst hn
      exact st_nat_ok hC hg kdx (k5 x kd a b rfl rfl) hdp hdv hR0 hL kk
  · rename_i x a b w
    cases hn : Nat.beq n 3
    · rw [hn] at hL; cases hL
    · rw [hn] at hL
      have hn := Nat.eq_of_beq_eq_true hn
      subst hn
      exact st_ix_ok hC hY hYS hIx hg kdx (k6 x a b w rfl rfl) hdp hdv hR0 hn0 hL kk
  · rename_i x a b
    cases hn : Nat.beq n 2
    · rw [hn] at hL; cases hL
    · rw [hn] at hL
      have hn := Nat.eq_of_beq_eq_true hn
      subst hn
      cases hL
      obtain ⟨hown, hx⟩ := k7 x a b rfl rfl
      subst hown
      subst hx
      refine mW_ldcs hC (hYS _ _ _ hC.2.2.2.2.2.2.2.1.2.2.2.2).1 kdx (kk _ List.mem_cons_self B ρ _ (hg.to (st' := (2, m_X0 + 2, 0) :: st) r_ext.rf hg.e hg.f hg.l hg.lv ⟨rfl, hg.s⟩ (fun v hv => ?_) hg.o))
      rcases List.mem_cons.mp hv with rfl | hv
      · exact Or.inr (Nat.le_add_right _ _)
      · exact hg.sv v hv
  · exact a_step_ok hC hX hT hg kdx k2 hL kk
/-- the law's row of numbers: five from where it stands, the variables 1 .. 5 -/
noncomputable def b_rd (pc n : Nat) (E : A_E) (F : A_F) (ls : List (Nat × A_V)) (st : List A_V) (ov : A_O) (bu ph : A_L) : Option (List A_S) := match st with
  | b :: a :: r => bif Nat.beq n 1 && (Nat.beq b.1 1 && (Nat.beq b.2.1 0 && (i_le 0 b.2.2 && (i_le b.2.2 4 && (Nat.beq a.1 2 && Nat.beq a.2.1 (m_X0 + 3)))))) then some [(pc + 1, E, F, ls, (1, b.2.2.toNat + 1, 0) :: r, ov, bu, ph)] else none
  | _ => none
def b_isRd (q : a_K) : Bool := match q.2.1, q.2.2.2.2 with
  | .iaload, [77] => true
  | _, _ => false
noncomputable def b_nx (cs : Nat → List A_C) (md : A_D) (dp : A_L) (nL : Nat) (q : a_K) (S : A_S) : Option (List A_S) := bif b_isRd q then (match S with
  | (pc, E, F, ls, st, ov, bu, ph) => b_rd pc q.2.2.1 E F ls st ov bu ph) else a_nx cs md dp nL q S
theorem b_rd_ok {QQ : z_Q → State → Prop} {A : Nat → Prop} {n0 : Nat} (hC : m_Ctx p s m args meth c cc nL own dC dI aC A xa X Y) {Ls : List Int32} (hX3 : X 3 = some Ls) {i0 : Int} (hi : ρ0[0]? = some i0) (hi0 : 0 ≤ i0) (hi5 : i0 + 5 ≤ Ls.length) (hsc : ∀ c : Nat, c ≤ 4 → ρ0[c + 1]? = some (Ls.getD (i0.toNat + c) 0).toInt) {pc n : Nat} {E : A_E} {F : A_F} {ls : List (Nat × A_V)} {st : List A_V} {ov : A_O} {bu ph : A_L} {L : List A_S} {g : m_G} {B : Int} {ρ : List Int} {aux : List Nat} (hZT : ∀ g r, Z g r) (hd : z_dx code cc pc .iaload n aux) (hg : g_ok T fv ρ0 σ0 md B ρ (pc, E, F, ls, st, ov, bu, ph) g) (hL : b_rd pc n E F ls st ov bu ph = some L) (kk : ∀ S ∈ L, ∀ (B : Int) (ρ : List Int) (g : m_G), g_ok T fv ρ0 σ0 md B ρ S g → mW code Z p l e R s m args below meth c QQ dC dI aC A n0 ad0 xa nL g) : mW code Z p l e R s m args below meth c QQ dC dI aC A n0 ad0 xa nL g := by
  obtain ⟨σ, ce, sl, pc', lsC, stC⟩ := g
  have hpc2 : pc' = pc := hg.pc
  subst hpc2
  unfold b_rd at hL
  split at hL
  · rename_i b a r
    cases hc : Nat.beq n 1 && (Nat.beq b.1 1 && (Nat.beq b.2.1 0 && (i_le 0 b.2.2 && (i_le b.2.2 4 && (Nat.beq a.1 2 && Nat.beq a.2.1 (m_X0 + 3))))))
    · rw [hc] at hL; cases hL
    · rw [hc] at hL
      cases hL
      obtain ⟨c1, hc⟩ := Bool.and_eq_true _ _ |>.mp hc
      obtain ⟨c2, hc⟩ := Bool.and_eq_true _ _ |>.mp hc
      obtain ⟨c3, hc⟩ := Bool.and_eq_true _ _ |>.mp hc
      obtain ⟨c4, hc⟩ := Bool.and_eq_true _ _ |>.mp hc
      obtain ⟨c5, hc⟩ := Bool.and_eq_true _ _ |>.mp hc
      obtain ⟨c6, c7⟩ := Bool.and_eq_true _ _ |>.mp hc
      have e1 := Nat.eq_of_beq_eq_true c1
      have e2 := Nat.eq_of_beq_eq_true c2
      have e3 := Nat.eq_of_beq_eq_true c3
      have e4 := i_le_iff.mp c4
      have e5 := i_le_iff.mp c5
      have e6 := Nat.eq_of_beq_eq_true c6
      have e7 := Nat.eq_of_beq_eq_true c7
      obtain ⟨bt, bv, bk⟩ := b
      obtain ⟨at_, av, ak⟩ := a
      simp only at e2 e3 e4 e5 e6 e7
      clear c1 c2 c3 c4 c5 c6 c7
      subst e1; subst e2; subst e3; subst e6; subst e7
      have hs := hg.s
      cases stC with
      | nil => exact absurd hs id
      | cons v1 t1 =>
      obtain ⟨hv1, hs⟩ := hs
      cases t1 with
      | nil => exact absurd hs id
      | cons v2 t2 =>
      obtain ⟨hv2, hs⟩ := hs
      obtain ⟨x, r0, rfl, hr0, hx⟩ := v_var hv1
      have hv2 : v2 = .ref (m_X0 + 3) := hv2
      subst hv2
      have e0 : r0 = i0 := Option.some.inj (hr0.symm.trans (hg.x0 0 i0 hi))
      have ex : x.toNatClampNeg = i0.toNat + bk.toNat := by
        show x.toInt.toNat = _
        omega
      have hy := hg.x0 _ _ (hsc bk.toNat (by omega))
      refine mW_xaload hC hd hX3 (vp_in_iff.mpr ⟨by omega, by omega⟩) (Or.inr hZT) ?_
      rw [ex]
      refine kk _ List.mem_cons_self B ρ _ ?_
      exact hg.to (st' := (1, bk.toNat + 1, 0) :: r) r_ext.rf hg.e hg.f hg.l hg.lv ⟨v_mk0 hy rfl, hs⟩ (fun v hv => by
        rcases List.mem_cons.mp hv with rfl | hv
        · trivial
        · exact hg.sv v (List.mem_cons_of_mem _ (List.mem_cons_of_mem _ hv))) hg.o
  · cases hL
noncomputable def b_go (cs : Nat → List A_C) (md : A_D) (dp : A_L) (nL nr : Nat) (alts : List A_A) (cuts : List A_S) (rt : Option FieldType) (code : List (List a_K)) : Nat → Nat → A_S → Bool
  | 0, _, _ => false
  | f + 1, 0, S => bif cuts.any (fun U => Nat.beq U.1 S.1) then cuts.any (c_arr nr S) else b_go cs md dp nL nr alts cuts rt code f 1 S
  | f + 1, 1, S => match k_get code S.1 with
    | none => false
    | some q => bif Nat.beq (q.2.2.2.1 % 2) 1 then (match s_split S with
      | some L => L.all (b_go cs md dp nL nr alts cuts rt code f 2)
      | none => false) else b_go cs md dp nL nr alts cuts rt code f 2 S
  | f + 1, _, S => match k_get code S.1 with
    | none => false
    | some q => bif a_isRt q.2.1 then a_rt nr alts rt q.2.1 q.2.2.1 S else (match b_nx cs md dp nL q S with
      | some L => L.all (b_go cs md dp nL nr alts cuts rt code f 0)
      | none => false)
theorem b_go_0 {cs : Nat → List A_C} {md : A_D} {dp : A_L} {nL nr : Nat} {alts : List A_A} {cuts : List A_S} {rt : Option FieldType} {code : List (List a_K)} {f : Nat} {S : A_S} : b_go cs md dp nL nr alts cuts rt code (f + 1) 0 S = (bif cuts.any (fun U => Nat.beq U.1 S.1) then cuts.any (c_arr nr S) else b_go cs md dp nL nr alts cuts rt code f 1 S) := rfl
theorem b_go_1 {cs : Nat → List A_C} {md : A_D} {dp : A_L} {nL nr : Nat} {alts : List A_A} {cuts : List A_S} {rt : Option FieldType} {code : List (List a_K)} {f : Nat} {S : A_S} : b_go cs md dp nL nr alts cuts rt code (f + 1) 1 S = (match k_get code S.1 with
    | none => false
    | some q => bif Nat.beq (q.2.2.2.1 % 2) 1 then (match s_split S with
      | some L => L.all (b_go cs md dp nL nr alts cuts rt code f 2)
      | none => false) else b_go cs md dp nL nr alts cuts rt code f 2 S) := rfl
theorem b_go_2 {cs : Nat → List A_C} {md : A_D} {dp : A_L} {nL nr : Nat} {alts : List A_A} {cuts : List A_S} {rt : Option FieldType} {code : List (List a_K)} {f j : Nat} {S : A_S} : b_go cs md dp nL nr alts cuts rt code (f + 1) (j + 2) S = (match k_get code S.1 with
    | none => false
    | some q => bif a_isRt q.2.1 then a_rt nr alts rt q.2.1 q.2.2.1 S else (match b_nx cs md dp nL q S with
      | some L => L.all (b_go cs md dp nL nr alts cuts rt code f 0)
      | none => false)) := rfl
theorem b_go_ok (hZT : ∀ g r, Z g r) {Ls : List Int32} (hX3 : X 3 = some Ls) {i0 : Int} (hi : ρ0[0]? = some i0) (hi0 : 0 ≤ i0) (hi5 : i0 + 5 ≤ Ls.length) (hsc : ∀ c : Nat, c ≤ 4 → ρ0[c + 1]? = some (Ls.getD (i0.toNat + c) 0).toInt) {QQ : z_Q → State → Prop} {A : Nat → Prop} {n0 : Nat} (hC : m_Ctx p s m args meth c cc nL own dC dI aC A xa X Y) (hY : m_Yok Y) (hYS : ∀ A U H, Y A U H → y_str xa A U H) (hIx : ix_K l X Y xa) (hX : ∀ i, i < 2 → X i = some ((x_tab i).map Int32.ofInt)) (hT : T ≤ 1073741824) (hl : ρ0.length = nr) (hn0 : n0 ≤ h_N)
    (hk : ∀ r ∈ code, ∀ q ∈ r, k_ok own cc q) (hcy : ∀ y, ∀ C ∈ cs y, C.1 = y) (hcs : ∀ d, dc = d + 1 → ∀ y, ∀ C ∈ cs y, c_sem l X Y xa d C) (hdp : l_ev ρ0 dp = some dv) (hdv : dv ≤ (dc : Int)) (hR0 : dc ≤ R.frames ∧ 40 * dc ≤ R.locals)
    (hret : ∀ (B : Int) (ρ : List Int) (S : A_S) (g : m_G) (i : Jvm.ClassFile.Instr) (n : Nat) (aux : List Nat), g_ok T fv ρ0 σ0 md B ρ S g → z_dx code cc S.1 i n aux → a_rt nr alts meth.sig.returnType i n S = true → mW code Z p l e R s m args below meth c QQ dC dI aC A n0 ad0 xa nL g)
    (hcut : ∀ U ∈ cuts, ∀ (fv' B : Int) (ρ : List Int) (g : m_G), fv' < fv → 0 ≤ fv' → g_ok T fv' ρ0 σ0 md B ρ U g → mW code Z p l e R s m args below meth c QQ dC dI aC A n0 ad0 xa nL g) :
    ∀ (f mode : Nat) (S : A_S), b_go cs md dp nL nr alts cuts meth.sig.returnType code f mode S = true → ∀ (B : Int) (ρ : List Int) (g : m_G), g_ok T fv ρ0 σ0 md B ρ S g → mW code Z p l e R s m args below meth c QQ dC dI aC A n0 ad0 xa nL g := by
  intro f
  induction f with
  | zero => intro mode S h; unfold b_go at h; cases h
  | succ f ih =>
    intro mode S h B ρ g hg
    rcases (show mode = 0 ∨ mode = 1 ∨ ∃ j, mode = j + 2 from by
      match mode with
      | 0 => exact Or.inl rfl
      | 1 => exact Or.inr (Or.inl rfl)
      | j + 2 => exact Or.inr (Or.inr ⟨j, rfl⟩)) with rfl | rfl | ⟨j0, rfl⟩
    · rw [b_go_0] at h
      cases hb : cuts.any (fun U => Nat.beq U.1 S.1)
      · rw [hb] at h
        exact ih 1 S h B ρ g hg
      · rw [hb] at h
        obtain ⟨U, hU, hA⟩ := List.any_eq_true.mp h
        obtain ⟨fv', ρ', g1, g2, g3⟩ := c_arr_ok hT hg hl hA
        exact hcut U hU fv' B ρ' g g2 g3 g1
    · rw [b_go_1] at h
      split at h
      · cases h
      · rename_i q hq
        cases hb : Nat.beq (q.2.2.2.1 % 2) 1
        · rw [hb] at h
          exact ih 2 S h B ρ g hg
        · rw [hb] at h
          simp only [cond_true] at h
          split at h
          · rename_i L hL
            obtain ⟨S', h1, h2⟩ := s_split_ok hg hL
            exact ih 2 S' (List.all_eq_true.mp h S' h1) B ρ g h2
          · cases h
    · rw [b_go_2] at h
      split at h
      · cases h
      · rename_i q hq
        obtain ⟨⟨r, r1, r2⟩, hpc⟩ := k_get_in hq
        have hkq := hk r r1 q r2
        have k1 := hkq.1
        rw [hpc] at k1
        cases hb : a_isRt q.2.1
        · rw [hb] at h
          simp only [cond_false] at h
          split at h
          · rename_i L hL
            have kk : ∀ S ∈ L, ∀ (B : Int) (ρ : List Int) (g : m_G), g_ok T fv ρ0 σ0 md B ρ S g → mW code Z p l e R s m args below meth c QQ dC dI aC A n0 ad0 xa nL g := fun S' hS' B' ρ' g' hg' => ih 0 S' (List.all_eq_true.mp h S' hS') B' ρ' g' hg'
            unfold b_nx at hL
            cases hrd : b_isRd q
            · rw [hrd] at hL
              exact a_nx_ok hC hY hYS hIx hX hT hn0 hcy hcs hdp hdv hR0 hkq hpc hq hg hL kk
            · rw [hrd] at hL
              obtain ⟨pc, E, F, ls, st, ov, bu, ph⟩ := S
              obtain ⟨q0, i, n, fl, aux⟩ := q
              simp only at k1 hL hpc hq
              have hi9 : i = .iaload := by
                unfold b_isRd at hrd
                simp only at hrd
                split at hrd
                · rfl
                · cases hrd
              subst hi9
              exact b_rd_ok hC hX3 hi hi0 hi5 hsc hZT ⟨k1, fl, by rw [hq, hpc]⟩ hg hL kk
          · cases h
        · rw [hb] at h
          have kdx : z_dx code cc S.1 q.2.1 q.2.2.1 q.2.2.2.2 := ⟨k1, q.2.2.2.1, by rw [hq, ← hpc]⟩
          exact hret B ρ S g _ _ _ hg kdx h
end GB
end
