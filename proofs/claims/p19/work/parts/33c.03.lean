/-! ALL CONTRACTS TOGETHER, 3 -/
section AS
variable {l : Launch} {X : Nat → Option (List Int32)} {xa : Nat → Nat} {d : Nat}
theorem sm_96 (hX : ∀ i, i < 2 → X i = some ((x_tab i).map Int32.ofInt)) (hcs : ∀ d', d = d' + 1 → ∀ y, ∀ C ∈ cs_at y, c_sem l X (yY xa) xa d' C) : ∀ C ∈ [cn_388], c_sem l X (yY xa) xa d C := by
  have hY := yY_ok xa
  have hYS := yY_str xa
  have hIx := ix_K_ok (l := l) (X := X) hY hYS
  intro C hC
  obtain rfl := List.mem_singleton.mp hC
  exact c_meth mq_96_kt hY hYS hIx hX (q := mq_96) mq_96_at mq_96_pl mq_96_k cs_cy hcs cn_388_ok
theorem sm_97 (hX : ∀ i, i < 2 → X i = some ((x_tab i).map Int32.ofInt)) (hcs : ∀ d', d = d' + 1 → ∀ y, ∀ C ∈ cs_at y, c_sem l X (yY xa) xa d' C) : ∀ C ∈ [cn_363, cn_364, cn_365], c_sem l X (yY xa) xa d C := by
  have hY := yY_ok xa
  have hYS := yY_str xa
  have hIx := ix_K_ok (l := l) (X := X) hY hYS
  refine List.forall_mem_cons.mpr ⟨c_meth mq_97_kt hY hYS hIx hX (q := mq_97) mq_97_at mq_97_pl mq_97_k cs_cy hcs cn_363_ok, ?_⟩
  refine List.forall_mem_cons.mpr ⟨c_meth mq_97_kt hY hYS hIx hX (q := mq_97) mq_97_at mq_97_pl mq_97_k cs_cy hcs cn_364_ok, ?_⟩
  refine List.forall_mem_cons.mpr ⟨c_meth mq_97_kt hY hYS hIx hX (q := mq_97) mq_97_at mq_97_pl mq_97_k cs_cy hcs cn_365_ok, ?_⟩
  exact fun _ h => absurd h List.not_mem_nil
theorem sm_98 (hX : ∀ i, i < 2 → X i = some ((x_tab i).map Int32.ofInt)) (hcs : ∀ d', d = d' + 1 → ∀ y, ∀ C ∈ cs_at y, c_sem l X (yY xa) xa d' C) : ∀ C ∈ [cn_435], c_sem l X (yY xa) xa d C := by
  have hY := yY_ok xa
  have hYS := yY_str xa
  have hIx := ix_K_ok (l := l) (X := X) hY hYS
  intro C hC
  obtain rfl := List.mem_singleton.mp hC
  exact c_meth mq_98_kt hY hYS hIx hX (q := mq_98) mq_98_at mq_98_pl mq_98_k cs_cy hcs cn_435_ok
theorem sm_99 (hX : ∀ i, i < 2 → X i = some ((x_tab i).map Int32.ofInt)) (hcs : ∀ d', d = d' + 1 → ∀ y, ∀ C ∈ cs_at y, c_sem l X (yY xa) xa d' C) : ∀ C ∈ [cn_201], c_sem l X (yY xa) xa d C := by
  have hY := yY_ok xa
  have hYS := yY_str xa
  have hIx := ix_K_ok (l := l) (X := X) hY hYS
  intro C hC
  obtain rfl := List.mem_singleton.mp hC
  exact c_meth mq_99_kt hY hYS hIx hX (q := mq_99) mq_99_at mq_99_pl mq_99_k cs_cy hcs cn_201_ok
theorem sm_100 (hX : ∀ i, i < 2 → X i = some ((x_tab i).map Int32.ofInt)) (hcs : ∀ d', d = d' + 1 → ∀ y, ∀ C ∈ cs_at y, c_sem l X (yY xa) xa d' C) : ∀ C ∈ [cn_13], c_sem l X (yY xa) xa d C := by
  have hY := yY_ok xa
  have hYS := yY_str xa
  have hIx := ix_K_ok (l := l) (X := X) hY hYS
  intro C hC
  obtain rfl := List.mem_singleton.mp hC
  exact c_meth mq_100_kt hY hYS hIx hX (q := mq_100) mq_100_at mq_100_pl mq_100_k cs_cy hcs cn_13_ok
theorem sm_101 (hX : ∀ i, i < 2 → X i = some ((x_tab i).map Int32.ofInt)) (hcs : ∀ d', d = d' + 1 → ∀ y, ∀ C ∈ cs_at y, c_sem l X (yY xa) xa d' C) : ∀ C ∈ [cn_99], c_sem l X (yY xa) xa d C := by
  have hY := yY_ok xa
  have hYS := yY_str xa
  have hIx := ix_K_ok (l := l) (X := X) hY hYS
  intro C hC
  obtain rfl := List.mem_singleton.mp hC
  exact c_meth mq_101_kt hY hYS hIx hX (q := mq_101) mq_101_at mq_101_pl mq_101_k cs_cy hcs cn_99_ok
theorem sm_102 (hX : ∀ i, i < 2 → X i = some ((x_tab i).map Int32.ofInt)) (hcs : ∀ d', d = d' + 1 → ∀ y, ∀ C ∈ cs_at y, c_sem l X (yY xa) xa d' C) : ∀ C ∈ [cn_431], c_sem l X (yY xa) xa d C := by
  have hY := yY_ok xa
  have hYS := yY_str xa
  have hIx := ix_K_ok (l := l) (X := X) hY hYS
  intro C hC
  obtain rfl := List.mem_singleton.mp hC
  exact c_meth mq_102_kt hY hYS hIx hX (q := mq_102) mq_102_at mq_102_pl mq_102_k cs_cy hcs cn_431_ok
theorem sm_103 (hX : ∀ i, i < 2 → X i = some ((x_tab i).map Int32.ofInt)) (hcs : ∀ d', d = d' + 1 → ∀ y, ∀ C ∈ cs_at y, c_sem l X (yY xa) xa d' C) : ∀ C ∈ [cn_391], c_sem l X (yY xa) xa d C := by
  have hY := yY_ok xa
  have hYS := yY_str xa
  have hIx := ix_K_ok (l := l) (X := X) hY hYS
  intro C hC
  obtain rfl := List.mem_singleton.mp hC
  exact c_meth mq_103_kt hY hYS hIx hX (q := mq_103) mq_103_at mq_103_pl mq_103_k cs_cy hcs cn_391_ok
theorem sm_104 (hX : ∀ i, i < 2 → X i = some ((x_tab i).map Int32.ofInt)) (hcs : ∀ d', d = d' + 1 → ∀ y, ∀ C ∈ cs_at y, c_sem l X (yY xa) xa d' C) : ∀ C ∈ [cn_317], c_sem l X (yY xa) xa d C := by
  have hY := yY_ok xa
  have hYS := yY_str xa
  have hIx := ix_K_ok (l := l) (X := X) hY hYS
  intro C hC
  obtain rfl := List.mem_singleton.mp hC
  exact c_meth mq_104_kt hY hYS hIx hX (q := mq_104) mq_104_at mq_104_pl mq_104_k cs_cy hcs cn_317_ok
theorem sm_105 (hX : ∀ i, i < 2 → X i = some ((x_tab i).map Int32.ofInt)) (hcs : ∀ d', d = d' + 1 → ∀ y, ∀ C ∈ cs_at y, c_sem l X (yY xa) xa d' C) : ∀ C ∈ [cn_16], c_sem l X (yY xa) xa d C := by
  have hY := yY_ok xa
  have hYS := yY_str xa
  have hIx := ix_K_ok (l := l) (X := X) hY hYS
  intro C hC
  obtain rfl := List.mem_singleton.mp hC
  exact c_meth mq_105_kt hY hYS hIx hX (q := mq_105) mq_105_at mq_105_pl mq_105_k cs_cy hcs cn_16_ok
theorem sm_106 (hX : ∀ i, i < 2 → X i = some ((x_tab i).map Int32.ofInt)) (hcs : ∀ d', d = d' + 1 → ∀ y, ∀ C ∈ cs_at y, c_sem l X (yY xa) xa d' C) : ∀ C ∈ [cn_318, cn_370, cn_390, cn_412, cn_425], c_sem l X (yY xa) xa d C := by
  have hY := yY_ok xa
  have hYS := yY_str xa
  have hIx := ix_K_ok (l := l) (X := X) hY hYS
  refine List.forall_mem_cons.mpr ⟨c_meth mq_106_kt hY hYS hIx hX (q := mq_106) mq_106_at mq_106_pl mq_106_k cs_cy hcs cn_318_ok, ?_⟩
  refine List.forall_mem_cons.mpr ⟨c_meth mq_106_kt hY hYS hIx hX (q := mq_106) mq_106_at mq_106_pl mq_106_k cs_cy hcs cn_370_ok, ?_⟩
  refine List.forall_mem_cons.mpr ⟨c_meth mq_106_kt hY hYS hIx hX (q := mq_106) mq_106_at mq_106_pl mq_106_k cs_cy hcs cn_390_ok, ?_⟩
  refine List.forall_mem_cons.mpr ⟨c_meth mq_106_kt hY hYS hIx hX (q := mq_106) mq_106_at mq_106_pl mq_106_k cs_cy hcs cn_412_ok, ?_⟩
  refine List.forall_mem_cons.mpr ⟨c_meth mq_106_kt hY hYS hIx hX (q := mq_106) mq_106_at mq_106_pl mq_106_k cs_cy hcs cn_425_ok, ?_⟩
  exact fun _ h => absurd h List.not_mem_nil
theorem sm_107 (hX : ∀ i, i < 2 → X i = some ((x_tab i).map Int32.ofInt)) (hcs : ∀ d', d = d' + 1 → ∀ y, ∀ C ∈ cs_at y, c_sem l X (yY xa) xa d' C) : ∀ C ∈ [cn_202], c_sem l X (yY xa) xa d C := by
  have hY := yY_ok xa
  have hYS := yY_str xa
  have hIx := ix_K_ok (l := l) (X := X) hY hYS
  intro C hC
  obtain rfl := List.mem_singleton.mp hC
  exact c_meth mq_107_kt hY hYS hIx hX (q := mq_107) mq_107_at mq_107_pl mq_107_k cs_cy hcs cn_202_ok
theorem sm_108 (hX : ∀ i, i < 2 → X i = some ((x_tab i).map Int32.ofInt)) (hcs : ∀ d', d = d' + 1 → ∀ y, ∀ C ∈ cs_at y, c_sem l X (yY xa) xa d' C) : ∀ C ∈ [cn_125], c_sem l X (yY xa) xa d C := by
  have hY := yY_ok xa
  have hYS := yY_str xa
  have hIx := ix_K_ok (l := l) (X := X) hY hYS
  intro C hC
  obtain rfl := List.mem_singleton.mp hC
  exact c_meth mq_108_kt hY hYS hIx hX (q := mq_108) mq_108_at mq_108_pl mq_108_k cs_cy hcs cn_125_ok
theorem sm_109 (hX : ∀ i, i < 2 → X i = some ((x_tab i).map Int32.ofInt)) (hcs : ∀ d', d = d' + 1 → ∀ y, ∀ C ∈ cs_at y, c_sem l X (yY xa) xa d' C) : ∀ C ∈ [cn_436], c_sem l X (yY xa) xa d C := by
  have hY := yY_ok xa
  have hYS := yY_str xa
  have hIx := ix_K_ok (l := l) (X := X) hY hYS
  intro C hC
  obtain rfl := List.mem_singleton.mp hC
  exact c_meth mq_109_kt hY hYS hIx hX (q := mq_109) mq_109_at mq_109_pl mq_109_k cs_cy hcs cn_436_ok
theorem sm_110 (hX : ∀ i, i < 2 → X i = some ((x_tab i).map Int32.ofInt)) (hcs : ∀ d', d = d' + 1 → ∀ y, ∀ C ∈ cs_at y, c_sem l X (yY xa) xa d' C) : ∀ C ∈ [cn_441], c_sem l X (yY xa) xa d C := by
  have hY := yY_ok xa
  have hYS := yY_str xa
  have hIx := ix_K_ok (l := l) (X := X) hY hYS
  intro C hC
  obtain rfl := List.mem_singleton.mp hC
  exact c_meth mq_110_kt hY hYS hIx hX (q := mq_110) mq_110_at mq_110_pl mq_110_k cs_cy hcs cn_441_ok
theorem sm_111 (hX : ∀ i, i < 2 → X i = some ((x_tab i).map Int32.ofInt)) (hcs : ∀ d', d = d' + 1 → ∀ y, ∀ C ∈ cs_at y, c_sem l X (yY xa) xa d' C) : ∀ C ∈ [cn_438], c_sem l X (yY xa) xa d C := by
  have hY := yY_ok xa
  have hYS := yY_str xa
  have hIx := ix_K_ok (l := l) (X := X) hY hYS
  intro C hC
  obtain rfl := List.mem_singleton.mp hC
  exact c_meth mq_111_kt hY hYS hIx hX (q := mq_111) mq_111_at mq_111_pl mq_111_k cs_cy hcs cn_438_ok
theorem sm_112 (hX : ∀ i, i < 2 → X i = some ((x_tab i).map Int32.ofInt)) (hcs : ∀ d', d = d' + 1 → ∀ y, ∀ C ∈ cs_at y, c_sem l X (yY xa) xa d' C) : ∀ C ∈ [cn_392, cn_413, cn_426, cn_432], c_sem l X (yY xa) xa d C := by
  have hY := yY_ok xa
  have hYS := yY_str xa
  have hIx := ix_K_ok (l := l) (X := X) hY hYS
  refine List.forall_mem_cons.mpr ⟨c_meth mq_112_kt hY hYS hIx hX (q := mq_112) mq_112_at mq_112_pl mq_112_k cs_cy hcs cn_392_ok, ?_⟩
  refine List.forall_mem_cons.mpr ⟨c_meth mq_112_kt hY hYS hIx hX (q := mq_112) mq_112_at mq_112_pl mq_112_k cs_cy hcs cn_413_ok, ?_⟩
  refine List.forall_mem_cons.mpr ⟨c_meth mq_112_kt hY hYS hIx hX (q := mq_112) mq_112_at mq_112_pl mq_112_k cs_cy hcs cn_426_ok, ?_⟩
  refine List.forall_mem_cons.mpr ⟨c_meth mq_112_kt hY hYS hIx hX (q := mq_112) mq_112_at mq_112_pl mq_112_k cs_cy hcs cn_432_ok, ?_⟩
  exact fun _ h => absurd h List.not_mem_nil
theorem sm_113 (hX : ∀ i, i < 2 → X i = some ((x_tab i).map Int32.ofInt)) (hcs : ∀ d', d = d' + 1 → ∀ y, ∀ C ∈ cs_at y, c_sem l X (yY xa) xa d' C) : ∀ C ∈ [cn_208], c_sem l X (yY xa) xa d C := by
  have hY := yY_ok xa
  have hYS := yY_str xa
  have hIx := ix_K_ok (l := l) (X := X) hY hYS
  intro C hC
  obtain rfl := List.mem_singleton.mp hC
  exact c_meth mq_113_kt hY hYS hIx hX (q := mq_113) mq_113_at mq_113_pl mq_113_k cs_cy hcs cn_208_ok
theorem sm_114 (hX : ∀ i, i < 2 → X i = some ((x_tab i).map Int32.ofInt)) (hcs : ∀ d', d = d' + 1 → ∀ y, ∀ C ∈ cs_at y, c_sem l X (yY xa) xa d' C) : ∀ C ∈ [cn_117], c_sem l X (yY xa) xa d C := by
  have hY := yY_ok xa
  have hYS := yY_str xa
  have hIx := ix_K_ok (l := l) (X := X) hY hYS
  intro C hC
  obtain rfl := List.mem_singleton.mp hC
  exact c_meth mq_114_kt hY hYS hIx hX (q := mq_114) mq_114_at mq_114_pl mq_114_k cs_cy hcs cn_117_ok
theorem sm_115 (hX : ∀ i, i < 2 → X i = some ((x_tab i).map Int32.ofInt)) (hcs : ∀ d', d = d' + 1 → ∀ y, ∀ C ∈ cs_at y, c_sem l X (yY xa) xa d' C) : ∀ C ∈ [cn_401], c_sem l X (yY xa) xa d C := by
  have hY := yY_ok xa
  have hYS := yY_str xa
  have hIx := ix_K_ok (l := l) (X := X) hY hYS
  intro C hC
  obtain rfl := List.mem_singleton.mp hC
  exact c_meth mq_115_kt hY hYS hIx hX (q := mq_115) mq_115_at mq_115_pl mq_115_k cs_cy hcs cn_401_ok
theorem sm_116 (hX : ∀ i, i < 2 → X i = some ((x_tab i).map Int32.ofInt)) (hcs : ∀ d', d = d' + 1 → ∀ y, ∀ C ∈ cs_at y, c_sem l X (yY xa) xa d' C) : ∀ C ∈ [cn_409], c_sem l X (yY xa) xa d C := by
  have hY := yY_ok xa
  have hYS := yY_str xa
  have hIx := ix_K_ok (l := l) (X := X) hY hYS
  intro C hC
  obtain rfl := List.mem_singleton.mp hC
  exact c_meth mq_116_kt hY hYS hIx hX (q := mq_116) mq_116_at mq_116_pl mq_116_k cs_cy hcs cn_409_ok
theorem sm_117 (hX : ∀ i, i < 2 → X i = some ((x_tab i).map Int32.ofInt)) (hcs : ∀ d', d = d' + 1 → ∀ y, ∀ C ∈ cs_at y, c_sem l X (yY xa) xa d' C) : ∀ C ∈ [cn_387], c_sem l X (yY xa) xa d C := by
  have hY := yY_ok xa
  have hYS := yY_str xa
  have hIx := ix_K_ok (l := l) (X := X) hY hYS
  intro C hC
  obtain rfl := List.mem_singleton.mp hC
  exact c_meth mq_117_kt hY hYS hIx hX (q := mq_117) mq_117_at mq_117_pl mq_117_k cs_cy hcs cn_387_ok
theorem sm_118 (hX : ∀ i, i < 2 → X i = some ((x_tab i).map Int32.ofInt)) (hcs : ∀ d', d = d' + 1 → ∀ y, ∀ C ∈ cs_at y, c_sem l X (yY xa) xa d' C) : ∀ C ∈ [cn_362], c_sem l X (yY xa) xa d C := by
  have hY := yY_ok xa
  have hYS := yY_str xa
  have hIx := ix_K_ok (l := l) (X := X) hY hYS
  intro C hC
  obtain rfl := List.mem_singleton.mp hC
  exact c_meth mq_118_kt hY hYS hIx hX (q := mq_118) mq_118_at mq_118_pl mq_118_k cs_cy hcs cn_362_ok
theorem sm_119 (hX : ∀ i, i < 2 → X i = some ((x_tab i).map Int32.ofInt)) (hcs : ∀ d', d = d' + 1 → ∀ y, ∀ C ∈ cs_at y, c_sem l X (yY xa) xa d' C) : ∀ C ∈ [cn_194], c_sem l X (yY xa) xa d C := by
  have hY := yY_ok xa
  have hYS := yY_str xa
  have hIx := ix_K_ok (l := l) (X := X) hY hYS
  intro C hC
  obtain rfl := List.mem_singleton.mp hC
  exact c_meth mq_119_kt hY hYS hIx hX (q := mq_119) mq_119_at mq_119_pl mq_119_k cs_cy hcs cn_194_ok
theorem sm_120 (hX : ∀ i, i < 2 → X i = some ((x_tab i).map Int32.ofInt)) (hcs : ∀ d', d = d' + 1 → ∀ y, ∀ C ∈ cs_at y, c_sem l X (yY xa) xa d' C) : ∀ C ∈ [cn_296], c_sem l X (yY xa) xa d C := by
  have hY := yY_ok xa
  have hYS := yY_str xa
  have hIx := ix_K_ok (l := l) (X := X) hY hYS
  intro C hC
  obtain rfl := List.mem_singleton.mp hC
  exact c_meth mq_120_kt hY hYS hIx hX (q := mq_120) mq_120_at mq_120_pl mq_120_k cs_cy hcs cn_296_ok
theorem sm_121 (hX : ∀ i, i < 2 → X i = some ((x_tab i).map Int32.ofInt)) (hcs : ∀ d', d = d' + 1 → ∀ y, ∀ C ∈ cs_at y, c_sem l X (yY xa) xa d' C) : ∀ C ∈ [cn_314], c_sem l X (yY xa) xa d C := by
  have hY := yY_ok xa
  have hYS := yY_str xa
  have hIx := ix_K_ok (l := l) (X := X) hY hYS
  intro C hC
  obtain rfl := List.mem_singleton.mp hC
  exact c_meth mq_121_kt hY hYS hIx hX (q := mq_121) mq_121_at mq_121_pl mq_121_k cs_cy hcs cn_314_ok
theorem sm_122 (hX : ∀ i, i < 2 → X i = some ((x_tab i).map Int32.ofInt)) (hcs : ∀ d', d = d' + 1 → ∀ y, ∀ C ∈ cs_at y, c_sem l X (yY xa) xa d' C) : ∀ C ∈ [cn_295], c_sem l X (yY xa) xa d C := by
  have hY := yY_ok xa
  have hYS := yY_str xa
  have hIx := ix_K_ok (l := l) (X := X) hY hYS
  intro C hC
  obtain rfl := List.mem_singleton.mp hC
  exact c_meth mq_122_kt hY hYS hIx hX (q := mq_122) mq_122_at mq_122_pl mq_122_k cs_cy hcs cn_295_ok
theorem sm_123 (hX : ∀ i, i < 2 → X i = some ((x_tab i).map Int32.ofInt)) (hcs : ∀ d', d = d' + 1 → ∀ y, ∀ C ∈ cs_at y, c_sem l X (yY xa) xa d' C) : ∀ C ∈ [cn_376], c_sem l X (yY xa) xa d C := by
  have hY := yY_ok xa
  have hYS := yY_str xa
  have hIx := ix_K_ok (l := l) (X := X) hY hYS
  intro C hC
  obtain rfl := List.mem_singleton.mp hC
  exact c_meth mq_123_kt hY hYS hIx hX (q := mq_123) mq_123_at mq_123_pl mq_123_k cs_cy hcs cn_376_ok
theorem sm_125 (hX : ∀ i, i < 2 → X i = some ((x_tab i).map Int32.ofInt)) (hcs : ∀ d', d = d' + 1 → ∀ y, ∀ C ∈ cs_at y, c_sem l X (yY xa) xa d' C) : ∀ C ∈ [cn_385], c_sem l X (yY xa) xa d C := by
  have hY := yY_ok xa
  have hYS := yY_str xa
  have hIx := ix_K_ok (l := l) (X := X) hY hYS
  intro C hC
  obtain rfl := List.mem_singleton.mp hC
  exact c_meth mq_125_kt hY hYS hIx hX (q := mq_125) mq_125_at mq_125_pl mq_125_k cs_cy hcs cn_385_ok
theorem sm_126 (hX : ∀ i, i < 2 → X i = some ((x_tab i).map Int32.ofInt)) (hcs : ∀ d', d = d' + 1 → ∀ y, ∀ C ∈ cs_at y, c_sem l X (yY xa) xa d' C) : ∀ C ∈ [cn_408], c_sem l X (yY xa) xa d C := by
  have hY := yY_ok xa
  have hYS := yY_str xa
  have hIx := ix_K_ok (l := l) (X := X) hY hYS
  intro C hC
  obtain rfl := List.mem_singleton.mp hC
  exact c_meth mq_126_kt hY hYS hIx hX (q := mq_126) mq_126_at mq_126_pl mq_126_k cs_cy hcs cn_408_ok
theorem sm_127 (hX : ∀ i, i < 2 → X i = some ((x_tab i).map Int32.ofInt)) (hcs : ∀ d', d = d' + 1 → ∀ y, ∀ C ∈ cs_at y, c_sem l X (yY xa) xa d' C) : ∀ C ∈ [cn_386], c_sem l X (yY xa) xa d C := by
  have hY := yY_ok xa
  have hYS := yY_str xa
  have hIx := ix_K_ok (l := l) (X := X) hY hYS
  intro C hC
  obtain rfl := List.mem_singleton.mp hC
  exact c_meth mq_127_kt hY hYS hIx hX (q := mq_127) mq_127_at mq_127_pl mq_127_k cs_cy hcs cn_386_ok
theorem sc_3 (hX : ∀ i, i < 2 → X i = some ((x_tab i).map Int32.ofInt)) (hcs : ∀ d', d = d' + 1 → ∀ y, ∀ C ∈ cs_at y, c_sem l X (yY xa) xa d' C) : ∀ r ∈ cs_tab_3, ∀ C ∈ r, c_sem l X (yY xa) xa d C := by
  unfold cs_tab_3
  refine List.forall_mem_cons.mpr ⟨sm_96 hX hcs, ?_⟩
  refine List.forall_mem_cons.mpr ⟨sm_97 hX hcs, ?_⟩
  refine List.forall_mem_cons.mpr ⟨sm_98 hX hcs, ?_⟩
  refine List.forall_mem_cons.mpr ⟨sm_99 hX hcs, ?_⟩
  refine List.forall_mem_cons.mpr ⟨sm_100 hX hcs, ?_⟩
  refine List.forall_mem_cons.mpr ⟨sm_101 hX hcs, ?_⟩
  refine List.forall_mem_cons.mpr ⟨sm_102 hX hcs, ?_⟩
  refine List.forall_mem_cons.mpr ⟨sm_103 hX hcs, ?_⟩
  refine List.forall_mem_cons.mpr ⟨sm_104 hX hcs, ?_⟩
  refine List.forall_mem_cons.mpr ⟨sm_105 hX hcs, ?_⟩
  refine List.forall_mem_cons.mpr ⟨sm_106 hX hcs, ?_⟩
  refine List.forall_mem_cons.mpr ⟨sm_107 hX hcs, ?_⟩
  refine List.forall_mem_cons.mpr ⟨sm_108 hX hcs, ?_⟩
  refine List.forall_mem_cons.mpr ⟨sm_109 hX hcs, ?_⟩
  refine List.forall_mem_cons.mpr ⟨sm_110 hX hcs, ?_⟩
  refine List.forall_mem_cons.mpr ⟨sm_111 hX hcs, ?_⟩
  refine List.forall_mem_cons.mpr ⟨sm_112 hX hcs, ?_⟩
  refine List.forall_mem_cons.mpr ⟨sm_113 hX hcs, ?_⟩
  refine List.forall_mem_cons.mpr ⟨sm_114 hX hcs, ?_⟩
  refine List.forall_mem_cons.mpr ⟨sm_115 hX hcs, ?_⟩
  refine List.forall_mem_cons.mpr ⟨sm_116 hX hcs, ?_⟩
  refine List.forall_mem_cons.mpr ⟨sm_117 hX hcs, ?_⟩
  refine List.forall_mem_cons.mpr ⟨sm_118 hX hcs, ?_⟩
  refine List.forall_mem_cons.mpr ⟨sm_119 hX hcs, ?_⟩
  refine List.forall_mem_cons.mpr ⟨sm_120 hX hcs, ?_⟩
  refine List.forall_mem_cons.mpr ⟨sm_121 hX hcs, ?_⟩
  refine List.forall_mem_cons.mpr ⟨sm_122 hX hcs, ?_⟩
  refine List.forall_mem_cons.mpr ⟨sm_123 hX hcs, ?_⟩
  refine List.forall_mem_cons.mpr ⟨(fun _ h => absurd h List.not_mem_nil), ?_⟩
  refine List.forall_mem_cons.mpr ⟨sm_125 hX hcs, ?_⟩
  refine List.forall_mem_cons.mpr ⟨sm_126 hX hcs, ?_⟩
  refine List.forall_mem_cons.mpr ⟨sm_127 hX hcs, ?_⟩
  exact fun _ h => absurd h List.not_mem_nil
end AS
