/-! ALL CONTRACTS TOGETHER, 7 -/
section AS
variable {l : Launch} {X : Nat → Option (List Int32)} {xa : Nat → Nat} {d : Nat}
theorem sm_224 (hX : ∀ i, i < 2 → X i = some ((x_tab i).map Int32.ofInt)) (hcs : ∀ d', d = d' + 1 → ∀ y, ∀ C ∈ cs_at y, c_sem l X (yY xa) xa d' C) : ∀ C ∈ [cn_100, cn_101, cn_102, cn_103, cn_104, cn_105, cn_106, cn_107, cn_108, cn_109, cn_110, cn_111, cn_112, cn_113, cn_114, cn_115], c_sem l X (yY xa) xa d C := by
  have hY := yY_ok xa
  have hYS := yY_str xa
  have hIx := ix_K_ok (l := l) (X := X) hY hYS
  refine List.forall_mem_cons.mpr ⟨c_meth mq_224_kt hY hYS hIx hX (q := mq_224) mq_224_at mq_224_pl mq_224_k cs_cy hcs cn_100_ok, ?_⟩
  refine List.forall_mem_cons.mpr ⟨c_meth mq_224_kt hY hYS hIx hX (q := mq_224) mq_224_at mq_224_pl mq_224_k cs_cy hcs cn_101_ok, ?_⟩
  refine List.forall_mem_cons.mpr ⟨c_meth mq_224_kt hY hYS hIx hX (q := mq_224) mq_224_at mq_224_pl mq_224_k cs_cy hcs cn_102_ok, ?_⟩
  refine List.forall_mem_cons.mpr ⟨c_meth mq_224_kt hY hYS hIx hX (q := mq_224) mq_224_at mq_224_pl mq_224_k cs_cy hcs cn_103_ok, ?_⟩
  refine List.forall_mem_cons.mpr ⟨c_meth mq_224_kt hY hYS hIx hX (q := mq_224) mq_224_at mq_224_pl mq_224_k cs_cy hcs cn_104_ok, ?_⟩
  refine List.forall_mem_cons.mpr ⟨c_meth mq_224_kt hY hYS hIx hX (q := mq_224) mq_224_at mq_224_pl mq_224_k cs_cy hcs cn_105_ok, ?_⟩
  refine List.forall_mem_cons.mpr ⟨c_meth mq_224_kt hY hYS hIx hX (q := mq_224) mq_224_at mq_224_pl mq_224_k cs_cy hcs cn_106_ok, ?_⟩
  refine List.forall_mem_cons.mpr ⟨c_meth mq_224_kt hY hYS hIx hX (q := mq_224) mq_224_at mq_224_pl mq_224_k cs_cy hcs cn_107_ok, ?_⟩
  refine List.forall_mem_cons.mpr ⟨c_meth mq_224_kt hY hYS hIx hX (q := mq_224) mq_224_at mq_224_pl mq_224_k cs_cy hcs cn_108_ok, ?_⟩
  refine List.forall_mem_cons.mpr ⟨c_meth mq_224_kt hY hYS hIx hX (q := mq_224) mq_224_at mq_224_pl mq_224_k cs_cy hcs cn_109_ok, ?_⟩
  refine List.forall_mem_cons.mpr ⟨c_meth mq_224_kt hY hYS hIx hX (q := mq_224) mq_224_at mq_224_pl mq_224_k cs_cy hcs cn_110_ok, ?_⟩
  refine List.forall_mem_cons.mpr ⟨c_meth mq_224_kt hY hYS hIx hX (q := mq_224) mq_224_at mq_224_pl mq_224_k cs_cy hcs cn_111_ok, ?_⟩
  refine List.forall_mem_cons.mpr ⟨c_meth mq_224_kt hY hYS hIx hX (q := mq_224) mq_224_at mq_224_pl mq_224_k cs_cy hcs cn_112_ok, ?_⟩
  refine List.forall_mem_cons.mpr ⟨c_meth mq_224_kt hY hYS hIx hX (q := mq_224) mq_224_at mq_224_pl mq_224_k cs_cy hcs cn_113_ok, ?_⟩
  refine List.forall_mem_cons.mpr ⟨c_meth mq_224_kt hY hYS hIx hX (q := mq_224) mq_224_at mq_224_pl mq_224_k cs_cy hcs cn_114_ok, ?_⟩
  refine List.forall_mem_cons.mpr ⟨c_meth mq_224_kt hY hYS hIx hX (q := mq_224) mq_224_at mq_224_pl mq_224_k cs_cy hcs cn_115_ok, ?_⟩
  exact fun _ h => absurd h List.not_mem_nil
theorem sm_225 (hX : ∀ i, i < 2 → X i = some ((x_tab i).map Int32.ofInt)) (hcs : ∀ d', d = d' + 1 → ∀ y, ∀ C ∈ cs_at y, c_sem l X (yY xa) xa d' C) : ∀ C ∈ [cn_587], c_sem l X (yY xa) xa d C := by
  have hY := yY_ok xa
  have hYS := yY_str xa
  have hIx := ix_K_ok (l := l) (X := X) hY hYS
  intro C hC
  obtain rfl := List.mem_singleton.mp hC
  exact c_meth mq_225_kt hY hYS hIx hX (q := mq_225) mq_225_at mq_225_pl mq_225_k cs_cy hcs cn_587_ok
theorem sm_226 (hX : ∀ i, i < 2 → X i = some ((x_tab i).map Int32.ofInt)) (hcs : ∀ d', d = d' + 1 → ∀ y, ∀ C ∈ cs_at y, c_sem l X (yY xa) xa d' C) : ∀ C ∈ [cn_586], c_sem l X (yY xa) xa d C := by
  have hY := yY_ok xa
  have hYS := yY_str xa
  have hIx := ix_K_ok (l := l) (X := X) hY hYS
  intro C hC
  obtain rfl := List.mem_singleton.mp hC
  exact c_meth mq_226_kt hY hYS hIx hX (q := mq_226) mq_226_at mq_226_pl mq_226_k cs_cy hcs cn_586_ok
theorem sm_227 (hX : ∀ i, i < 2 → X i = some ((x_tab i).map Int32.ofInt)) (hcs : ∀ d', d = d' + 1 → ∀ y, ∀ C ∈ cs_at y, c_sem l X (yY xa) xa d' C) : ∀ C ∈ [cn_616], c_sem l X (yY xa) xa d C := by
  have hY := yY_ok xa
  have hYS := yY_str xa
  have hIx := ix_K_ok (l := l) (X := X) hY hYS
  intro C hC
  obtain rfl := List.mem_singleton.mp hC
  exact c_meth mq_227_kt hY hYS hIx hX (q := mq_227) mq_227_at mq_227_pl mq_227_k cs_cy hcs cn_616_ok
theorem sm_228 (hX : ∀ i, i < 2 → X i = some ((x_tab i).map Int32.ofInt)) (hcs : ∀ d', d = d' + 1 → ∀ y, ∀ C ∈ cs_at y, c_sem l X (yY xa) xa d' C) : ∀ C ∈ [cn_37], c_sem l X (yY xa) xa d C := by
  have hY := yY_ok xa
  have hYS := yY_str xa
  have hIx := ix_K_ok (l := l) (X := X) hY hYS
  intro C hC
  obtain rfl := List.mem_singleton.mp hC
  exact c_meth mq_228_kt hY hYS hIx hX (q := mq_228) mq_228_at mq_228_pl mq_228_k cs_cy hcs cn_37_ok
theorem sm_229 (hX : ∀ i, i < 2 → X i = some ((x_tab i).map Int32.ofInt)) (hcs : ∀ d', d = d' + 1 → ∀ y, ∀ C ∈ cs_at y, c_sem l X (yY xa) xa d' C) : ∀ C ∈ [cn_614, cn_615], c_sem l X (yY xa) xa d C := by
  have hY := yY_ok xa
  have hYS := yY_str xa
  have hIx := ix_K_ok (l := l) (X := X) hY hYS
  refine List.forall_mem_cons.mpr ⟨c_meth mq_229_kt hY hYS hIx hX (q := mq_229) mq_229_at mq_229_pl mq_229_k cs_cy hcs cn_614_ok, ?_⟩
  refine List.forall_mem_cons.mpr ⟨c_meth mq_229_kt hY hYS hIx hX (q := mq_229) mq_229_at mq_229_pl mq_229_k cs_cy hcs cn_615_ok, ?_⟩
  exact fun _ h => absurd h List.not_mem_nil
theorem sm_230 (hX : ∀ i, i < 2 → X i = some ((x_tab i).map Int32.ofInt)) (hcs : ∀ d', d = d' + 1 → ∀ y, ∀ C ∈ cs_at y, c_sem l X (yY xa) xa d' C) : ∀ C ∈ [cn_590, cn_591, cn_600, cn_601, cn_606, cn_607, cn_609, cn_610, cn_612, cn_613], c_sem l X (yY xa) xa d C := by
  have hY := yY_ok xa
  have hYS := yY_str xa
  have hIx := ix_K_ok (l := l) (X := X) hY hYS
  refine List.forall_mem_cons.mpr ⟨c_meth mq_230_kt hY hYS hIx hX (q := mq_230) mq_230_at mq_230_pl mq_230_k cs_cy hcs cn_590_ok, ?_⟩
  refine List.forall_mem_cons.mpr ⟨c_meth mq_230_kt hY hYS hIx hX (q := mq_230) mq_230_at mq_230_pl mq_230_k cs_cy hcs cn_591_ok, ?_⟩
  refine List.forall_mem_cons.mpr ⟨c_meth mq_230_kt hY hYS hIx hX (q := mq_230) mq_230_at mq_230_pl mq_230_k cs_cy hcs cn_600_ok, ?_⟩
  refine List.forall_mem_cons.mpr ⟨c_meth mq_230_kt hY hYS hIx hX (q := mq_230) mq_230_at mq_230_pl mq_230_k cs_cy hcs cn_601_ok, ?_⟩
  refine List.forall_mem_cons.mpr ⟨c_meth mq_230_kt hY hYS hIx hX (q := mq_230) mq_230_at mq_230_pl mq_230_k cs_cy hcs cn_606_ok, ?_⟩
  refine List.forall_mem_cons.mpr ⟨c_meth mq_230_kt hY hYS hIx hX (q := mq_230) mq_230_at mq_230_pl mq_230_k cs_cy hcs cn_607_ok, ?_⟩
  refine List.forall_mem_cons.mpr ⟨c_meth mq_230_kt hY hYS hIx hX (q := mq_230) mq_230_at mq_230_pl mq_230_k cs_cy hcs cn_609_ok, ?_⟩
  refine List.forall_mem_cons.mpr ⟨c_meth mq_230_kt hY hYS hIx hX (q := mq_230) mq_230_at mq_230_pl mq_230_k cs_cy hcs cn_610_ok, ?_⟩
  refine List.forall_mem_cons.mpr ⟨c_meth mq_230_kt hY hYS hIx hX (q := mq_230) mq_230_at mq_230_pl mq_230_k cs_cy hcs cn_612_ok, ?_⟩
  refine List.forall_mem_cons.mpr ⟨c_meth mq_230_kt hY hYS hIx hX (q := mq_230) mq_230_at mq_230_pl mq_230_k cs_cy hcs cn_613_ok, ?_⟩
  exact fun _ h => absurd h List.not_mem_nil
theorem sm_231 (hX : ∀ i, i < 2 → X i = some ((x_tab i).map Int32.ofInt)) (hcs : ∀ d', d = d' + 1 → ∀ y, ∀ C ∈ cs_at y, c_sem l X (yY xa) xa d' C) : ∀ C ∈ [cn_288], c_sem l X (yY xa) xa d C := by
  have hY := yY_ok xa
  have hYS := yY_str xa
  have hIx := ix_K_ok (l := l) (X := X) hY hYS
  intro C hC
  obtain rfl := List.mem_singleton.mp hC
  exact c_meth mq_231_kt hY hYS hIx hX (q := mq_231) mq_231_at mq_231_pl mq_231_k cs_cy hcs cn_288_ok
theorem sm_232 (hX : ∀ i, i < 2 → X i = some ((x_tab i).map Int32.ofInt)) (hcs : ∀ d', d = d' + 1 → ∀ y, ∀ C ∈ cs_at y, c_sem l X (yY xa) xa d' C) : ∀ C ∈ [cn_617], c_sem l X (yY xa) xa d C := by
  have hY := yY_ok xa
  have hYS := yY_str xa
  have hIx := ix_K_ok (l := l) (X := X) hY hYS
  intro C hC
  obtain rfl := List.mem_singleton.mp hC
  exact c_meth mq_232_kt hY hYS hIx hX (q := mq_232) mq_232_at mq_232_pl mq_232_k cs_cy hcs cn_617_ok
theorem sm_233 (hX : ∀ i, i < 2 → X i = some ((x_tab i).map Int32.ofInt)) (hcs : ∀ d', d = d' + 1 → ∀ y, ∀ C ∈ cs_at y, c_sem l X (yY xa) xa d' C) : ∀ C ∈ [cn_604], c_sem l X (yY xa) xa d C := by
  have hY := yY_ok xa
  have hYS := yY_str xa
  have hIx := ix_K_ok (l := l) (X := X) hY hYS
  intro C hC
  obtain rfl := List.mem_singleton.mp hC
  exact c_meth mq_233_kt hY hYS hIx hX (q := mq_233) mq_233_at mq_233_pl mq_233_k cs_cy hcs cn_604_ok
theorem sm_234 (hX : ∀ i, i < 2 → X i = some ((x_tab i).map Int32.ofInt)) (hcs : ∀ d', d = d' + 1 → ∀ y, ∀ C ∈ cs_at y, c_sem l X (yY xa) xa d' C) : ∀ C ∈ [cn_593], c_sem l X (yY xa) xa d C := by
  have hY := yY_ok xa
  have hYS := yY_str xa
  have hIx := ix_K_ok (l := l) (X := X) hY hYS
  intro C hC
  obtain rfl := List.mem_singleton.mp hC
  exact c_meth mq_234_kt hY hYS hIx hX (q := mq_234) mq_234_at mq_234_pl mq_234_k cs_cy hcs cn_593_ok
theorem sm_235 (hX : ∀ i, i < 2 → X i = some ((x_tab i).map Int32.ofInt)) (hcs : ∀ d', d = d' + 1 → ∀ y, ∀ C ∈ cs_at y, c_sem l X (yY xa) xa d' C) : ∀ C ∈ [cn_77], c_sem l X (yY xa) xa d C := by
  have hY := yY_ok xa
  have hYS := yY_str xa
  have hIx := ix_K_ok (l := l) (X := X) hY hYS
  intro C hC
  obtain rfl := List.mem_singleton.mp hC
  exact c_meth mq_235_kt hY hYS hIx hX (q := mq_235) mq_235_at mq_235_pl mq_235_k cs_cy hcs cn_77_ok
theorem sm_236 (hX : ∀ i, i < 2 → X i = some ((x_tab i).map Int32.ofInt)) (hcs : ∀ d', d = d' + 1 → ∀ y, ∀ C ∈ cs_at y, c_sem l X (yY xa) xa d' C) : ∀ C ∈ [cn_93], c_sem l X (yY xa) xa d C := by
  have hY := yY_ok xa
  have hYS := yY_str xa
  have hIx := ix_K_ok (l := l) (X := X) hY hYS
  intro C hC
  obtain rfl := List.mem_singleton.mp hC
  exact c_meth mq_236_kt hY hYS hIx hX (q := mq_236) mq_236_at mq_236_pl mq_236_k cs_cy hcs cn_93_ok
theorem sm_237 (hX : ∀ i, i < 2 → X i = some ((x_tab i).map Int32.ofInt)) (hcs : ∀ d', d = d' + 1 → ∀ y, ∀ C ∈ cs_at y, c_sem l X (yY xa) xa d' C) : ∀ C ∈ [cn_287], c_sem l X (yY xa) xa d C := by
  have hY := yY_ok xa
  have hYS := yY_str xa
  have hIx := ix_K_ok (l := l) (X := X) hY hYS
  intro C hC
  obtain rfl := List.mem_singleton.mp hC
  exact c_meth mq_237_kt hY hYS hIx hX (q := mq_237) mq_237_at mq_237_pl mq_237_k cs_cy hcs cn_287_ok
theorem sm_238 (hX : ∀ i, i < 2 → X i = some ((x_tab i).map Int32.ofInt)) (hcs : ∀ d', d = d' + 1 → ∀ y, ∀ C ∈ cs_at y, c_sem l X (yY xa) xa d' C) : ∀ C ∈ [cn_585], c_sem l X (yY xa) xa d C := by
  have hY := yY_ok xa
  have hYS := yY_str xa
  have hIx := ix_K_ok (l := l) (X := X) hY hYS
  intro C hC
  obtain rfl := List.mem_singleton.mp hC
  exact c_meth mq_238_kt hY hYS hIx hX (q := mq_238) mq_238_at mq_238_pl mq_238_k cs_cy hcs cn_585_ok
theorem sm_239 (hX : ∀ i, i < 2 → X i = some ((x_tab i).map Int32.ofInt)) (hcs : ∀ d', d = d' + 1 → ∀ y, ∀ C ∈ cs_at y, c_sem l X (yY xa) xa d' C) : ∀ C ∈ [cn_576], c_sem l X (yY xa) xa d C := by
  have hY := yY_ok xa
  have hYS := yY_str xa
  have hIx := ix_K_ok (l := l) (X := X) hY hYS
  intro C hC
  obtain rfl := List.mem_singleton.mp hC
  exact c_meth mq_239_kt hY hYS hIx hX (q := mq_239) mq_239_at mq_239_pl mq_239_k cs_cy hcs cn_576_ok
theorem sm_240 (hX : ∀ i, i < 2 → X i = some ((x_tab i).map Int32.ofInt)) (hcs : ∀ d', d = d' + 1 → ∀ y, ∀ C ∈ cs_at y, c_sem l X (yY xa) xa d' C) : ∀ C ∈ [cn_503], c_sem l X (yY xa) xa d C := by
  have hY := yY_ok xa
  have hYS := yY_str xa
  have hIx := ix_K_ok (l := l) (X := X) hY hYS
  intro C hC
  obtain rfl := List.mem_singleton.mp hC
  exact c_meth mq_240_kt hY hYS hIx hX (q := mq_240) mq_240_at mq_240_pl mq_240_k cs_cy hcs cn_503_ok
theorem sm_241 (hX : ∀ i, i < 2 → X i = some ((x_tab i).map Int32.ofInt)) (hcs : ∀ d', d = d' + 1 → ∀ y, ∀ C ∈ cs_at y, c_sem l X (yY xa) xa d' C) : ∀ C ∈ [cn_0], c_sem l X (yY xa) xa d C := by
  have hY := yY_ok xa
  have hYS := yY_str xa
  have hIx := ix_K_ok (l := l) (X := X) hY hYS
  intro C hC
  obtain rfl := List.mem_singleton.mp hC
  exact cn_0_sem hY d
theorem sm_242 (hX : ∀ i, i < 2 → X i = some ((x_tab i).map Int32.ofInt)) (hcs : ∀ d', d = d' + 1 → ∀ y, ∀ C ∈ cs_at y, c_sem l X (yY xa) xa d' C) : ∀ C ∈ [cn_577], c_sem l X (yY xa) xa d C := by
  have hY := yY_ok xa
  have hYS := yY_str xa
  have hIx := ix_K_ok (l := l) (X := X) hY hYS
  intro C hC
  obtain rfl := List.mem_singleton.mp hC
  exact c_meth mq_242_kt hY hYS hIx hX (q := mq_242) mq_242_at mq_242_pl mq_242_k cs_cy hcs cn_577_ok
theorem sm_243 (hX : ∀ i, i < 2 → X i = some ((x_tab i).map Int32.ofInt)) (hcs : ∀ d', d = d' + 1 → ∀ y, ∀ C ∈ cs_at y, c_sem l X (yY xa) xa d' C) : ∀ C ∈ [cn_572], c_sem l X (yY xa) xa d C := by
  have hY := yY_ok xa
  have hYS := yY_str xa
  have hIx := ix_K_ok (l := l) (X := X) hY hYS
  intro C hC
  obtain rfl := List.mem_singleton.mp hC
  exact c_meth mq_243_kt hY hYS hIx hX (q := mq_243) mq_243_at mq_243_pl mq_243_k cs_cy hcs cn_572_ok
theorem sm_244 (hX : ∀ i, i < 2 → X i = some ((x_tab i).map Int32.ofInt)) (hcs : ∀ d', d = d' + 1 → ∀ y, ∀ C ∈ cs_at y, c_sem l X (yY xa) xa d' C) : ∀ C ∈ [cn_552], c_sem l X (yY xa) xa d C := by
  have hY := yY_ok xa
  have hYS := yY_str xa
  have hIx := ix_K_ok (l := l) (X := X) hY hYS
  intro C hC
  obtain rfl := List.mem_singleton.mp hC
  exact c_meth mq_244_kt hY hYS hIx hX (q := mq_244) mq_244_at mq_244_pl mq_244_k cs_cy hcs cn_552_ok
theorem sm_245 (hX : ∀ i, i < 2 → X i = some ((x_tab i).map Int32.ofInt)) (hcs : ∀ d', d = d' + 1 → ∀ y, ∀ C ∈ cs_at y, c_sem l X (yY xa) xa d' C) : ∀ C ∈ [cn_611], c_sem l X (yY xa) xa d C := by
  have hY := yY_ok xa
  have hYS := yY_str xa
  have hIx := ix_K_ok (l := l) (X := X) hY hYS
  intro C hC
  obtain rfl := List.mem_singleton.mp hC
  exact c_meth mq_245_kt hY hYS hIx hX (q := mq_245) mq_245_at mq_245_pl mq_245_k cs_cy hcs cn_611_ok
theorem sm_246 (hX : ∀ i, i < 2 → X i = some ((x_tab i).map Int32.ofInt)) (hcs : ∀ d', d = d' + 1 → ∀ y, ∀ C ∈ cs_at y, c_sem l X (yY xa) xa d' C) : ∀ C ∈ [cn_39, cn_578, cn_589, cn_599, cn_605, cn_608], c_sem l X (yY xa) xa d C := by
  have hY := yY_ok xa
  have hYS := yY_str xa
  have hIx := ix_K_ok (l := l) (X := X) hY hYS
  refine List.forall_mem_cons.mpr ⟨c_meth mq_246_kt hY hYS hIx hX (q := mq_246) mq_246_at mq_246_pl mq_246_k cs_cy hcs cn_39_ok, ?_⟩
  refine List.forall_mem_cons.mpr ⟨c_meth mq_246_kt hY hYS hIx hX (q := mq_246) mq_246_at mq_246_pl mq_246_k cs_cy hcs cn_578_ok, ?_⟩
  refine List.forall_mem_cons.mpr ⟨c_meth mq_246_kt hY hYS hIx hX (q := mq_246) mq_246_at mq_246_pl mq_246_k cs_cy hcs cn_589_ok, ?_⟩
  refine List.forall_mem_cons.mpr ⟨c_meth mq_246_kt hY hYS hIx hX (q := mq_246) mq_246_at mq_246_pl mq_246_k cs_cy hcs cn_599_ok, ?_⟩
  refine List.forall_mem_cons.mpr ⟨c_meth mq_246_kt hY hYS hIx hX (q := mq_246) mq_246_at mq_246_pl mq_246_k cs_cy hcs cn_605_ok, ?_⟩
  refine List.forall_mem_cons.mpr ⟨c_meth mq_246_kt hY hYS hIx hX (q := mq_246) mq_246_at mq_246_pl mq_246_k cs_cy hcs cn_608_ok, ?_⟩
  exact fun _ h => absurd h List.not_mem_nil
theorem sm_247 (hX : ∀ i, i < 2 → X i = some ((x_tab i).map Int32.ofInt)) (hcs : ∀ d', d = d' + 1 → ∀ y, ∀ C ∈ cs_at y, c_sem l X (yY xa) xa d' C) : ∀ C ∈ [cn_275], c_sem l X (yY xa) xa d C := by
  have hY := yY_ok xa
  have hYS := yY_str xa
  have hIx := ix_K_ok (l := l) (X := X) hY hYS
  intro C hC
  obtain rfl := List.mem_singleton.mp hC
  exact c_meth mq_247_kt hY hYS hIx hX (q := mq_247) mq_247_at mq_247_pl mq_247_k cs_cy hcs cn_275_ok
theorem sm_249 (hX : ∀ i, i < 2 → X i = some ((x_tab i).map Int32.ofInt)) (hcs : ∀ d', d = d' + 1 → ∀ y, ∀ C ∈ cs_at y, c_sem l X (yY xa) xa d' C) : ∀ C ∈ [cn_602], c_sem l X (yY xa) xa d C := by
  have hY := yY_ok xa
  have hYS := yY_str xa
  have hIx := ix_K_ok (l := l) (X := X) hY hYS
  intro C hC
  obtain rfl := List.mem_singleton.mp hC
  exact c_meth mq_249_kt hY hYS hIx hX (q := mq_249) mq_249_at mq_249_pl mq_249_k cs_cy hcs cn_602_ok
theorem sm_250 (hX : ∀ i, i < 2 → X i = some ((x_tab i).map Int32.ofInt)) (hcs : ∀ d', d = d' + 1 → ∀ y, ∀ C ∈ cs_at y, c_sem l X (yY xa) xa d' C) : ∀ C ∈ [cn_595], c_sem l X (yY xa) xa d C := by
  have hY := yY_ok xa
  have hYS := yY_str xa
  have hIx := ix_K_ok (l := l) (X := X) hY hYS
  intro C hC
  obtain rfl := List.mem_singleton.mp hC
  exact c_meth mq_250_kt hY hYS hIx hX (q := mq_250) mq_250_at mq_250_pl mq_250_k cs_cy hcs cn_595_ok
theorem sm_251 (hX : ∀ i, i < 2 → X i = some ((x_tab i).map Int32.ofInt)) (hcs : ∀ d', d = d' + 1 → ∀ y, ∀ C ∈ cs_at y, c_sem l X (yY xa) xa d' C) : ∀ C ∈ [cn_551], c_sem l X (yY xa) xa d C := by
  have hY := yY_ok xa
  have hYS := yY_str xa
  have hIx := ix_K_ok (l := l) (X := X) hY hYS
  intro C hC
  obtain rfl := List.mem_singleton.mp hC
  exact c_meth mq_251_kt hY hYS hIx hX (q := mq_251) mq_251_at mq_251_pl mq_251_k cs_cy hcs cn_551_ok
theorem sm_252 (hX : ∀ i, i < 2 → X i = some ((x_tab i).map Int32.ofInt)) (hcs : ∀ d', d = d' + 1 → ∀ y, ∀ C ∈ cs_at y, c_sem l X (yY xa) xa d' C) : ∀ C ∈ [cn_291], c_sem l X (yY xa) xa d C := by
  have hY := yY_ok xa
  have hYS := yY_str xa
  have hIx := ix_K_ok (l := l) (X := X) hY hYS
  intro C hC
  obtain rfl := List.mem_singleton.mp hC
  exact c_meth mq_252_kt hY hYS hIx hX (q := mq_252) mq_252_at mq_252_pl mq_252_k cs_cy hcs cn_291_ok
theorem sm_253 (hX : ∀ i, i < 2 → X i = some ((x_tab i).map Int32.ofInt)) (hcs : ∀ d', d = d' + 1 → ∀ y, ∀ C ∈ cs_at y, c_sem l X (yY xa) xa d' C) : ∀ C ∈ [cn_597], c_sem l X (yY xa) xa d C := by
  have hY := yY_ok xa
  have hYS := yY_str xa
  have hIx := ix_K_ok (l := l) (X := X) hY hYS
  intro C hC
  obtain rfl := List.mem_singleton.mp hC
  exact c_meth mq_253_kt hY hYS hIx hX (q := mq_253) mq_253_at mq_253_pl mq_253_k cs_cy hcs cn_597_ok
theorem sm_254 (hX : ∀ i, i < 2 → X i = some ((x_tab i).map Int32.ofInt)) (hcs : ∀ d', d = d' + 1 → ∀ y, ∀ C ∈ cs_at y, c_sem l X (yY xa) xa d' C) : ∀ C ∈ [cn_583], c_sem l X (yY xa) xa d C := by
  have hY := yY_ok xa
  have hYS := yY_str xa
  have hIx := ix_K_ok (l := l) (X := X) hY hYS
  intro C hC
  obtain rfl := List.mem_singleton.mp hC
  exact c_meth mq_254_kt hY hYS hIx hX (q := mq_254) mq_254_at mq_254_pl mq_254_k cs_cy hcs cn_583_ok
theorem sm_255 (hX : ∀ i, i < 2 → X i = some ((x_tab i).map Int32.ofInt)) (hcs : ∀ d', d = d' + 1 → ∀ y, ∀ C ∈ cs_at y, c_sem l X (yY xa) xa d' C) : ∀ C ∈ [cn_82, cn_83, cn_84, cn_85, cn_86, cn_87, cn_88, cn_89, cn_90, cn_91], c_sem l X (yY xa) xa d C := by
  have hY := yY_ok xa
  have hYS := yY_str xa
  have hIx := ix_K_ok (l := l) (X := X) hY hYS
  refine List.forall_mem_cons.mpr ⟨c_meth mq_255_kt hY hYS hIx hX (q := mq_255) mq_255_at mq_255_pl mq_255_k cs_cy hcs cn_82_ok, ?_⟩
  refine List.forall_mem_cons.mpr ⟨c_meth mq_255_kt hY hYS hIx hX (q := mq_255) mq_255_at mq_255_pl mq_255_k cs_cy hcs cn_83_ok, ?_⟩
  refine List.forall_mem_cons.mpr ⟨c_meth mq_255_kt hY hYS hIx hX (q := mq_255) mq_255_at mq_255_pl mq_255_k cs_cy hcs cn_84_ok, ?_⟩
  refine List.forall_mem_cons.mpr ⟨c_meth mq_255_kt hY hYS hIx hX (q := mq_255) mq_255_at mq_255_pl mq_255_k cs_cy hcs cn_85_ok, ?_⟩
  refine List.forall_mem_cons.mpr ⟨c_meth mq_255_kt hY hYS hIx hX (q := mq_255) mq_255_at mq_255_pl mq_255_k cs_cy hcs cn_86_ok, ?_⟩
  refine List.forall_mem_cons.mpr ⟨c_meth mq_255_kt hY hYS hIx hX (q := mq_255) mq_255_at mq_255_pl mq_255_k cs_cy hcs cn_87_ok, ?_⟩
  refine List.forall_mem_cons.mpr ⟨c_meth mq_255_kt hY hYS hIx hX (q := mq_255) mq_255_at mq_255_pl mq_255_k cs_cy hcs cn_88_ok, ?_⟩
  refine List.forall_mem_cons.mpr ⟨c_meth mq_255_kt hY hYS hIx hX (q := mq_255) mq_255_at mq_255_pl mq_255_k cs_cy hcs cn_89_ok, ?_⟩
  refine List.forall_mem_cons.mpr ⟨c_meth mq_255_kt hY hYS hIx hX (q := mq_255) mq_255_at mq_255_pl mq_255_k cs_cy hcs cn_90_ok, ?_⟩
  refine List.forall_mem_cons.mpr ⟨c_meth mq_255_kt hY hYS hIx hX (q := mq_255) mq_255_at mq_255_pl mq_255_k cs_cy hcs cn_91_ok, ?_⟩
  exact fun _ h => absurd h List.not_mem_nil
theorem sc_7 (hX : ∀ i, i < 2 → X i = some ((x_tab i).map Int32.ofInt)) (hcs : ∀ d', d = d' + 1 → ∀ y, ∀ C ∈ cs_at y, c_sem l X (yY xa) xa d' C) : ∀ r ∈ cs_tab_7, ∀ C ∈ r, c_sem l X (yY xa) xa d C := by
  unfold cs_tab_7
  refine List.forall_mem_cons.mpr ⟨sm_224 hX hcs, ?_⟩
  refine List.forall_mem_cons.mpr ⟨sm_225 hX hcs, ?_⟩
  refine List.forall_mem_cons.mpr ⟨sm_226 hX hcs, ?_⟩
  refine List.forall_mem_cons.mpr ⟨sm_227 hX hcs, ?_⟩
  refine List.forall_mem_cons.mpr ⟨sm_228 hX hcs, ?_⟩
  refine List.forall_mem_cons.mpr ⟨sm_229 hX hcs, ?_⟩
  refine List.forall_mem_cons.mpr ⟨sm_230 hX hcs, ?_⟩
  refine List.forall_mem_cons.mpr ⟨sm_231 hX hcs, ?_⟩
  refine List.forall_mem_cons.mpr ⟨sm_232 hX hcs, ?_⟩
  refine List.forall_mem_cons.mpr ⟨sm_233 hX hcs, ?_⟩
  refine List.forall_mem_cons.mpr ⟨sm_234 hX hcs, ?_⟩
  refine List.forall_mem_cons.mpr ⟨sm_235 hX hcs, ?_⟩
  refine List.forall_mem_cons.mpr ⟨sm_236 hX hcs, ?_⟩
  refine List.forall_mem_cons.mpr ⟨sm_237 hX hcs, ?_⟩
  refine List.forall_mem_cons.mpr ⟨sm_238 hX hcs, ?_⟩
  refine List.forall_mem_cons.mpr ⟨sm_239 hX hcs, ?_⟩
  refine List.forall_mem_cons.mpr ⟨sm_240 hX hcs, ?_⟩
  refine List.forall_mem_cons.mpr ⟨sm_241 hX hcs, ?_⟩
  refine List.forall_mem_cons.mpr ⟨sm_242 hX hcs, ?_⟩
  refine List.forall_mem_cons.mpr ⟨sm_243 hX hcs, ?_⟩
  refine List.forall_mem_cons.mpr ⟨sm_244 hX hcs, ?_⟩
  refine List.forall_mem_cons.mpr ⟨sm_245 hX hcs, ?_⟩
  refine List.forall_mem_cons.mpr ⟨sm_246 hX hcs, ?_⟩
  refine List.forall_mem_cons.mpr ⟨sm_247 hX hcs, ?_⟩
  refine List.forall_mem_cons.mpr ⟨(fun _ h => absurd h List.not_mem_nil), ?_⟩
  refine List.forall_mem_cons.mpr ⟨sm_249 hX hcs, ?_⟩
  refine List.forall_mem_cons.mpr ⟨sm_250 hX hcs, ?_⟩
  refine List.forall_mem_cons.mpr ⟨sm_251 hX hcs, ?_⟩
  refine List.forall_mem_cons.mpr ⟨sm_252 hX hcs, ?_⟩
  refine List.forall_mem_cons.mpr ⟨sm_253 hX hcs, ?_⟩
  refine List.forall_mem_cons.mpr ⟨sm_254 hX hcs, ?_⟩
  refine List.forall_mem_cons.mpr ⟨sm_255 hX hcs, ?_⟩
  exact fun _ h => absurd h List.not_mem_nil
end AS
