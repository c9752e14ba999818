/-! ALL CONTRACTS TOGETHER, 6 -/
section AS
variable {l : Launch} {X : Nat → Option (List Int32)} {xa : Nat → Nat} {d : Nat}
theorem sm_192 (hX : ∀ i, i < 2 → X i = some ((x_tab i).map Int32.ofInt)) (hcs : ∀ d', d = d' + 1 → ∀ y, ∀ C ∈ cs_at y, c_sem l X (yY xa) xa d' C) : ∀ C ∈ [cn_286], c_sem l X (yY xa) xa d C := by
  have hY := yY_ok xa
  have hYS := yY_str xa
  have hIx := ix_K_ok (l := l) (X := X) hY hYS
  intro C hC
  obtain rfl := List.mem_singleton.mp hC
  exact c_meth mq_192_kt hY hYS hIx hX (q := mq_192) mq_192_at mq_192_pl mq_192_k cs_cy hcs cn_286_ok
theorem sm_193 (hX : ∀ i, i < 2 → X i = some ((x_tab i).map Int32.ofInt)) (hcs : ∀ d', d = d' + 1 → ∀ y, ∀ C ∈ cs_at y, c_sem l X (yY xa) xa d' C) : ∀ C ∈ [cn_326], c_sem l X (yY xa) xa d C := by
  have hY := yY_ok xa
  have hYS := yY_str xa
  have hIx := ix_K_ok (l := l) (X := X) hY hYS
  intro C hC
  obtain rfl := List.mem_singleton.mp hC
  exact c_meth mq_193_kt hY hYS hIx hX (q := mq_193) mq_193_at mq_193_pl mq_193_k cs_cy hcs cn_326_ok
theorem sm_194 (hX : ∀ i, i < 2 → X i = some ((x_tab i).map Int32.ofInt)) (hcs : ∀ d', d = d' + 1 → ∀ y, ∀ C ∈ cs_at y, c_sem l X (yY xa) xa d' C) : ∀ C ∈ [cn_336], c_sem l X (yY xa) xa d C := by
  have hY := yY_ok xa
  have hYS := yY_str xa
  have hIx := ix_K_ok (l := l) (X := X) hY hYS
  intro C hC
  obtain rfl := List.mem_singleton.mp hC
  exact c_meth mq_194_kt hY hYS hIx hX (q := mq_194) mq_194_at mq_194_pl mq_194_k cs_cy hcs cn_336_ok
theorem sm_195 (hX : ∀ i, i < 2 → X i = some ((x_tab i).map Int32.ofInt)) (hcs : ∀ d', d = d' + 1 → ∀ y, ∀ C ∈ cs_at y, c_sem l X (yY xa) xa d' C) : ∀ C ∈ [cn_374], c_sem l X (yY xa) xa d C := by
  have hY := yY_ok xa
  have hYS := yY_str xa
  have hIx := ix_K_ok (l := l) (X := X) hY hYS
  intro C hC
  obtain rfl := List.mem_singleton.mp hC
  exact c_meth mq_195_kt hY hYS hIx hX (q := mq_195) mq_195_at mq_195_pl mq_195_k cs_cy hcs cn_374_ok
theorem sm_196 (hX : ∀ i, i < 2 → X i = some ((x_tab i).map Int32.ofInt)) (hcs : ∀ d', d = d' + 1 → ∀ y, ∀ C ∈ cs_at y, c_sem l X (yY xa) xa d' C) : ∀ C ∈ [cn_334], c_sem l X (yY xa) xa d C := by
  have hY := yY_ok xa
  have hYS := yY_str xa
  have hIx := ix_K_ok (l := l) (X := X) hY hYS
  intro C hC
  obtain rfl := List.mem_singleton.mp hC
  exact c_meth mq_196_kt hY hYS hIx hX (q := mq_196) mq_196_at mq_196_pl mq_196_k cs_cy hcs cn_334_ok
theorem sm_197 (hX : ∀ i, i < 2 → X i = some ((x_tab i).map Int32.ofInt)) (hcs : ∀ d', d = d' + 1 → ∀ y, ∀ C ∈ cs_at y, c_sem l X (yY xa) xa d' C) : ∀ C ∈ [cn_283, cn_284], c_sem l X (yY xa) xa d C := by
  have hY := yY_ok xa
  have hYS := yY_str xa
  have hIx := ix_K_ok (l := l) (X := X) hY hYS
  refine List.forall_mem_cons.mpr ⟨c_meth mq_197_kt hY hYS hIx hX (q := mq_197) mq_197_at mq_197_pl mq_197_k cs_cy hcs cn_283_ok, ?_⟩
  refine List.forall_mem_cons.mpr ⟨c_meth mq_197_kt hY hYS hIx hX (q := mq_197) mq_197_at mq_197_pl mq_197_k cs_cy hcs cn_284_ok, ?_⟩
  exact fun _ h => absurd h List.not_mem_nil
theorem sm_198 (hX : ∀ i, i < 2 → X i = some ((x_tab i).map Int32.ofInt)) (hcs : ∀ d', d = d' + 1 → ∀ y, ∀ C ∈ cs_at y, c_sem l X (yY xa) xa d' C) : ∀ C ∈ [cn_44, cn_45, cn_46, cn_47, cn_48, cn_49, cn_50, cn_51, cn_52, cn_53, cn_54, cn_55, cn_56, cn_57, cn_58, cn_59, cn_60, cn_61, cn_62, cn_63, cn_64, cn_65, cn_66, cn_67, cn_68, cn_69, cn_70, cn_71, cn_72, cn_73, cn_74, cn_75, cn_76], c_sem l X (yY xa) xa d C := by
  have hY := yY_ok xa
  have hYS := yY_str xa
  have hIx := ix_K_ok (l := l) (X := X) hY hYS
  refine List.forall_mem_cons.mpr ⟨c_meth mq_198_kt hY hYS hIx hX (q := mq_198) mq_198_at mq_198_pl mq_198_k cs_cy hcs cn_44_ok, ?_⟩
  refine List.forall_mem_cons.mpr ⟨c_meth mq_198_kt hY hYS hIx hX (q := mq_198) mq_198_at mq_198_pl mq_198_k cs_cy hcs cn_45_ok, ?_⟩
  refine List.forall_mem_cons.mpr ⟨c_meth mq_198_kt hY hYS hIx hX (q := mq_198) mq_198_at mq_198_pl mq_198_k cs_cy hcs cn_46_ok, ?_⟩
  refine List.forall_mem_cons.mpr ⟨c_meth mq_198_kt hY hYS hIx hX (q := mq_198) mq_198_at mq_198_pl mq_198_k cs_cy hcs cn_47_ok, ?_⟩
  refine List.forall_mem_cons.mpr ⟨c_meth mq_198_kt hY hYS hIx hX (q := mq_198) mq_198_at mq_198_pl mq_198_k cs_cy hcs cn_48_ok, ?_⟩
  refine List.forall_mem_cons.mpr ⟨c_meth mq_198_kt hY hYS hIx hX (q := mq_198) mq_198_at mq_198_pl mq_198_k cs_cy hcs cn_49_ok, ?_⟩
  refine List.forall_mem_cons.mpr ⟨c_meth mq_198_kt hY hYS hIx hX (q := mq_198) mq_198_at mq_198_pl mq_198_k cs_cy hcs cn_50_ok, ?_⟩
  refine List.forall_mem_cons.mpr ⟨c_meth mq_198_kt hY hYS hIx hX (q := mq_198) mq_198_at mq_198_pl mq_198_k cs_cy hcs cn_51_ok, ?_⟩
  refine List.forall_mem_cons.mpr ⟨c_meth mq_198_kt hY hYS hIx hX (q := mq_198) mq_198_at mq_198_pl mq_198_k cs_cy hcs cn_52_ok, ?_⟩
  refine List.forall_mem_cons.mpr ⟨c_meth mq_198_kt hY hYS hIx hX (q := mq_198) mq_198_at mq_198_pl mq_198_k cs_cy hcs cn_53_ok, ?_⟩
  refine List.forall_mem_cons.mpr ⟨c_meth mq_198_kt hY hYS hIx hX (q := mq_198) mq_198_at mq_198_pl mq_198_k cs_cy hcs cn_54_ok, ?_⟩
  refine List.forall_mem_cons.mpr ⟨c_meth mq_198_kt hY hYS hIx hX (q := mq_198) mq_198_at mq_198_pl mq_198_k cs_cy hcs cn_55_ok, ?_⟩
  refine List.forall_mem_cons.mpr ⟨c_meth mq_198_kt hY hYS hIx hX (q := mq_198) mq_198_at mq_198_pl mq_198_k cs_cy hcs cn_56_ok, ?_⟩
  refine List.forall_mem_cons.mpr ⟨c_meth mq_198_kt hY hYS hIx hX (q := mq_198) mq_198_at mq_198_pl mq_198_k cs_cy hcs cn_57_ok, ?_⟩
  refine List.forall_mem_cons.mpr ⟨c_meth mq_198_kt hY hYS hIx hX (q := mq_198) mq_198_at mq_198_pl mq_198_k cs_cy hcs cn_58_ok, ?_⟩
  refine List.forall_mem_cons.mpr ⟨c_meth mq_198_kt hY hYS hIx hX (q := mq_198) mq_198_at mq_198_pl mq_198_k cs_cy hcs cn_59_ok, ?_⟩
  refine List.forall_mem_cons.mpr ⟨c_meth mq_198_kt hY hYS hIx hX (q := mq_198) mq_198_at mq_198_pl mq_198_k cs_cy hcs cn_60_ok, ?_⟩
  refine List.forall_mem_cons.mpr ⟨c_meth mq_198_kt hY hYS hIx hX (q := mq_198) mq_198_at mq_198_pl mq_198_k cs_cy hcs cn_61_ok, ?_⟩
  refine List.forall_mem_cons.mpr ⟨c_meth mq_198_kt hY hYS hIx hX (q := mq_198) mq_198_at mq_198_pl mq_198_k cs_cy hcs cn_62_ok, ?_⟩
  refine List.forall_mem_cons.mpr ⟨c_meth mq_198_kt hY hYS hIx hX (q := mq_198) mq_198_at mq_198_pl mq_198_k cs_cy hcs cn_63_ok, ?_⟩
  refine List.forall_mem_cons.mpr ⟨c_meth mq_198_kt hY hYS hIx hX (q := mq_198) mq_198_at mq_198_pl mq_198_k cs_cy hcs cn_64_ok, ?_⟩
  refine List.forall_mem_cons.mpr ⟨c_meth mq_198_kt hY hYS hIx hX (q := mq_198) mq_198_at mq_198_pl mq_198_k cs_cy hcs cn_65_ok, ?_⟩
  refine List.forall_mem_cons.mpr ⟨c_meth mq_198_kt hY hYS hIx hX (q := mq_198) mq_198_at mq_198_pl mq_198_k cs_cy hcs cn_66_ok, ?_⟩
  refine List.forall_mem_cons.mpr ⟨c_meth mq_198_kt hY hYS hIx hX (q := mq_198) mq_198_at mq_198_pl mq_198_k cs_cy hcs cn_67_ok, ?_⟩
  refine List.forall_mem_cons.mpr ⟨c_meth mq_198_kt hY hYS hIx hX (q := mq_198) mq_198_at mq_198_pl mq_198_k cs_cy hcs cn_68_ok, ?_⟩
  refine List.forall_mem_cons.mpr ⟨c_meth mq_198_kt hY hYS hIx hX (q := mq_198) mq_198_at mq_198_pl mq_198_k cs_cy hcs cn_69_ok, ?_⟩
  refine List.forall_mem_cons.mpr ⟨c_meth mq_198_kt hY hYS hIx hX (q := mq_198) mq_198_at mq_198_pl mq_198_k cs_cy hcs cn_70_ok, ?_⟩
  refine List.forall_mem_cons.mpr ⟨c_meth mq_198_kt hY hYS hIx hX (q := mq_198) mq_198_at mq_198_pl mq_198_k cs_cy hcs cn_71_ok, ?_⟩
  refine List.forall_mem_cons.mpr ⟨c_meth mq_198_kt hY hYS hIx hX (q := mq_198) mq_198_at mq_198_pl mq_198_k cs_cy hcs cn_72_ok, ?_⟩
  refine List.forall_mem_cons.mpr ⟨c_meth mq_198_kt hY hYS hIx hX (q := mq_198) mq_198_at mq_198_pl mq_198_k cs_cy hcs cn_73_ok, ?_⟩
  refine List.forall_mem_cons.mpr ⟨c_meth mq_198_kt hY hYS hIx hX (q := mq_198) mq_198_at mq_198_pl mq_198_k cs_cy hcs cn_74_ok, ?_⟩
  refine List.forall_mem_cons.mpr ⟨c_meth mq_198_kt hY hYS hIx hX (q := mq_198) mq_198_at mq_198_pl mq_198_k cs_cy hcs cn_75_ok, ?_⟩
  refine List.forall_mem_cons.mpr ⟨c_meth mq_198_kt hY hYS hIx hX (q := mq_198) mq_198_at mq_198_pl mq_198_k cs_cy hcs cn_76_ok, ?_⟩
  exact fun _ h => absurd h List.not_mem_nil
theorem sm_199 (hX : ∀ i, i < 2 → X i = some ((x_tab i).map Int32.ofInt)) (hcs : ∀ d', d = d' + 1 → ∀ y, ∀ C ∈ cs_at y, c_sem l X (yY xa) xa d' C) : ∀ C ∈ [cn_273], c_sem l X (yY xa) xa d C := by
  have hY := yY_ok xa
  have hYS := yY_str xa
  have hIx := ix_K_ok (l := l) (X := X) hY hYS
  intro C hC
  obtain rfl := List.mem_singleton.mp hC
  exact c_meth mq_199_kt hY hYS hIx hX (q := mq_199) mq_199_at mq_199_pl mq_199_k cs_cy hcs cn_273_ok
theorem sm_200 (hX : ∀ i, i < 2 → X i = some ((x_tab i).map Int32.ofInt)) (hcs : ∀ d', d = d' + 1 → ∀ y, ∀ C ∈ cs_at y, c_sem l X (yY xa) xa d' C) : ∀ C ∈ [cn_95], c_sem l X (yY xa) xa d C := by
  have hY := yY_ok xa
  have hYS := yY_str xa
  have hIx := ix_K_ok (l := l) (X := X) hY hYS
  intro C hC
  obtain rfl := List.mem_singleton.mp hC
  exact c_meth mq_200_kt hY hYS hIx hX (q := mq_200) mq_200_at mq_200_pl mq_200_k cs_cy hcs cn_95_ok
theorem sm_201 (hX : ∀ i, i < 2 → X i = some ((x_tab i).map Int32.ofInt)) (hcs : ∀ d', d = d' + 1 → ∀ y, ∀ C ∈ cs_at y, c_sem l X (yY xa) xa d' C) : ∀ C ∈ [cn_375], c_sem l X (yY xa) xa d C := by
  have hY := yY_ok xa
  have hYS := yY_str xa
  have hIx := ix_K_ok (l := l) (X := X) hY hYS
  intro C hC
  obtain rfl := List.mem_singleton.mp hC
  exact c_meth mq_201_kt hY hYS hIx hX (q := mq_201) mq_201_at mq_201_pl mq_201_k cs_cy hcs cn_375_ok
theorem sm_202 (hX : ∀ i, i < 2 → X i = some ((x_tab i).map Int32.ofInt)) (hcs : ∀ d', d = d' + 1 → ∀ y, ∀ C ∈ cs_at y, c_sem l X (yY xa) xa d' C) : ∀ C ∈ [cn_335], c_sem l X (yY xa) xa d C := by
  have hY := yY_ok xa
  have hYS := yY_str xa
  have hIx := ix_K_ok (l := l) (X := X) hY hYS
  intro C hC
  obtain rfl := List.mem_singleton.mp hC
  exact c_meth mq_202_kt hY hYS hIx hX (q := mq_202) mq_202_at mq_202_pl mq_202_k cs_cy hcs cn_335_ok
theorem sm_203 (hX : ∀ i, i < 2 → X i = some ((x_tab i).map Int32.ofInt)) (hcs : ∀ d', d = d' + 1 → ∀ y, ∀ C ∈ cs_at y, c_sem l X (yY xa) xa d' C) : ∀ C ∈ [cn_274], c_sem l X (yY xa) xa d C := by
  have hY := yY_ok xa
  have hYS := yY_str xa
  have hIx := ix_K_ok (l := l) (X := X) hY hYS
  intro C hC
  obtain rfl := List.mem_singleton.mp hC
  exact c_meth mq_203_kt hY hYS hIx hX (q := mq_203) mq_203_at mq_203_pl mq_203_k cs_cy hcs cn_274_ok
theorem sm_204 (hX : ∀ i, i < 2 → X i = some ((x_tab i).map Int32.ofInt)) (hcs : ∀ d', d = d' + 1 → ∀ y, ∀ C ∈ cs_at y, c_sem l X (yY xa) xa d' C) : ∀ C ∈ [cn_603], c_sem l X (yY xa) xa d C := by
  have hY := yY_ok xa
  have hYS := yY_str xa
  have hIx := ix_K_ok (l := l) (X := X) hY hYS
  intro C hC
  obtain rfl := List.mem_singleton.mp hC
  exact c_meth mq_204_kt hY hYS hIx hX (q := mq_204) mq_204_at mq_204_pl mq_204_k cs_cy hcs cn_603_ok
theorem sm_205 (hX : ∀ i, i < 2 → X i = some ((x_tab i).map Int32.ofInt)) (hcs : ∀ d', d = d' + 1 → ∀ y, ∀ C ∈ cs_at y, c_sem l X (yY xa) xa d' C) : ∀ C ∈ [cn_592], c_sem l X (yY xa) xa d C := by
  have hY := yY_ok xa
  have hYS := yY_str xa
  have hIx := ix_K_ok (l := l) (X := X) hY hYS
  intro C hC
  obtain rfl := List.mem_singleton.mp hC
  exact c_meth mq_205_kt hY hYS hIx hX (q := mq_205) mq_205_at mq_205_pl mq_205_k cs_cy hcs cn_592_ok
theorem sm_206 (hX : ∀ i, i < 2 → X i = some ((x_tab i).map Int32.ofInt)) (hcs : ∀ d', d = d' + 1 → ∀ y, ∀ C ∈ cs_at y, c_sem l X (yY xa) xa d' C) : ∀ C ∈ [cn_36], c_sem l X (yY xa) xa d C := by
  have hY := yY_ok xa
  have hYS := yY_str xa
  have hIx := ix_K_ok (l := l) (X := X) hY hYS
  intro C hC
  obtain rfl := List.mem_singleton.mp hC
  exact c_meth mq_206_kt hY hYS hIx hX (q := mq_206) mq_206_at mq_206_pl mq_206_k cs_cy hcs cn_36_ok
theorem sm_207 (hX : ∀ i, i < 2 → X i = some ((x_tab i).map Int32.ofInt)) (hcs : ∀ d', d = d' + 1 → ∀ y, ∀ C ∈ cs_at y, c_sem l X (yY xa) xa d' C) : ∀ C ∈ [cn_579, cn_580], c_sem l X (yY xa) xa d C := by
  have hY := yY_ok xa
  have hYS := yY_str xa
  have hIx := ix_K_ok (l := l) (X := X) hY hYS
  refine List.forall_mem_cons.mpr ⟨c_meth mq_207_kt hY hYS hIx hX (q := mq_207) mq_207_at mq_207_pl mq_207_k cs_cy hcs cn_579_ok, ?_⟩
  refine List.forall_mem_cons.mpr ⟨c_meth mq_207_kt hY hYS hIx hX (q := mq_207) mq_207_at mq_207_pl mq_207_k cs_cy hcs cn_580_ok, ?_⟩
  exact fun _ h => absurd h List.not_mem_nil
theorem sm_208 (hX : ∀ i, i < 2 → X i = some ((x_tab i).map Int32.ofInt)) (hcs : ∀ d', d = d' + 1 → ∀ y, ∀ C ∈ cs_at y, c_sem l X (yY xa) xa d' C) : ∀ C ∈ [cn_573, cn_574], c_sem l X (yY xa) xa d C := by
  have hY := yY_ok xa
  have hYS := yY_str xa
  have hIx := ix_K_ok (l := l) (X := X) hY hYS
  refine List.forall_mem_cons.mpr ⟨c_meth mq_208_kt hY hYS hIx hX (q := mq_208) mq_208_at mq_208_pl mq_208_k cs_cy hcs cn_573_ok, ?_⟩
  refine List.forall_mem_cons.mpr ⟨c_meth mq_208_kt hY hYS hIx hX (q := mq_208) mq_208_at mq_208_pl mq_208_k cs_cy hcs cn_574_ok, ?_⟩
  exact fun _ h => absurd h List.not_mem_nil
theorem sm_209 (hX : ∀ i, i < 2 → X i = some ((x_tab i).map Int32.ofInt)) (hcs : ∀ d', d = d' + 1 → ∀ y, ∀ C ∈ cs_at y, c_sem l X (yY xa) xa d' C) : ∀ C ∈ [cn_327, cn_328], c_sem l X (yY xa) xa d C := by
  have hY := yY_ok xa
  have hYS := yY_str xa
  have hIx := ix_K_ok (l := l) (X := X) hY hYS
  refine List.forall_mem_cons.mpr ⟨c_meth mq_209_kt hY hYS hIx hX (q := mq_209) mq_209_at mq_209_pl mq_209_k cs_cy hcs cn_327_ok, ?_⟩
  refine List.forall_mem_cons.mpr ⟨c_meth mq_209_kt hY hYS hIx hX (q := mq_209) mq_209_at mq_209_pl mq_209_k cs_cy hcs cn_328_ok, ?_⟩
  exact fun _ h => absurd h List.not_mem_nil
theorem sm_210 (hX : ∀ i, i < 2 → X i = some ((x_tab i).map Int32.ofInt)) (hcs : ∀ d', d = d' + 1 → ∀ y, ∀ C ∈ cs_at y, c_sem l X (yY xa) xa d' C) : ∀ C ∈ [cn_94], c_sem l X (yY xa) xa d C := by
  have hY := yY_ok xa
  have hYS := yY_str xa
  have hIx := ix_K_ok (l := l) (X := X) hY hYS
  intro C hC
  obtain rfl := List.mem_singleton.mp hC
  exact c_meth mq_210_kt hY hYS hIx hX (q := mq_210) mq_210_at mq_210_pl mq_210_k cs_cy hcs cn_94_ok
theorem sm_211 (hX : ∀ i, i < 2 → X i = some ((x_tab i).map Int32.ofInt)) (hcs : ∀ d', d = d' + 1 → ∀ y, ∀ C ∈ cs_at y, c_sem l X (yY xa) xa d' C) : ∀ C ∈ [cn_332], c_sem l X (yY xa) xa d C := by
  have hY := yY_ok xa
  have hYS := yY_str xa
  have hIx := ix_K_ok (l := l) (X := X) hY hYS
  intro C hC
  obtain rfl := List.mem_singleton.mp hC
  exact c_meth mq_211_kt hY hYS hIx hX (q := mq_211) mq_211_at mq_211_pl mq_211_k cs_cy hcs cn_332_ok
theorem sm_212 (hX : ∀ i, i < 2 → X i = some ((x_tab i).map Int32.ofInt)) (hcs : ∀ d', d = d' + 1 → ∀ y, ∀ C ∈ cs_at y, c_sem l X (yY xa) xa d' C) : ∀ C ∈ [cn_618], c_sem l X (yY xa) xa d C := by
  have hY := yY_ok xa
  have hYS := yY_str xa
  have hIx := ix_K_ok (l := l) (X := X) hY hYS
  intro C hC
  obtain rfl := List.mem_singleton.mp hC
  exact cn_w_sem hY hYS hIx hX cs_cy hcs
theorem sm_213 (hX : ∀ i, i < 2 → X i = some ((x_tab i).map Int32.ofInt)) (hcs : ∀ d', d = d' + 1 → ∀ y, ∀ C ∈ cs_at y, c_sem l X (yY xa) xa d' C) : ∀ C ∈ ra_list, c_sem l X (yY xa) xa d C := by
  have hY := yY_ok xa
  have hYS := yY_str xa
  have hIx := ix_K_ok (l := l) (X := X) hY hYS
  intro C hC
  have hc := List.all_eq_true.mp ra_all C hC
  obtain ⟨n, -, rfl⟩ := List.mem_map.mp hC
  exact c_meth mq_213_kt hY hYS hIx hX (q := mq_213) mq_213_at mq_213_pl mq_213_k cs_cy hcs hc
theorem sm_214 (hX : ∀ i, i < 2 → X i = some ((x_tab i).map Int32.ofInt)) (hcs : ∀ d', d = d' + 1 → ∀ y, ∀ C ∈ cs_at y, c_sem l X (yY xa) xa d' C) : ∀ C ∈ [cn_424], c_sem l X (yY xa) xa d C := by
  have hY := yY_ok xa
  have hYS := yY_str xa
  have hIx := ix_K_ok (l := l) (X := X) hY hYS
  intro C hC
  obtain rfl := List.mem_singleton.mp hC
  exact c_meth mq_214_kt hY hYS hIx hX (q := mq_214) mq_214_at mq_214_pl mq_214_k cs_cy hcs cn_424_ok
theorem sm_215 (hX : ∀ i, i < 2 → X i = some ((x_tab i).map Int32.ofInt)) (hcs : ∀ d', d = d' + 1 → ∀ y, ∀ C ∈ cs_at y, c_sem l X (yY xa) xa d' C) : ∀ C ∈ [cn_372, cn_584], c_sem l X (yY xa) xa d C := by
  have hY := yY_ok xa
  have hYS := yY_str xa
  have hIx := ix_K_ok (l := l) (X := X) hY hYS
  refine List.forall_mem_cons.mpr ⟨c_meth mq_215_kt hY hYS hIx hX (q := mq_215) mq_215_at mq_215_pl mq_215_k cs_cy hcs cn_372_ok, ?_⟩
  refine List.forall_mem_cons.mpr ⟨c_meth mq_215_kt hY hYS hIx hX (q := mq_215) mq_215_at mq_215_pl mq_215_k cs_cy hcs cn_584_ok, ?_⟩
  exact fun _ h => absurd h List.not_mem_nil
theorem sm_216 (hX : ∀ i, i < 2 → X i = some ((x_tab i).map Int32.ofInt)) (hcs : ∀ d', d = d' + 1 → ∀ y, ∀ C ∈ cs_at y, c_sem l X (yY xa) xa d' C) : ∀ C ∈ [cn_96], c_sem l X (yY xa) xa d C := by
  have hY := yY_ok xa
  have hYS := yY_str xa
  have hIx := ix_K_ok (l := l) (X := X) hY hYS
  intro C hC
  obtain rfl := List.mem_singleton.mp hC
  exact c_meth mq_216_kt hY hYS hIx hX (q := mq_216) mq_216_at mq_216_pl mq_216_k cs_cy hcs cn_96_ok
theorem sm_217 (hX : ∀ i, i < 2 → X i = some ((x_tab i).map Int32.ofInt)) (hcs : ∀ d', d = d' + 1 → ∀ y, ∀ C ∈ cs_at y, c_sem l X (yY xa) xa d' C) : ∀ C ∈ [cn_598], c_sem l X (yY xa) xa d C := by
  have hY := yY_ok xa
  have hYS := yY_str xa
  have hIx := ix_K_ok (l := l) (X := X) hY hYS
  intro C hC
  obtain rfl := List.mem_singleton.mp hC
  exact c_meth mq_217_kt hY hYS hIx hX (q := mq_217) mq_217_at mq_217_pl mq_217_k cs_cy hcs cn_598_ok
theorem sm_218 (hX : ∀ i, i < 2 → X i = some ((x_tab i).map Int32.ofInt)) (hcs : ∀ d', d = d' + 1 → ∀ y, ∀ C ∈ cs_at y, c_sem l X (yY xa) xa d' C) : ∀ C ∈ [cn_276], c_sem l X (yY xa) xa d C := by
  have hY := yY_ok xa
  have hYS := yY_str xa
  have hIx := ix_K_ok (l := l) (X := X) hY hYS
  intro C hC
  obtain rfl := List.mem_singleton.mp hC
  exact c_meth mq_218_kt hY hYS hIx hX (q := mq_218) mq_218_at mq_218_pl mq_218_k cs_cy hcs cn_276_ok
theorem sm_219 (hX : ∀ i, i < 2 → X i = some ((x_tab i).map Int32.ofInt)) (hcs : ∀ d', d = d' + 1 → ∀ y, ∀ C ∈ cs_at y, c_sem l X (yY xa) xa d' C) : ∀ C ∈ [cn_280], c_sem l X (yY xa) xa d C := by
  have hY := yY_ok xa
  have hYS := yY_str xa
  have hIx := ix_K_ok (l := l) (X := X) hY hYS
  intro C hC
  obtain rfl := List.mem_singleton.mp hC
  exact c_meth mq_219_kt hY hYS hIx hX (q := mq_219) mq_219_at mq_219_pl mq_219_k cs_cy hcs cn_280_ok
theorem sm_220 (hX : ∀ i, i < 2 → X i = some ((x_tab i).map Int32.ofInt)) (hcs : ∀ d', d = d' + 1 → ∀ y, ∀ C ∈ cs_at y, c_sem l X (yY xa) xa d' C) : ∀ C ∈ [cn_588], c_sem l X (yY xa) xa d C := by
  have hY := yY_ok xa
  have hYS := yY_str xa
  have hIx := ix_K_ok (l := l) (X := X) hY hYS
  intro C hC
  obtain rfl := List.mem_singleton.mp hC
  exact c_meth mq_220_kt hY hYS hIx hX (q := mq_220) mq_220_at mq_220_pl mq_220_k cs_cy hcs cn_588_ok
theorem sm_221 (hX : ∀ i, i < 2 → X i = some ((x_tab i).map Int32.ofInt)) (hcs : ∀ d', d = d' + 1 → ∀ y, ∀ C ∈ cs_at y, c_sem l X (yY xa) xa d' C) : ∀ C ∈ [cn_581, cn_582], c_sem l X (yY xa) xa d C := by
  have hY := yY_ok xa
  have hYS := yY_str xa
  have hIx := ix_K_ok (l := l) (X := X) hY hYS
  refine List.forall_mem_cons.mpr ⟨c_meth mq_221_kt hY hYS hIx hX (q := mq_221) mq_221_at mq_221_pl mq_221_k cs_cy hcs cn_581_ok, ?_⟩
  refine List.forall_mem_cons.mpr ⟨c_meth mq_221_kt hY hYS hIx hX (q := mq_221) mq_221_at mq_221_pl mq_221_k cs_cy hcs cn_582_ok, ?_⟩
  exact fun _ h => absurd h List.not_mem_nil
theorem sm_222 (hX : ∀ i, i < 2 → X i = some ((x_tab i).map Int32.ofInt)) (hcs : ∀ d', d = d' + 1 → ∀ y, ∀ C ∈ cs_at y, c_sem l X (yY xa) xa d' C) : ∀ C ∈ [cn_329], c_sem l X (yY xa) xa d C := by
  have hY := yY_ok xa
  have hYS := yY_str xa
  have hIx := ix_K_ok (l := l) (X := X) hY hYS
  intro C hC
  obtain rfl := List.mem_singleton.mp hC
  exact c_meth mq_222_kt hY hYS hIx hX (q := mq_222) mq_222_at mq_222_pl mq_222_k cs_cy hcs cn_329_ok
theorem sm_223 (hX : ∀ i, i < 2 → X i = some ((x_tab i).map Int32.ofInt)) (hcs : ∀ d', d = d' + 1 → ∀ y, ∀ C ∈ cs_at y, c_sem l X (yY xa) xa d' C) : ∀ C ∈ [cn_337, cn_338], c_sem l X (yY xa) xa d C := by
  have hY := yY_ok xa
  have hYS := yY_str xa
  have hIx := ix_K_ok (l := l) (X := X) hY hYS
  refine List.forall_mem_cons.mpr ⟨c_meth mq_223_kt hY hYS hIx hX (q := mq_223) mq_223_at mq_223_pl mq_223_k cs_cy hcs cn_337_ok, ?_⟩
  refine List.forall_mem_cons.mpr ⟨c_meth mq_223_kt hY hYS hIx hX (q := mq_223) mq_223_at mq_223_pl mq_223_k cs_cy hcs cn_338_ok, ?_⟩
  exact fun _ h => absurd h List.not_mem_nil
theorem sc_6 (hX : ∀ i, i < 2 → X i = some ((x_tab i).map Int32.ofInt)) (hcs : ∀ d', d = d' + 1 → ∀ y, ∀ C ∈ cs_at y, c_sem l X (yY xa) xa d' C) : ∀ r ∈ cs_tab_6, ∀ C ∈ r, c_sem l X (yY xa) xa d C := by
  unfold cs_tab_6
  refine List.forall_mem_cons.mpr ⟨sm_192 hX hcs, ?_⟩
  refine List.forall_mem_cons.mpr ⟨sm_193 hX hcs, ?_⟩
  refine List.forall_mem_cons.mpr ⟨sm_194 hX hcs, ?_⟩
  refine List.forall_mem_cons.mpr ⟨sm_195 hX hcs, ?_⟩
  refine List.forall_mem_cons.mpr ⟨sm_196 hX hcs, ?_⟩
  refine List.forall_mem_cons.mpr ⟨sm_197 hX hcs, ?_⟩
  refine List.forall_mem_cons.mpr ⟨sm_198 hX hcs, ?_⟩
  refine List.forall_mem_cons.mpr ⟨sm_199 hX hcs, ?_⟩
  refine List.forall_mem_cons.mpr ⟨sm_200 hX hcs, ?_⟩
  refine List.forall_mem_cons.mpr ⟨sm_201 hX hcs, ?_⟩
  refine List.forall_mem_cons.mpr ⟨sm_202 hX hcs, ?_⟩
  refine List.forall_mem_cons.mpr ⟨sm_203 hX hcs, ?_⟩
  refine List.forall_mem_cons.mpr ⟨sm_204 hX hcs, ?_⟩
  refine List.forall_mem_cons.mpr ⟨sm_205 hX hcs, ?_⟩
  refine List.forall_mem_cons.mpr ⟨sm_206 hX hcs, ?_⟩
  refine List.forall_mem_cons.mpr ⟨sm_207 hX hcs, ?_⟩
  refine List.forall_mem_cons.mpr ⟨sm_208 hX hcs, ?_⟩
  refine List.forall_mem_cons.mpr ⟨sm_209 hX hcs, ?_⟩
  refine List.forall_mem_cons.mpr ⟨sm_210 hX hcs, ?_⟩
  refine List.forall_mem_cons.mpr ⟨sm_211 hX hcs, ?_⟩
  refine List.forall_mem_cons.mpr ⟨sm_212 hX hcs, ?_⟩
  refine List.forall_mem_cons.mpr ⟨sm_213 hX hcs, ?_⟩
  refine List.forall_mem_cons.mpr ⟨sm_214 hX hcs, ?_⟩
  refine List.forall_mem_cons.mpr ⟨sm_215 hX hcs, ?_⟩
  refine List.forall_mem_cons.mpr ⟨sm_216 hX hcs, ?_⟩
  refine List.forall_mem_cons.mpr ⟨sm_217 hX hcs, ?_⟩
  refine List.forall_mem_cons.mpr ⟨sm_218 hX hcs, ?_⟩
  refine List.forall_mem_cons.mpr ⟨sm_219 hX hcs, ?_⟩
  refine List.forall_mem_cons.mpr ⟨sm_220 hX hcs, ?_⟩
  refine List.forall_mem_cons.mpr ⟨sm_221 hX hcs, ?_⟩
  refine List.forall_mem_cons.mpr ⟨sm_222 hX hcs, ?_⟩
  refine List.forall_mem_cons.mpr ⟨sm_223 hX hcs, ?_⟩
  exact fun _ h => absurd h List.not_mem_nil
end AS
