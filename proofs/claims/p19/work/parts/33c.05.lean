/-! ALL CONTRACTS TOGETHER, 5 -/
section AS
variable {l : Launch} {X : Nat → Option (List Int32)} {xa : Nat → Nat} {d : Nat}
theorem sm_160 (hX : ∀ i, i < 2 → X i = some ((x_tab i).map Int32.ofInt)) (hcs : ∀ d', d = d' + 1 → ∀ y, ∀ C ∈ cs_at y, c_sem l X (yY xa) xa d' C) : ∀ C ∈ [cn_92], c_sem l X (yY xa) xa d C := by
  have hY := yY_ok xa
  have hYS := yY_str xa
  have hIx := ix_K_ok (l := l) (X := X) hY hYS
  intro C hC
  obtain rfl := List.mem_singleton.mp hC
  exact c_meth mq_160_kt hY hYS hIx hX (q := mq_160) mq_160_at mq_160_pl mq_160_k cs_cy hcs cn_92_ok
theorem sm_161 (hX : ∀ i, i < 2 → X i = some ((x_tab i).map Int32.ofInt)) (hcs : ∀ d', d = d' + 1 → ∀ y, ∀ C ∈ cs_at y, c_sem l X (yY xa) xa d' C) : ∀ C ∈ [cn_271], c_sem l X (yY xa) xa d C := by
  have hY := yY_ok xa
  have hYS := yY_str xa
  have hIx := ix_K_ok (l := l) (X := X) hY hYS
  intro C hC
  obtain rfl := List.mem_singleton.mp hC
  exact c_meth mq_161_kt hY hYS hIx hX (q := mq_161) mq_161_at mq_161_pl mq_161_k cs_cy hcs cn_271_ok
theorem sm_162 (hX : ∀ i, i < 2 → X i = some ((x_tab i).map Int32.ofInt)) (hcs : ∀ d', d = d' + 1 → ∀ y, ∀ C ∈ cs_at y, c_sem l X (yY xa) xa d' C) : ∀ C ∈ [cn_43], c_sem l X (yY xa) xa d C := by
  have hY := yY_ok xa
  have hYS := yY_str xa
  have hIx := ix_K_ok (l := l) (X := X) hY hYS
  intro C hC
  obtain rfl := List.mem_singleton.mp hC
  exact c_meth mq_162_kt hY hYS hIx hX (q := mq_162) mq_162_at mq_162_pl mq_162_k cs_cy hcs cn_43_ok
theorem sm_163 (hX : ∀ i, i < 2 → X i = some ((x_tab i).map Int32.ofInt)) (hcs : ∀ d', d = d' + 1 → ∀ y, ∀ C ∈ cs_at y, c_sem l X (yY xa) xa d' C) : ∀ C ∈ [cn_429], c_sem l X (yY xa) xa d C := by
  have hY := yY_ok xa
  have hYS := yY_str xa
  have hIx := ix_K_ok (l := l) (X := X) hY hYS
  intro C hC
  obtain rfl := List.mem_singleton.mp hC
  exact c_meth mq_163_kt hY hYS hIx hX (q := mq_163) mq_163_at mq_163_pl mq_163_k cs_cy hcs cn_429_ok
theorem sm_164 (hX : ∀ i, i < 2 → X i = some ((x_tab i).map Int32.ofInt)) (hcs : ∀ d', d = d' + 1 → ∀ y, ∀ C ∈ cs_at y, c_sem l X (yY xa) xa d' C) : ∀ C ∈ [cn_34, cn_35], c_sem l X (yY xa) xa d C := by
  have hY := yY_ok xa
  have hYS := yY_str xa
  have hIx := ix_K_ok (l := l) (X := X) hY hYS
  refine List.forall_mem_cons.mpr ⟨c_meth mq_164_kt hY hYS hIx hX (q := mq_164) mq_164_at mq_164_pl mq_164_k cs_cy hcs cn_34_ok, ?_⟩
  refine List.forall_mem_cons.mpr ⟨c_meth mq_164_kt hY hYS hIx hX (q := mq_164) mq_164_at mq_164_pl mq_164_k cs_cy hcs cn_35_ok, ?_⟩
  exact fun _ h => absurd h List.not_mem_nil
theorem sm_165 (hX : ∀ i, i < 2 → X i = some ((x_tab i).map Int32.ofInt)) (hcs : ∀ d', d = d' + 1 → ∀ y, ∀ C ∈ cs_at y, c_sem l X (yY xa) xa d' C) : ∀ C ∈ [cn_38], c_sem l X (yY xa) xa d C := by
  have hY := yY_ok xa
  have hYS := yY_str xa
  have hIx := ix_K_ok (l := l) (X := X) hY hYS
  intro C hC
  obtain rfl := List.mem_singleton.mp hC
  exact c_meth mq_165_kt hY hYS hIx hX (q := mq_165) mq_165_at mq_165_pl mq_165_k cs_cy hcs cn_38_ok
theorem sm_166 (hX : ∀ i, i < 2 → X i = some ((x_tab i).map Int32.ofInt)) (hcs : ∀ d', d = d' + 1 → ∀ y, ∀ C ∈ cs_at y, c_sem l X (yY xa) xa d' C) : ∀ C ∈ [cn_416, cn_417, cn_418], c_sem l X (yY xa) xa d C := by
  have hY := yY_ok xa
  have hYS := yY_str xa
  have hIx := ix_K_ok (l := l) (X := X) hY hYS
  refine List.forall_mem_cons.mpr ⟨c_meth mq_166_kt hY hYS hIx hX (q := mq_166) mq_166_at mq_166_pl mq_166_k cs_cy hcs cn_416_ok, ?_⟩
  refine List.forall_mem_cons.mpr ⟨c_meth mq_166_kt hY hYS hIx hX (q := mq_166) mq_166_at mq_166_pl mq_166_k cs_cy hcs cn_417_ok, ?_⟩
  refine List.forall_mem_cons.mpr ⟨c_meth mq_166_kt hY hYS hIx hX (q := mq_166) mq_166_at mq_166_pl mq_166_k cs_cy hcs cn_418_ok, ?_⟩
  exact fun _ h => absurd h List.not_mem_nil
theorem sm_167 (hX : ∀ i, i < 2 → X i = some ((x_tab i).map Int32.ofInt)) (hcs : ∀ d', d = d' + 1 → ∀ y, ∀ C ∈ cs_at y, c_sem l X (yY xa) xa d' C) : ∀ C ∈ [cn_396, cn_397, cn_398, cn_399, cn_400], c_sem l X (yY xa) xa d C := by
  have hY := yY_ok xa
  have hYS := yY_str xa
  have hIx := ix_K_ok (l := l) (X := X) hY hYS
  refine List.forall_mem_cons.mpr ⟨cn_396_sem hY d, ?_⟩
  refine List.forall_mem_cons.mpr ⟨cn_397_sem hY d, ?_⟩
  refine List.forall_mem_cons.mpr ⟨cn_398_sem hY d, ?_⟩
  refine List.forall_mem_cons.mpr ⟨cn_399_sem hY d, ?_⟩
  refine List.forall_mem_cons.mpr ⟨cn_400_sem hY d, ?_⟩
  exact fun _ h => absurd h List.not_mem_nil
theorem sm_168 (hX : ∀ i, i < 2 → X i = some ((x_tab i).map Int32.ofInt)) (hcs : ∀ d', d = d' + 1 → ∀ y, ∀ C ∈ cs_at y, c_sem l X (yY xa) xa d' C) : ∀ C ∈ [cn_41, cn_42], c_sem l X (yY xa) xa d C := by
  have hY := yY_ok xa
  have hYS := yY_str xa
  have hIx := ix_K_ok (l := l) (X := X) hY hYS
  refine List.forall_mem_cons.mpr ⟨c_meth mq_168_kt hY hYS hIx hX (q := mq_168) mq_168_at mq_168_pl mq_168_k cs_cy hcs cn_41_ok, ?_⟩
  refine List.forall_mem_cons.mpr ⟨c_meth mq_168_kt hY hYS hIx hX (q := mq_168) mq_168_at mq_168_pl mq_168_k cs_cy hcs cn_42_ok, ?_⟩
  exact fun _ h => absurd h List.not_mem_nil
theorem sm_169 (hX : ∀ i, i < 2 → X i = some ((x_tab i).map Int32.ofInt)) (hcs : ∀ d', d = d' + 1 → ∀ y, ∀ C ∈ cs_at y, c_sem l X (yY xa) xa d' C) : ∀ C ∈ [cn_272], c_sem l X (yY xa) xa d C := by
  have hY := yY_ok xa
  have hYS := yY_str xa
  have hIx := ix_K_ok (l := l) (X := X) hY hYS
  intro C hC
  obtain rfl := List.mem_singleton.mp hC
  exact c_meth mq_169_kt hY hYS hIx hX (q := mq_169) mq_169_at mq_169_pl mq_169_k cs_cy hcs cn_272_ok
theorem sm_170 (hX : ∀ i, i < 2 → X i = some ((x_tab i).map Int32.ofInt)) (hcs : ∀ d', d = d' + 1 → ∀ y, ∀ C ∈ cs_at y, c_sem l X (yY xa) xa d' C) : ∀ C ∈ [cn_281, cn_282], c_sem l X (yY xa) xa d C := by
  have hY := yY_ok xa
  have hYS := yY_str xa
  have hIx := ix_K_ok (l := l) (X := X) hY hYS
  refine List.forall_mem_cons.mpr ⟨c_meth mq_170_kt hY hYS hIx hX (q := mq_170) mq_170_at mq_170_pl mq_170_k cs_cy hcs cn_281_ok, ?_⟩
  refine List.forall_mem_cons.mpr ⟨c_meth mq_170_kt hY hYS hIx hX (q := mq_170) mq_170_at mq_170_pl mq_170_k cs_cy hcs cn_282_ok, ?_⟩
  exact fun _ h => absurd h List.not_mem_nil
theorem sm_171 (hX : ∀ i, i < 2 → X i = some ((x_tab i).map Int32.ofInt)) (hcs : ∀ d', d = d' + 1 → ∀ y, ∀ C ∈ cs_at y, c_sem l X (yY xa) xa d' C) : ∀ C ∈ [cn_278], c_sem l X (yY xa) xa d C := by
  have hY := yY_ok xa
  have hYS := yY_str xa
  have hIx := ix_K_ok (l := l) (X := X) hY hYS
  intro C hC
  obtain rfl := List.mem_singleton.mp hC
  exact c_meth mq_171_kt hY hYS hIx hX (q := mq_171) mq_171_at mq_171_pl mq_171_k cs_cy hcs cn_278_ok
theorem sm_172 (hX : ∀ i, i < 2 → X i = some ((x_tab i).map Int32.ofInt)) (hcs : ∀ d', d = d' + 1 → ∀ y, ∀ C ∈ cs_at y, c_sem l X (yY xa) xa d' C) : ∀ C ∈ [cn_430], c_sem l X (yY xa) xa d C := by
  have hY := yY_ok xa
  have hYS := yY_str xa
  have hIx := ix_K_ok (l := l) (X := X) hY hYS
  intro C hC
  obtain rfl := List.mem_singleton.mp hC
  exact c_meth mq_172_kt hY hYS hIx hX (q := mq_172) mq_172_at mq_172_pl mq_172_k cs_cy hcs cn_430_ok
theorem sm_173 (hX : ∀ i, i < 2 → X i = some ((x_tab i).map Int32.ofInt)) (hcs : ∀ d', d = d' + 1 → ∀ y, ∀ C ∈ cs_at y, c_sem l X (yY xa) xa d' C) : ∀ C ∈ [cn_419, cn_420, cn_421, cn_422, cn_423], c_sem l X (yY xa) xa d C := by
  have hY := yY_ok xa
  have hYS := yY_str xa
  have hIx := ix_K_ok (l := l) (X := X) hY hYS
  refine List.forall_mem_cons.mpr ⟨c_meth mq_173_kt hY hYS hIx hX (q := mq_173) mq_173_at mq_173_pl mq_173_k cs_cy hcs cn_419_ok, ?_⟩
  refine List.forall_mem_cons.mpr ⟨c_meth mq_173_kt hY hYS hIx hX (q := mq_173) mq_173_at mq_173_pl mq_173_k cs_cy hcs cn_420_ok, ?_⟩
  refine List.forall_mem_cons.mpr ⟨c_meth mq_173_kt hY hYS hIx hX (q := mq_173) mq_173_at mq_173_pl mq_173_k cs_cy hcs cn_421_ok, ?_⟩
  refine List.forall_mem_cons.mpr ⟨c_meth mq_173_kt hY hYS hIx hX (q := mq_173) mq_173_at mq_173_pl mq_173_k cs_cy hcs cn_422_ok, ?_⟩
  refine List.forall_mem_cons.mpr ⟨c_meth mq_173_kt hY hYS hIx hX (q := mq_173) mq_173_at mq_173_pl mq_173_k cs_cy hcs cn_423_ok, ?_⟩
  exact fun _ h => absurd h List.not_mem_nil
theorem sm_174 (hX : ∀ i, i < 2 → X i = some ((x_tab i).map Int32.ofInt)) (hcs : ∀ d', d = d' + 1 → ∀ y, ∀ C ∈ cs_at y, c_sem l X (yY xa) xa d' C) : ∀ C ∈ [cn_330, cn_331], c_sem l X (yY xa) xa d C := by
  have hY := yY_ok xa
  have hYS := yY_str xa
  have hIx := ix_K_ok (l := l) (X := X) hY hYS
  refine List.forall_mem_cons.mpr ⟨c_meth mq_174_kt hY hYS hIx hX (q := mq_174) mq_174_at mq_174_pl mq_174_k cs_cy hcs cn_330_ok, ?_⟩
  refine List.forall_mem_cons.mpr ⟨c_meth mq_174_kt hY hYS hIx hX (q := mq_174) mq_174_at mq_174_pl mq_174_k cs_cy hcs cn_331_ok, ?_⟩
  exact fun _ h => absurd h List.not_mem_nil
theorem sm_175 (hX : ∀ i, i < 2 → X i = some ((x_tab i).map Int32.ofInt)) (hcs : ∀ d', d = d' + 1 → ∀ y, ∀ C ∈ cs_at y, c_sem l X (yY xa) xa d' C) : ∀ C ∈ [cn_531], c_sem l X (yY xa) xa d C := by
  have hY := yY_ok xa
  have hYS := yY_str xa
  have hIx := ix_K_ok (l := l) (X := X) hY hYS
  intro C hC
  obtain rfl := List.mem_singleton.mp hC
  exact c_meth mq_175_kt hY hYS hIx hX (q := mq_175) mq_175_at mq_175_pl mq_175_k cs_cy hcs cn_531_ok
theorem sm_176 (hX : ∀ i, i < 2 → X i = some ((x_tab i).map Int32.ofInt)) (hcs : ∀ d', d = d' + 1 → ∀ y, ∀ C ∈ cs_at y, c_sem l X (yY xa) xa d' C) : ∀ C ∈ [cn_510, cn_511], c_sem l X (yY xa) xa d C := by
  have hY := yY_ok xa
  have hYS := yY_str xa
  have hIx := ix_K_ok (l := l) (X := X) hY hYS
  refine List.forall_mem_cons.mpr ⟨c_meth mq_176_kt hY hYS hIx hX (q := mq_176) mq_176_at mq_176_pl mq_176_k cs_cy hcs cn_510_ok, ?_⟩
  refine List.forall_mem_cons.mpr ⟨c_meth mq_176_kt hY hYS hIx hX (q := mq_176) mq_176_at mq_176_pl mq_176_k cs_cy hcs cn_511_ok, ?_⟩
  exact fun _ h => absurd h List.not_mem_nil
theorem sm_177 (hX : ∀ i, i < 2 → X i = some ((x_tab i).map Int32.ofInt)) (hcs : ∀ d', d = d' + 1 → ∀ y, ∀ C ∈ cs_at y, c_sem l X (yY xa) xa d' C) : ∀ C ∈ [cn_508, cn_509], c_sem l X (yY xa) xa d C := by
  have hY := yY_ok xa
  have hYS := yY_str xa
  have hIx := ix_K_ok (l := l) (X := X) hY hYS
  refine List.forall_mem_cons.mpr ⟨c_meth mq_177_kt hY hYS hIx hX (q := mq_177) mq_177_at mq_177_pl mq_177_k cs_cy hcs cn_508_ok, ?_⟩
  refine List.forall_mem_cons.mpr ⟨c_meth mq_177_kt hY hYS hIx hX (q := mq_177) mq_177_at mq_177_pl mq_177_k cs_cy hcs cn_509_ok, ?_⟩
  exact fun _ h => absurd h List.not_mem_nil
theorem sm_178 (hX : ∀ i, i < 2 → X i = some ((x_tab i).map Int32.ofInt)) (hcs : ∀ d', d = d' + 1 → ∀ y, ∀ C ∈ cs_at y, c_sem l X (yY xa) xa d' C) : ∀ C ∈ [cn_506, cn_507], c_sem l X (yY xa) xa d C := by
  have hY := yY_ok xa
  have hYS := yY_str xa
  have hIx := ix_K_ok (l := l) (X := X) hY hYS
  refine List.forall_mem_cons.mpr ⟨c_meth mq_178_kt hY hYS hIx hX (q := mq_178) mq_178_at mq_178_pl mq_178_k cs_cy hcs cn_506_ok, ?_⟩
  refine List.forall_mem_cons.mpr ⟨c_meth mq_178_kt hY hYS hIx hX (q := mq_178) mq_178_at mq_178_pl mq_178_k cs_cy hcs cn_507_ok, ?_⟩
  exact fun _ h => absurd h List.not_mem_nil
theorem sm_179 (hX : ∀ i, i < 2 → X i = some ((x_tab i).map Int32.ofInt)) (hcs : ∀ d', d = d' + 1 → ∀ y, ∀ C ∈ cs_at y, c_sem l X (yY xa) xa d' C) : ∀ C ∈ [cn_504, cn_505], c_sem l X (yY xa) xa d C := by
  have hY := yY_ok xa
  have hYS := yY_str xa
  have hIx := ix_K_ok (l := l) (X := X) hY hYS
  refine List.forall_mem_cons.mpr ⟨c_meth mq_179_kt hY hYS hIx hX (q := mq_179) mq_179_at mq_179_pl mq_179_k cs_cy hcs cn_504_ok, ?_⟩
  refine List.forall_mem_cons.mpr ⟨c_meth mq_179_kt hY hYS hIx hX (q := mq_179) mq_179_at mq_179_pl mq_179_k cs_cy hcs cn_505_ok, ?_⟩
  exact fun _ h => absurd h List.not_mem_nil
theorem sm_180 (hX : ∀ i, i < 2 → X i = some ((x_tab i).map Int32.ofInt)) (hcs : ∀ d', d = d' + 1 → ∀ y, ∀ C ∈ cs_at y, c_sem l X (yY xa) xa d' C) : ∀ C ∈ [cn_78], c_sem l X (yY xa) xa d C := by
  have hY := yY_ok xa
  have hYS := yY_str xa
  have hIx := ix_K_ok (l := l) (X := X) hY hYS
  intro C hC
  obtain rfl := List.mem_singleton.mp hC
  exact c_meth mq_180_kt hY hYS hIx hX (q := mq_180) mq_180_at mq_180_pl mq_180_k cs_cy hcs cn_78_ok
theorem sm_181 (hX : ∀ i, i < 2 → X i = some ((x_tab i).map Int32.ofInt)) (hcs : ∀ d', d = d' + 1 → ∀ y, ∀ C ∈ cs_at y, c_sem l X (yY xa) xa d' C) : ∀ C ∈ [cn_575], c_sem l X (yY xa) xa d C := by
  have hY := yY_ok xa
  have hYS := yY_str xa
  have hIx := ix_K_ok (l := l) (X := X) hY hYS
  intro C hC
  obtain rfl := List.mem_singleton.mp hC
  exact c_meth mq_181_kt hY hYS hIx hX (q := mq_181) mq_181_at mq_181_pl mq_181_k cs_cy hcs cn_575_ok
theorem sm_182 (hX : ∀ i, i < 2 → X i = some ((x_tab i).map Int32.ofInt)) (hcs : ∀ d', d = d' + 1 → ∀ y, ∀ C ∈ cs_at y, c_sem l X (yY xa) xa d' C) : ∀ C ∈ [cn_79], c_sem l X (yY xa) xa d C := by
  have hY := yY_ok xa
  have hYS := yY_str xa
  have hIx := ix_K_ok (l := l) (X := X) hY hYS
  intro C hC
  obtain rfl := List.mem_singleton.mp hC
  exact c_meth mq_182_kt hY hYS hIx hX (q := mq_182) mq_182_at mq_182_pl mq_182_k cs_cy hcs cn_79_ok
theorem sm_183 (hX : ∀ i, i < 2 → X i = some ((x_tab i).map Int32.ofInt)) (hcs : ∀ d', d = d' + 1 → ∀ y, ∀ C ∈ cs_at y, c_sem l X (yY xa) xa d' C) : ∀ C ∈ [cn_80, cn_81], c_sem l X (yY xa) xa d C := by
  have hY := yY_ok xa
  have hYS := yY_str xa
  have hIx := ix_K_ok (l := l) (X := X) hY hYS
  refine List.forall_mem_cons.mpr ⟨c_meth mq_183_kt hY hYS hIx hX (q := mq_183) mq_183_at mq_183_pl mq_183_k cs_cy hcs cn_80_ok, ?_⟩
  refine List.forall_mem_cons.mpr ⟨c_meth mq_183_kt hY hYS hIx hX (q := mq_183) mq_183_at mq_183_pl mq_183_k cs_cy hcs cn_81_ok, ?_⟩
  exact fun _ h => absurd h List.not_mem_nil
theorem sm_184 (hX : ∀ i, i < 2 → X i = some ((x_tab i).map Int32.ofInt)) (hcs : ∀ d', d = d' + 1 → ∀ y, ∀ C ∈ cs_at y, c_sem l X (yY xa) xa d' C) : ∀ C ∈ [cn_289, cn_290], c_sem l X (yY xa) xa d C := by
  have hY := yY_ok xa
  have hYS := yY_str xa
  have hIx := ix_K_ok (l := l) (X := X) hY hYS
  refine List.forall_mem_cons.mpr ⟨c_meth mq_184_kt hY hYS hIx hX (q := mq_184) mq_184_at mq_184_pl mq_184_k cs_cy hcs cn_289_ok, ?_⟩
  refine List.forall_mem_cons.mpr ⟨c_meth mq_184_kt hY hYS hIx hX (q := mq_184) mq_184_at mq_184_pl mq_184_k cs_cy hcs cn_290_ok, ?_⟩
  exact fun _ h => absurd h List.not_mem_nil
theorem sm_185 (hX : ∀ i, i < 2 → X i = some ((x_tab i).map Int32.ofInt)) (hcs : ∀ d', d = d' + 1 → ∀ y, ∀ C ∈ cs_at y, c_sem l X (yY xa) xa d' C) : ∀ C ∈ [cn_40], c_sem l X (yY xa) xa d C := by
  have hY := yY_ok xa
  have hYS := yY_str xa
  have hIx := ix_K_ok (l := l) (X := X) hY hYS
  intro C hC
  obtain rfl := List.mem_singleton.mp hC
  exact c_meth mq_185_kt hY hYS hIx hX (q := mq_185) mq_185_at mq_185_pl mq_185_k cs_cy hcs cn_40_ok
theorem sm_186 (hX : ∀ i, i < 2 → X i = some ((x_tab i).map Int32.ofInt)) (hcs : ∀ d', d = d' + 1 → ∀ y, ∀ C ∈ cs_at y, c_sem l X (yY xa) xa d' C) : ∀ C ∈ [cn_97, cn_98], c_sem l X (yY xa) xa d C := by
  have hY := yY_ok xa
  have hYS := yY_str xa
  have hIx := ix_K_ok (l := l) (X := X) hY hYS
  refine List.forall_mem_cons.mpr ⟨c_meth mq_186_kt hY hYS hIx hX (q := mq_186) mq_186_at mq_186_pl mq_186_k cs_cy hcs cn_97_ok, ?_⟩
  refine List.forall_mem_cons.mpr ⟨c_meth mq_186_kt hY hYS hIx hX (q := mq_186) mq_186_at mq_186_pl mq_186_k cs_cy hcs cn_98_ok, ?_⟩
  exact fun _ h => absurd h List.not_mem_nil
theorem sm_187 (hX : ∀ i, i < 2 → X i = some ((x_tab i).map Int32.ofInt)) (hcs : ∀ d', d = d' + 1 → ∀ y, ∀ C ∈ cs_at y, c_sem l X (yY xa) xa d' C) : ∀ C ∈ [cn_553, cn_554, cn_555, cn_556, cn_557, cn_558, cn_559, cn_560, cn_561, cn_562, cn_563, cn_564, cn_565, cn_566, cn_567, cn_568, cn_569, cn_570, cn_571], c_sem l X (yY xa) xa d C := by
  have hY := yY_ok xa
  have hYS := yY_str xa
  have hIx := ix_K_ok (l := l) (X := X) hY hYS
  refine List.forall_mem_cons.mpr ⟨c_meth mq_187_kt hY hYS hIx hX (q := mq_187) mq_187_at mq_187_pl mq_187_k cs_cy hcs cn_553_ok, ?_⟩
  refine List.forall_mem_cons.mpr ⟨c_meth mq_187_kt hY hYS hIx hX (q := mq_187) mq_187_at mq_187_pl mq_187_k cs_cy hcs cn_554_ok, ?_⟩
  refine List.forall_mem_cons.mpr ⟨c_meth mq_187_kt hY hYS hIx hX (q := mq_187) mq_187_at mq_187_pl mq_187_k cs_cy hcs cn_555_ok, ?_⟩
  refine List.forall_mem_cons.mpr ⟨c_meth mq_187_kt hY hYS hIx hX (q := mq_187) mq_187_at mq_187_pl mq_187_k cs_cy hcs cn_556_ok, ?_⟩
  refine List.forall_mem_cons.mpr ⟨c_meth mq_187_kt hY hYS hIx hX (q := mq_187) mq_187_at mq_187_pl mq_187_k cs_cy hcs cn_557_ok, ?_⟩
  refine List.forall_mem_cons.mpr ⟨c_meth mq_187_kt hY hYS hIx hX (q := mq_187) mq_187_at mq_187_pl mq_187_k cs_cy hcs cn_558_ok, ?_⟩
  refine List.forall_mem_cons.mpr ⟨c_meth mq_187_kt hY hYS hIx hX (q := mq_187) mq_187_at mq_187_pl mq_187_k cs_cy hcs cn_559_ok, ?_⟩
  refine List.forall_mem_cons.mpr ⟨c_meth mq_187_kt hY hYS hIx hX (q := mq_187) mq_187_at mq_187_pl mq_187_k cs_cy hcs cn_560_ok, ?_⟩
  refine List.forall_mem_cons.mpr ⟨c_meth mq_187_kt hY hYS hIx hX (q := mq_187) mq_187_at mq_187_pl mq_187_k cs_cy hcs cn_561_ok, ?_⟩
  refine List.forall_mem_cons.mpr ⟨c_meth mq_187_kt hY hYS hIx hX (q := mq_187) mq_187_at mq_187_pl mq_187_k cs_cy hcs cn_562_ok, ?_⟩
  refine List.forall_mem_cons.mpr ⟨c_meth mq_187_kt hY hYS hIx hX (q := mq_187) mq_187_at mq_187_pl mq_187_k cs_cy hcs cn_563_ok, ?_⟩
  refine List.forall_mem_cons.mpr ⟨c_meth mq_187_kt hY hYS hIx hX (q := mq_187) mq_187_at mq_187_pl mq_187_k cs_cy hcs cn_564_ok, ?_⟩
  refine List.forall_mem_cons.mpr ⟨c_meth mq_187_kt hY hYS hIx hX (q := mq_187) mq_187_at mq_187_pl mq_187_k cs_cy hcs cn_565_ok, ?_⟩
  refine List.forall_mem_cons.mpr ⟨c_meth mq_187_kt hY hYS hIx hX (q := mq_187) mq_187_at mq_187_pl mq_187_k cs_cy hcs cn_566_ok, ?_⟩
  refine List.forall_mem_cons.mpr ⟨c_meth mq_187_kt hY hYS hIx hX (q := mq_187) mq_187_at mq_187_pl mq_187_k cs_cy hcs cn_567_ok, ?_⟩
  refine List.forall_mem_cons.mpr ⟨c_meth mq_187_kt hY hYS hIx hX (q := mq_187) mq_187_at mq_187_pl mq_187_k cs_cy hcs cn_568_ok, ?_⟩
  refine List.forall_mem_cons.mpr ⟨c_meth mq_187_kt hY hYS hIx hX (q := mq_187) mq_187_at mq_187_pl mq_187_k cs_cy hcs cn_569_ok, ?_⟩
  refine List.forall_mem_cons.mpr ⟨c_meth mq_187_kt hY hYS hIx hX (q := mq_187) mq_187_at mq_187_pl mq_187_k cs_cy hcs cn_570_ok, ?_⟩
  refine List.forall_mem_cons.mpr ⟨c_meth mq_187_kt hY hYS hIx hX (q := mq_187) mq_187_at mq_187_pl mq_187_k cs_cy hcs cn_571_ok, ?_⟩
  exact fun _ h => absurd h List.not_mem_nil
theorem sm_188 (hX : ∀ i, i < 2 → X i = some ((x_tab i).map Int32.ofInt)) (hcs : ∀ d', d = d' + 1 → ∀ y, ∀ C ∈ cs_at y, c_sem l X (yY xa) xa d' C) : ∀ C ∈ [cn_532, cn_533, cn_534, cn_535, cn_536, cn_537, cn_538, cn_539, cn_540, cn_541, cn_542, cn_543, cn_544, cn_545, cn_546, cn_547, cn_548, cn_549, cn_550], c_sem l X (yY xa) xa d C := by
  have hY := yY_ok xa
  have hYS := yY_str xa
  have hIx := ix_K_ok (l := l) (X := X) hY hYS
  refine List.forall_mem_cons.mpr ⟨c_meth mq_188_kt hY hYS hIx hX (q := mq_188) mq_188_at mq_188_pl mq_188_k cs_cy hcs cn_532_ok, ?_⟩
  refine List.forall_mem_cons.mpr ⟨c_meth mq_188_kt hY hYS hIx hX (q := mq_188) mq_188_at mq_188_pl mq_188_k cs_cy hcs cn_533_ok, ?_⟩
  refine List.forall_mem_cons.mpr ⟨c_meth mq_188_kt hY hYS hIx hX (q := mq_188) mq_188_at mq_188_pl mq_188_k cs_cy hcs cn_534_ok, ?_⟩
  refine List.forall_mem_cons.mpr ⟨c_meth mq_188_kt hY hYS hIx hX (q := mq_188) mq_188_at mq_188_pl mq_188_k cs_cy hcs cn_535_ok, ?_⟩
  refine List.forall_mem_cons.mpr ⟨c_meth mq_188_kt hY hYS hIx hX (q := mq_188) mq_188_at mq_188_pl mq_188_k cs_cy hcs cn_536_ok, ?_⟩
  refine List.forall_mem_cons.mpr ⟨c_meth mq_188_kt hY hYS hIx hX (q := mq_188) mq_188_at mq_188_pl mq_188_k cs_cy hcs cn_537_ok, ?_⟩
  refine List.forall_mem_cons.mpr ⟨c_meth mq_188_kt hY hYS hIx hX (q := mq_188) mq_188_at mq_188_pl mq_188_k cs_cy hcs cn_538_ok, ?_⟩
  refine List.forall_mem_cons.mpr ⟨c_meth mq_188_kt hY hYS hIx hX (q := mq_188) mq_188_at mq_188_pl mq_188_k cs_cy hcs cn_539_ok, ?_⟩
  refine List.forall_mem_cons.mpr ⟨c_meth mq_188_kt hY hYS hIx hX (q := mq_188) mq_188_at mq_188_pl mq_188_k cs_cy hcs cn_540_ok, ?_⟩
  refine List.forall_mem_cons.mpr ⟨c_meth mq_188_kt hY hYS hIx hX (q := mq_188) mq_188_at mq_188_pl mq_188_k cs_cy hcs cn_541_ok, ?_⟩
  refine List.forall_mem_cons.mpr ⟨c_meth mq_188_kt hY hYS hIx hX (q := mq_188) mq_188_at mq_188_pl mq_188_k cs_cy hcs cn_542_ok, ?_⟩
  refine List.forall_mem_cons.mpr ⟨c_meth mq_188_kt hY hYS hIx hX (q := mq_188) mq_188_at mq_188_pl mq_188_k cs_cy hcs cn_543_ok, ?_⟩
  refine List.forall_mem_cons.mpr ⟨c_meth mq_188_kt hY hYS hIx hX (q := mq_188) mq_188_at mq_188_pl mq_188_k cs_cy hcs cn_544_ok, ?_⟩
  refine List.forall_mem_cons.mpr ⟨c_meth mq_188_kt hY hYS hIx hX (q := mq_188) mq_188_at mq_188_pl mq_188_k cs_cy hcs cn_545_ok, ?_⟩
  refine List.forall_mem_cons.mpr ⟨c_meth mq_188_kt hY hYS hIx hX (q := mq_188) mq_188_at mq_188_pl mq_188_k cs_cy hcs cn_546_ok, ?_⟩
  refine List.forall_mem_cons.mpr ⟨c_meth mq_188_kt hY hYS hIx hX (q := mq_188) mq_188_at mq_188_pl mq_188_k cs_cy hcs cn_547_ok, ?_⟩
  refine List.forall_mem_cons.mpr ⟨c_meth mq_188_kt hY hYS hIx hX (q := mq_188) mq_188_at mq_188_pl mq_188_k cs_cy hcs cn_548_ok, ?_⟩
  refine List.forall_mem_cons.mpr ⟨c_meth mq_188_kt hY hYS hIx hX (q := mq_188) mq_188_at mq_188_pl mq_188_k cs_cy hcs cn_549_ok, ?_⟩
  refine List.forall_mem_cons.mpr ⟨c_meth mq_188_kt hY hYS hIx hX (q := mq_188) mq_188_at mq_188_pl mq_188_k cs_cy hcs cn_550_ok, ?_⟩
  exact fun _ h => absurd h List.not_mem_nil
theorem sm_189 (hX : ∀ i, i < 2 → X i = some ((x_tab i).map Int32.ofInt)) (hcs : ∀ d', d = d' + 1 → ∀ y, ∀ C ∈ cs_at y, c_sem l X (yY xa) xa d' C) : ∀ C ∈ [cn_512, cn_513, cn_514, cn_515, cn_516, cn_517, cn_518, cn_519, cn_520, cn_521, cn_522, cn_523, cn_524, cn_525, cn_526, cn_527, cn_528, cn_529, cn_530], c_sem l X (yY xa) xa d C := by
  have hY := yY_ok xa
  have hYS := yY_str xa
  have hIx := ix_K_ok (l := l) (X := X) hY hYS
  refine List.forall_mem_cons.mpr ⟨c_meth mq_189_kt hY hYS hIx hX (q := mq_189) mq_189_at mq_189_pl mq_189_k cs_cy hcs cn_512_ok, ?_⟩
  refine List.forall_mem_cons.mpr ⟨c_meth mq_189_kt hY hYS hIx hX (q := mq_189) mq_189_at mq_189_pl mq_189_k cs_cy hcs cn_513_ok, ?_⟩
  refine List.forall_mem_cons.mpr ⟨c_meth mq_189_kt hY hYS hIx hX (q := mq_189) mq_189_at mq_189_pl mq_189_k cs_cy hcs cn_514_ok, ?_⟩
  refine List.forall_mem_cons.mpr ⟨c_meth mq_189_kt hY hYS hIx hX (q := mq_189) mq_189_at mq_189_pl mq_189_k cs_cy hcs cn_515_ok, ?_⟩
  refine List.forall_mem_cons.mpr ⟨c_meth mq_189_kt hY hYS hIx hX (q := mq_189) mq_189_at mq_189_pl mq_189_k cs_cy hcs cn_516_ok, ?_⟩
  refine List.forall_mem_cons.mpr ⟨c_meth mq_189_kt hY hYS hIx hX (q := mq_189) mq_189_at mq_189_pl mq_189_k cs_cy hcs cn_517_ok, ?_⟩
  refine List.forall_mem_cons.mpr ⟨c_meth mq_189_kt hY hYS hIx hX (q := mq_189) mq_189_at mq_189_pl mq_189_k cs_cy hcs cn_518_ok, ?_⟩
  refine List.forall_mem_cons.mpr ⟨c_meth mq_189_kt hY hYS hIx hX (q := mq_189) mq_189_at mq_189_pl mq_189_k cs_cy hcs cn_519_ok, ?_⟩
  refine List.forall_mem_cons.mpr ⟨c_meth mq_189_kt hY hYS hIx hX (q := mq_189) mq_189_at mq_189_pl mq_189_k cs_cy hcs cn_520_ok, ?_⟩
  refine List.forall_mem_cons.mpr ⟨c_meth mq_189_kt hY hYS hIx hX (q := mq_189) mq_189_at mq_189_pl mq_189_k cs_cy hcs cn_521_ok, ?_⟩
  refine List.forall_mem_cons.mpr ⟨c_meth mq_189_kt hY hYS hIx hX (q := mq_189) mq_189_at mq_189_pl mq_189_k cs_cy hcs cn_522_ok, ?_⟩
  refine List.forall_mem_cons.mpr ⟨c_meth mq_189_kt hY hYS hIx hX (q := mq_189) mq_189_at mq_189_pl mq_189_k cs_cy hcs cn_523_ok, ?_⟩
  refine List.forall_mem_cons.mpr ⟨c_meth mq_189_kt hY hYS hIx hX (q := mq_189) mq_189_at mq_189_pl mq_189_k cs_cy hcs cn_524_ok, ?_⟩
  refine List.forall_mem_cons.mpr ⟨c_meth mq_189_kt hY hYS hIx hX (q := mq_189) mq_189_at mq_189_pl mq_189_k cs_cy hcs cn_525_ok, ?_⟩
  refine List.forall_mem_cons.mpr ⟨c_meth mq_189_kt hY hYS hIx hX (q := mq_189) mq_189_at mq_189_pl mq_189_k cs_cy hcs cn_526_ok, ?_⟩
  refine List.forall_mem_cons.mpr ⟨c_meth mq_189_kt hY hYS hIx hX (q := mq_189) mq_189_at mq_189_pl mq_189_k cs_cy hcs cn_527_ok, ?_⟩
  refine List.forall_mem_cons.mpr ⟨c_meth mq_189_kt hY hYS hIx hX (q := mq_189) mq_189_at mq_189_pl mq_189_k cs_cy hcs cn_528_ok, ?_⟩
  refine List.forall_mem_cons.mpr ⟨c_meth mq_189_kt hY hYS hIx hX (q := mq_189) mq_189_at mq_189_pl mq_189_k cs_cy hcs cn_529_ok, ?_⟩
  refine List.forall_mem_cons.mpr ⟨c_meth mq_189_kt hY hYS hIx hX (q := mq_189) mq_189_at mq_189_pl mq_189_k cs_cy hcs cn_530_ok, ?_⟩
  exact fun _ h => absurd h List.not_mem_nil
theorem sm_190 (hX : ∀ i, i < 2 → X i = some ((x_tab i).map Int32.ofInt)) (hcs : ∀ d', d = d' + 1 → ∀ y, ∀ C ∈ cs_at y, c_sem l X (yY xa) xa d' C) : ∀ C ∈ [cn_333], c_sem l X (yY xa) xa d C := by
  have hY := yY_ok xa
  have hYS := yY_str xa
  have hIx := ix_K_ok (l := l) (X := X) hY hYS
  intro C hC
  obtain rfl := List.mem_singleton.mp hC
  exact c_meth mq_190_kt hY hYS hIx hX (q := mq_190) mq_190_at mq_190_pl mq_190_k cs_cy hcs cn_333_ok
theorem sm_191 (hX : ∀ i, i < 2 → X i = some ((x_tab i).map Int32.ofInt)) (hcs : ∀ d', d = d' + 1 → ∀ y, ∀ C ∈ cs_at y, c_sem l X (yY xa) xa d' C) : ∀ C ∈ [cn_277], c_sem l X (yY xa) xa d C := by
  have hY := yY_ok xa
  have hYS := yY_str xa
  have hIx := ix_K_ok (l := l) (X := X) hY hYS
  intro C hC
  obtain rfl := List.mem_singleton.mp hC
  exact c_meth mq_191_kt hY hYS hIx hX (q := mq_191) mq_191_at mq_191_pl mq_191_k cs_cy hcs cn_277_ok
theorem sc_5 (hX : ∀ i, i < 2 → X i = some ((x_tab i).map Int32.ofInt)) (hcs : ∀ d', d = d' + 1 → ∀ y, ∀ C ∈ cs_at y, c_sem l X (yY xa) xa d' C) : ∀ r ∈ cs_tab_5, ∀ C ∈ r, c_sem l X (yY xa) xa d C := by
  unfold cs_tab_5
  refine List.forall_mem_cons.mpr ⟨sm_160 hX hcs, ?_⟩
  refine List.forall_mem_cons.mpr ⟨sm_161 hX hcs, ?_⟩
  refine List.forall_mem_cons.mpr ⟨sm_162 hX hcs, ?_⟩
  refine List.forall_mem_cons.mpr ⟨sm_163 hX hcs, ?_⟩
  refine List.forall_mem_cons.mpr ⟨sm_164 hX hcs, ?_⟩
  refine List.forall_mem_cons.mpr ⟨sm_165 hX hcs, ?_⟩
  refine List.forall_mem_cons.mpr ⟨sm_166 hX hcs, ?_⟩
  refine List.forall_mem_cons.mpr ⟨sm_167 hX hcs, ?_⟩
  refine List.forall_mem_cons.mpr ⟨sm_168 hX hcs, ?_⟩
  refine List.forall_mem_cons.mpr ⟨sm_169 hX hcs, ?_⟩
  refine List.forall_mem_cons.mpr ⟨sm_170 hX hcs, ?_⟩
  refine List.forall_mem_cons.mpr ⟨sm_171 hX hcs, ?_⟩
  refine List.forall_mem_cons.mpr ⟨sm_172 hX hcs, ?_⟩
  refine List.forall_mem_cons.mpr ⟨sm_173 hX hcs, ?_⟩
  refine List.forall_mem_cons.mpr ⟨sm_174 hX hcs, ?_⟩
  refine List.forall_mem_cons.mpr ⟨sm_175 hX hcs, ?_⟩
  refine List.forall_mem_cons.mpr ⟨sm_176 hX hcs, ?_⟩
  refine List.forall_mem_cons.mpr ⟨sm_177 hX hcs, ?_⟩
  refine List.forall_mem_cons.mpr ⟨sm_178 hX hcs, ?_⟩
  refine List.forall_mem_cons.mpr ⟨sm_179 hX hcs, ?_⟩
  refine List.forall_mem_cons.mpr ⟨sm_180 hX hcs, ?_⟩
  refine List.forall_mem_cons.mpr ⟨sm_181 hX hcs, ?_⟩
  refine List.forall_mem_cons.mpr ⟨sm_182 hX hcs, ?_⟩
  refine List.forall_mem_cons.mpr ⟨sm_183 hX hcs, ?_⟩
  refine List.forall_mem_cons.mpr ⟨sm_184 hX hcs, ?_⟩
  refine List.forall_mem_cons.mpr ⟨sm_185 hX hcs, ?_⟩
  refine List.forall_mem_cons.mpr ⟨sm_186 hX hcs, ?_⟩
  refine List.forall_mem_cons.mpr ⟨sm_187 hX hcs, ?_⟩
  refine List.forall_mem_cons.mpr ⟨sm_188 hX hcs, ?_⟩
  refine List.forall_mem_cons.mpr ⟨sm_189 hX hcs, ?_⟩
  refine List.forall_mem_cons.mpr ⟨sm_190 hX hcs, ?_⟩
  refine List.forall_mem_cons.mpr ⟨sm_191 hX hcs, ?_⟩
  exact fun _ h => absurd h List.not_mem_nil
end AS
