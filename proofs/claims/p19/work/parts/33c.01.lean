/-! ALL CONTRACTS TOGETHER, 1 -/
section AS
variable {l : Launch} {X : Nat → Option (List Int32)} {xa : Nat → Nat} {d : Nat}
theorem sm_32 (hX : ∀ i, i < 2 → X i = some ((x_tab i).map Int32.ofInt)) (hcs : ∀ d', d = d' + 1 → ∀ y, ∀ C ∈ cs_at y, c_sem l X (yY xa) xa d' C) : ∀ C ∈ [cn_14], c_sem l X (yY xa) xa d C := by
  have hY := yY_ok xa
  have hYS := yY_str xa
  have hIx := ix_K_ok (l := l) (X := X) hY hYS
  intro C hC
  obtain rfl := List.mem_singleton.mp hC
  exact c_meth mq_32_kt hY hYS hIx hX (q := mq_32) mq_32_at mq_32_pl mq_32_k cs_cy hcs cn_14_ok
theorem sm_33 (hX : ∀ i, i < 2 → X i = some ((x_tab i).map Int32.ofInt)) (hcs : ∀ d', d = d' + 1 → ∀ y, ∀ C ∈ cs_at y, c_sem l X (yY xa) xa d' C) : ∀ C ∈ [cn_18], c_sem l X (yY xa) xa d C := by
  have hY := yY_ok xa
  have hYS := yY_str xa
  have hIx := ix_K_ok (l := l) (X := X) hY hYS
  intro C hC
  obtain rfl := List.mem_singleton.mp hC
  exact c_meth mq_33_kt hY hYS hIx hX (q := mq_33) mq_33_at mq_33_pl mq_33_k cs_cy hcs cn_18_ok
theorem sm_34 (hX : ∀ i, i < 2 → X i = some ((x_tab i).map Int32.ofInt)) (hcs : ∀ d', d = d' + 1 → ∀ y, ∀ C ∈ cs_at y, c_sem l X (yY xa) xa d' C) : ∀ C ∈ [cn_19], c_sem l X (yY xa) xa d C := by
  have hY := yY_ok xa
  have hYS := yY_str xa
  have hIx := ix_K_ok (l := l) (X := X) hY hYS
  intro C hC
  obtain rfl := List.mem_singleton.mp hC
  exact c_meth mq_34_kt hY hYS hIx hX (q := mq_34) mq_34_at mq_34_pl mq_34_k cs_cy hcs cn_19_ok
theorem sm_35 (hX : ∀ i, i < 2 → X i = some ((x_tab i).map Int32.ofInt)) (hcs : ∀ d', d = d' + 1 → ∀ y, ∀ C ∈ cs_at y, c_sem l X (yY xa) xa d' C) : ∀ C ∈ [cn_381], c_sem l X (yY xa) xa d C := by
  have hY := yY_ok xa
  have hYS := yY_str xa
  have hIx := ix_K_ok (l := l) (X := X) hY hYS
  intro C hC
  obtain rfl := List.mem_singleton.mp hC
  exact c_meth mq_35_kt hY hYS hIx hX (q := mq_35) mq_35_at mq_35_pl mq_35_k cs_cy hcs cn_381_ok
theorem sm_36 (hX : ∀ i, i < 2 → X i = some ((x_tab i).map Int32.ofInt)) (hcs : ∀ d', d = d' + 1 → ∀ y, ∀ C ∈ cs_at y, c_sem l X (yY xa) xa d' C) : ∀ C ∈ [cn_366], c_sem l X (yY xa) xa d C := by
  have hY := yY_ok xa
  have hYS := yY_str xa
  have hIx := ix_K_ok (l := l) (X := X) hY hYS
  intro C hC
  obtain rfl := List.mem_singleton.mp hC
  exact c_meth mq_36_kt hY hYS hIx hX (q := mq_36) mq_36_at mq_36_pl mq_36_k cs_cy hcs cn_366_ok
theorem sm_37 (hX : ∀ i, i < 2 → X i = some ((x_tab i).map Int32.ofInt)) (hcs : ∀ d', d = d' + 1 → ∀ y, ∀ C ∈ cs_at y, c_sem l X (yY xa) xa d' C) : ∀ C ∈ [cn_316], c_sem l X (yY xa) xa d C := by
  have hY := yY_ok xa
  have hYS := yY_str xa
  have hIx := ix_K_ok (l := l) (X := X) hY hYS
  intro C hC
  obtain rfl := List.mem_singleton.mp hC
  exact c_meth mq_37_kt hY hYS hIx hX (q := mq_37) mq_37_at mq_37_pl mq_37_k cs_cy hcs cn_316_ok
theorem sm_38 (hX : ∀ i, i < 2 → X i = some ((x_tab i).map Int32.ofInt)) (hcs : ∀ d', d = d' + 1 → ∀ y, ∀ C ∈ cs_at y, c_sem l X (yY xa) xa d' C) : ∀ C ∈ [cn_195], c_sem l X (yY xa) xa d C := by
  have hY := yY_ok xa
  have hYS := yY_str xa
  have hIx := ix_K_ok (l := l) (X := X) hY hYS
  intro C hC
  obtain rfl := List.mem_singleton.mp hC
  exact c_meth mq_38_kt hY hYS hIx hX (q := mq_38) mq_38_at mq_38_pl mq_38_k cs_cy hcs cn_195_ok
theorem sm_39 (hX : ∀ i, i < 2 → X i = some ((x_tab i).map Int32.ofInt)) (hcs : ∀ d', d = d' + 1 → ∀ y, ∀ C ∈ cs_at y, c_sem l X (yY xa) xa d' C) : ∀ C ∈ [cn_502], c_sem l X (yY xa) xa d C := by
  have hY := yY_ok xa
  have hYS := yY_str xa
  have hIx := ix_K_ok (l := l) (X := X) hY hYS
  intro C hC
  obtain rfl := List.mem_singleton.mp hC
  exact c_meth mq_39_kt hY hYS hIx hX (q := mq_39) mq_39_at mq_39_pl mq_39_k cs_cy hcs cn_502_ok
theorem sm_40 (hX : ∀ i, i < 2 → X i = some ((x_tab i).map Int32.ofInt)) (hcs : ∀ d', d = d' + 1 → ∀ y, ∀ C ∈ cs_at y, c_sem l X (yY xa) xa d' C) : ∀ C ∈ [cn_501], c_sem l X (yY xa) xa d C := by
  have hY := yY_ok xa
  have hYS := yY_str xa
  have hIx := ix_K_ok (l := l) (X := X) hY hYS
  intro C hC
  obtain rfl := List.mem_singleton.mp hC
  exact c_meth mq_40_kt hY hYS hIx hX (q := mq_40) mq_40_at mq_40_pl mq_40_k cs_cy hcs cn_501_ok
theorem sm_41 (hX : ∀ i, i < 2 → X i = some ((x_tab i).map Int32.ofInt)) (hcs : ∀ d', d = d' + 1 → ∀ y, ∀ C ∈ cs_at y, c_sem l X (yY xa) xa d' C) : ∀ C ∈ [cn_457, cn_476, cn_484, cn_492, cn_500], c_sem l X (yY xa) xa d C := by
  have hY := yY_ok xa
  have hYS := yY_str xa
  have hIx := ix_K_ok (l := l) (X := X) hY hYS
  refine List.forall_mem_cons.mpr ⟨c_meth mq_41_kt hY hYS hIx hX (q := mq_41) mq_41_at mq_41_pl mq_41_k cs_cy hcs cn_457_ok, ?_⟩
  refine List.forall_mem_cons.mpr ⟨c_meth mq_41_kt hY hYS hIx hX (q := mq_41) mq_41_at mq_41_pl mq_41_k cs_cy hcs cn_476_ok, ?_⟩
  refine List.forall_mem_cons.mpr ⟨c_meth mq_41_kt hY hYS hIx hX (q := mq_41) mq_41_at mq_41_pl mq_41_k cs_cy hcs cn_484_ok, ?_⟩
  refine List.forall_mem_cons.mpr ⟨c_meth mq_41_kt hY hYS hIx hX (q := mq_41) mq_41_at mq_41_pl mq_41_k cs_cy hcs cn_492_ok, ?_⟩
  refine List.forall_mem_cons.mpr ⟨c_meth mq_41_kt hY hYS hIx hX (q := mq_41) mq_41_at mq_41_pl mq_41_k cs_cy hcs cn_500_ok, ?_⟩
  exact fun _ h => absurd h List.not_mem_nil
theorem sm_42 (hX : ∀ i, i < 2 → X i = some ((x_tab i).map Int32.ofInt)) (hcs : ∀ d', d = d' + 1 → ∀ y, ∀ C ∈ cs_at y, c_sem l X (yY xa) xa d' C) : ∀ C ∈ [cn_448, cn_454, cn_469, cn_475, cn_481, cn_483, cn_489, cn_491, cn_497, cn_499], c_sem l X (yY xa) xa d C := by
  have hY := yY_ok xa
  have hYS := yY_str xa
  have hIx := ix_K_ok (l := l) (X := X) hY hYS
  refine List.forall_mem_cons.mpr ⟨c_meth mq_42_kt hY hYS hIx hX (q := mq_42) mq_42_at mq_42_pl mq_42_k cs_cy hcs cn_448_ok, ?_⟩
  refine List.forall_mem_cons.mpr ⟨c_meth mq_42_kt hY hYS hIx hX (q := mq_42) mq_42_at mq_42_pl mq_42_k cs_cy hcs cn_454_ok, ?_⟩
  refine List.forall_mem_cons.mpr ⟨c_meth mq_42_kt hY hYS hIx hX (q := mq_42) mq_42_at mq_42_pl mq_42_k cs_cy hcs cn_469_ok, ?_⟩
  refine List.forall_mem_cons.mpr ⟨c_meth mq_42_kt hY hYS hIx hX (q := mq_42) mq_42_at mq_42_pl mq_42_k cs_cy hcs cn_475_ok, ?_⟩
  refine List.forall_mem_cons.mpr ⟨c_meth mq_42_kt hY hYS hIx hX (q := mq_42) mq_42_at mq_42_pl mq_42_k cs_cy hcs cn_481_ok, ?_⟩
  refine List.forall_mem_cons.mpr ⟨c_meth mq_42_kt hY hYS hIx hX (q := mq_42) mq_42_at mq_42_pl mq_42_k cs_cy hcs cn_483_ok, ?_⟩
  refine List.forall_mem_cons.mpr ⟨c_meth mq_42_kt hY hYS hIx hX (q := mq_42) mq_42_at mq_42_pl mq_42_k cs_cy hcs cn_489_ok, ?_⟩
  refine List.forall_mem_cons.mpr ⟨c_meth mq_42_kt hY hYS hIx hX (q := mq_42) mq_42_at mq_42_pl mq_42_k cs_cy hcs cn_491_ok, ?_⟩
  refine List.forall_mem_cons.mpr ⟨c_meth mq_42_kt hY hYS hIx hX (q := mq_42) mq_42_at mq_42_pl mq_42_k cs_cy hcs cn_497_ok, ?_⟩
  refine List.forall_mem_cons.mpr ⟨c_meth mq_42_kt hY hYS hIx hX (q := mq_42) mq_42_at mq_42_pl mq_42_k cs_cy hcs cn_499_ok, ?_⟩
  exact fun _ h => absurd h List.not_mem_nil
theorem sm_43 (hX : ∀ i, i < 2 → X i = some ((x_tab i).map Int32.ofInt)) (hcs : ∀ d', d = d' + 1 → ∀ y, ∀ C ∈ cs_at y, c_sem l X (yY xa) xa d' C) : ∀ C ∈ [cn_445, cn_451, cn_467, cn_471, cn_480, cn_482, cn_488, cn_490, cn_496, cn_498], c_sem l X (yY xa) xa d C := by
  have hY := yY_ok xa
  have hYS := yY_str xa
  have hIx := ix_K_ok (l := l) (X := X) hY hYS
  refine List.forall_mem_cons.mpr ⟨c_meth mq_43_kt hY hYS hIx hX (q := mq_43) mq_43_at mq_43_pl mq_43_k cs_cy hcs cn_445_ok, ?_⟩
  refine List.forall_mem_cons.mpr ⟨c_meth mq_43_kt hY hYS hIx hX (q := mq_43) mq_43_at mq_43_pl mq_43_k cs_cy hcs cn_451_ok, ?_⟩
  refine List.forall_mem_cons.mpr ⟨c_meth mq_43_kt hY hYS hIx hX (q := mq_43) mq_43_at mq_43_pl mq_43_k cs_cy hcs cn_467_ok, ?_⟩
  refine List.forall_mem_cons.mpr ⟨c_meth mq_43_kt hY hYS hIx hX (q := mq_43) mq_43_at mq_43_pl mq_43_k cs_cy hcs cn_471_ok, ?_⟩
  refine List.forall_mem_cons.mpr ⟨c_meth mq_43_kt hY hYS hIx hX (q := mq_43) mq_43_at mq_43_pl mq_43_k cs_cy hcs cn_480_ok, ?_⟩
  refine List.forall_mem_cons.mpr ⟨c_meth mq_43_kt hY hYS hIx hX (q := mq_43) mq_43_at mq_43_pl mq_43_k cs_cy hcs cn_482_ok, ?_⟩
  refine List.forall_mem_cons.mpr ⟨c_meth mq_43_kt hY hYS hIx hX (q := mq_43) mq_43_at mq_43_pl mq_43_k cs_cy hcs cn_488_ok, ?_⟩
  refine List.forall_mem_cons.mpr ⟨c_meth mq_43_kt hY hYS hIx hX (q := mq_43) mq_43_at mq_43_pl mq_43_k cs_cy hcs cn_490_ok, ?_⟩
  refine List.forall_mem_cons.mpr ⟨c_meth mq_43_kt hY hYS hIx hX (q := mq_43) mq_43_at mq_43_pl mq_43_k cs_cy hcs cn_496_ok, ?_⟩
  refine List.forall_mem_cons.mpr ⟨c_meth mq_43_kt hY hYS hIx hX (q := mq_43) mq_43_at mq_43_pl mq_43_k cs_cy hcs cn_498_ok, ?_⟩
  exact fun _ h => absurd h List.not_mem_nil
theorem sm_44 (hX : ∀ i, i < 2 → X i = some ((x_tab i).map Int32.ofInt)) (hcs : ∀ d', d = d' + 1 → ∀ y, ∀ C ∈ cs_at y, c_sem l X (yY xa) xa d' C) : ∀ C ∈ [cn_442, cn_465, cn_479, cn_487, cn_495], c_sem l X (yY xa) xa d C := by
  have hY := yY_ok xa
  have hYS := yY_str xa
  have hIx := ix_K_ok (l := l) (X := X) hY hYS
  refine List.forall_mem_cons.mpr ⟨c_meth mq_44_kt hY hYS hIx hX (q := mq_44) mq_44_at mq_44_pl mq_44_k cs_cy hcs cn_442_ok, ?_⟩
  refine List.forall_mem_cons.mpr ⟨c_meth mq_44_kt hY hYS hIx hX (q := mq_44) mq_44_at mq_44_pl mq_44_k cs_cy hcs cn_465_ok, ?_⟩
  refine List.forall_mem_cons.mpr ⟨c_meth mq_44_kt hY hYS hIx hX (q := mq_44) mq_44_at mq_44_pl mq_44_k cs_cy hcs cn_479_ok, ?_⟩
  refine List.forall_mem_cons.mpr ⟨c_meth mq_44_kt hY hYS hIx hX (q := mq_44) mq_44_at mq_44_pl mq_44_k cs_cy hcs cn_487_ok, ?_⟩
  refine List.forall_mem_cons.mpr ⟨c_meth mq_44_kt hY hYS hIx hX (q := mq_44) mq_44_at mq_44_pl mq_44_k cs_cy hcs cn_495_ok, ?_⟩
  exact fun _ h => absurd h List.not_mem_nil
theorem sm_45 (hX : ∀ i, i < 2 → X i = some ((x_tab i).map Int32.ofInt)) (hcs : ∀ d', d = d' + 1 → ∀ y, ∀ C ∈ cs_at y, c_sem l X (yY xa) xa d' C) : ∀ C ∈ [cn_437, cn_463, cn_478, cn_486, cn_494], c_sem l X (yY xa) xa d C := by
  have hY := yY_ok xa
  have hYS := yY_str xa
  have hIx := ix_K_ok (l := l) (X := X) hY hYS
  refine List.forall_mem_cons.mpr ⟨c_meth mq_45_kt hY hYS hIx hX (q := mq_45) mq_45_at mq_45_pl mq_45_k cs_cy hcs cn_437_ok, ?_⟩
  refine List.forall_mem_cons.mpr ⟨c_meth mq_45_kt hY hYS hIx hX (q := mq_45) mq_45_at mq_45_pl mq_45_k cs_cy hcs cn_463_ok, ?_⟩
  refine List.forall_mem_cons.mpr ⟨c_meth mq_45_kt hY hYS hIx hX (q := mq_45) mq_45_at mq_45_pl mq_45_k cs_cy hcs cn_478_ok, ?_⟩
  refine List.forall_mem_cons.mpr ⟨c_meth mq_45_kt hY hYS hIx hX (q := mq_45) mq_45_at mq_45_pl mq_45_k cs_cy hcs cn_486_ok, ?_⟩
  refine List.forall_mem_cons.mpr ⟨c_meth mq_45_kt hY hYS hIx hX (q := mq_45) mq_45_at mq_45_pl mq_45_k cs_cy hcs cn_494_ok, ?_⟩
  exact fun _ h => absurd h List.not_mem_nil
theorem sm_46 (hX : ∀ i, i < 2 → X i = some ((x_tab i).map Int32.ofInt)) (hcs : ∀ d', d = d' + 1 → ∀ y, ∀ C ∈ cs_at y, c_sem l X (yY xa) xa d' C) : ∀ C ∈ [cn_205, cn_461, cn_477, cn_485, cn_493], c_sem l X (yY xa) xa d C := by
  have hY := yY_ok xa
  have hYS := yY_str xa
  have hIx := ix_K_ok (l := l) (X := X) hY hYS
  refine List.forall_mem_cons.mpr ⟨c_meth mq_46_kt hY hYS hIx hX (q := mq_46) mq_46_at mq_46_pl mq_46_k cs_cy hcs cn_205_ok, ?_⟩
  refine List.forall_mem_cons.mpr ⟨c_meth mq_46_kt hY hYS hIx hX (q := mq_46) mq_46_at mq_46_pl mq_46_k cs_cy hcs cn_461_ok, ?_⟩
  refine List.forall_mem_cons.mpr ⟨c_meth mq_46_kt hY hYS hIx hX (q := mq_46) mq_46_at mq_46_pl mq_46_k cs_cy hcs cn_477_ok, ?_⟩
  refine List.forall_mem_cons.mpr ⟨c_meth mq_46_kt hY hYS hIx hX (q := mq_46) mq_46_at mq_46_pl mq_46_k cs_cy hcs cn_485_ok, ?_⟩
  refine List.forall_mem_cons.mpr ⟨c_meth mq_46_kt hY hYS hIx hX (q := mq_46) mq_46_at mq_46_pl mq_46_k cs_cy hcs cn_493_ok, ?_⟩
  exact fun _ h => absurd h List.not_mem_nil
theorem sm_47 (hX : ∀ i, i < 2 → X i = some ((x_tab i).map Int32.ofInt)) (hcs : ∀ d', d = d' + 1 → ∀ y, ∀ C ∈ cs_at y, c_sem l X (yY xa) xa d' C) : ∀ C ∈ [cn_324], c_sem l X (yY xa) xa d C := by
  have hY := yY_ok xa
  have hYS := yY_str xa
  have hIx := ix_K_ok (l := l) (X := X) hY hYS
  intro C hC
  obtain rfl := List.mem_singleton.mp hC
  exact c_meth mq_47_kt hY hYS hIx hX (q := mq_47) mq_47_at mq_47_pl mq_47_k cs_cy hcs cn_324_ok
theorem sm_48 (hX : ∀ i, i < 2 → X i = some ((x_tab i).map Int32.ofInt)) (hcs : ∀ d', d = d' + 1 → ∀ y, ∀ C ∈ cs_at y, c_sem l X (yY xa) xa d' C) : ∀ C ∈ [cn_22], c_sem l X (yY xa) xa d C := by
  have hY := yY_ok xa
  have hYS := yY_str xa
  have hIx := ix_K_ok (l := l) (X := X) hY hYS
  intro C hC
  obtain rfl := List.mem_singleton.mp hC
  exact c_meth mq_48_kt hY hYS hIx hX (q := mq_48) mq_48_at mq_48_pl mq_48_k cs_cy hcs cn_22_ok
theorem sm_51 (hX : ∀ i, i < 2 → X i = some ((x_tab i).map Int32.ofInt)) (hcs : ∀ d', d = d' + 1 → ∀ y, ∀ C ∈ cs_at y, c_sem l X (yY xa) xa d' C) : ∀ C ∈ [cn_23], c_sem l X (yY xa) xa d C := by
  have hY := yY_ok xa
  have hYS := yY_str xa
  have hIx := ix_K_ok (l := l) (X := X) hY hYS
  intro C hC
  obtain rfl := List.mem_singleton.mp hC
  exact c_meth mq_51_kt hY hYS hIx hX (q := mq_51) mq_51_at mq_51_pl mq_51_k cs_cy hcs cn_23_ok
theorem sm_52 (hX : ∀ i, i < 2 → X i = some ((x_tab i).map Int32.ofInt)) (hcs : ∀ d', d = d' + 1 → ∀ y, ∀ C ∈ cs_at y, c_sem l X (yY xa) xa d' C) : ∀ C ∈ [cn_203], c_sem l X (yY xa) xa d C := by
  have hY := yY_ok xa
  have hYS := yY_str xa
  have hIx := ix_K_ok (l := l) (X := X) hY hYS
  intro C hC
  obtain rfl := List.mem_singleton.mp hC
  exact c_meth mq_52_kt hY hYS hIx hX (q := mq_52) mq_52_at mq_52_pl mq_52_k cs_cy hcs cn_203_ok
theorem sm_53 (hX : ∀ i, i < 2 → X i = some ((x_tab i).map Int32.ofInt)) (hcs : ∀ d', d = d' + 1 → ∀ y, ∀ C ∈ cs_at y, c_sem l X (yY xa) xa d' C) : ∀ C ∈ [cn_6], c_sem l X (yY xa) xa d C := by
  have hY := yY_ok xa
  have hYS := yY_str xa
  have hIx := ix_K_ok (l := l) (X := X) hY hYS
  intro C hC
  obtain rfl := List.mem_singleton.mp hC
  exact c_meth mq_53_kt hY hYS hIx hX (q := mq_53) mq_53_at mq_53_pl mq_53_k cs_cy hcs cn_6_ok
theorem sm_54 (hX : ∀ i, i < 2 → X i = some ((x_tab i).map Int32.ofInt)) (hcs : ∀ d', d = d' + 1 → ∀ y, ∀ C ∈ cs_at y, c_sem l X (yY xa) xa d' C) : ∀ C ∈ [cn_118], c_sem l X (yY xa) xa d C := by
  have hY := yY_ok xa
  have hYS := yY_str xa
  have hIx := ix_K_ok (l := l) (X := X) hY hYS
  intro C hC
  obtain rfl := List.mem_singleton.mp hC
  exact c_meth mq_54_kt hY hYS hIx hX (q := mq_54) mq_54_at mq_54_pl mq_54_k cs_cy hcs cn_118_ok
theorem sm_55 (hX : ∀ i, i < 2 → X i = some ((x_tab i).map Int32.ofInt)) (hcs : ∀ d', d = d' + 1 → ∀ y, ∀ C ∈ cs_at y, c_sem l X (yY xa) xa d' C) : ∀ C ∈ [cn_15], c_sem l X (yY xa) xa d C := by
  have hY := yY_ok xa
  have hYS := yY_str xa
  have hIx := ix_K_ok (l := l) (X := X) hY hYS
  intro C hC
  obtain rfl := List.mem_singleton.mp hC
  exact c_meth mq_55_kt hY hYS hIx hX (q := mq_55) mq_55_at mq_55_pl mq_55_k cs_cy hcs cn_15_ok
theorem sm_56 (hX : ∀ i, i < 2 → X i = some ((x_tab i).map Int32.ofInt)) (hcs : ∀ d', d = d' + 1 → ∀ y, ∀ C ∈ cs_at y, c_sem l X (yY xa) xa d' C) : ∀ C ∈ [cn_293], c_sem l X (yY xa) xa d C := by
  have hY := yY_ok xa
  have hYS := yY_str xa
  have hIx := ix_K_ok (l := l) (X := X) hY hYS
  intro C hC
  obtain rfl := List.mem_singleton.mp hC
  exact c_meth mq_56_kt hY hYS hIx hX (q := mq_56) mq_56_at mq_56_pl mq_56_k cs_cy hcs cn_293_ok
theorem sm_57 (hX : ∀ i, i < 2 → X i = some ((x_tab i).map Int32.ofInt)) (hcs : ∀ d', d = d' + 1 → ∀ y, ∀ C ∈ cs_at y, c_sem l X (yY xa) xa d' C) : ∀ C ∈ [cn_120], c_sem l X (yY xa) xa d C := by
  have hY := yY_ok xa
  have hYS := yY_str xa
  have hIx := ix_K_ok (l := l) (X := X) hY hYS
  intro C hC
  obtain rfl := List.mem_singleton.mp hC
  exact c_meth mq_57_kt hY hYS hIx hX (q := mq_57) mq_57_at mq_57_pl mq_57_k cs_cy hcs cn_120_ok
theorem sm_58 (hX : ∀ i, i < 2 → X i = some ((x_tab i).map Int32.ofInt)) (hcs : ∀ d', d = d' + 1 → ∀ y, ∀ C ∈ cs_at y, c_sem l X (yY xa) xa d' C) : ∀ C ∈ [cn_342], c_sem l X (yY xa) xa d C := by
  have hY := yY_ok xa
  have hYS := yY_str xa
  have hIx := ix_K_ok (l := l) (X := X) hY hYS
  intro C hC
  obtain rfl := List.mem_singleton.mp hC
  exact c_meth mq_58_kt hY hYS hIx hX (q := mq_58) mq_58_at mq_58_pl mq_58_k cs_cy hcs cn_342_ok
theorem sm_59 (hX : ∀ i, i < 2 → X i = some ((x_tab i).map Int32.ofInt)) (hcs : ∀ d', d = d' + 1 → ∀ y, ∀ C ∈ cs_at y, c_sem l X (yY xa) xa d' C) : ∀ C ∈ [cn_121], c_sem l X (yY xa) xa d C := by
  have hY := yY_ok xa
  have hYS := yY_str xa
  have hIx := ix_K_ok (l := l) (X := X) hY hYS
  intro C hC
  obtain rfl := List.mem_singleton.mp hC
  exact c_meth mq_59_kt hY hYS hIx hX (q := mq_59) mq_59_at mq_59_pl mq_59_k cs_cy hcs cn_121_ok
theorem sm_60 (hX : ∀ i, i < 2 → X i = some ((x_tab i).map Int32.ofInt)) (hcs : ∀ d', d = d' + 1 → ∀ y, ∀ C ∈ cs_at y, c_sem l X (yY xa) xa d' C) : ∀ C ∈ [cn_322, cn_323], c_sem l X (yY xa) xa d C := by
  have hY := yY_ok xa
  have hYS := yY_str xa
  have hIx := ix_K_ok (l := l) (X := X) hY hYS
  refine List.forall_mem_cons.mpr ⟨c_meth mq_60_kt hY hYS hIx hX (q := mq_60) mq_60_at mq_60_pl mq_60_k cs_cy hcs cn_322_ok, ?_⟩
  refine List.forall_mem_cons.mpr ⟨c_meth mq_60_kt hY hYS hIx hX (q := mq_60) mq_60_at mq_60_pl mq_60_k cs_cy hcs cn_323_ok, ?_⟩
  exact fun _ h => absurd h List.not_mem_nil
theorem sm_61 (hX : ∀ i, i < 2 → X i = some ((x_tab i).map Int32.ofInt)) (hcs : ∀ d', d = d' + 1 → ∀ y, ∀ C ∈ cs_at y, c_sem l X (yY xa) xa d' C) : ∀ C ∈ [cn_209, cn_210, cn_211, cn_212, cn_213, cn_214, cn_215, cn_216, cn_217, cn_218, cn_219, cn_220, cn_221, cn_222, cn_223, cn_224, cn_225, cn_226, cn_227, cn_228, cn_229, cn_230, cn_231, cn_232, cn_233, cn_234, cn_235, cn_236, cn_237, cn_238, cn_239, cn_240, cn_241, cn_242, cn_243, cn_244, cn_245, cn_246, cn_247, cn_248, cn_249, cn_250, cn_251, cn_252, cn_253, cn_254, cn_255, cn_256, cn_257, cn_258, cn_259, cn_260, cn_261, cn_262, cn_263, cn_264, cn_265, cn_266, cn_267, cn_268], c_sem l X (yY xa) xa d C := by
  have hY := yY_ok xa
  have hYS := yY_str xa
  have hIx := ix_K_ok (l := l) (X := X) hY hYS
  refine List.forall_mem_cons.mpr ⟨c_meth mq_61_kt hY hYS hIx hX (q := mq_61) mq_61_at mq_61_pl mq_61_k cs_cy hcs cn_209_ok, ?_⟩
  refine List.forall_mem_cons.mpr ⟨c_meth mq_61_kt hY hYS hIx hX (q := mq_61) mq_61_at mq_61_pl mq_61_k cs_cy hcs cn_210_ok, ?_⟩
  refine List.forall_mem_cons.mpr ⟨c_meth mq_61_kt hY hYS hIx hX (q := mq_61) mq_61_at mq_61_pl mq_61_k cs_cy hcs cn_211_ok, ?_⟩
  refine List.forall_mem_cons.mpr ⟨c_meth mq_61_kt hY hYS hIx hX (q := mq_61) mq_61_at mq_61_pl mq_61_k cs_cy hcs cn_212_ok, ?_⟩
  refine List.forall_mem_cons.mpr ⟨c_meth mq_61_kt hY hYS hIx hX (q := mq_61) mq_61_at mq_61_pl mq_61_k cs_cy hcs cn_213_ok, ?_⟩
  refine List.forall_mem_cons.mpr ⟨c_meth mq_61_kt hY hYS hIx hX (q := mq_61) mq_61_at mq_61_pl mq_61_k cs_cy hcs cn_214_ok, ?_⟩
  refine List.forall_mem_cons.mpr ⟨c_meth mq_61_kt hY hYS hIx hX (q := mq_61) mq_61_at mq_61_pl mq_61_k cs_cy hcs cn_215_ok, ?_⟩
  refine List.forall_mem_cons.mpr ⟨c_meth mq_61_kt hY hYS hIx hX (q := mq_61) mq_61_at mq_61_pl mq_61_k cs_cy hcs cn_216_ok, ?_⟩
  refine List.forall_mem_cons.mpr ⟨c_meth mq_61_kt hY hYS hIx hX (q := mq_61) mq_61_at mq_61_pl mq_61_k cs_cy hcs cn_217_ok, ?_⟩
  refine List.forall_mem_cons.mpr ⟨c_meth mq_61_kt hY hYS hIx hX (q := mq_61) mq_61_at mq_61_pl mq_61_k cs_cy hcs cn_218_ok, ?_⟩
  refine List.forall_mem_cons.mpr ⟨c_meth mq_61_kt hY hYS hIx hX (q := mq_61) mq_61_at mq_61_pl mq_61_k cs_cy hcs cn_219_ok, ?_⟩
  refine List.forall_mem_cons.mpr ⟨c_meth mq_61_kt hY hYS hIx hX (q := mq_61) mq_61_at mq_61_pl mq_61_k cs_cy hcs cn_220_ok, ?_⟩
  refine List.forall_mem_cons.mpr ⟨c_meth mq_61_kt hY hYS hIx hX (q := mq_61) mq_61_at mq_61_pl mq_61_k cs_cy hcs cn_221_ok, ?_⟩
  refine List.forall_mem_cons.mpr ⟨c_meth mq_61_kt hY hYS hIx hX (q := mq_61) mq_61_at mq_61_pl mq_61_k cs_cy hcs cn_222_ok, ?_⟩
  refine List.forall_mem_cons.mpr ⟨c_meth mq_61_kt hY hYS hIx hX (q := mq_61) mq_61_at mq_61_pl mq_61_k cs_cy hcs cn_223_ok, ?_⟩
  refine List.forall_mem_cons.mpr ⟨c_meth mq_61_kt hY hYS hIx hX (q := mq_61) mq_61_at mq_61_pl mq_61_k cs_cy hcs cn_224_ok, ?_⟩
  refine List.forall_mem_cons.mpr ⟨c_meth mq_61_kt hY hYS hIx hX (q := mq_61) mq_61_at mq_61_pl mq_61_k cs_cy hcs cn_225_ok, ?_⟩
  refine List.forall_mem_cons.mpr ⟨c_meth mq_61_kt hY hYS hIx hX (q := mq_61) mq_61_at mq_61_pl mq_61_k cs_cy hcs cn_226_ok, ?_⟩
  refine List.forall_mem_cons.mpr ⟨c_meth mq_61_kt hY hYS hIx hX (q := mq_61) mq_61_at mq_61_pl mq_61_k cs_cy hcs cn_227_ok, ?_⟩
  refine List.forall_mem_cons.mpr ⟨c_meth mq_61_kt hY hYS hIx hX (q := mq_61) mq_61_at mq_61_pl mq_61_k cs_cy hcs cn_228_ok, ?_⟩
  refine List.forall_mem_cons.mpr ⟨c_meth mq_61_kt hY hYS hIx hX (q := mq_61) mq_61_at mq_61_pl mq_61_k cs_cy hcs cn_229_ok, ?_⟩
  refine List.forall_mem_cons.mpr ⟨c_meth mq_61_kt hY hYS hIx hX (q := mq_61) mq_61_at mq_61_pl mq_61_k cs_cy hcs cn_230_ok, ?_⟩
  refine List.forall_mem_cons.mpr ⟨c_meth mq_61_kt hY hYS hIx hX (q := mq_61) mq_61_at mq_61_pl mq_61_k cs_cy hcs cn_231_ok, ?_⟩
  refine List.forall_mem_cons.mpr ⟨c_meth mq_61_kt hY hYS hIx hX (q := mq_61) mq_61_at mq_61_pl mq_61_k cs_cy hcs cn_232_ok, ?_⟩
  refine List.forall_mem_cons.mpr ⟨c_meth mq_61_kt hY hYS hIx hX (q := mq_61) mq_61_at mq_61_pl mq_61_k cs_cy hcs cn_233_ok, ?_⟩
  refine List.forall_mem_cons.mpr ⟨c_meth mq_61_kt hY hYS hIx hX (q := mq_61) mq_61_at mq_61_pl mq_61_k cs_cy hcs cn_234_ok, ?_⟩
  refine List.forall_mem_cons.mpr ⟨c_meth mq_61_kt hY hYS hIx hX (q := mq_61) mq_61_at mq_61_pl mq_61_k cs_cy hcs cn_235_ok, ?_⟩
  refine List.forall_mem_cons.mpr ⟨c_meth mq_61_kt hY hYS hIx hX (q := mq_61) mq_61_at mq_61_pl mq_61_k cs_cy hcs cn_236_ok, ?_⟩
  refine List.forall_mem_cons.mpr ⟨c_meth mq_61_kt hY hYS hIx hX (q := mq_61) mq_61_at mq_61_pl mq_61_k cs_cy hcs cn_237_ok, ?_⟩
  refine List.forall_mem_cons.mpr ⟨c_meth mq_61_kt hY hYS hIx hX (q := mq_61) mq_61_at mq_61_pl mq_61_k cs_cy hcs cn_238_ok, ?_⟩
  refine List.forall_mem_cons.mpr ⟨c_meth mq_61_kt hY hYS hIx hX (q := mq_61) mq_61_at mq_61_pl mq_61_k cs_cy hcs cn_239_ok, ?_⟩
  refine List.forall_mem_cons.mpr ⟨c_meth mq_61_kt hY hYS hIx hX (q := mq_61) mq_61_at mq_61_pl mq_61_k cs_cy hcs cn_240_ok, ?_⟩
  refine List.forall_mem_cons.mpr ⟨c_meth mq_61_kt hY hYS hIx hX (q := mq_61) mq_61_at mq_61_pl mq_61_k cs_cy hcs cn_241_ok, ?_⟩
  refine List.forall_mem_cons.mpr ⟨c_meth mq_61_kt hY hYS hIx hX (q := mq_61) mq_61_at mq_61_pl mq_61_k cs_cy hcs cn_242_ok, ?_⟩
  refine List.forall_mem_cons.mpr ⟨c_meth mq_61_kt hY hYS hIx hX (q := mq_61) mq_61_at mq_61_pl mq_61_k cs_cy hcs cn_243_ok, ?_⟩
  refine List.forall_mem_cons.mpr ⟨c_meth mq_61_kt hY hYS hIx hX (q := mq_61) mq_61_at mq_61_pl mq_61_k cs_cy hcs cn_244_ok, ?_⟩
  refine List.forall_mem_cons.mpr ⟨c_meth mq_61_kt hY hYS hIx hX (q := mq_61) mq_61_at mq_61_pl mq_61_k cs_cy hcs cn_245_ok, ?_⟩
  refine List.forall_mem_cons.mpr ⟨c_meth mq_61_kt hY hYS hIx hX (q := mq_61) mq_61_at mq_61_pl mq_61_k cs_cy hcs cn_246_ok, ?_⟩
  refine List.forall_mem_cons.mpr ⟨c_meth mq_61_kt hY hYS hIx hX (q := mq_61) mq_61_at mq_61_pl mq_61_k cs_cy hcs cn_247_ok, ?_⟩
  refine List.forall_mem_cons.mpr ⟨c_meth mq_61_kt hY hYS hIx hX (q := mq_61) mq_61_at mq_61_pl mq_61_k cs_cy hcs cn_248_ok, ?_⟩
  refine List.forall_mem_cons.mpr ⟨c_meth mq_61_kt hY hYS hIx hX (q := mq_61) mq_61_at mq_61_pl mq_61_k cs_cy hcs cn_249_ok, ?_⟩
  refine List.forall_mem_cons.mpr ⟨c_meth mq_61_kt hY hYS hIx hX (q := mq_61) mq_61_at mq_61_pl mq_61_k cs_cy hcs cn_250_ok, ?_⟩
  refine List.forall_mem_cons.mpr ⟨c_meth mq_61_kt hY hYS hIx hX (q := mq_61) mq_61_at mq_61_pl mq_61_k cs_cy hcs cn_251_ok, ?_⟩
  refine List.forall_mem_cons.mpr ⟨c_meth mq_61_kt hY hYS hIx hX (q := mq_61) mq_61_at mq_61_pl mq_61_k cs_cy hcs cn_252_ok, ?_⟩
  refine List.forall_mem_cons.mpr ⟨c_meth mq_61_kt hY hYS hIx hX (q := mq_61) mq_61_at mq_61_pl mq_61_k cs_cy hcs cn_253_ok, ?_⟩
  refine List.forall_mem_cons.mpr ⟨c_meth mq_61_kt hY hYS hIx hX (q := mq_61) mq_61_at mq_61_pl mq_61_k cs_cy hcs cn_254_ok, ?_⟩
  refine List.forall_mem_cons.mpr ⟨c_meth mq_61_kt hY hYS hIx hX (q := mq_61) mq_61_at mq_61_pl mq_61_k cs_cy hcs cn_255_ok, ?_⟩
  refine List.forall_mem_cons.mpr ⟨c_meth mq_61_kt hY hYS hIx hX (q := mq_61) mq_61_at mq_61_pl mq_61_k cs_cy hcs cn_256_ok, ?_⟩
  refine List.forall_mem_cons.mpr ⟨c_meth mq_61_kt hY hYS hIx hX (q := mq_61) mq_61_at mq_61_pl mq_61_k cs_cy hcs cn_257_ok, ?_⟩
  refine List.forall_mem_cons.mpr ⟨c_meth mq_61_kt hY hYS hIx hX (q := mq_61) mq_61_at mq_61_pl mq_61_k cs_cy hcs cn_258_ok, ?_⟩
  refine List.forall_mem_cons.mpr ⟨c_meth mq_61_kt hY hYS hIx hX (q := mq_61) mq_61_at mq_61_pl mq_61_k cs_cy hcs cn_259_ok, ?_⟩
  refine List.forall_mem_cons.mpr ⟨c_meth mq_61_kt hY hYS hIx hX (q := mq_61) mq_61_at mq_61_pl mq_61_k cs_cy hcs cn_260_ok, ?_⟩
  refine List.forall_mem_cons.mpr ⟨c_meth mq_61_kt hY hYS hIx hX (q := mq_61) mq_61_at mq_61_pl mq_61_k cs_cy hcs cn_261_ok, ?_⟩
  refine List.forall_mem_cons.mpr ⟨c_meth mq_61_kt hY hYS hIx hX (q := mq_61) mq_61_at mq_61_pl mq_61_k cs_cy hcs cn_262_ok, ?_⟩
  refine List.forall_mem_cons.mpr ⟨c_meth mq_61_kt hY hYS hIx hX (q := mq_61) mq_61_at mq_61_pl mq_61_k cs_cy hcs cn_263_ok, ?_⟩
  refine List.forall_mem_cons.mpr ⟨c_meth mq_61_kt hY hYS hIx hX (q := mq_61) mq_61_at mq_61_pl mq_61_k cs_cy hcs cn_264_ok, ?_⟩
  refine List.forall_mem_cons.mpr ⟨c_meth mq_61_kt hY hYS hIx hX (q := mq_61) mq_61_at mq_61_pl mq_61_k cs_cy hcs cn_265_ok, ?_⟩
  refine List.forall_mem_cons.mpr ⟨c_meth mq_61_kt hY hYS hIx hX (q := mq_61) mq_61_at mq_61_pl mq_61_k cs_cy hcs cn_266_ok, ?_⟩
  refine List.forall_mem_cons.mpr ⟨c_meth mq_61_kt hY hYS hIx hX (q := mq_61) mq_61_at mq_61_pl mq_61_k cs_cy hcs cn_267_ok, ?_⟩
  refine List.forall_mem_cons.mpr ⟨c_meth mq_61_kt hY hYS hIx hX (q := mq_61) mq_61_at mq_61_pl mq_61_k cs_cy hcs cn_268_ok, ?_⟩
  exact fun _ h => absurd h List.not_mem_nil
theorem sm_62 (hX : ∀ i, i < 2 → X i = some ((x_tab i).map Int32.ofInt)) (hcs : ∀ d', d = d' + 1 → ∀ y, ∀ C ∈ cs_at y, c_sem l X (yY xa) xa d' C) : ∀ C ∈ [cn_344], c_sem l X (yY xa) xa d C := by
  have hY := yY_ok xa
  have hYS := yY_str xa
  have hIx := ix_K_ok (l := l) (X := X) hY hYS
  intro C hC
  obtain rfl := List.mem_singleton.mp hC
  exact c_meth mq_62_kt hY hYS hIx hX (q := mq_62) mq_62_at mq_62_pl mq_62_k cs_cy hcs cn_344_ok
theorem sm_63 (hX : ∀ i, i < 2 → X i = some ((x_tab i).map Int32.ofInt)) (hcs : ∀ d', d = d' + 1 → ∀ y, ∀ C ∈ cs_at y, c_sem l X (yY xa) xa d' C) : ∀ C ∈ [cn_123], c_sem l X (yY xa) xa d C := by
  have hY := yY_ok xa
  have hYS := yY_str xa
  have hIx := ix_K_ok (l := l) (X := X) hY hYS
  intro C hC
  obtain rfl := List.mem_singleton.mp hC
  exact c_meth mq_63_kt hY hYS hIx hX (q := mq_63) mq_63_at mq_63_pl mq_63_k cs_cy hcs cn_123_ok
theorem sc_1 (hX : ∀ i, i < 2 → X i = some ((x_tab i).map Int32.ofInt)) (hcs : ∀ d', d = d' + 1 → ∀ y, ∀ C ∈ cs_at y, c_sem l X (yY xa) xa d' C) : ∀ r ∈ cs_tab_1, ∀ C ∈ r, c_sem l X (yY xa) xa d C := by
  unfold cs_tab_1
  refine List.forall_mem_cons.mpr ⟨sm_32 hX hcs, ?_⟩
  refine List.forall_mem_cons.mpr ⟨sm_33 hX hcs, ?_⟩
  refine List.forall_mem_cons.mpr ⟨sm_34 hX hcs, ?_⟩
  refine List.forall_mem_cons.mpr ⟨sm_35 hX hcs, ?_⟩
  refine List.forall_mem_cons.mpr ⟨sm_36 hX hcs, ?_⟩
  refine List.forall_mem_cons.mpr ⟨sm_37 hX hcs, ?_⟩
  refine List.forall_mem_cons.mpr ⟨sm_38 hX hcs, ?_⟩
  refine List.forall_mem_cons.mpr ⟨sm_39 hX hcs, ?_⟩
  refine List.forall_mem_cons.mpr ⟨sm_40 hX hcs, ?_⟩
  refine List.forall_mem_cons.mpr ⟨sm_41 hX hcs, ?_⟩
  refine List.forall_mem_cons.mpr ⟨sm_42 hX hcs, ?_⟩
  refine List.forall_mem_cons.mpr ⟨sm_43 hX hcs, ?_⟩
  refine List.forall_mem_cons.mpr ⟨sm_44 hX hcs, ?_⟩
  refine List.forall_mem_cons.mpr ⟨sm_45 hX hcs, ?_⟩
  refine List.forall_mem_cons.mpr ⟨sm_46 hX hcs, ?_⟩
  refine List.forall_mem_cons.mpr ⟨sm_47 hX hcs, ?_⟩
  refine List.forall_mem_cons.mpr ⟨sm_48 hX hcs, ?_⟩
  refine List.forall_mem_cons.mpr ⟨(fun _ h => absurd h List.not_mem_nil), ?_⟩
  refine List.forall_mem_cons.mpr ⟨(fun _ h => absurd h List.not_mem_nil), ?_⟩
  refine List.forall_mem_cons.mpr ⟨sm_51 hX hcs, ?_⟩
  refine List.forall_mem_cons.mpr ⟨sm_52 hX hcs, ?_⟩
  refine List.forall_mem_cons.mpr ⟨sm_53 hX hcs, ?_⟩
  refine List.forall_mem_cons.mpr ⟨sm_54 hX hcs, ?_⟩
  refine List.forall_mem_cons.mpr ⟨sm_55 hX hcs, ?_⟩
  refine List.forall_mem_cons.mpr ⟨sm_56 hX hcs, ?_⟩
  refine List.forall_mem_cons.mpr ⟨sm_57 hX hcs, ?_⟩
  refine List.forall_mem_cons.mpr ⟨sm_58 hX hcs, ?_⟩
  refine List.forall_mem_cons.mpr ⟨sm_59 hX hcs, ?_⟩
  refine List.forall_mem_cons.mpr ⟨sm_60 hX hcs, ?_⟩
  refine List.forall_mem_cons.mpr ⟨sm_61 hX hcs, ?_⟩
  refine List.forall_mem_cons.mpr ⟨sm_62 hX hcs, ?_⟩
  refine List.forall_mem_cons.mpr ⟨sm_63 hX hcs, ?_⟩
  exact fun _ h => absurd h List.not_mem_nil
end AS
