/-! WHAT IS KEPT, for sheet: both texts alike, columns, storeys -/
def L_eq : List u_X := [(3, 8, 251, 1, 1), (3, 9, 251, 2, 1)]
def Rel_0 (σ : m_H) : Prop := Rel_T σ ∧ u_E L_eq (z_m σ)
theorem rel_start : ∀ σ, xs_is σ → Rel_0 σ := fun σ h => ⟨R_start σ h, by
  have := xs_ck_ok (f := fun σ => E_ck L_eq σ) (by decide +kernel) h
  exact E_ck_ok this⟩
theorem rel_off {c : l_C} (h : ((E_off c.2.2.1 L_eq && E_off c.2.2.2.2.2.2.2 L_eq) && (rel_offb c.2.2.1 && (rel_offb c.2.2.2.2.2.2.2 && !c.2.2.2.2.1))) = true) : l_rel2 Rel_0 c := by
  obtain ⟨h1, h2⟩ := Bool.and_eq_true _ _ |>.mp h
  exact E_part (R_off h2) h1
theorem rel_zero {c : l_C} (h : ((E_off c.2.2.1 L_eq && E_off c.2.2.2.2.2.2.2 L_eq) && (md_zero c.2.2.1 1 1 && (md_zero c.2.2.2.2.2.2.2 251 8 && (md_off c.2.2.2.2.2.2.2 1 1 && !c.2.2.2.2.1)))) = true) : l_rel2 Rel_0 c := by
  obtain ⟨h1, h2⟩ := Bool.and_eq_true _ _ |>.mp h
  exact E_part (R_zero h2) h1
theorem rel_sign : l_rel2 Rel_0 (219, 26, 14, 1, false, 230, 30, 160) := E_part R_sign (by decide +kernel)
theorem rel_end : l_rel2 Rel_0 (244, 31, 16, 1, false, 255, 35, 161) := E_part R_end (by decide +kernel)
theorem rel_rule : l_rel2 Rel_0 (289, 45, 39, 0, false, 294, 48, 175) := E_part (R_rule rfl) (by decide +kernel)
theorem rel_house : l_rel2 Rel_0 (263, 36, 18, 0, false, 268, 40, 163) := by
  intro M1 M2 M3 σ σ1 σ2 as v1 v2 C1 C2 ρ1 ρ2 ha hR hh hM1 hC1 hp1 hE1 hC2 hp2 hE2
  obtain rfl := as_nil ha
  obtain ⟨z, b, z1, z2, -⟩ := H_house M1 M2 M3 σ σ1 σ2 [] v1 v2 C1 C2 ρ1 ρ2 rfl hR.1 hh hC1 hp1 (z_R_iff.mpr hE1) hC2 hp2 (z_R_iff.mpr hE2)
  have e1 : z_m σ 3 8 = z_m σ 251 1 := hR.2 (3, 8, 251, 1, 1) (by decide) 0 (by decide)
  have e2 : z_m σ 3 9 = z_m σ 251 2 := hR.2 (3, 9, 251, 2, 1) (by decide) 0 (by decide)
  unfold u_csp at z1
  unfold u_rsp at z2
  cases b with
  | none =>
    have z1 := Prod.mk.inj z1
    have z2 := Prod.mk.inj z2
    have y1 := Prod.mk.inj z1.2
    have y2 := Prod.mk.inj z2.2
    exact ⟨⟨z.1, u_E_one (by rw [z1.1, z2.1]; exact e1) (u_E_one (by rw [y1.1, y2.1]; exact e2) u_E_nil)⟩, fun _ => z.2⟩
  | some b =>
    obtain ⟨b1, b2, b3⟩ := b
    have z1 := Prod.mk.inj z1
    have z2 := Prod.mk.inj z2
    have y1 := Prod.mk.inj z1.2
    have y2 := Prod.mk.inj z2.2
    exact ⟨⟨z.1, u_E_one (z1.1.trans z2.1.symm) (u_E_one (y1.1.trans y2.1.symm) u_E_nil)⟩, fun _ => z.2⟩
theorem rel_sheet : l_rel2 Rel_0 (492, 67, 56, 4, true, 520, 71, 194) := by
  intro M1 M2 M3 σ σ1 σ2 as v1 v2 C1 C2 ρ1 ρ2 ha hR hh hM1 hC1 hp1 hE1 hC2 hp2 hE2
  obtain ⟨a, b, c, d, rfl⟩ := as_four ha
  have hE1 : z_R 56 (z_m σ, 0, [(2, 0), (0, a.toInt), (0, b.toInt), (0, c.toInt), (0, d.toInt), (9, 0), (9, 0), (9, 0), (9, 0), (9, 0)], []) = some (z_m σ1, some (0, v1.toInt)) := z_R_iff.mpr hE1
  have hE2 : z_R 194 (z_m σ1, 0, [(2, 251), (0, a.toInt), (0, b.toInt), (0, c.toInt), (0, d.toInt), (9, 0), (9, 0), (9, 0), (9, 0), (9, 0)], []) = some (z_m σ2, some (0, v2.toInt)) := z_R_iff.mpr hE2
  have e1 : z_m σ 3 8 = z_m σ 251 1 := hR.2 (3, 8, 251, 1, 1) (by decide) 0 (by decide)
  have e2 : z_m σ 3 9 = z_m σ 251 2 := hR.2 (3, 9, 251, 2, 1) (by decide) 0 (by decide)
  obtain ⟨m1, d1⟩ := c_sheet (z_m σ) a.toInt b.toInt c.toInt d.toInt
  obtain ⟨m2, f1⟩ := t_sheet (z_m σ1) a.toInt b.toInt c.toInt d.toInt (by rw [Int32.ofInt_toInt])
  rw [d1] at hE1
  rw [f1] at hE2
  have k2 := (congrArg (fun z : z_Q => (z.2.getD (0, 0)).2) (Option.some.inj hE1)).symm
  have l2 := (congrArg (fun z : z_Q => (z.2.getD (0, 0)).2) (Option.some.inj hE2)).symm
  simp only [Option.getD_some] at k2 l2
  rw [md_off_ok (y := 56) (p := 251) (k := 1) (by decide +kernel) hC1 hp1, md_off_ok (y := 56) (p := 251) (k := 2) (by decide +kernel) hC1 hp1, ← e1, ← e2] at l2
  exact ⟨⟨rel_offb_ok (y := 194) (by decide +kernel) hC2 hp2 (rel_offb_ok (y := 56) (by decide +kernel) hC1 hp1 hR.1), E_off_ok (y := 194) (by decide +kernel) hC2 hp2 (E_off_ok (y := 56) (by decide +kernel) hC1 hp1 hR.2)⟩, fun _ => Int32.toInt_inj.mp (k2.trans l2.symm)⟩
theorem rel_cases : ∀ c ∈ law_cs, l_rel2 Rel_0 c := by
  unfold law_cs
  refine List.forall_mem_cons.mpr ⟨rel_sign, ?_⟩
  refine List.forall_mem_cons.mpr ⟨rel_end, ?_⟩
  refine List.forall_mem_cons.mpr ⟨rel_house, ?_⟩
  refine List.forall_mem_cons.mpr ⟨rel_zero (by decide +kernel), ?_⟩
  refine List.forall_mem_cons.mpr ⟨rel_rule, ?_⟩
  refine List.forall_mem_cons.mpr ⟨rel_off (by decide +kernel), ?_⟩
  refine List.forall_mem_cons.mpr ⟨rel_off (by decide +kernel), ?_⟩
  refine List.forall_mem_cons.mpr ⟨rel_sheet, ?_⟩
  refine List.forall_mem_cons.mpr ⟨rel_off (by decide +kernel), ?_⟩
  refine List.forall_mem_cons.mpr ⟨rel_off (by decide +kernel), ?_⟩
  refine List.forall_mem_cons.mpr ⟨rel_off (by decide +kernel), ?_⟩
  refine List.forall_mem_cons.mpr ⟨rel_off (by decide +kernel), ?_⟩
  refine List.forall_mem_cons.mpr ⟨rel_off (by decide +kernel), ?_⟩
  refine List.forall_mem_cons.mpr ⟨rel_zero (by decide +kernel), ?_⟩
  refine List.forall_mem_cons.mpr ⟨rel_off (by decide +kernel), ?_⟩
  refine List.forall_mem_cons.mpr ⟨rel_off (by decide +kernel), ?_⟩
  refine List.forall_mem_cons.mpr ⟨rel_off (by decide +kernel), ?_⟩
  refine List.forall_mem_cons.mpr ⟨rel_off (by decide +kernel), ?_⟩
  refine List.forall_mem_cons.mpr ⟨rel_off (by decide +kernel), ?_⟩
  refine List.forall_mem_cons.mpr ⟨rel_off (by decide +kernel), ?_⟩
  refine List.forall_mem_cons.mpr ⟨rel_off (by decide +kernel), ?_⟩
  refine List.forall_mem_cons.mpr ⟨rel_off (by decide +kernel), ?_⟩
  refine List.forall_mem_cons.mpr ⟨rel_off (by decide +kernel), ?_⟩
  refine List.forall_mem_cons.mpr ⟨rel_off (by decide +kernel), ?_⟩
  refine List.forall_mem_cons.mpr ⟨rel_off (by decide +kernel), ?_⟩
  refine List.forall_mem_cons.mpr ⟨rel_off (by decide +kernel), ?_⟩
  refine List.forall_mem_cons.mpr ⟨rel_off (by decide +kernel), ?_⟩
  refine List.forall_mem_cons.mpr ⟨rel_off (by decide +kernel), ?_⟩
  refine List.forall_mem_cons.mpr ⟨rel_off (by decide +kernel), ?_⟩
  refine List.forall_mem_cons.mpr ⟨rel_off (by decide +kernel), ?_⟩
  refine List.forall_mem_cons.mpr ⟨rel_off (by decide +kernel), ?_⟩
  refine List.forall_mem_cons.mpr ⟨rel_off (by decide +kernel), ?_⟩
  refine List.forall_mem_cons.mpr ⟨rel_off (by decide +kernel), ?_⟩
  refine List.forall_mem_cons.mpr ⟨rel_off (by decide +kernel), ?_⟩
  refine List.forall_mem_cons.mpr ⟨rel_off (by decide +kernel), ?_⟩
  refine List.forall_mem_cons.mpr ⟨rel_off (by decide +kernel), ?_⟩
  refine List.forall_mem_cons.mpr ⟨rel_off (by decide +kernel), ?_⟩
  exact fun _ h => absurd h List.not_mem_nil
theorem rel_5 : l_rel3 Rel_0 181 2 := E_part3 (R3_off (by decide +kernel)) (by decide +kernel)
theorem rel_6 : l_rel3 Rel_0 190 2 := E_part3 (R3_off (by decide +kernel)) (by decide +kernel)
theorem rel_39 : l_rel3 Rel_0 261 1 := E_part3 (R3_off (by decide +kernel)) (by decide +kernel)
