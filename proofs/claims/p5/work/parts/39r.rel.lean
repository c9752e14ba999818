/-! WHAT IS KEPT, for people: both texts alike, columns, storeys, persons -/
def L_eq : List u_X := [(3, 8, 251, 1, 1), (3, 9, 251, 2, 1), (3, 11, 251, 3, 1)]
def Rel_0 (σ : m_H) : Prop := Rel_T σ ∧ u_E L_eq (z_m σ)
theorem rel_start : ∀ σ, xs_is σ → Rel_0 σ := fun σ h => ⟨R_start σ h, by
  have := xs_ck_ok (f := fun σ => E_ck L_eq σ) (by decide +kernel) h
  exact E_ck_ok this⟩
theorem rel_off {c : l_C} (h : ((E_off c.2.2.1 L_eq && E_off c.2.2.2.2.2.2.2 L_eq) && (rel_offb c.2.2.1 && (rel_offb c.2.2.2.2.2.2.2 && !c.2.2.2.2.1))) = true) : l_rel2 Rel_0 c := by
  obtain ⟨h1, h2⟩ := Bool.and_eq_true _ _ |>.mp h
  exact E_part (R_off h2) h1
theorem rel_zero {c : l_C} (h : ((E_off c.2.2.1 L_eq && E_off c.2.2.2.2.2.2.2 L_eq) && (md_zero c.2.2.1 1 1 && (md_zero c.2.2.2.2.2.2.2 251 8 && (md_off c.2.2.2.2.2.2.2 1 1 && !c.2.2.2.2.1)))) = true) : l_rel2 Rel_0 c := by
  obtain ⟨h1, h2⟩ := Bool.and_eq_true _ _ |>.mp h
  exact E_part (R_zero h2) h1
theorem rel_sign : l_rel2 Rel_0 (219, 26, 14, 1, false, 230, 30, 160) := E_part R_sign (by decide +kernel)
theorem rel_end : l_rel2 Rel_0 (244, 31, 16, 1, false, 255, 35, 161) := E_part R_end (by decide +kernel)
theorem rel_rule : l_rel2 Rel_0 (289, 45, 39, 0, false, 294, 48, 175) := E_part R_rule (by decide +kernel)
theorem rel_house : l_rel2 Rel_0 (263, 36, 18, 0, false, 268, 40, 163) := by
  intro M1 M2 M3 σ σ1 σ2 as v1 v2 C1 C2 ρ1 ρ2 ha hR hh hM1 hC1 hp1 hE1 hC2 hp2 hE2
  obtain rfl := as_nil ha
  obtain ⟨z, b, z1, z2, -⟩ := H_house M1 M2 M3 σ σ1 σ2 [] v1 v2 C1 C2 ρ1 ρ2 rfl hR.1 hh hC1 hp1 (z_R_iff.mpr hE1) hC2 hp2 (z_R_iff.mpr hE2)
  have e1 : z_m σ 3 8 = z_m σ 251 1 := hR.2 (3, 8, 251, 1, 1) (by decide) 0 (by decide)
  have e2 : z_m σ 3 9 = z_m σ 251 2 := hR.2 (3, 9, 251, 2, 1) (by decide) 0 (by decide)
  have e3 : z_m σ 3 11 = z_m σ 251 3 := hR.2 (3, 11, 251, 3, 1) (by decide) 0 (by decide)
  have e : u_csp (z_m σ) = u_rsp (z_m σ) := by unfold u_csp u_rsp; rw [e1, e2, e3]
  have ee : u_csp (z_m σ2) = u_rsp (z_m σ2) := by rw [z1, z2, e]
  have f := Prod.mk.inj ee
  have f' := Prod.mk.inj f.2
  exact ⟨⟨z.1, u_E_one f.1 (u_E_one f'.1 (u_E_one f'.2 u_E_nil))⟩, fun _ => z.2⟩
theorem u_gr_R {m : z_M} (h : u_R m) {s : Int} : u_gr (u_nx (m 2) (m 1 1) s) := fun i => by
  unfold u_nx
  by_cases c : 0 ≤ i ∧ i < m 1 1 ∧ i < s
  · rw [if_pos c, h.2 _ (by omega)]
    have e : z_and (m 254 i.toNat) 255 = (Int32.ofInt (m 254 i.toNat)).toInt % 256 := i32_and255 _
    omega
  · rw [if_neg c]; omega
theorem rel_people : l_rel2 Rel_0 (276, 41, 35, 0, true, 280, 44, 172) := by
  intro M1 M2 M3 σ σ1 σ2 as v1 v2 C1 C2 ρ1 ρ2 ha hR hh hM1 hC1 hp1 hE1 hC2 hp2 hE2
  obtain rfl := as_nil ha
  have hE1 : z_R 35 (z_m σ, 0, [(2, 0), (9, 0)], []) = some (z_m σ1, some (0, v1.toInt)) := z_R_iff.mpr hE1
  have hE2 : z_R 172 (z_m σ1, 0, [(2, 251), (9, 0), (9, 0), (9, 0), (9, 0), (9, 0)], []) = some (z_m σ2, some (0, v2.toInt)) := z_R_iff.mpr hE2
  have hT : u_R (z_m σ) := hR.1
  obtain ⟨r1, r2⟩ := z_rng hh (p := 1) (k := 1) (lo := 0) (hi := 80) (by decide) (by decide +kernel) (by decide +kernel)
  obtain ⟨w1, w2⟩ := z_rng hh (p := 3) (k := 8) (lo := 0) (hi := 3) (by decide) (by decide +kernel) (by decide +kernel)
  obtain ⟨w3, w4⟩ := z_rng hh (p := 3) (k := 9) (lo := 0) (hi := 3) (by decide) (by decide +kernel) (by decide +kernel)
  obtain ⟨w5, w6⟩ := z_rng hh (p := 3) (k := 11) (lo := 0) (hi := 5) (by decide) (by decide +kernel) (by decide +kernel)
  have rb : ∀ k, k < 80 → -128 ≤ z_m σ 254 k ∧ z_m σ 254 k ≤ 127 := fun k hk => z_rng hh (p := 254) (k := k) (lo := -128) (hi := 127) (by decide) (by rw [show h_ln 254 = 80 by decide +kernel]; exact hk) (h_ty_254 k)
  have e1 : z_m σ 3 8 = z_m σ 251 1 := hR.2 (3, 8, 251, 1, 1) (by decide) 0 (by decide)
  have e2 : z_m σ 3 9 = z_m σ 251 2 := hR.2 (3, 9, 251, 2, 1) (by decide) 0 (by decide)
  have e3 : z_m σ 3 11 = z_m σ 251 3 := hR.2 (3, 11, 251, 3, 1) (by decide) 0 (by decide)
  have o8 : z_m σ1 251 8 = z_m σ 251 8 := md_off_ok (y := 35) (by decide +kernel) hC1 hp1
  have o1 : z_m σ1 251 1 = z_m σ 251 1 := md_off_ok (y := 35) (by decide +kernel) hC1 hp1
  have o2 : z_m σ1 251 2 = z_m σ 251 2 := md_off_ok (y := 35) (by decide +kernel) hC1 hp1
  have o3 : z_m σ1 251 3 = z_m σ 251 3 := md_off_ok (y := 35) (by decide +kernel) hC1 hp1
  have o4 : z_m σ1 254 = z_m σ 254 := md_offr_ok (y := 35) (by decide +kernel) hC1 hp1
  have o5 : z_m σ1 253 = z_m σ 253 := md_offr_ok (y := 35) (by decide +kernel) hC1 hp1
  have q1 : z_m σ2 3 8 = z_m σ1 3 8 := md_off_ok (y := 172) (by decide +kernel) hC2 hp2
  have q2 : z_m σ2 3 9 = z_m σ1 3 9 := md_off_ok (y := 172) (by decide +kernel) hC2 hp2
  have q3 : z_m σ2 3 11 = z_m σ1 3 11 := md_off_ok (y := 172) (by decide +kernel) hC2 hp2
  have q4 : z_m σ2 8 = z_m σ1 8 := md_offr_ok (y := 172) (by decide +kernel) hC2 hp2
  have k1 : z_m σ1 3 8 = z_m σ 3 8 := md_off_ok (y := 35) (by decide +kernel) hC1 hp1
  have k2 : z_m σ1 3 9 = z_m σ 3 9 := md_off_ok (y := 35) (by decide +kernel) hC1 hp1
  have l1 : z_m σ2 251 1 = z_m σ1 251 1 := md_off_ok (y := 172) (by decide +kernel) hC2 hp2
  have l2 : z_m σ2 251 2 = z_m σ1 251 2 := md_off_ok (y := 172) (by decide +kernel) hC2 hp2
  have hpp : z_m σ 3 11 = (((z_m σ 3 11).toNat : Nat) : Int) := by omega
  generalize (z_m σ 3 11).toNat = p at hpp
  have hp5 : p ≤ 5 := by omega
  have eG : u_nx (u_t (z_m σ1)) (z_m σ1 251 8) 76 = u_nx (z_m σ 2) (z_m σ 1 1) 76 := by
    rw [u_nx_R hT]
    unfold u_t
    rw [o8, o4]
  obtain ⟨m1, d1, d2, d3, d4⟩ := c_people w2 w4 p hp5 (z_m σ) r1 r2 (u_gr_R hT) rfl rfl hpp rfl rfl
  obtain ⟨m2, f1, f2, f3, f4, -⟩ := t_people w1 w2 w3 w4 p hp5 (z_m σ1) (by rw [o8, ← hT.1]; exact r1) (by rw [o8, ← hT.1]; exact r2) (fun k hk => by rw [o4]; exact rb k hk) (o1.trans e1.symm) (o2.trans e2.symm) (o3.trans (e3.symm.trans hpp)) eG rfl
  rw [show z_m σ1 251 8 = z_m σ 1 1 from o8.trans hT.1.symm] at f1 f2 f3 f4
  generalize u_ls (u_nx (z_m σ 2) (z_m σ 1 1) 76) (z_m σ 3 8) (z_m σ 3 9) (z_m σ 1 1) (5 - p) 0 0 = S at d1 d2 d3 d4 f1 f2 f3 f4
  rw [d1] at hE1
  rw [f1] at hE2
  have y1 : m1 = z_m σ1 := congrArg Prod.fst (Option.some.inj hE1)
  have y2 : m2 = z_m σ2 := congrArg Prod.fst (Option.some.inj hE2)
  have x1 := (congrArg (fun z : z_Q => (z.2.getD (0, 0)).2) (Option.some.inj hE1)).symm
  have x2 := (congrArg (fun z : z_Q => (z.2.getD (0, 0)).2) (Option.some.inj hE2)).symm
  simp only [Option.getD_some] at x1 x2
  subst y1 y2
  refine ⟨⟨u_R_zero ((md_off_ok (y := 172) (by decide +kernel) hC2 hp2).trans (md_zero_ok (y := 35) (by decide +kernel) hC1 hp1)) (md_zero_ok (y := 172) (by decide +kernel) hC2 hp2), u_E_one (by rw [q1, k1, l1, o1]; exact e1) (u_E_one (by rw [q2, k2, l2, o2]; exact e2) (u_E_one (by rw [q3, d2, f2]) u_E_nil))⟩, fun _ => Int32.toInt_inj.mp (x1.trans x2.symm)⟩
theorem rel_cases : ∀ c ∈ law_cs, l_rel2 Rel_0 c := by
  unfold law_cs
  refine List.forall_mem_cons.mpr ⟨rel_sign, ?_⟩
  refine List.forall_mem_cons.mpr ⟨rel_end, ?_⟩
  refine List.forall_mem_cons.mpr ⟨rel_house, ?_⟩
  refine List.forall_mem_cons.mpr ⟨rel_people, ?_⟩
  refine List.forall_mem_cons.mpr ⟨rel_rule, ?_⟩
  refine List.forall_mem_cons.mpr ⟨rel_off (by decide +kernel), ?_⟩
  refine List.forall_mem_cons.mpr ⟨rel_off (by decide +kernel), ?_⟩
  refine List.forall_mem_cons.mpr ⟨rel_off (by decide +kernel), ?_⟩
  refine List.forall_mem_cons.mpr ⟨rel_off (by decide +kernel), ?_⟩
  refine List.forall_mem_cons.mpr ⟨rel_off (by decide +kernel), ?_⟩
  refine List.forall_mem_cons.mpr ⟨rel_off (by decide +kernel), ?_⟩
  refine List.forall_mem_cons.mpr ⟨rel_off (by decide +kernel), ?_⟩
  refine List.forall_mem_cons.mpr ⟨rel_off (by decide +kernel), ?_⟩
  refine List.forall_mem_cons.mpr ⟨rel_zero (by decide +kernel), ?_⟩
  refine List.forall_mem_cons.mpr ⟨rel_off (by decide +kernel), ?_⟩
  refine List.forall_mem_cons.mpr ⟨rel_off (by decide +kernel), ?_⟩
  refine List.forall_mem_cons.mpr ⟨rel_off (by decide +kernel), ?_⟩
  refine List.forall_mem_cons.mpr ⟨rel_off (by decide +kernel), ?_⟩
  refine List.forall_mem_cons.mpr ⟨rel_off (by decide +kernel), ?_⟩
  refine List.forall_mem_cons.mpr ⟨rel_off (by decide +kernel), ?_⟩
  refine List.forall_mem_cons.mpr ⟨rel_off (by decide +kernel), ?_⟩
  refine List.forall_mem_cons.mpr ⟨rel_off (by decide +kernel), ?_⟩
  refine List.forall_mem_cons.mpr ⟨rel_off (by decide +kernel), ?_⟩
  refine List.forall_mem_cons.mpr ⟨rel_off (by decide +kernel), ?_⟩
  refine List.forall_mem_cons.mpr ⟨rel_off (by decide +kernel), ?_⟩
  refine List.forall_mem_cons.mpr ⟨rel_off (by decide +kernel), ?_⟩
  refine List.forall_mem_cons.mpr ⟨rel_off (by decide +kernel), ?_⟩
  refine List.forall_mem_cons.mpr ⟨rel_off (by decide +kernel), ?_⟩
  refine List.forall_mem_cons.mpr ⟨rel_off (by decide +kernel), ?_⟩
  refine List.forall_mem_cons.mpr ⟨rel_off (by decide +kernel), ?_⟩
  refine List.forall_mem_cons.mpr ⟨rel_off (by decide +kernel), ?_⟩
  refine List.forall_mem_cons.mpr ⟨rel_off (by decide +kernel), ?_⟩
  refine List.forall_mem_cons.mpr ⟨rel_off (by decide +kernel), ?_⟩
  refine List.forall_mem_cons.mpr ⟨rel_off (by decide +kernel), ?_⟩
  refine List.forall_mem_cons.mpr ⟨rel_off (by decide +kernel), ?_⟩
  refine List.forall_mem_cons.mpr ⟨rel_off (by decide +kernel), ?_⟩
  refine List.forall_mem_cons.mpr ⟨rel_off (by decide +kernel), ?_⟩
  exact fun _ h => absurd h List.not_mem_nil
theorem rel_5 : l_rel3 Rel_0 181 2 := E_part3 (R3_off (by decide +kernel)) (by decide +kernel)
theorem rel_6 : l_rel3 Rel_0 190 2 := E_part3 (R3_off (by decide +kernel)) (by decide +kernel)
theorem rel_39 : l_rel3 Rel_0 261 1 := E_part3 (R3_off (by decide +kernel)) (by decide +kernel)
