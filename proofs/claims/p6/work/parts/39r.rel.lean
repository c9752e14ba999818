/-! WHAT IS KEPT, for rule: both texts are alike, sign by sign -/
def Rel_0 (σ : m_H) : Prop := Rel_T σ
theorem rel_start : ∀ σ, xs_is σ → Rel_0 σ := R_start
theorem rel_off {c : l_C} (h : (rel_offb c.2.2.1 && (rel_offb c.2.2.2.2.2.2.2 && !c.2.2.2.2.1)) = true) : l_rel2 Rel_0 c := R_off h
theorem rel_zero {c : l_C} (h : (md_zero c.2.2.1 1 1 && (md_zero c.2.2.2.2.2.2.2 251 8 && (md_off c.2.2.2.2.2.2.2 1 1 && !c.2.2.2.2.1))) = true) : l_rel2 Rel_0 c := R_zero h
theorem h_ty_259 (k : Nat) : h_ty 259 k = (0, -2147483648, 2147483647) := by
  unfold h_ty t_at
  rw [show (h_at 259).2.2 = [(0, -2147483648, 2147483647)] from rfl]
  show (match ([(0, -2147483648, 2147483647)] : List (Nat × Int × Int))[k % 1]? with | some t => t | none => (9, 0, 0)) = _
  rw [Nat.mod_one]
  rfl
theorem u_g255 {m : z_M} (h : u_R m) (i : Int) : -1 ≤ u_nx (m 2) (m 1 1) 40 i ∧ u_nx (m 2) (m 1 1) 40 i ≤ 255 := by
  unfold u_nx
  by_cases c : 0 ≤ i ∧ i < m 1 1 ∧ i < 40
  · rw [if_pos c, h.2 _ (by omega)]
    have e : z_and (m 254 i.toNat) 255 = (Int32.ofInt (m 254 i.toNat)).toInt % 256 := i32_and255 _
    omega
  · rw [if_neg c]; omega
theorem rel_rule : l_rel2 Rel_0 (289, 45, 39, 0, true, 293, 48, 175) := by
  intro M1 M2 M3 σ σ1 σ2 as v1 v2 C1 C2 ρ1 ρ2 ha hR hh hM1 hC1 hp1 hE1 hC2 hp2 hE2
  obtain rfl := as_nil ha
  have hE1 : z_R 39 (z_m σ, 0, [(2, 0), (9, 0)], []) = some (z_m σ1, some (0, v1.toInt)) := z_R_iff.mpr hE1
  have hE2 : z_R 175 (z_m σ1, 0, [(2, 251), (9, 0), (9, 0)], []) = some (z_m σ2, some (0, v2.toInt)) := z_R_iff.mpr hE2
  have hT : u_R (z_m σ) := hR
  have hz : Rel_T σ2 := u_R_zero ((md_off_ok (y := 175) (by decide +kernel) hC2 hp2).trans (r_rule0 _ hE1)) (md_zero_ok (y := 175) (by decide +kernel) hC2 hp2)
  obtain ⟨r1, r2⟩ := z_rng hh (p := 1) (k := 1) (lo := 0) (hi := 80) (by decide) (by decide +kernel) (by decide +kernel)
  have rb : ∀ k, k < 80 → -128 ≤ z_m σ 254 k ∧ z_m σ 254 k ≤ 127 := fun k hk => z_rng hh (p := 254) (k := k) (lo := -128) (hi := 127) (by decide) (by rw [show h_ln 254 = 80 by decide +kernel]; exact hk) (h_ty_254 k)
  have r259 : ∀ k, k < 7 → -2147483648 ≤ z_m σ 259 k ∧ z_m σ 259 k ≤ 2147483647 := fun k hk => z_rng hh (p := 259) (k := k) (lo := -2147483648) (hi := 2147483647) (by decide) (by rw [show h_ln 259 = 7 by decide +kernel]; exact hk) (h_ty_259 k)
  have o8 : z_m σ1 251 8 = z_m σ 251 8 := md_off_ok (y := 39) (by decide +kernel) hC1 hp1
  have o4 : z_m σ1 254 = z_m σ 254 := md_offr_ok (y := 39) (by decide +kernel) hC1 hp1
  have o5 : z_m σ1 259 = z_m σ 259 := md_offr_ok (y := 39) (by decide +kernel) hC1 hp1
  have eG : u_nx (u_t (z_m σ1)) (z_m σ1 251 8) 40 = u_nx (z_m σ 2) (z_m σ 1 1) 40 := by
    rw [u_nx_R hT]
    unfold u_t
    rw [o8, o4]
  obtain ⟨m1, d1, -⟩ := c_rule (z_m σ) r1 r2 (u_g255 hT)
  obtain ⟨m2, f1, -⟩ := r_rule (z_m σ1) (by rw [o8, ← hT.1]; exact r1) (by rw [o8, ← hT.1]; exact r2) (fun k hk => by rw [o4]; exact rb k hk) (fun k hk => by rw [o5]; exact r259 k hk)
  rw [eG, show z_m σ1 251 8 = z_m σ 1 1 from o8.trans hT.1.symm] at f1
  rw [d1] at hE1
  rw [f1] at hE2
  have x1 := (congrArg (fun z : z_Q => (z.2.getD (0, 0)).2) (Option.some.inj hE1)).symm
  have x2 := (congrArg (fun z : z_Q => (z.2.getD (0, 0)).2) (Option.some.inj hE2)).symm
  simp only [Option.getD_some] at x1 x2
  exact ⟨hz, fun _ => Int32.toInt_inj.mp (x1.trans x2.symm)⟩
theorem rel_cases : ∀ c ∈ law_cs, l_rel2 Rel_0 c := by
  unfold law_cs
  refine List.forall_mem_cons.mpr ⟨R_sign, ?_⟩
  refine List.forall_mem_cons.mpr ⟨R_end, ?_⟩
  refine List.forall_mem_cons.mpr ⟨R_house, ?_⟩
  refine List.forall_mem_cons.mpr ⟨rel_zero (by decide +kernel), ?_⟩
  refine List.forall_mem_cons.mpr ⟨rel_rule, ?_⟩
  refine List.forall_mem_cons.mpr ⟨rel_off (by decide +kernel), ?_⟩
  refine List.forall_mem_cons.mpr ⟨rel_off (by decide +kernel), ?_⟩
  refine List.forall_mem_cons.mpr ⟨rel_off (by decide +kernel), ?_⟩
  refine List.forall_mem_cons.mpr ⟨rel_off (by decide +kernel), ?_⟩
  refine List.forall_mem_cons.mpr ⟨rel_off (by decide +kernel), ?_⟩
  refine List.forall_mem_cons.mpr ⟨rel_off (by decide +kernel), ?_⟩
  refine List.forall_mem_cons.mpr ⟨rel_off (by decide +kernel), ?_⟩
  refine List.forall_mem_cons.mpr ⟨rel_off (by decide +kernel), ?_⟩
  refine List.forall_mem_cons.mpr ⟨rel_zero (by decide +kernel), ?_⟩
  refine List.forall_mem_cons.mpr ⟨rel_off (by decide +kernel), ?_⟩
  refine List.forall_mem_cons.mpr ⟨rel_off (by decide +kernel), ?_⟩
  refine List.forall_mem_cons.mpr ⟨rel_off (by decide +kernel), ?_⟩
  refine List.forall_mem_cons.mpr ⟨rel_off (by decide +kernel), ?_⟩
  refine List.forall_mem_cons.mpr ⟨rel_off (by decide +kernel), ?_⟩
  refine List.forall_mem_cons.mpr ⟨rel_off (by decide +kernel), ?_⟩
  refine List.forall_mem_cons.mpr ⟨rel_off (by decide +kernel), ?_⟩
  refine List.forall_mem_cons.mpr ⟨rel_off (by decide +kernel), ?_⟩
  refine List.forall_mem_cons.mpr ⟨rel_off (by decide +kernel), ?_⟩
  refine List.forall_mem_cons.mpr ⟨rel_off (by decide +kernel), ?_⟩
  refine List.forall_mem_cons.mpr ⟨rel_off (by decide +kernel), ?_⟩
  refine List.forall_mem_cons.mpr ⟨rel_off (by decide +kernel), ?_⟩
  refine List.forall_mem_cons.mpr ⟨rel_off (by decide +kernel), ?_⟩
  refine List.forall_mem_cons.mpr ⟨rel_off (by decide +kernel), ?_⟩
  refine List.forall_mem_cons.mpr ⟨rel_off (by decide +kernel), ?_⟩
  refine List.forall_mem_cons.mpr ⟨rel_off (by decide +kernel), ?_⟩
  refine List.forall_mem_cons.mpr ⟨rel_off (by decide +kernel), ?_⟩
  refine List.forall_mem_cons.mpr ⟨rel_off (by decide +kernel), ?_⟩
  refine List.forall_mem_cons.mpr ⟨rel_off (by decide +kernel), ?_⟩
  refine List.forall_mem_cons.mpr ⟨rel_off (by decide +kernel), ?_⟩
  refine List.forall_mem_cons.mpr ⟨rel_off (by decide +kernel), ?_⟩
  refine List.forall_mem_cons.mpr ⟨rel_off (by decide +kernel), ?_⟩
  refine List.forall_mem_cons.mpr ⟨rel_off (by decide +kernel), ?_⟩
  exact fun _ h => absurd h List.not_mem_nil
theorem rel_5 : l_rel3 Rel_0 181 2 := R3_off (by decide +kernel)
theorem rel_6 : l_rel3 Rel_0 190 2 := R3_off (by decide +kernel)
theorem rel_39 : l_rel3 Rel_0 261 1 := R3_off (by decide +kernel)
