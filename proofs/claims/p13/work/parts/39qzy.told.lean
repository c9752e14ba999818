/-! WHAT IS TOLD: the cases -/
theorem two_hour : l_two rw_Q (591, 80, 64, 0, false, 596, 83, 204) := by
  intro M1 M2 M3 σ σ1 σ2 as v1 v2 C1 C2 ρ1 ρ2 ha hR hh hM1 hC1 hp1 hE1 hC2 hp2 hE2
  obtain rfl := as_nil ha
  have hE1 : z_R 64 (z_m σ, 0, [(2, 0)], []) = some (z_m σ1, some (0, v1.toInt)) := z_R_iff.mpr hE1
  have hE2 : z_R 204 (z_m σ1, 0, [(2, 251)], []) = some (z_m σ2, some (0, v2.toInt)) := z_R_iff.mpr hE2
  obtain ⟨w, h, n, heat, price, D, A, c, U, kn, KS, cs, cC, cR, cW⟩ := hR.2
  obtain ⟨b1, b2, -, -, hok, b35, -, b7⟩ := core_b hh hM1 cR
  have f1 := R_off2_ok (y := 64) (by decide +kernel) hC1 hp1
  have cR1 := R_fr cR f1
  exact rw_do hE1 hE2 ((W_hour1 (mz := z_m σ) cC ⟨b1, b2, b7⟩ hok b35).imp fun _ h => ⟨_, h⟩) ((V_hour1 (mz := z_m σ1) cR1 ⟨b1, b2, b7⟩ hok b35).imp fun _ h => ⟨_, h⟩)
theorem two_hours : l_two rw_Q (610, 84, 80, 1, false, 621, 87, 205) := by
  intro M1 M2 M3 σ σ1 σ2 as v1 v2 C1 C2 ρ1 ρ2 ha hR hh hM1 hC1 hp1 hE1 hC2 hp2 hE2
  obtain ⟨a, rfl⟩ := as_one ha
  have hE1 : z_R 80 (z_m σ, 0, [(2, 0), (0, a.toInt)], []) = some (z_m σ1, some (0, v1.toInt)) := z_R_iff.mpr hE1
  have hE2 : z_R 205 (z_m σ1, 0, [(2, 251), (0, a.toInt)], []) = some (z_m σ2, some (0, v2.toInt)) := z_R_iff.mpr hE2
  obtain ⟨w, h, n, heat, price, D, A, c, U, kn, KS, cs, cC, cR, cW⟩ := hR.2
  obtain ⟨b1, b2, -, -, hok, b35, -, b7⟩ := core_b hh hM1 cR
  have f1 := R_off2_ok (y := 80) (by decide +kernel) hC1 hp1
  have cR1 := R_fr cR f1
  by_cases ok : 0 ≤ a.toInt ∧ a.toInt ≤ 60
  · obtain ⟨N, hN⟩ : ∃ N : Nat, a.toInt = (N : Int) := ⟨a.toInt.toNat, by omega⟩
    rw [hN] at hE1 hE2
    exact rw_do hE1 hE2 ((W_hours (mz := z_m σ) cC ⟨b1, b2, b7⟩ hok b35 (N := N) (by omega)).imp fun _ h => ⟨_, h⟩) ((V_lp (mz := z_m σ1) cR1 ⟨b1, b2, b7⟩ hok b35 (N := N) (by omega)).imp fun _ h => ⟨_, h⟩)
  · exact rw_do hE1 hE2 (⟨_, _, C_hours_no _ ok, c_rw_id⟩) (V_hours_no _ ok)
theorem two_thick : l_two rw_Q (704, 100, 89, 2, false, 721, 103, 217) := by
  intro M1 M2 M3 σ σ1 σ2 as v1 v2 C1 C2 ρ1 ρ2 ha hR hh hM1 hC1 hp1 hE1 hC2 hp2 hE2
  obtain ⟨r, a, rfl⟩ := as_two ha
  have hE1 : z_R 89 (z_m σ, 0, [(2, 0), (0, r.toInt), (0, a.toInt)], []) = some (z_m σ1, some (0, v1.toInt)) := z_R_iff.mpr hE1
  have hE2 : z_R 217 (z_m σ1, 0, [(2, 251), (0, r.toInt), (0, a.toInt)], []) = some (z_m σ2, some (0, v2.toInt)) := z_R_iff.mpr hE2
  obtain ⟨w, h, n, heat, price, D, A, c, U, kn, KS, cs, cC, cR, cW⟩ := hR.2
  obtain ⟨b1, b2, -, -, hok, b35, -, b7⟩ := core_b hh hM1 cR
  have hN : w_N w h n heat D := ⟨b1, b2, b7⟩
  have kk := core_24 hh
  have f1 := R_off2_ok (y := 89) (by decide +kernel) hC1 hp1
  have cR1 := R_fr cR f1
  exact rw_do hE1 hE2 ((W_thick cC hN hok b35 kk.1 kk.2 r.toInt a.toInt).imp fun _ h => ⟨_, h⟩) ((V_thick cR1 hN hok b35 r.toInt a.toInt).imp fun _ h => ⟨_, h⟩)
theorem two_drips : l_two rw_Q (748, 108, 94, 1, false, 759, 111, 225) := by
  intro M1 M2 M3 σ σ1 σ2 as v1 v2 C1 C2 ρ1 ρ2 ha hR hh hM1 hC1 hp1 hE1 hC2 hp2 hE2
  obtain ⟨a, rfl⟩ := as_one ha
  have hE1 : z_R 94 (z_m σ, 0, [(2, 0), (0, a.toInt), (9, 0), (9, 0)], []) = some (z_m σ1, some (0, v1.toInt)) := z_R_iff.mpr hE1
  have hE2 : z_R 225 (z_m σ1, 0, [(2, 251), (0, a.toInt), (9, 0), (9, 0)], []) = some (z_m σ2, some (0, v2.toInt)) := z_R_iff.mpr hE2
  obtain ⟨w, h, n, heat, price, D, A, c, U, kn, KS, cs, cC, cR, cW⟩ := hR.2
  obtain ⟨b1, b2, -, -, hok, b35, -, b7⟩ := core_b hh hM1 cR
  have hN : w_N w h n heat D := ⟨b1, b2, b7⟩
  have kk := core_24 hh
  have f1 := R_off2_ok (y := 94) (by decide +kernel) hC1 hp1
  have cR1 := R_fr cR f1
  exact rw_do hE1 hE2 ((W_drips cC hN hok b35 kk.1 kk.2 a.toInt).imp fun _ q => q.elim fun _ h => ⟨_, h⟩) ((V_drips cR1 hN hok b35 a.toInt).imp fun _ q => q.elim fun _ h => ⟨_, h⟩)
theorem two_gives : l_two rw_Q (729, 104, 91, 0, false, 734, 107, 220) := by
  intro M1 M2 M3 σ σ1 σ2 as v1 v2 C1 C2 ρ1 ρ2 ha hR hh hM1 hC1 hp1 hE1 hC2 hp2 hE2
  obtain rfl := as_nil ha
  have hE1 : z_R 91 (z_m σ, 0, [(2, 0), (9, 0), (9, 0), (9, 0)], []) = some (z_m σ1, some (0, v1.toInt)) := z_R_iff.mpr hE1
  have hE2 : z_R 220 (z_m σ1, 0, [(2, 251), (9, 0)], []) = some (z_m σ2, some (0, v2.toInt)) := z_R_iff.mpr hE2
  obtain ⟨w, h, n, heat, price, D, A, c, U, kn, KS, cs, cC, cR, cW⟩ := hR.2
  obtain ⟨b1, b2, -, -, hok, b35, -, b7⟩ := core_b hh hM1 cR
  have hN : w_N w h n heat D := ⟨b1, b2, b7⟩
  have kk := core_24 hh
  have f1 := R_off2_ok (y := 91) (by decide +kernel) hC1 hp1
  have cR1 := R_fr cR f1
  exact rw_do hE1 hE2 ((W_gives cC hN hok b35 kk.1 kk.2).imp fun _ h => ⟨_, h⟩) ((V_gives cR1 hN hok b35).imp fun _ q => q.elim fun _ h => ⟨_, h⟩)
theorem two_burden : l_two rw_Q (855, 128, 115, 0, false, 860, 131, 238) := by
  intro M1 M2 M3 σ σ1 σ2 as v1 v2 C1 C2 ρ1 ρ2 ha hR hh hM1 hC1 hp1 hE1 hC2 hp2 hE2
  obtain rfl := as_nil ha
  have hE1 : z_R 115 (z_m σ, 0, [(2, 0), (9, 0), (9, 0), (9, 0), (9, 0)], []) = some (z_m σ1, some (0, v1.toInt)) := z_R_iff.mpr hE1
  have hE2 : z_R 238 (z_m σ1, 0, [(2, 251), (9, 0), (9, 0), (9, 0), (9, 0), (9, 0)], []) = some (z_m σ2, some (0, v2.toInt)) := z_R_iff.mpr hE2
  obtain ⟨w, h, n, heat, price, D, A, c, U, kn, KS, cs, cC, cR, cW⟩ := hR.2
  obtain ⟨b1, b2, -, -, hok, b35, -, b7⟩ := core_b hh hM1 cR
  have hN : w_N w h n heat D := ⟨b1, b2, b7⟩
  have kk := core_24 hh
  have f1 := R_off2_ok (y := 115) (by decide +kernel) hC1 hp1
  have cR1 := R_fr cR f1
  exact rw_do hE1 hE2 ((W_burden cC hN hok b35 kk.1 kk.2).imp fun _ h => ⟨_, h⟩) ((V_burden cR1 hN hok b35).imp fun _ h => ⟨_, h⟩)
theorem two_warm : l_two rw_Q (930, 140, 125, 2, false, 947, 143, 243) := by
  intro M1 M2 M3 σ σ1 σ2 as v1 v2 C1 C2 ρ1 ρ2 ha hR hh hM1 hC1 hp1 hE1 hC2 hp2 hE2
  obtain ⟨r, v, rfl⟩ := as_two ha
  have hE1 : z_R 125 (z_m σ, 0, [(2, 0), (0, r.toInt), (0, v.toInt), (9, 0), (9, 0), (9, 0), (9, 0)], []) = some (z_m σ1, some (0, v1.toInt)) := z_R_iff.mpr hE1
  have hE2 : z_R 243 (z_m σ1, 0, [(2, 251), (0, r.toInt), (0, v.toInt), (9, 0), (9, 0), (9, 0), (9, 0)], []) = some (z_m σ2, some (0, v2.toInt)) := z_R_iff.mpr hE2
  obtain ⟨w, h, n, heat, price, D, A, c, U, kn, KS, cs, cC, cR, cW⟩ := hR.2
  obtain ⟨b1, b2, -, -, hok, b35, -, b7⟩ := core_b hh hM1 cR
  have hN : w_N w h n heat D := ⟨b1, b2, b7⟩
  have f1 := R_off2_ok (y := 125) (by decide +kernel) hC1 hp1
  have cR1 := R_fr cR f1
  exact rw_do hE1 hE2 ((W_warm cC hN b35 r.toInt v.toInt).imp fun _ h => ⟨_, h⟩) ((V_warm cR1 hN hok b35 r.toInt v.toInt).imp fun _ h => ⟨_, h⟩)
theorem two_charges : l_two rw_Q (899, 136, 123, 1, false, 910, 139, 242) := by
  intro M1 M2 M3 σ σ1 σ2 as v1 v2 C1 C2 ρ1 ρ2 ha hR hh hM1 hC1 hp1 hE1 hC2 hp2 hE2
  obtain ⟨a, rfl⟩ := as_one ha
  have hE1 : z_R 123 (z_m σ, 0, [(2, 0), (0, a.toInt), (9, 0), (9, 0), (9, 0)], []) = some (z_m σ1, some (0, v1.toInt)) := z_R_iff.mpr hE1
  have hE2 : z_R 242 (z_m σ1, 0, [(2, 251), (0, a.toInt), (9, 0), (9, 0)], []) = some (z_m σ2, some (0, v2.toInt)) := z_R_iff.mpr hE2
  obtain ⟨w, h, n, heat, price, D, A, c, U, kn, KS, cs, cC, cR, cW⟩ := hR.2
  obtain ⟨b1, b2, -, -, hok, b35, -, b7⟩ := core_b hh hM1 cR
  have hN : w_N w h n heat D := ⟨b1, b2, b7⟩
  have kk := core_24 hh
  have f1 := R_off2_ok (y := 123) (by decide +kernel) hC1 hp1
  have cR1 := R_fr cR f1
  exact rw_do hE1 hE2 ((W_charges cC hN hok b35 kk.1 kk.2 a.toInt).imp fun _ h => ⟨_, h⟩) ((V_charges cR1 hN hok b35 a.toInt).imp fun _ h => ⟨_, h⟩)
theorem two_water : l_two rw_Q (1067, 160, 137, 0, false, 1072, 163, 252) := by
  intro M1 M2 M3 σ σ1 σ2 as v1 v2 C1 C2 ρ1 ρ2 ha hR hh hM1 hC1 hp1 hE1 hC2 hp2 hE2
  obtain rfl := as_nil ha
  have hE1 : z_R 137 (z_m σ, 0, [(2, 0), (9, 0), (9, 0), (9, 0)], []) = some (z_m σ1, some (0, v1.toInt)) := z_R_iff.mpr hE1
  have hE2 : z_R 252 (z_m σ1, 0, [(2, 251), (9, 0), (9, 0), (9, 0)], []) = some (z_m σ2, some (0, v2.toInt)) := z_R_iff.mpr hE2
  obtain ⟨w, h, n, heat, price, D, A, c, U, kn, KS, cs, cC, cR, cW⟩ := hR.2
  have f1 := R_off2_ok (y := 137) (by decide +kernel) hC1 hp1
  have cR1 := R_fr cR f1
  exact rw_do hE1 hE2 ((W_water cC cW.2.1).imp fun _ h => ⟨_, h⟩) ((V_water cR1).imp fun _ h => ⟨_, h⟩)
theorem two_hearth : l_two rw_Q (999, 152, 133, 1, false, 1010, 155, 249) := by
  intro M1 M2 M3 σ σ1 σ2 as v1 v2 C1 C2 ρ1 ρ2 ha hR hh hM1 hC1 hp1 hE1 hC2 hp2 hE2
  obtain ⟨a, rfl⟩ := as_one ha
  have hE1 : z_R 133 (z_m σ, 0, [(2, 0), (0, a.toInt), (9, 0), (9, 0), (9, 0), (9, 0)], []) = some (z_m σ1, some (0, v1.toInt)) := z_R_iff.mpr hE1
  have hE2 : z_R 249 (z_m σ1, 0, [(2, 251), (0, a.toInt), (9, 0), (9, 0), (9, 0), (9, 0)], []) = some (z_m σ2, some (0, v2.toInt)) := z_R_iff.mpr hE2
  obtain ⟨w, h, n, heat, price, D, A, c, U, kn, KS, cs, cC, cR, cW⟩ := hR.2
  obtain ⟨b1, b2, -, -, hok, b35, -, b7⟩ := core_b hh hM1 cR
  have hN : w_N w h n heat D := ⟨b1, b2, b7⟩
  have f1 := R_off2_ok (y := 133) (by decide +kernel) hC1 hp1
  have cR1 := R_fr cR f1
  exact rw_do hE1 hE2 ((W_hearth cC hN hok b35 a.toInt).imp fun _ h => ⟨_, h⟩) ((V_hearth cR1 hN hok b35 cW.1 a.toInt).imp fun _ h => ⟨_, h⟩)
theorem two_look : l_two rw_Q (955, 144, 126, 0, false, 960, 147, 244) := by
  intro M1 M2 M3 σ σ1 σ2 as v1 v2 C1 C2 ρ1 ρ2 ha hR hh hM1 hC1 hp1 hE1 hC2 hp2 hE2
  obtain rfl := as_nil ha
  have hE1 : z_R 126 (z_m σ, 0, [(2, 0), (9, 0), (9, 0), (9, 0), (9, 0)], []) = some (z_m σ1, some (0, v1.toInt)) := z_R_iff.mpr hE1
  have hE2 : z_R 244 (z_m σ1, 0, [(2, 251), (9, 0), (9, 0), (9, 0), (9, 0), (9, 0), (9, 0), (9, 0), (9, 0)], []) = some (z_m σ2, some (0, v2.toInt)) := z_R_iff.mpr hE2
  obtain ⟨w, h, n, heat, price, D, A, c, U, kn, KS, cs, cC, cR, cW⟩ := hR.2
  obtain ⟨b1, b2, -, -, hok, b35, -, b7⟩ := core_b hh hM1 cR
  have hN : w_N w h n heat D := ⟨b1, b2, b7⟩
  have f1 := R_off2_ok (y := 126) (by decide +kernel) hC1 hp1
  have cR1 := R_fr cR f1
  exact rw_do hE1 hE2 ((W_look cC hN hok b35).imp fun _ q => q.elim fun _ h => ⟨_, h⟩) ((V_look cR1 hN hok b35 cW.1).imp fun _ q => q.elim fun _ h => ⟨_, h⟩)
theorem two_season : l_two ln_Q (1166, 172, 144, 2, false, 1183, 175, 257) := by
  intro M1 M2 M3 σ σ1 σ2 as v1 v2 C1 C2 ρ1 ρ2 ha hR hh hM1 hC1 hp1 hE1 hC2 hp2 hE2
  obtain ⟨s, a, rfl⟩ := as_two ha
  have hE1 : z_R 144 (z_m σ, 0, [(2, 0), (0, s.toInt), (0, a.toInt), (9, 0), (9, 0)], []) = some (z_m σ1, some (0, v1.toInt)) := z_R_iff.mpr hE1
  have hE2 : z_R 257 (z_m σ1, 0, [(2, 251), (0, s.toInt), (0, a.toInt), (9, 0), (9, 0), (9, 0), (9, 0)], []) = some (z_m σ2, some (0, v2.toInt)) := z_R_iff.mpr hE2
  obtain ⟨w, h, n, heat, price, D, A, c, U, kn, KS, cs, cC, cR, cW⟩ := hR.2
  obtain ⟨b1, b2, -, -, hok, b35, b34, b7⟩ := core_b hh hM1 cR
  have hN : w_N w h n heat D := ⟨b1, b2, b7⟩
  have f1 := R_off2_ok (y := 144) (by decide +kernel) hC1 hp1
  have cR1 := R_fr cR f1
  exact ln_do hE1 hE2 ((W_season cC hN hok b34.1 b35 s.toInt a.toInt).imp fun _ h => ⟨_, h⟩) ((V_season cR1 hN hok b34.1 b35 s.toInt a.toInt).imp fun _ h => ⟨_, h⟩)
theorem two_winter : l_two ln_Q (666, 92, 82, 0, false, 671, 95, 212) := by
  intro M1 M2 M3 σ σ1 σ2 as v1 v2 C1 C2 ρ1 ρ2 ha hR hh hM1 hC1 hp1 hE1 hC2 hp2 hE2
  obtain rfl := as_nil ha
  have hE1 : z_R 82 (z_m σ, 0, [(2, 0), (9, 0), (9, 0)], []) = some (z_m σ1, some (0, v1.toInt)) := z_R_iff.mpr hE1
  have hE2 : z_R 212 (z_m σ1, 0, [(2, 251), (9, 0), (9, 0), (9, 0)], []) = some (z_m σ2, some (0, v2.toInt)) := z_R_iff.mpr hE2
  have hT : u_R (z_m σ) := hR.1
  obtain ⟨r1, r2⟩ := z_rng hh (p := 1) (k := 1) (lo := 0) (hi := 80) (by decide) (by decide +kernel) (by decide +kernel)
  have rb : ∀ k, k < 80 → -128 ≤ z_m σ 254 k ∧ z_m σ 254 k ≤ 127 := fun k hk => z_rng hh (p := 254) (k := k) (lo := -128) (hi := 127) (by decide) (by rw [show h_ln 254 = 80 by decide +kernel]; exact hk) (h_ty_254 k)
  have o8 : z_m σ1 251 8 = z_m σ 251 8 := md_off_ok (y := 82) (by decide +kernel) hC1 hp1
  have o4 : z_m σ1 254 = z_m σ 254 := md_offr_ok (y := 82) (by decide +kernel) hC1 hp1
  have e8 : z_m σ1 251 8 = z_m σ 1 1 := o8.trans hT.1.symm
  have eG : u_nx (u_t (z_m σ1)) (z_m σ1 251 8) 60 = u_nx (z_m σ 2) (z_m σ 1 1) 60 := by
    rw [u_nx_R hT]
    unfold u_t
    rw [o8, o4]
  obtain ⟨w, h, n, heat, price, D, A, c, U, kn, KS, cs, cC, cR, cW⟩ := hR.2
  obtain ⟨b1, b2, -, -, hok, b35, b34, b7⟩ := core_b hh hM1 cR
  have f1 := R_off2_ok (y := 82) (by decide +kernel) hC1 hp1
  have cR1 := R_fr cR f1
  have rb1 : ∀ k, k < 80 → -128 ≤ z_m σ1 254 k ∧ z_m σ1 254 k ≤ 127 := fun k hk => by rw [o4]; exact rb k hk
  have hN : w_N w h n heat D := ⟨b1, b2, b7⟩
  have hI : w_inv n A 1073741824 := ⟨hok, b34.1, b35.1, b35.2⟩
  have hS := w_rd_b (G := u_nx (z_m σ 2) (z_m σ 1 1) 60) (u_nx_b r2) (z_m σ 1 1)
  rcases hW : w_rd (u_nx (z_m σ 2) (z_m σ 1 1) 60) (z_m σ 1 1) with ⟨x, j, l⟩
  rw [hW] at hS
  cases x with
  | true =>
    rcases hd : w_go w h n heat price cs D l A with ⟨d, B⟩
    exact ln_do hE1 hE2 ((W_win cC hN hI (by decide) r2 (u_gr_Rc hT) rfl hW hS.2 hd).imp fun _ h => ⟨_, h⟩) ((V_win cR1 hN hI (by decide) (by rw [e8]; exact r1) (by rw [e8]; exact r2) rb1 eG (by rw [e8]; exact hW) hS.2 hd).imp fun _ h => ⟨_, h⟩)
  | false =>
    refine ln_do (o := none) hE1 hE2 ((W_win_no r2 (u_gr_Rc hT) rfl hW hS.1).imp fun _ h => ⟨_, h⟩) ?_
    obtain ⟨m2, d1, -, d3⟩ := w_readq (z_m σ1) (by rw [e8]; exact r1) (by rw [e8]; exact r2) rb1 eG
    rw [e8, hW] at d3
    exact ⟨m2, _, d3 rfl, d1.of (by (repeat' (first | exact trivial | refine z_of_c ?_ ?_)) <;> omega)⟩
theorem two_share : l_two ln_Q (874, 132, 116, 1, false, 885, 135, 239) := by
  intro M1 M2 M3 σ σ1 σ2 as v1 v2 C1 C2 ρ1 ρ2 ha hR hh hM1 hC1 hp1 hE1 hC2 hp2 hE2
  obtain ⟨p, rfl⟩ := as_one ha
  have hE1 : z_R 116 (z_m σ, 0, [(2, 0), (0, p.toInt), (9, 0), (9, 0)], []) = some (z_m σ1, some (0, v1.toInt)) := z_R_iff.mpr hE1
  have hE2 : z_R 239 (z_m σ1, 0, [(2, 251), (0, p.toInt), (9, 0), (9, 0)], []) = some (z_m σ2, some (0, v2.toInt)) := z_R_iff.mpr hE2
  obtain ⟨w, h, n, heat, price, D, A, c, U, kn, KS, cs, cC, cR, cW⟩ := hR.2
  obtain ⟨⟨-, -, n5⟩, -⟩ := core_b hh hM1 cR
  have f1 := R_off2_ok (y := 116) (by decide +kernel) hC1 hp1
  have x1 := C_share cC n5 cW.2.1 hE1
  have x2 := R_share (R_fr cR f1) n5 hE2
  have e : v1 = v2 := Int32.toInt_inj.mp (x1.trans x2.symm)
  by_cases z : 0 ≤ v1.toInt
  · exact ⟨some 2, ln_ck_ok (y := 116) (p := 0) (k := 13) (x := 2) (by decide +kernel) hC1 z hp1, ln_ck_ok (y := 239) (p := 251) (k := 10) (x := 2) (by decide +kernel) hC2 (by rw [← e]; exact z) hp2⟩
  · exact ⟨none, congrArg (fun q : z_M => q 0 13) (W_share cC n5 cW.2.1 hE1 (by omega)), V_share (R_fr cR f1) n5 hE2 (by rw [← e]; omega)⟩
theorem two_thaw : l_two ln_Q (1092, 164, 138, 2, false, 1109, 167, 253) := by
  intro M1 M2 M3 σ σ1 σ2 as v1 v2 C1 C2 ρ1 ρ2 ha hR hh hM1 hC1 hp1 hE1 hC2 hp2 hE2
  obtain ⟨n, p, rfl⟩ := as_two ha
  have hE1 : z_R 138 (z_m σ, 0, [(2, 0), (0, n.toInt), (0, p.toInt)], []) = some (z_m σ1, some (0, v1.toInt)) := z_R_iff.mpr hE1
  have hE2 : z_R 253 (z_m σ1, 0, [(2, 251), (0, n.toInt), (0, p.toInt)], []) = some (z_m σ2, some (0, v2.toInt)) := z_R_iff.mpr hE2
  have e : v1 = v2 := Int32.toInt_inj.mp ((h_c hE1).trans (h_t hE2).symm)
  by_cases z : 0 ≤ v1.toInt
  · exact ⟨some 2, ln_ck_ok (y := 138) (p := 0) (k := 13) (x := 2) (by decide +kernel) hC1 z hp1, ln_ck_ok (y := 253) (p := 251) (k := 10) (x := 2) (by decide +kernel) hC2 (by rw [← e]; exact z) hp2⟩
  · exact ⟨none, congrArg (fun q : z_M => q 0 13) (W_thaw hE1 (by omega)), V_thaw hE2 (by rw [← e]; omega)⟩
theorem two_rests : l_two ln_Q (1036, 156, 135, 3, false, 1059, 159, 251) := by
  intro M1 M2 M3 σ σ1 σ2 as v1 v2 C1 C2 ρ1 ρ2 ha hR hh hM1 hC1 hp1 hE1 hC2 hp2 hE2
  obtain ⟨a, b, v, rfl⟩ := as_three ha
  have hE1 : z_R 135 (z_m σ, 0, [(2, 0), (0, a.toInt), (0, b.toInt), (0, v.toInt), (9, 0), (9, 0), (9, 0), (9, 0), (9, 0), (9, 0)], []) = some (z_m σ1, some (0, v1.toInt)) := z_R_iff.mpr hE1
  have hE2 : z_R 251 (z_m σ1, 0, [(2, 251), (0, a.toInt), (0, b.toInt), (0, v.toInt), (9, 0), (9, 0), (9, 0), (9, 0), (9, 0), (9, 0)], []) = some (z_m σ2, some (0, v2.toInt)) := z_R_iff.mpr hE2
  obtain ⟨w, h, n, heat, price, D, A, c, U, kn, KS, cs, cC, cR, cW⟩ := hR.2
  obtain ⟨b1, b2, -, -, hok, b35, -, b7⟩ := core_b hh hM1 cR
  have hN : w_N w h n heat D := ⟨b1, b2, b7⟩
  have f1 := R_off2_ok (y := 135) (by decide +kernel) hC1 hp1
  obtain ⟨m1, x1, x2⟩ := W_rests cC hN hok b35 cW.2.1 a.toInt b.toInt v.toInt
  rw [← s_mem (x1.symm.trans hE1)] at x2
  exact ⟨_, x2, V_rests (R_fr cR f1) hN hok b35 hE2⟩
