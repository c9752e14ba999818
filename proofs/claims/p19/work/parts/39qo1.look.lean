/-! HOURS TO COME: thick, drips, of what both are in -/
section
variable {w h n : Nat} {heat price : Int} {D A : Nat → Int} {c : Nat} {U : Nat → Nat → Int} {kn : Nat → Int} {KS : Nat → Nat → Int} {cs : List Int} {m : z_M}
theorem C_la (hi : C_is w h n heat price D A c U kn KS cs m) (hN : w_N w h n heat D) (hok : hr_ok n A) (ht : 0 ≤ A 35 ∧ A 35 ≤ 1073741824) (k6 : z_w (m 24 6) = m 24 6) (k9 : z_w (m 24 9) = m 24 9) {N : Nat} (hN6 : N ≤ 100) : ∃ m1, z_R 90 (m, 0, [(2, 0), (0, (N : Int))], []) = some (m1, none) ∧ C_is w h n heat price D A c U kn KS cs m1 ∧ cS m1 18 n = (hr_R w h heat price cs D n N A).1 ∧ m1 12 5 = m 12 5 := by
  obtain ⟨m2, b1, b2, b3⟩ := c_become z_st_12 z_st_18 (by decide) m
  have b1 : z_R 61 (m, 0, [(2, 18), (2, 12)], []) = some (m2, none) := b1
  have hC2 : C_is w h n heat price D A c U kn KS cs m2 := C_fr hi fun p k hk => by
    have hk' := hk
    unfold C_hit at hk'
    have hk' := of_decide_eq_true hk'
    exact b3.of (by (repeat' (first | exact trivial | refine z_of_c ?_ ?_)) <;> omega)
  have hA2 : cS m2 18 n = A := (cS_cR b2).trans hi.2.2.1
  have j6 : m2 24 6 = m 24 6 := b3.of (by (repeat' (first | exact trivial | refine z_of_c ?_ ?_)) <;> omega)
  have j9 : m2 24 9 = m 24 9 := b3.of (by (repeat' (first | exact trivial | refine z_of_c ?_ ?_)) <;> omega)
  obtain ⟨m3, c1, c2, c3⟩ := c_goOn z_st_18 hN.1.1 hN.1.2.1 (price := price) ⟨hN.1.2.2, hN.2.1, c_ml_ok cs, hN.2.2⟩ (N := N) (by omega) m2 (C_cfg hC2) hA2 hok ht.1 (by omega) (by rw [j6]; exact k6) (by rw [j9]; exact k9)
  have c1 : z_R 67 (m2, 0, [(2, 24), (2, 18), (0, (N : Int)), (9, 0)], []) = some (m3, none) := c1
  rw [o_la_0, b1, zb_n, o_la_11, c1, zb_n, o_la_23]
  refine ⟨m3, rfl, C_fr hC2 fun p k hk => ?_, (congrArg Prod.fst c2).trans (hr_H_1 N A _ _ _ _), (c3.of (by (repeat' (first | exact trivial | refine z_of_c ?_ ?_)) <;> omega)).trans (b3.of (by (repeat' (first | exact trivial | refine z_of_c ?_ ?_)) <;> omega))⟩
  have hk' := hk
  unfold C_hit at hk'
  have hk' := of_decide_eq_true hk'
  exact c3.of (by (repeat' (first | exact trivial | refine z_of_c ?_ ?_)) <;> omega)
theorem R_la (hi : R_is w h n heat price D A c U kn KS cs m) (hN : w_N w h n heat D) (hok : hr_ok n A) (ht : 0 ≤ A 35 ∧ A 35 ≤ 1073741824) {N : Nat} (hN6 : N ≤ 100) : ∃ m1 m2, z_R 219 (m, 0, [(2, 251)], []) = some (m1, none) ∧ z_R 207 (m1, 0, [(2, 251), (2, 264), (0, (N : Int)), (9, 0)], []) = some (m2, none) ∧ R_is w h n heat price D A c U kn KS cs m2 ∧ rS m2 264 n = (hr_R w h heat price cs D n N A).1 := by
  obtain ⟨m1, b1, b2, b3⟩ := R_lt hi
  obtain ⟨m2, c1, c2, c3⟩ := r_goHours z_A_264 (Or.inr rfl) hN.1.1 hN.1.2.1 (price := price) ⟨hN.1.2.2, hN.2.1, c_ml_ok cs, hN.2.2⟩ (N := N) (by omega) m1 (R_cfg b2) b3 hok ht.1 (by omega)
  have c1 : z_R 207 (m1, 0, [(2, 251), (2, 264), (0, (N : Int)), (9, 0)], []) = some (m2, none) := c1
  exact ⟨m1, m2, b1, c1, R_off264 b2 c3, (congrArg Prod.fst c2).trans (hr_H_1 N A _ _ _ _)⟩
theorem C_tell2 (hi : C_is w h n heat price D A c U kn KS cs m) (u1 u2 : Int) : C_is w h n heat price D A c U kn KS cs (z_up (z_up (z_up (z_up (z_up m 0 13 0) 250 0 u1) 0 13 1) 250 1 u2) 0 13 2) := C_upn (C_upn (C_upn (C_upn (C_upn hi (by decide)) (by decide)) (by decide)) (by decide)) (by decide)
/-- thick's answer -/
def o_thick (w h n : Nat) (heat price : Int) (cs : List Int) (D A : Nat → Int) (r a : Int) : Int := if ¬ (0 ≤ a ∧ a ≤ 100) then -2 else if u_hs (w : Int) (h : Int) r = 0 then -3 else (hr_R w h heat price cs D n a.toNat A).1 r.toNat
theorem C_thick (hi : C_is w h n heat price D A c U kn KS cs m) (hN : w_N w h n heat D) (hok : hr_ok n A) (ht : 0 ≤ A 35 ∧ A 35 ≤ 1073741824) (k6 : z_w (m 24 6) = m 24 6) (k9 : z_w (m 24 9) = m 24 9) (r a : Int) : ∃ m1, z_R 89 (m, 0, [(2, 0), (0, r), (0, a)], []) = some (m1, some (0, o_thick w h n heat price cs D A r a)) ∧ C_is w h n heat price D A c U kn KS cs m1 := by
  rw [o_thi_0, hi.1.1, hi.1.2.1]
  by_cases c1 : a < 0
  · have e : o_thick w h n heat price cs D A r a = -2 := if_pos (by omega)
    rw [if_pos c1, e]
    exact ⟨m, rfl, hi⟩
  rw [if_neg c1]
  by_cases c2 : a ≤ 100
  · rw [if_pos c2]
    by_cases c3 : u_hs (w : Int) (h : Int) r = 0
    · have e : o_thick w h n heat price cs D A r a = -3 := (if_neg (by omega)).trans (if_pos c3)
      rw [if_neg (not_not_intro c3), e]
      exact ⟨m, rfl, hi⟩
    · have e : o_thick w h n heat price cs D A r a = (hr_R w h heat price cs D n a.toNat A).1 r.toNat := (if_neg (by omega)).trans (if_neg c3)
      have hr := u_hs_rng c3
      obtain ⟨N, rfl⟩ : ∃ N : Nat, a = (N : Int) := ⟨a.toNat, by omega⟩
      rw [Int.toNat_natCast] at e
      obtain ⟨m1, d1, d2, d3, -⟩ := C_la hi hN hok ht k6 k9 (N := N) (by omega)
      rw [if_pos c3, d1, zb_n, o_thi_32, if_pos (show 0 ≤ r ∧ r < 9 from hr), c_tell2, zb_n, o_thi_54, if_pos (show 0 ≤ r ∧ r < 9 from hr), e]
      rw [c_told2 (by decide) (by decide), ← d3]
      rw [show m1 19 r.toNat = cS m1 18 n r.toNat from (cS_at1 (s := 18) (by omega)).symm]
      exact ⟨_, rfl, C_tell2 d2 _ _⟩
  · have e : o_thick w h n heat price cs D A r a = -2 := if_pos (by omega)
    rw [if_neg c2, e]
    exact ⟨m, rfl, hi⟩
theorem R_isl (m : z_M) (a : Int) : z_R 218 (m, 0, [(0, a)], []) = if 0 ≤ a ∧ a ≤ 100 then some (m, some (0, 1)) else some (m, some (0, 0)) := by
  rw [o_isl_0, t_ifin]
  by_cases z : 0 ≤ a ∧ a ≤ 100
  · rw [if_pos z, zb_v, o_isl_7]
  · rw [if_neg z, zb_v, o_isl_7]
theorem R_thick (hi : R_is w h n heat price D A c U kn KS cs m) (hN : w_N w h n heat D) (hok : hr_ok n A) (ht : 0 ≤ A 35 ∧ A 35 ≤ 1073741824) (r a : Int) : ∃ m1, z_R 217 (m, 0, [(2, 251), (0, r), (0, a)], []) = some (m1, some (0, o_thick w h n heat price cs D A r a)) ∧ R_is w h n heat price D A c U kn KS cs m1 := by
  have hu := R_upn (p0 := 251) (k0 := 11) (v := 0) hi (by decide)
  rw [o_tth_0, R_isl]
  generalize z_up m 251 11 0 = m0 at hu ⊢
  by_cases c1 : 0 ≤ a ∧ a ≤ 100
  · rw [if_pos c1, zb_v, o_tth_9, if_neg (show ¬ (1 : Int) = 0 by decide), hu.1.1, hu.1.2.1]
    by_cases c3 : u_hs (w : Int) (h : Int) r = 0
    · have e : o_thick w h n heat price cs D A r a = -3 := (if_neg (not_not_intro c1)).trans (if_pos c3)
      rw [if_neg (not_not_intro c3), e]
      exact ⟨m0, rfl, hu⟩
    · have e : o_thick w h n heat price cs D A r a = (hr_R w h heat price cs D n a.toNat A).1 r.toNat := (if_neg (not_not_intro c1)).trans (if_neg c3)
      have hr := u_hs_rng c3
      obtain ⟨N, rfl⟩ : ∃ N : Nat, a = (N : Int) := ⟨a.toNat, by omega⟩
      rw [Int.toNat_natCast] at e
      obtain ⟨m1, m2, d1, d2, d3, d4⟩ := R_la hu hN hok ht (N := N) (by omega)
      rw [if_pos c3, d1, zb_n, o_tth_30, d2, zb_n, o_tth_39, z_add_eq (by omega) (by omega), if_pos (show 0 ≤ 9 + r ∧ 9 + r < 37 by omega), t_tell0, zb_n, o_tth_58, t_tell1, zb_n, o_tth_70, if_pos (show 0 ≤ r ∧ r < 37 by omega), e]
      rw [t_told2 (by omega) (by omega), ← d4]
      rw [show m2 264 r.toNat = rS m2 264 n r.toNat from (rS_at (by omega) (a_vis_lo (by omega))).symm]
      exact ⟨_, rfl, R_upn (R_upn (R_upn (R_upn (R_upn d3 (by decide)) (by decide)) (by decide)) (by decide)) (by decide)⟩
  · have e : o_thick w h n heat price cs D A r a = -2 := if_pos c1
    rw [if_neg c1, zb_v, o_tth_9, if_pos rfl, e]
    exact ⟨m0, rfl, hu⟩
end
theorem core_24 {M1 : Int} {σ : m_H} (hh : h_ok M1 σ) : z_w (z_m σ 24 6) = z_m σ 24 6 ∧ z_w (z_m σ 24 9) = z_m σ 24 9 := by
  have r1 := z_rng hh (p := 24) (k := 6) (lo := -2147483648) (hi := 2147483647) (by decide) (by decide +kernel) (by decide +kernel)
  have r2 := z_rng hh (p := 24) (k := 9) (lo := -2147483648) (hi := 2147483647) (by decide) (by decide +kernel) (by decide +kernel)
  exact ⟨z_w_of r1.1 r1.2, z_w_of r2.1 r2.2⟩
theorem core_thick : l_rel2 Rel_C (704, 100, 89, 2, true, 720, 103, 217) := by
  intro M1 M2 M3 σ σ1 σ2 as v1 v2 C1 C2 ρ1 ρ2 ha hR hh hM1 hC1 hp1 hE1 hC2 hp2 hE2
  obtain ⟨r, a, rfl⟩ := as_two ha
  have hE1 : z_R 89 (z_m σ, 0, [(2, 0), (0, r.toInt), (0, a.toInt)], []) = some (z_m σ1, some (0, v1.toInt)) := z_R_iff.mpr hE1
  have hE2 : z_R 217 (z_m σ1, 0, [(2, 251), (0, r.toInt), (0, a.toInt)], []) = some (z_m σ2, some (0, v2.toInt)) := z_R_iff.mpr hE2
  have hT := T_two (y1 := 89) (y2 := 217) (by decide +kernel) (by decide +kernel) hC1 hC2 hp1 hp2 hR.1
  obtain ⟨w, h, n, heat, price, D, A, c, U, kn, KS, cs, cC, cR, cW⟩ := hR.2
  obtain ⟨b1, b2, -, -, hok, b35, -, b7⟩ := core_b hh hM1 cR
  have hN : w_N w h n heat D := ⟨b1, b2, b7⟩
  have kk := core_24 hh
  have f1 := R_off2_ok (y := 89) (by decide +kernel) hC1 hp1
  have f2 := C_off_ok (y := 217) (by decide +kernel) hC2 hp2
  have cR1 := R_fr cR f1
  have z := core_do cR1 (fun q => C_fr q f2) (C_thick cC hN hok b35 kk.1 kk.2 r.toInt a.toInt) (fun q => R_thick q hN hok b35 r.toInt a.toInt) hE1 hE2
  exact ⟨⟨hT, Core_mk z.1.1 z.1.2 cW⟩, fun _ => z.2⟩
