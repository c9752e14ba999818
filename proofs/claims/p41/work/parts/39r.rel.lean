/-! WHAT IS KEPT: both texts alike, both are in one and the same, no code is left, the same numbers were told -/
def Rel_0 (σ : m_H) : Prop := Rel_W σ
theorem rel_start : ∀ σ, xs_is σ → Rel_0 σ := rw_start
theorem rel_offc {c : l_C} (h : ((core_offb c.2.2.1 && core_offb c.2.2.2.2.2.2.2) && (rel_offb c.2.2.1 && (rel_offb c.2.2.2.2.2.2.2 && !c.2.2.2.2.1))) = true) : l_rel2 Rel_C c := by
  obtain ⟨h1, h2⟩ := Bool.and_eq_true _ _ |>.mp h
  exact core_q (R_off h2) h1
theorem rel_off {c : l_C} (h : ((((core_offb c.2.2.1 && core_offb c.2.2.2.2.2.2.2) && (rel_offb c.2.2.1 && (rel_offb c.2.2.2.2.2.2.2 && !c.2.2.2.2.1))) && (lo_offb c.2.2.1 && lo_offb c.2.2.2.2.2.2.2)) && (rw_selfb c.2.2.1 c.2.2.2.2.2.2.2 && rw_offb c.2.2.1 c.2.2.2.2.2.2.2)) = true) : l_rel2 Rel_0 c := by
  obtain ⟨h0, h3⟩ := Bool.and_eq_true _ _ |>.mp h
  obtain ⟨h1, h2⟩ := Bool.and_eq_true _ _ |>.mp h0
  exact rw_q (lo_q (rel_offc h1) h2) h3
theorem rl_0 : l_rel2 Rel_0 (219, 26, 14, 1, false, 230, 30, 160) := rw_q (c := (219, 26, 14, 1, false, 230, 30, 160)) (lo_q (c := (219, 26, 14, 1, false, 230, 30, 160)) (core_q R_sign (by decide +kernel)) (by decide +kernel)) (by decide +kernel)
theorem rl_1 : l_rel2 Rel_0 (244, 31, 16, 1, false, 255, 35, 161) := rw_q (c := (244, 31, 16, 1, false, 255, 35, 161)) (lo_q (c := (244, 31, 16, 1, false, 255, 35, 161)) (core_q R_end (by decide +kernel)) (by decide +kernel)) (by decide +kernel)
theorem rl_2 : l_rel2 Rel_0 (263, 36, 18, 0, false, 268, 40, 163) := rw_q (c := (263, 36, 18, 0, false, 268, 40, 163)) (lo_q (c := (263, 36, 18, 0, false, 268, 40, 163)) (core_house) (by decide +kernel)) (by decide +kernel)
theorem rl_3 : l_rel2 Rel_0 (276, 41, 35, 0, false, 281, 44, 172) := rw_q (c := (276, 41, 35, 0, false, 281, 44, 172)) (lo_q (c := (276, 41, 35, 0, false, 281, 44, 172)) (core_people) (by decide +kernel)) (by decide +kernel)
theorem rl_4 : l_rel2 Rel_0 (289, 45, 39, 0, false, 294, 48, 175) := rw_q (c := (289, 45, 39, 0, false, 294, 48, 175)) (lo_q (c := (289, 45, 39, 0, false, 294, 48, 175)) (core_rule) (by decide +kernel)) (by decide +kernel)
theorem rl_7 : l_rel2 Rel_0 (394, 58, 53, 2, false, 411, 61, 192) := rw_q (c := (394, 58, 53, 2, false, 411, 61, 192)) (lo_q (c := (394, 58, 53, 2, false, 411, 61, 192)) (core_set) (by decide +kernel)) (by decide +kernel)
theorem rl_8 : l_rel2 Rel_0 (437, 62, 54, 3, false, 460, 66, 193) := rw_q (c := (437, 62, 54, 3, false, 460, 66, 193)) (lo_q (c := (437, 62, 54, 3, false, 460, 66, 193)) (core_doing) (by decide +kernel)) (by decide +kernel)
theorem rl_9 : l_rel2 Rel_0 (492, 67, 56, 4, false, 521, 71, 194) := rw_q (c := (492, 67, 56, 4, false, 521, 71, 194)) (lo_q (c := (492, 67, 56, 4, false, 521, 71, 194)) (core_sheet) (by decide +kernel)) (by decide +kernel)
theorem rl_10 : l_rel2 Rel_0 (541, 72, 58, 2, false, 558, 75, 195) := rw_q (c := (541, 72, 58, 2, false, 558, 75, 195)) (lo_q (c := (541, 72, 58, 2, false, 558, 75, 195)) (core_move) (by decide +kernel)) (by decide +kernel)
theorem rl_11 : l_rel2 Rel_0 (572, 76, 62, 1, false, 583, 79, 201) := rw_q (c := (572, 76, 62, 1, false, 583, 79, 201)) (lo_q (c := (572, 76, 62, 1, false, 583, 79, 201)) (core_stove) (by decide +kernel)) (by decide +kernel)
theorem rl_12 : l_rel2 Rel_0 (591, 80, 64, 0, false, 596, 83, 204) := rw_case (lo_q (c := (591, 80, 64, 0, false, 596, 83, 204)) (core_hour) (by decide +kernel)) (two_L two_hour) (by decide +kernel)
theorem rl_13 : l_rel2 Rel_0 (610, 84, 80, 1, false, 621, 87, 205) := rw_case (lo_q (c := (610, 84, 80, 1, false, 621, 87, 205)) (core_hours) (by decide +kernel)) (two_L two_hours) (by decide +kernel)
theorem rl_14 : l_rel2 Rel_0 (641, 88, 81, 2, false, 658, 91, 211) := rw_q (c := (641, 88, 81, 2, false, 658, 91, 211)) (lo_q (c := (641, 88, 81, 2, false, 658, 91, 211)) (core_pay) (by decide +kernel)) (by decide +kernel)
theorem rl_15 : l_rel2 Rel_0 (666, 92, 82, 0, false, 671, 95, 212) := rw_case (lo_q (c := (666, 92, 82, 0, false, 671, 95, 212)) (core_winter) (by decide +kernel)) (two_L tw2_winter) (by decide +kernel)
theorem rl_16 : l_rel2 Rel_0 (679, 96, 87, 0, false, 684, 99, 216) := rw_q (c := (679, 96, 87, 0, false, 684, 99, 216)) (lo_q (c := (679, 96, 87, 0, false, 684, 99, 216)) (core_undo) (by decide +kernel)) (by decide +kernel)
theorem rl_17 : l_rel2 Rel_0 (704, 100, 89, 2, false, 721, 103, 217) := rw_case (lo_q (c := (704, 100, 89, 2, false, 721, 103, 217)) (core_thick) (by decide +kernel)) (two_L two_thick) (by decide +kernel)
theorem rl_18 : l_rel2 Rel_0 (729, 104, 91, 0, false, 734, 107, 220) := rw_case (lo_q (c := (729, 104, 91, 0, false, 734, 107, 220)) (core_gives) (by decide +kernel)) (two_L two_gives) (by decide +kernel)
theorem rl_19 : l_rel2 Rel_0 (748, 108, 94, 1, false, 759, 111, 225) := rw_case (lo_q (c := (748, 108, 94, 1, false, 759, 111, 225)) (core_drips) (by decide +kernel)) (two_L two_drips) (by decide +kernel)
theorem rl_20 : l_rel2 Rel_0 (773, 112, 95, 1, false, 784, 115, 226) := rw_q (c := (773, 112, 95, 1, false, 784, 115, 226)) (lo_q (c := (773, 112, 95, 1, false, 784, 115, 226)) (core_coldest) (by decide +kernel)) (by decide +kernel)
theorem rl_21 : l_rel2 Rel_0 (798, 116, 98, 1, false, 809, 119, 227) := rw_case core_lodge tw2_lodge (by decide +kernel)
theorem rl_22 : l_rel2 Rel_0 (817, 120, 109, 0, false, 822, 123, 232) := rw_case (lo_longest (rel_offc (by decide +kernel))) tw2_longest (by decide +kernel)
theorem rl_23 : l_rel2 Rel_0 (836, 124, 110, 1, false, 847, 127, 233) := rw_case (lo_q (c := (836, 124, 110, 1, false, 847, 127, 233)) (core_quiet2) (by decide +kernel)) (two_L tw2_quiet) (by decide +kernel)
theorem rl_24 : l_rel2 Rel_0 (855, 128, 115, 0, false, 860, 131, 238) := rw_case (lo_q (c := (855, 128, 115, 0, false, 860, 131, 238)) (core_burden) (by decide +kernel)) (two_L two_burden) (by decide +kernel)
theorem rl_25 : l_rel2 Rel_0 (874, 132, 116, 1, false, 885, 135, 239) := rw_case (lo_q (c := (874, 132, 116, 1, false, 885, 135, 239)) (core_share) (by decide +kernel)) (two_L tw2_share) (by decide +kernel)
theorem rl_26 : l_rel2 Rel_0 (899, 136, 123, 1, false, 910, 139, 242) := rw_case (lo_q (c := (899, 136, 123, 1, false, 910, 139, 242)) (core_charges) (by decide +kernel)) (two_L two_charges) (by decide +kernel)
theorem rl_27 : l_rel2 Rel_0 (930, 140, 125, 2, false, 947, 143, 243) := rw_case (lo_q (c := (930, 140, 125, 2, false, 947, 143, 243)) (core_warm) (by decide +kernel)) (two_L two_warm) (by decide +kernel)
theorem rl_28 : l_rel2 Rel_0 (955, 144, 126, 0, false, 960, 147, 244) := rw_case (lo_q (c := (955, 144, 126, 0, false, 960, 147, 244)) (core_look) (by decide +kernel)) (two_L two_look) (by decide +kernel)
theorem rl_29 : l_rel2 Rel_0 (974, 148, 129, 1, false, 985, 151, 245) := rw_case (lo_q (c := (974, 148, 129, 1, false, 985, 151, 245)) (core_carry) (by decide +kernel)) (two_L tw2_carry) (by decide +kernel)
theorem rl_30 : l_rel2 Rel_0 (999, 152, 133, 1, false, 1010, 155, 249) := rw_case (lo_q (c := (999, 152, 133, 1, false, 1010, 155, 249)) (core_hearth) (by decide +kernel)) (two_L two_hearth) (by decide +kernel)
theorem rl_31 : l_rel2 Rel_0 (1036, 156, 135, 3, false, 1059, 159, 251) := rw_case (lo_q (c := (1036, 156, 135, 3, false, 1059, 159, 251)) (core_rests) (by decide +kernel)) (two_L tw2_rests) (by decide +kernel)
theorem rl_32 : l_rel2 Rel_0 (1067, 160, 137, 0, false, 1072, 163, 252) := rw_case (lo_q (c := (1067, 160, 137, 0, false, 1072, 163, 252)) (core_water) (by decide +kernel)) (two_L two_water) (by decide +kernel)
theorem rl_33 : l_rel2 Rel_0 (1092, 164, 138, 2, false, 1109, 167, 253) := rw_case (lo_q (c := (1092, 164, 138, 2, false, 1109, 167, 253)) (rel_offc (by decide +kernel)) (by decide +kernel)) (two_L tw2_thaw) (by decide +kernel)
theorem rl_34 : l_rel2 Rel_0 (1129, 168, 143, 2, false, 1146, 171, 256) := rw_q (c := (1129, 168, 143, 2, false, 1146, 171, 256)) (lo_q (c := (1129, 168, 143, 2, false, 1146, 171, 256)) (core_leave) (by decide +kernel)) (by decide +kernel)
theorem rl_35 : l_rel2 Rel_0 (1166, 172, 144, 2, false, 1183, 175, 257) := rw_case (lo_q (c := (1166, 172, 144, 2, false, 1183, 175, 257)) (core_season) (by decide +kernel)) (two_L tw2_season) (by decide +kernel)
theorem rl_36 : l_rel2 Rel_0 (1197, 176, 150, 1, false, 1208, 179, 258) := rw_q (c := (1197, 176, 150, 1, false, 1208, 179, 258)) (lo_q (c := (1197, 176, 150, 1, false, 1208, 179, 258)) (core_keep) (by decide +kernel)) (by decide +kernel)
theorem rl_37 : l_rel2 Rel_0 (1222, 180, 152, 1, false, 1233, 183, 259) := rw_q (c := (1222, 180, 152, 1, false, 1233, 183, 259)) (lo_q (c := (1222, 180, 152, 1, false, 1233, 183, 259)) (core_again) (by decide +kernel)) (by decide +kernel)
theorem rel_cases : ∀ c ∈ law_cs, l_rel2 Rel_0 c := by
  unfold law_cs
  refine List.forall_mem_cons.mpr ⟨rl_0, ?_⟩
  refine List.forall_mem_cons.mpr ⟨rl_1, ?_⟩
  refine List.forall_mem_cons.mpr ⟨rl_2, ?_⟩
  refine List.forall_mem_cons.mpr ⟨rl_3, ?_⟩
  refine List.forall_mem_cons.mpr ⟨rl_4, ?_⟩
  refine List.forall_mem_cons.mpr ⟨rl_7, ?_⟩
  refine List.forall_mem_cons.mpr ⟨rl_8, ?_⟩
  refine List.forall_mem_cons.mpr ⟨rl_9, ?_⟩
  refine List.forall_mem_cons.mpr ⟨rl_10, ?_⟩
  refine List.forall_mem_cons.mpr ⟨rl_11, ?_⟩
  refine List.forall_mem_cons.mpr ⟨rl_12, ?_⟩
  refine List.forall_mem_cons.mpr ⟨rl_13, ?_⟩
  refine List.forall_mem_cons.mpr ⟨rl_14, ?_⟩
  refine List.forall_mem_cons.mpr ⟨rl_15, ?_⟩
  refine List.forall_mem_cons.mpr ⟨rl_16, ?_⟩
  refine List.forall_mem_cons.mpr ⟨rl_17, ?_⟩
  refine List.forall_mem_cons.mpr ⟨rl_18, ?_⟩
  refine List.forall_mem_cons.mpr ⟨rl_19, ?_⟩
  refine List.forall_mem_cons.mpr ⟨rl_20, ?_⟩
  refine List.forall_mem_cons.mpr ⟨rl_21, ?_⟩
  refine List.forall_mem_cons.mpr ⟨rl_22, ?_⟩
  refine List.forall_mem_cons.mpr ⟨rl_23, ?_⟩
  refine List.forall_mem_cons.mpr ⟨rl_24, ?_⟩
  refine List.forall_mem_cons.mpr ⟨rl_25, ?_⟩
  refine List.forall_mem_cons.mpr ⟨rl_26, ?_⟩
  refine List.forall_mem_cons.mpr ⟨rl_27, ?_⟩
  refine List.forall_mem_cons.mpr ⟨rl_28, ?_⟩
  refine List.forall_mem_cons.mpr ⟨rl_29, ?_⟩
  refine List.forall_mem_cons.mpr ⟨rl_30, ?_⟩
  refine List.forall_mem_cons.mpr ⟨rl_31, ?_⟩
  refine List.forall_mem_cons.mpr ⟨rl_32, ?_⟩
  refine List.forall_mem_cons.mpr ⟨rl_33, ?_⟩
  refine List.forall_mem_cons.mpr ⟨rl_34, ?_⟩
  refine List.forall_mem_cons.mpr ⟨rl_35, ?_⟩
  refine List.forall_mem_cons.mpr ⟨rl_36, ?_⟩
  refine List.forall_mem_cons.mpr ⟨rl_37, ?_⟩
  refine List.forall_mem_cons.mpr ⟨rel_off (by decide +kernel), ?_⟩
  exact fun _ h => absurd h List.not_mem_nil
theorem rel_5 : l_rel3 Rel_0 181 2 := rw_q3 (lo_q3 (core_q3 (R3_off (by decide +kernel)) (by decide +kernel)) (by decide +kernel)) (by decide +kernel)
theorem rel_6 : l_rel3 Rel_0 190 2 := rw_q3 (lo_q3 (core_q3 (R3_off (by decide +kernel)) (by decide +kernel)) (by decide +kernel)) (by decide +kernel)
theorem rel_39 : l_rel3x Rel_0 158 1 261 262 1 := rw_row
