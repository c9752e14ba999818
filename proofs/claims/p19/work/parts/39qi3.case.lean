/-! THE CASES of what both are in -/
def Rel_C (σ : m_H) : Prop := Rel_T σ ∧ Core (z_m σ)
noncomputable def core_offb (y : Nat) : Bool := C_off y && R_off2 y
theorem core_off_ok {y : Nat} (h : core_offb y = true) {C : A_C} (hC : C ∈ cs_at y) {alts : List A_A} {T : Int} {ρ : List Int} {σ σ' : m_H} {r : Option Value} (hp : c_post alts C.2.2.2.2.1 T ρ σ r σ') (hK : Core (z_m σ)) : Core (z_m σ') := by
  obtain ⟨h1, h2⟩ := Bool.and_eq_true _ _ |>.mp h
  obtain ⟨w, h, n, heat, price, D, A, c, U, kn, KS, cs, a, b, cW⟩ := hK
  exact Core_mk (C_fr a (C_off_ok h1 hC hp)) (R_fr b (R_off2_ok h2 hC hp)) cW
theorem core_q {c : l_C} (h1 : l_rel2 Rel_T c) (h : (core_offb c.2.2.1 && core_offb c.2.2.2.2.2.2.2) = true) : l_rel2 Rel_C c := by
  obtain ⟨g1, g2⟩ := Bool.and_eq_true _ _ |>.mp h
  intro M1 M2 M3 σ σ1 σ2 as v1 v2 C1 C2 ρ1 ρ2 ha hR hh hM1 hC1 hp1 hE1 hC2 hp2 hE2
  have z := h1 M1 M2 M3 σ σ1 σ2 as v1 v2 C1 C2 ρ1 ρ2 ha hR.1 hh hM1 hC1 hp1 hE1 hC2 hp2 hE2
  exact ⟨⟨z.1, core_off_ok g2 hC2 hp2 (core_off_ok g1 hC1 hp1 hR.2)⟩, z.2⟩
theorem core_q3 {y n : Nat} (h1 : l_rel3 Rel_T y n) (h : core_offb y = true) : l_rel3 Rel_C y n := by
  intro M1 M2 M3 σ σ1 σ2 as v C2 ρ2 ha hR hh hM1 hf hh1 hC2 hp2 hE2
  have hz : ∀ p k, (¬ p = 6 ∧ ¬ p = 7 ∧ ¬ p = 278) → z_m σ1 p k = z_m σ p k := fun p k hp => by
    have e := hf p k (fun ⟨q, q1, q2, _⟩ => by
      simp only [List.mem_cons, List.not_mem_nil, or_false] at q1
      rcases q1 with rfl | rfl | rfl <;> simp only at q2 <;> omega)
    unfold z_m
    rw [e]
  refine ⟨h1 M1 M2 M3 σ σ1 σ2 as v C2 ρ2 ha hR.1 hh hM1 hf hh1 hC2 hp2 hE2, core_off_ok h hC2 hp2 ?_⟩
  obtain ⟨w, h, n, heat, price, D, A, c, U, kn, KS, cs, a, b, cW⟩ := hR.2
  refine Core_mk (C_fr a fun p k hk => hz p k ?_) (R_fr b fun p k hk => hz p k ?_) cW
  · refine ⟨fun z => ?_, fun z => ?_, fun z => ?_⟩ <;> (subst z; unfold C_hit at hk; have := of_decide_eq_true hk; omega)
  · refine ⟨fun z => ?_, fun z => ?_, fun z => ?_⟩ <;> (subst z; unfold R_hit at hk; have := of_decide_eq_true hk; omega)
/-- texts of a case whose calls leave them -/
theorem T_two {y1 y2 : Nat} (h1 : rel_offb y1 = true) (h2 : rel_offb y2 = true) {C1 C2 : A_C} (hC1 : C1 ∈ cs_at y1) (hC2 : C2 ∈ cs_at y2) {M2 M3 : Int} {ρ1 ρ2 : List Int} {σ σ1 σ2 : m_H} {r1 r2 : Option Value} (hp1 : c_post C1.2.2.2.2.2.2.2.1 C1.2.2.2.2.1 M2 ρ1 σ r1 σ1) (hp2 : c_post C2.2.2.2.2.2.2.2.1 C2.2.2.2.2.1 M3 ρ2 σ1 r2 σ2) (hR : Rel_T σ) : Rel_T σ2 := rel_offb_ok h2 hC2 hp2 (rel_offb_ok h1 hC1 hp1 hR)
theorem core_set : l_rel2 Rel_C (394, 58, 53, 2, false, 411, 61, 192) := by
  intro M1 M2 M3 σ σ1 σ2 as v1 v2 C1 C2 ρ1 ρ2 ha hR hh hM1 hC1 hp1 hE1 hC2 hp2 hE2
  obtain ⟨a, v, rfl⟩ := as_two ha
  have hE1 : z_R 53 (z_m σ, 0, [(2, 0), (0, a.toInt), (0, v.toInt), (9, 0)], []) = some (z_m σ1, some (0, v1.toInt)) := z_R_iff.mpr hE1
  have hE2 : z_R 192 (z_m σ1, 0, [(2, 251), (0, a.toInt), (0, v.toInt), (9, 0)], []) = some (z_m σ2, some (0, v2.toInt)) := z_R_iff.mpr hE2
  have hT := T_two (y1 := 53) (y2 := 192) (by decide +kernel) (by decide +kernel) hC1 hC2 hp1 hp2 hR.1
  obtain ⟨w, h, n, heat, price, D, A, c, U, kn, KS, cs, cC, cR, cW⟩ := hR.2
  have n5 := (core_b hh hM1 cR).1.2.2
  have f1 := R_off2_ok (y := 53) (by decide +kernel) hC1 hp1
  have f2 := C_off_ok (y := 192) (by decide +kernel) hC2 hp2
  have cR1 := R_fr cR f1
  by_cases ok : (0 ≤ a.toInt ∧ a.toInt ≤ 2) ∧ 0 ≤ v.toInt ∧ v.toInt ≤ 9
  · rcases (show a.toInt = 0 ∨ a.toInt = 1 ∨ a.toInt = 2 by omega) with e | e | e
    · rw [e] at hE1 hE2
      have z := core_do cR1 (fun q => C_fr q f2) (C_set0 cC v.toInt ok.2) (fun q => R_set0 q v.toInt ok.2) hE1 hE2
      exact ⟨⟨hT, Core_mk z.1.1 z.1.2 cW⟩, fun _ => z.2⟩
    · rw [e] at hE1 hE2
      have z := core_do cR1 (fun q => C_fr q f2) (C_set1 cC v.toInt ok.2) (fun q => R_set1 q v.toInt ok.2) hE1 hE2
      exact ⟨⟨hT, Core_mk z.1.1 z.1.2 (w_W_A cW (wi_off n5 cW.2.1 (by decide) (by decide)))⟩, fun _ => z.2⟩
    · rw [e] at hE1 hE2
      have z := core_do cR1 (fun q => C_fr q f2) (C_set2 cC v.toInt ok.2) (fun q => R_set2 q v.toInt ok.2) hE1 hE2
      exact ⟨⟨hT, Core_mk z.1.1 z.1.2 cW⟩, fun _ => z.2⟩
  · have z := core_do cR1 (fun q => C_fr q f2) ⟨_, C_set_no _ _ ok, cC⟩ (fun q => R_set_no q _ _ ok) hE1 hE2
    exact ⟨⟨hT, Core_mk z.1.1 z.1.2 cW⟩, fun _ => z.2⟩
theorem core_doing : l_rel2 Rel_C (437, 62, 54, 3, false, 460, 66, 193) := by
  intro M1 M2 M3 σ σ1 σ2 as v1 v2 C1 C2 ρ1 ρ2 ha hR hh hM1 hC1 hp1 hE1 hC2 hp2 hE2
  obtain ⟨p, k, v, rfl⟩ := as_three ha
  have hE1 : z_R 54 (z_m σ, 0, [(2, 0), (0, p.toInt), (0, k.toInt), (0, v.toInt), (9, 0)], []) = some (z_m σ1, some (0, v1.toInt)) := z_R_iff.mpr hE1
  have hE2 : z_R 193 (z_m σ1, 0, [(2, 251), (0, p.toInt), (0, k.toInt), (0, v.toInt), (9, 0)], []) = some (z_m σ2, some (0, v2.toInt)) := z_R_iff.mpr hE2
  have hT := T_two (y1 := 54) (y2 := 193) (by decide +kernel) (by decide +kernel) hC1 hC2 hp1 hp2 hR.1
  obtain ⟨w, h, n, heat, price, D, A, c, U, kn, KS, cs, cC, cR, cW⟩ := hR.2
  obtain ⟨⟨-, -, n5⟩, -⟩ := core_b hh hM1 cR
  have f1 := R_off2_ok (y := 54) (by decide +kernel) hC1 hp1
  have f2 := C_off_ok (y := 193) (by decide +kernel) hC2 hp2
  have cR1 := R_fr cR f1
  by_cases ok : (0 ≤ p.toInt ∧ p.toInt < (n : Int)) ∧ (0 ≤ k.toInt ∧ k.toInt ≤ 5) ∧ 0 ≤ v.toInt ∧ v.toInt ≤ 9
  · have z := core_do cR1 (fun q => C_fr q f2) (C_doing cC n5 _ _ _ ok.1 ok.2.1 ok.2.2) (fun q => R_doing q n5 _ _ _ ok.1 ok.2.1 ok.2.2) hE1 hE2
    exact ⟨⟨hT, Core_mk z.1.1 z.1.2 cW⟩, fun _ => z.2⟩
  · have z := core_do cR1 (fun q => C_fr q f2) ⟨_, C_doing_no cC n5 _ _ _ ok, cC⟩ (fun q => R_doing_no q n5 _ _ _ ok) hE1 hE2
    exact ⟨⟨hT, Core_mk z.1.1 z.1.2 cW⟩, fun _ => z.2⟩
theorem core_move : l_rel2 Rel_C (541, 72, 58, 2, false, 558, 75, 195) := by
  intro M1 M2 M3 σ σ1 σ2 as v1 v2 C1 C2 ρ1 ρ2 ha hR hh hM1 hC1 hp1 hE1 hC2 hp2 hE2
  obtain ⟨p, r, rfl⟩ := as_two ha
  have hE1 : z_R 58 (z_m σ, 0, [(2, 0), (0, p.toInt), (0, r.toInt), (9, 0)], []) = some (z_m σ1, some (0, v1.toInt)) := z_R_iff.mpr hE1
  have hE2 : z_R 195 (z_m σ1, 0, [(2, 251), (0, p.toInt), (0, r.toInt), (9, 0)], []) = some (z_m σ2, some (0, v2.toInt)) := z_R_iff.mpr hE2
  have hT := T_two (y1 := 58) (y2 := 195) (by decide +kernel) (by decide +kernel) hC1 hC2 hp1 hp2 hR.1
  obtain ⟨w, h, n, heat, price, D, A, c, U, kn, KS, cs, cC, cR, cW⟩ := hR.2
  obtain ⟨⟨-, -, n5⟩, -, -, -, hok, -⟩ := core_b hh hM1 cR
  have f1 := R_off2_ok (y := 58) (by decide +kernel) hC1 hp1
  have f2 := C_off_ok (y := 195) (by decide +kernel) hC2 hp2
  have cR1 := R_fr cR f1
  by_cases ok : (0 ≤ p.toInt ∧ p.toInt < (n : Int)) ∧ ¬ u_hs (w : Int) (h : Int) r.toInt = 0
  · obtain ⟨q, hq⟩ : ∃ q : Nat, p.toInt = (q : Int) := ⟨p.toInt.toNat, by omega⟩
    rw [hq] at hE1 hE2
    have hqn : q < n := by omega
    have hb := hok.2.2.1 q hqn
    by_cases e : A (q + 18) = r.toInt
    · have z := core_do cR1 (fun q => C_fr q f2) ⟨_, C_move_2 cC n5 hqn _ ok.2 e, cC⟩ (fun x => R_move_2 x n5 hqn _ ok.2 e) hE1 hE2
      exact ⟨⟨hT, Core_mk z.1.1 z.1.2 cW⟩, fun _ => z.2⟩
    · have z := core_do cR1 (fun q => C_fr q f2) (C_move cC n5 hqn _ ok.2 e hb.1) (fun x => R_move x n5 hqn _ ok.2 e) hE1 hE2
      exact ⟨⟨hT, Core_mk z.1.1 z.1.2 (w_W_do cW (wi_go n5 cW.2.1 (Or.inr ok.2) (by omega)))⟩, fun _ => z.2⟩
  · have z := core_do cR1 (fun q => C_fr q f2) ⟨_, C_move_no cC n5 _ _ ok, cC⟩ (fun q => R_move_no q n5 _ _ ok) hE1 hE2
    exact ⟨⟨hT, Core_mk z.1.1 z.1.2 cW⟩, fun _ => z.2⟩
theorem core_stove : l_rel2 Rel_C (572, 76, 62, 1, false, 583, 79, 201) := by
  intro M1 M2 M3 σ σ1 σ2 as v1 v2 C1 C2 ρ1 ρ2 ha hR hh hM1 hC1 hp1 hE1 hC2 hp2 hE2
  obtain ⟨r, rfl⟩ := as_one ha
  have hE1 : z_R 62 (z_m σ, 0, [(2, 0), (0, r.toInt), (9, 0)], []) = some (z_m σ1, some (0, v1.toInt)) := z_R_iff.mpr hE1
  have hE2 : z_R 201 (z_m σ1, 0, [(2, 251), (0, r.toInt), (9, 0)], []) = some (z_m σ2, some (0, v2.toInt)) := z_R_iff.mpr hE2
  have hT := T_two (y1 := 62) (y2 := 201) (by decide +kernel) (by decide +kernel) hC1 hC2 hp1 hp2 hR.1
  obtain ⟨w, h, n, heat, price, D, A, c, U, kn, KS, cs, cC, cR, cW⟩ := hR.2
  obtain ⟨⟨-, -, n5⟩, -, -, -, -, -, h34, -⟩ := core_b hh hM1 cR
  have f1 := R_off2_ok (y := 62) (by decide +kernel) hC1 hp1
  have f2 := C_off_ok (y := 201) (by decide +kernel) hC2 hp2
  have cR1 := R_fr cR f1
  generalize hx : (if r.toInt = -1 ∨ ¬ u_hs (w : Int) (h : Int) r.toInt = 0 then (if A 34 = r.toInt then -2 else u_was (A 34)) else -1) = x
  by_cases h0 : x < 0
  · have z := core_do cR1 (fun q => C_fr q f2) ⟨_, C_stove_no cC _ x hx h0, cC⟩ (fun q => R_stove_no q _ x hx h0 h34.1) hE1 hE2
    exact ⟨⟨hT, Core_mk z.1.1 z.1.2 cW⟩, fun _ => z.2⟩
  · have z := core_do cR1 (fun q => C_fr q f2) (C_stove cC _ x hx h0) (fun q => R_stove q _ x hx h0) hE1 hE2
    exact ⟨⟨hT, Core_mk z.1.1 z.1.2 (w_W_do cW (wi_st cW.2.1 n5 (Decidable.byContradiction fun y => h0 (by rw [← hx, if_neg y]; decide))))⟩, fun _ => z.2⟩
theorem core_hour : l_rel2 Rel_C (591, 80, 64, 0, false, 596, 83, 204) := by
  intro M1 M2 M3 σ σ1 σ2 as v1 v2 C1 C2 ρ1 ρ2 ha hR hh hM1 hC1 hp1 hE1 hC2 hp2 hE2
  obtain rfl := as_nil ha
  have hE1 : z_R 64 (z_m σ, 0, [(2, 0)], []) = some (z_m σ1, some (0, v1.toInt)) := z_R_iff.mpr hE1
  have hE2 : z_R 204 (z_m σ1, 0, [(2, 251)], []) = some (z_m σ2, some (0, v2.toInt)) := z_R_iff.mpr hE2
  have hT := T_two (y1 := 64) (y2 := 204) (by decide +kernel) (by decide +kernel) hC1 hC2 hp1 hp2 hR.1
  obtain ⟨w, h, n, heat, price, D, A, c, U, kn, KS, cs, cC, cR, cW⟩ := hR.2
  obtain ⟨b1, b2, -, -, hok, b35, -, b7⟩ := core_b hh hM1 cR
  have f1 := R_off2_ok (y := 64) (by decide +kernel) hC1 hp1
  have f2 := C_off_ok (y := 204) (by decide +kernel) hC2 hp2
  have cR1 := R_fr cR f1
  have z := core_do cR1 (fun q => C_fr q f2) (C_hour1 cC ⟨b1, b2, b7⟩ hok b35) (fun q => R_hour1 q ⟨b1, b2, b7⟩ hok b35) hE1 hE2
  exact ⟨⟨hT, Core_mk z.1.1 z.1.2 (w_W_do cW (wi_H b1.1 b1.2.1 b1.2.2 1 A 0 0 0 0 cW.2.1))⟩, fun _ => z.2⟩
theorem core_hours : l_rel2 Rel_C (610, 84, 80, 1, false, 621, 87, 205) := by
  intro M1 M2 M3 σ σ1 σ2 as v1 v2 C1 C2 ρ1 ρ2 ha hR hh hM1 hC1 hp1 hE1 hC2 hp2 hE2
  obtain ⟨a, rfl⟩ := as_one ha
  have hE1 : z_R 80 (z_m σ, 0, [(2, 0), (0, a.toInt)], []) = some (z_m σ1, some (0, v1.toInt)) := z_R_iff.mpr hE1
  have hE2 : z_R 205 (z_m σ1, 0, [(2, 251), (0, a.toInt)], []) = some (z_m σ2, some (0, v2.toInt)) := z_R_iff.mpr hE2
  have hT := T_two (y1 := 80) (y2 := 205) (by decide +kernel) (by decide +kernel) hC1 hC2 hp1 hp2 hR.1
  obtain ⟨w, h, n, heat, price, D, A, c, U, kn, KS, cs, cC, cR, cW⟩ := hR.2
  obtain ⟨b1, b2, -, -, hok, b35, -, b7⟩ := core_b hh hM1 cR
  have f1 := R_off2_ok (y := 80) (by decide +kernel) hC1 hp1
  have f2 := C_off_ok (y := 205) (by decide +kernel) hC2 hp2
  have cR1 := R_fr cR f1
  by_cases ok : 0 ≤ a.toInt ∧ a.toInt ≤ 60
  · obtain ⟨N, hN⟩ : ∃ N : Nat, a.toInt = (N : Int) := ⟨a.toInt.toNat, by omega⟩
    rw [hN] at hE1 hE2
    have z := core_do cR1 (fun q => C_fr q f2) (C_hours cC ⟨b1, b2, b7⟩ hok b35 (N := N) (by omega)) (fun q => R_lp q ⟨b1, b2, b7⟩ hok b35 (N := N) (by omega)) hE1 hE2
    exact ⟨⟨hT, Core_mk z.1.1 z.1.2 (w_W_if cW (wi_H b1.1 b1.2.1 b1.2.2 N A 0 0 0 0 cW.2.1))⟩, fun _ => z.2⟩
  · have z := core_do cR1 (fun q => C_fr q f2) ⟨_, C_hours_no _ ok, cC⟩ (fun q => R_hours_no q _ ok) hE1 hE2
    exact ⟨⟨hT, Core_mk z.1.1 z.1.2 cW⟩, fun _ => z.2⟩
theorem core_pay : l_rel2 Rel_C (641, 88, 81, 2, false, 658, 91, 211) := by
  intro M1 M2 M3 σ σ1 σ2 as v1 v2 C1 C2 ρ1 ρ2 ha hR hh hM1 hC1 hp1 hE1 hC2 hp2 hE2
  obtain ⟨p, v, rfl⟩ := as_two ha
  have hE1 : z_R 81 (z_m σ, 0, [(2, 0), (0, p.toInt), (0, v.toInt)], []) = some (z_m σ1, some (0, v1.toInt)) := z_R_iff.mpr hE1
  have hE2 : z_R 211 (z_m σ1, 0, [(2, 251), (0, p.toInt), (0, v.toInt)], []) = some (z_m σ2, some (0, v2.toInt)) := z_R_iff.mpr hE2
  have hT := T_two (y1 := 81) (y2 := 211) (by decide +kernel) (by decide +kernel) hC1 hC2 hp1 hp2 hR.1
  obtain ⟨w, h, n, heat, price, D, A, c, U, kn, KS, cs, cC, cR, cW⟩ := hR.2
  obtain ⟨⟨-, -, n5⟩, -⟩ := core_b hh hM1 cR
  have f1 := R_off2_ok (y := 81) (by decide +kernel) hC1 hp1
  have f2 := C_off_ok (y := 211) (by decide +kernel) hC2 hp2
  have cR1 := R_fr cR f1
  by_cases ok : (0 ≤ p.toInt ∧ p.toInt < (n : Int)) ∧ (1 ≤ v.toInt ∧ v.toInt ≤ 9999) ∧ v.toInt ≤ A (p.toInt.toNat + 23)
  · obtain ⟨q, hq⟩ : ∃ q : Nat, p.toInt = (q : Int) := ⟨p.toInt.toNat, by omega⟩
    rw [hq] at hE1 hE2 ok
    rw [Int.toNat_natCast] at ok
    have z := core_do cR1 (fun q => C_fr q f2) (C_pay cC n5 (by omega) _ ok.2.1 ok.2.2) (fun x => R_pay x n5 (by omega) _ ok.2.1 ok.2.2) hE1 hE2
    exact ⟨⟨hT, Core_mk z.1.1 z.1.2 (w_W_do cW (wi_off n5 cW.2.1 (by omega) (by omega)))⟩, fun _ => z.2⟩
  · have z := core_do cR1 (fun q => C_fr q f2) ⟨_, C_pay_no cC n5 _ _ ok, cC⟩ (fun q => R_pay_no q n5 _ _ ok) hE1 hE2
    exact ⟨⟨hT, Core_mk z.1.1 z.1.2 cW⟩, fun _ => z.2⟩
theorem core_undo : l_rel2 Rel_C (679, 96, 87, 0, false, 684, 99, 216) := by
  intro M1 M2 M3 σ σ1 σ2 as v1 v2 C1 C2 ρ1 ρ2 ha hR hh hM1 hC1 hp1 hE1 hC2 hp2 hE2
  obtain rfl := as_nil ha
  have hE1 : z_R 87 (z_m σ, 0, [(2, 0)], []) = some (z_m σ1, some (0, v1.toInt)) := z_R_iff.mpr hE1
  have hE2 : z_R 216 (z_m σ1, 0, [(2, 251), (9, 0)], []) = some (z_m σ2, some (0, v2.toInt)) := z_R_iff.mpr hE2
  have hT := T_two (y1 := 87) (y2 := 216) (by decide +kernel) (by decide +kernel) hC1 hC2 hp1 hp2 hR.1
  obtain ⟨w, h, n, heat, price, D, A, c, U, kn, KS, cs, cC, cR, cW⟩ := hR.2
  have f1 := R_off2_ok (y := 87) (by decide +kernel) hC1 hp1
  have f2 := C_off_ok (y := 216) (by decide +kernel) hC2 hp2
  have cR1 := R_fr cR f1
  cases hc : c with
  | zero =>
    have z := core_do cR1 (fun q => C_fr q f2) ⟨_, C_undo_no cC hc, cC⟩ (fun q => R_undo_no q hc) hE1 hE2
    exact ⟨⟨hT, Core_mk z.1.1 z.1.2 cW⟩, fun _ => z.2⟩
  | succ j =>
    have z := core_do cR1 (fun q => C_fr q f2) (C_undo cC hc) (fun q => R_undo q hc) hE1 hE2
    exact ⟨⟨hT, Core_mk z.1.1 z.1.2 (w_W_un hc cW)⟩, fun _ => z.2⟩
/-! as it begins -/
def V_ck (L : List (Nat × Nat × Nat × Int)) (σ : m_H) : Bool := L.all fun e => (List.range e.2.2.1).all fun j => match c_at σ e.1 (e.2.1 + j) with
  | some v => i_eq (z_vn v) e.2.2.2
  | none => false
theorem V_ck_ok {L : List (Nat × Nat × Nat × Int)} {σ : m_H} (h : V_ck L σ = true) : ∀ e ∈ L, ∀ j, j < e.2.2.1 → z_m σ e.1 (e.2.1 + j) = e.2.2.2 := fun e he j hj => by
  have := List.all_eq_true.mp (List.all_eq_true.mp h e he) j (List.mem_range.mpr hj)
  split at this
  · rename_i v e1
    unfold z_m
    rw [e1]
    exact i_eq_iff.mp this
  · cases this
def V_L : List (Nat × Nat × Nat × Int) := [(3, 8, 4, 0), (3, 12, 1, 5), (3, 13, 1, 1), (24, 4, 1, -1), (24, 5, 1, 0), (8, 0, 30, 0), (13, 0, 9, 0), (14, 0, 9, 0), (12, 5, 1, 0), (12, 6, 1, -1), (12, 7, 1, 0), (12, 8, 1, 2), (28, 3, 2, 0), (31, 0, 2, -1), (4, 3, 1, 3), (5, 0, 1, 1000), (5, 1, 1, 2), (5, 2, 1, 2047),
  (251, 1, 3, 0), (251, 5, 1, 5), (251, 6, 1, 1), (251, 23, 1, -1), (253, 0, 30, 0), (252, 0, 18, 0), (252, 33, 1, 0), (252, 34, 1, -1), (252, 35, 1, 0), (252, 36, 1, 2), (251, 25, 1, 0), (276, 0, 2, 0), (251, 20, 1, 0)]
theorem core_start : ∀ σ, xs_is σ → Rel_C σ := fun σ hx => ⟨R_start σ hx, by
  have V := V_ck_ok (xs_ck_ok (f := fun σ => V_ck V_L σ) (by decide +kernel) hx)
  generalize z_m σ = m at V
  have v : ∀ p k n x, (p, k, n, x) ∈ V_L → ∀ j, j < n → m p (k + j) = x := fun p k n x h j hj => V (p, k, n, x) h j hj
  have v1 : ∀ p k x, (p, k, 1, x) ∈ V_L → m p k = x := fun p k x h => v p k 1 x h 0 (by decide)
  have v0 : ∀ p n x, (p, 0, n, x) ∈ V_L → ∀ j, j < n → m p j = x := fun p n x h j hj => by
    have := v p 0 n x h j hj
    rw [Nat.zero_add] at this
    exact this
  have hm : ∀ r : Nat, r < 9 → (z_and (z_shr (m 3 10) (r : Int)) 1 = 0 ↔ u_hs ((0 : Nat) : Int) ((0 : Nat) : Int) (r : Int) = 0) := fun r hr => by
    have e : ∀ r, r < 9 → z_and (z_shr 0 ((r : Nat) : Int)) 1 = 0 ∧ u_hs ((0 : Nat) : Int) ((0 : Nat) : Int) (r : Int) = 0 := by decide +kernel
    rw [v 3 8 4 0 (by decide) 2 (by decide)]
    exact ⟨fun _ => (e r hr).2, fun _ => (e r hr).1⟩
  have hS : cS m 12 ((0 : Nat) : Int) = rS m 252 ((0 : Nat) : Int) := by
    funext k
    unfold cS rS a_msk
    by_cases hv : a_vis ((0 : Nat) : Int) k = true
    · rw [if_pos hv, if_pos hv]
      unfold cR rR
      by_cases h1 : k < 9
      · rw [if_pos h1, if_pos (by omega), v0 13 9 0 (by decide) k h1, v0 252 18 0 (by decide) k (by omega)]
      rw [if_neg h1]
      by_cases h2 : k < 18
      · rw [if_pos h2, if_pos (by omega), v0 14 9 0 (by decide) (k - 9) (by omega), v0 252 18 0 (by decide) k (by omega)]
      rw [if_neg h2]
      by_cases h3 : k < 33
      · unfold a_vis at hv
        rw [decide_eq_false h2, decide_eq_false (show ¬ 33 ≤ k by omega), decide_eq_false (show ¬ (((k - 18) % 5 : Nat) : Int) < ((0 : Nat) : Int) by omega)] at hv
        cases hv
      rw [if_neg (by omega), if_neg (by omega), if_neg h3]
      by_cases h4 : k < 37
      · rw [if_pos h4, if_pos h4]
        rcases (show k = 33 ∨ k = 34 ∨ k = 35 ∨ k = 36 by omega) with rfl | rfl | rfl | rfl
        · rw [v1 12 5 0 (by decide), v1 252 33 0 (by decide)]
        · rw [v1 12 6 (-1) (by decide), v1 252 34 (-1) (by decide)]
        · rw [v1 12 7 0 (by decide), v1 252 35 0 (by decide)]
        · rw [v1 12 8 2 (by decide), v1 252 36 2 (by decide)]
      · rw [if_neg h4, if_neg h4]
    · rw [if_neg hv, if_neg hv]
  have e28 : m 28 3 = 0 := v 28 3 2 0 (by decide) 0 (by decide)
  have e284 : m 28 4 = 0 := v 28 3 2 0 (by decide) 1 (by decide)
  refine Core_mk (hW := w_W_0 Iff.rfl ⟨fun p hp => absurd hp (Nat.not_lt_zero p), fun k hk _ => ⟨(rS_at (by omega) (a_vis_lo (by omega))).trans (v0 252 18 0 (by decide) k (by omega)), (rS_at (by omega) (a_vis_lo (by omega))).trans (v0 252 18 0 (by decide) (k + 9) (by omega))⟩, Or.inl ((rS_at (by decide) (a_vis_hi (by decide))).trans (v1 252 34 (-1) (by decide)))⟩ (fun i hi => show ¬ ((-1 : Int) = ((0 : Nat) : Int)) by decide)) (w := 0) (h := 0) (n := 0) (heat := 5) (price := 1) (D := fun _ => 0) (A := rS m 252 ((0 : Nat) : Int)) (c := 0) (U := fun _ _ => 0) (kn := fun _ => -1) (KS := fun _ _ => 0) (cs := [1000, 2, 2047]) ⟨⟨?_, ?_, ?_, ?_, ?_, hm, ?_, ?_⟩, fun j hj => v0 8 30 0 (by decide) j hj, hS, ⟨by omega, e284, by decide, fun i hi => absurd hi (Nat.not_lt_zero i)⟩, fun i hi => ⟨v0 31 2 (-1) (by decide) i hi, fun z => by cases z⟩, ?_, by decide, by decide, ?_⟩ ⟨⟨?_, ?_, ?_, ?_, ?_, ?_⟩, fun j hj => v0 253 30 0 (by decide) j hj, rfl, ⟨v1 251 25 0 (by decide), by decide, fun i hi => absurd hi (Nat.not_lt_zero i)⟩, fun i hi => ⟨Or.inl ⟨v0 276 2 0 (by decide) i hi, rfl⟩, fun z => by cases z⟩, Or.inl ⟨v1 251 20 0 (by decide), rfl⟩⟩
  · exact v 3 8 4 0 (by decide) 0 (by decide)
  · exact v 3 8 4 0 (by decide) 1 (by decide)
  · exact v 3 8 4 0 (by decide) 3 (by decide)
  · exact v1 3 12 5 (by decide)
  · exact v1 3 13 1 (by decide)
  · exact v1 24 4 (-1) (by decide)
  · exact v1 24 5 0 (by decide)
  · exact v1 4 3 3 (by decide)
  · exact ⟨v1 5 0 1000 (by decide), v1 5 1 2 (by decide), v1 5 2 2047 (by decide), trivial⟩
  · exact v 251 1 3 0 (by decide) 0 (by decide)
  · exact v 251 1 3 0 (by decide) 1 (by decide)
  · exact v 251 1 3 0 (by decide) 2 (by decide)
  · exact v1 251 5 5 (by decide)
  · exact v1 251 6 1 (by decide)
  · exact v1 251 23 (-1) (by decide)⟩
