/-! quiet and season, where they are not compared -/
/-- what a call changes of the class is one cell of the course alone -/
noncomputable def C_off5 (y : Nat) : Bool := (cs_at y).all fun C => C.2.2.2.2.1.all fun q => !(C_hit q.1 q.2.1 q.2.2) || (Nat.beq q.1 24 && Nat.ble 5 q.2.1)
theorem C_off5_ok {y : Nat} (h : C_off5 y = true) {C : A_C} (hC : C ∈ cs_at y) {alts : List A_A} {T : Int} {ρ : List Int} {σ σ' : m_H} {r : Option Value} (hp : c_post alts C.2.2.2.2.1 T ρ σ r σ') : ∀ p k, C_hit p k k = true → ¬ (p = 24 ∧ k = 5) → z_m σ' p k = z_m σ p k := fun p k hk hn => by
  have e := (c_post_h hp).2 p k (fun ⟨q, q1, q2, q3, q4⟩ => by
    have := List.all_eq_true.mp (List.all_eq_true.mp h C hC) q q1
    rw [q2, C_hit_mono hk q3 q4] at this
    rcases Bool.or_eq_true _ _ |>.mp this with b | b
    · cases b
    · obtain ⟨b1, b2⟩ := Bool.and_eq_true _ _ |>.mp b
      have e1 := Nat.eq_of_beq_eq_true b1
      have e2 := Nat.le_of_ble_eq_true b2
      have hk' := hk
      unfold C_hit at hk'
      have hk' := of_decide_eq_true hk'
      omega)
  unfold z_m
  rw [e]
theorem core_quiet (h0 : ((836, 124, 110, 1, false, 847, 127, 233) : l_C).2.2.2.2.1 = false) : l_rel2 Rel_C (836, 124, 110, 1, false, 847, 127, 233) := by
  intro M1 M2 M3 σ σ1 σ2 as v1 v2 C1 C2 ρ1 ρ2 ha hR hh hM1 hC1 hp1 hE1 hC2 hp2 hE2
  obtain ⟨a, rfl⟩ := as_one ha
  have hE1 : z_R 110 (z_m σ, 0, [(2, 0), (0, a.toInt), (9, 0)], []) = some (z_m σ1, some (0, v1.toInt)) := z_R_iff.mpr hE1
  have hE2 : z_R 233 (z_m σ1, 0, [(2, 251), (0, a.toInt), (9, 0), (9, 0), (9, 0), (9, 0)], []) = some (z_m σ2, some (0, v2.toInt)) := z_R_iff.mpr hE2
  have hT := T_two (y1 := 110) (y2 := 233) (by decide +kernel) (by decide +kernel) hC1 hC2 hp1 hp2 hR.1
  obtain ⟨w, h, n, heat, price, D, A, c, U, kn, KS, cs, cC, cR, cW⟩ := hR.2
  obtain ⟨b1, b2, -, b4, hok, b35, -, -⟩ := core_b hh hM1 cR
  have f1 := R_off2_ok (y := 110) (by decide +kernel) hC1 hp1
  have f2 := C_off_ok (y := 233) (by decide +kernel) hC2 hp2
  have f3 := C_off5_ok (y := 110) (by decide +kernel) hC1 hp1
  have f4 := md_vr_ok (y := 110) (p := 24) (k := 5) (v := 0) (by decide +kernel) hC1 hp1
  have cR1 := R_fr cR f1
  have cC1 : C_is w h n heat price D A c U kn KS cs (z_m σ1) := by
    rcases q_cq _ _ _ _ hE1 with e | e
    · rw [e]; exact cC
    · exact C_frq cC (f4.resolve_right e) f3
  obtain ⟨m2, v, d1, d2⟩ := R_quiet b1 b2 b4 hok b35 cR1 a.toInt
  obtain ⟨e, -⟩ := R_inj d1 hE2
  subst e
  exact ⟨⟨hT, Core_mk (C_fr cC1 f2) d2 cW⟩, fun z => absurd (h0.symm.trans z) (by decide)⟩
theorem core_season : l_rel2 Rel_C (1166, 172, 144, 2, false, 1183, 175, 257) := by
  intro M1 M2 M3 σ σ1 σ2 as v1 v2 C1 C2 ρ1 ρ2 ha hR hh hM1 hC1 hp1 hE1 hC2 hp2 hE2
  obtain ⟨s, a, rfl⟩ := as_two ha
  have hE1 : z_R 144 (z_m σ, 0, [(2, 0), (0, s.toInt), (0, a.toInt), (9, 0), (9, 0)], []) = some (z_m σ1, some (0, v1.toInt)) := z_R_iff.mpr hE1
  have hE2 : z_R 257 (z_m σ1, 0, [(2, 251), (0, s.toInt), (0, a.toInt), (9, 0), (9, 0), (9, 0), (9, 0)], []) = some (z_m σ2, some (0, v2.toInt)) := z_R_iff.mpr hE2
  have hT := T_two (y1 := 144) (y2 := 257) (by decide +kernel) (by decide +kernel) hC1 hC2 hp1 hp2 hR.1
  obtain ⟨w, h, n, heat, price, D, A, c, U, kn, KS, cs, cC, cR, cW⟩ := hR.2
  obtain ⟨b1, b2, -, -, hok, b35, b34, b7⟩ := core_b hh hM1 cR
  have hN : w_N w h n heat D := ⟨b1, b2, b7⟩
  have f1 := R_off2_ok (y := 144) (by decide +kernel) hC1 hp1
  have f2 := C_off_ok (y := 257) (by decide +kernel) hC2 hp2
  have cR1 := R_fr cR f1
  have z := core_do cR1 (fun q => C_fr q f2) (C_season cC hN hok b34.1 b35 s.toInt a.toInt) (fun q => R_season q hN hok b34.1 b35 s.toInt a.toInt) hE1 hE2
  exact ⟨⟨hT, Core_mk z.1.1 z.1.2 cW⟩, fun _ => z.2⟩
