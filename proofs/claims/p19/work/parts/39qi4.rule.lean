/-! rule, of what both are in -/
theorem cds_le {B : Int} : ∀ {cs : List Int} {row : Nat → Int} {n : Nat}, cds row n cs → (∀ k, k < n + cs.length → row k ≤ B) → ∀ c ∈ cs, c ≤ B
  | [], _, _, _, _, c, hc => absurd hc List.not_mem_nil
  | x :: cs, row, n, h, hb, c, hc => by
    have hl : (x :: cs).length = cs.length + 1 := rfl
    rcases List.mem_cons.mp hc with rfl | hc
    · rw [← h.1]
      exact hb n (by omega)
    · exact cds_le h.2 (fun k hk => hb k (by omega)) c hc
theorem h_ty_259 (k : Nat) : h_ty 259 k = (0, -2147483648, 2147483647) := by
  unfold h_ty t_at
  rw [show (h_at 259).2.2 = [(0, -2147483648, 2147483647)] from rfl]
  show (match ([(0, -2147483648, 2147483647)] : List (Nat × Int × Int))[k % 1]? with | some t => t | none => (9, 0, 0)) = _
  rw [Nat.mod_one]
  rfl
theorem h_ty_5 (k : Nat) : h_ty 5 k = (0, -2147483648, 2147483647) := by
  unfold h_ty t_at
  rw [show (h_at 5).2.2 = [(0, -2147483648, 2147483647)] from rfl]
  show (match ([(0, -2147483648, 2147483647)] : List (Nat × Int × Int))[k % 1]? with | some t => t | none => (9, 0, 0)) = _
  rw [Nat.mod_one]
  rfl
theorem h_ty_258 (k : Nat) : h_ty 258 k = (0, -128, 127) := by
  unfold h_ty t_at
  rw [show (h_at 258).2.2 = [(0, -128, 127)] from rfl]
  show (match ([(0, -128, 127)] : List (Nat × Int × Int))[k % 1]? with | some t => t | none => (9, 0, 0)) = _
  rw [Nat.mod_one]
  rfl
theorem u_g255 {m : z_M} (h : u_R m) (i : Int) : -1 ≤ u_nx (m 2) (m 1 1) 40 i ∧ u_nx (m 2) (m 1 1) 40 i ≤ 255 := by
  unfold u_nx
  by_cases c : 0 ≤ i ∧ i < m 1 1 ∧ i < 40
  · rw [if_pos c, h.2 _ (by omega)]
    have e : z_and (m 254 i.toNat) 255 = (Int32.ofInt (m 254 i.toNat)).toInt % 256 := i32_and255 _
    omega
  · rw [if_neg c]; omega
theorem core_rule : l_rel2 Rel_C (289, 45, 39, 0, false, 294, 48, 175) := by
  intro M1 M2 M3 σ σ1 σ2 as v1 v2 C1 C2 ρ1 ρ2 ha hR hh hM1 hC1 hp1 hE1 hC2 hp2 hE2
  obtain rfl := as_nil ha
  have hE1 : z_R 39 (z_m σ, 0, [(2, 0), (9, 0)], []) = some (z_m σ1, some (0, v1.toInt)) := z_R_iff.mpr hE1
  have hE2 : z_R 175 (z_m σ1, 0, [(2, 251), (9, 0), (9, 0)], []) = some (z_m σ2, some (0, v2.toInt)) := z_R_iff.mpr hE2
  have hT : u_R (z_m σ) := hR.1
  have hz : Rel_T σ2 := u_R_zero ((md_off_ok (y := 175) (by decide +kernel) hC2 hp2).trans (r_rule0 _ hE1)) (md_zero_ok (y := 175) (by decide +kernel) hC2 hp2)
  obtain ⟨r1, r2⟩ := z_rng hh (p := 1) (k := 1) (lo := 0) (hi := 80) (by decide) (by decide +kernel) (by decide +kernel)
  have rb : ∀ k, k < 80 → -128 ≤ z_m σ 254 k ∧ z_m σ 254 k ≤ 127 := fun k hk => z_rng hh (p := 254) (k := k) (lo := -128) (hi := 127) (by decide) (by rw [show h_ln 254 = 80 by decide +kernel]; exact hk) (h_ty_254 k)
  have r259 : ∀ k, k < 7 → -2147483648 ≤ z_m σ 259 k ∧ z_m σ 259 k ≤ 2147483647 := fun k hk => z_rng hh (p := 259) (k := k) (lo := -2147483648) (hi := 2147483647) (by decide) (by rw [show h_ln 259 = 7 by decide +kernel]; exact hk) (h_ty_259 k)
  have r5 : ∀ k, k < 40 → z_m σ1 5 k ≤ 2147483647 := fun k hk => (z_rng (c_post_h hp1).1 (p := 5) (k := k) (lo := -2147483648) (hi := 2147483647) (by decide) (by rw [show h_ln 5 = 40 by decide +kernel]; exact hk) (h_ty_5 k)).2
  have r258 : ∀ k, k < 40 → -128 ≤ z_m σ2 258 k ∧ z_m σ2 258 k ≤ 127 := fun k hk => z_rng (c_post_h hp2).1 (p := 258) (k := k) (lo := -128) (hi := 127) (by decide) (by rw [show h_ln 258 = 40 by decide +kernel]; exact hk) (h_ty_258 k)
  have o8 : z_m σ1 251 8 = z_m σ 251 8 := md_off_ok (y := 39) (by decide +kernel) hC1 hp1
  have o4 : z_m σ1 254 = z_m σ 254 := md_offr_ok (y := 39) (by decide +kernel) hC1 hp1
  have o5 : z_m σ1 259 = z_m σ 259 := md_offr_ok (y := 39) (by decide +kernel) hC1 hp1
  have eG : u_nx (u_t (z_m σ1)) (z_m σ1 251 8) 40 = u_nx (z_m σ 2) (z_m σ 1 1) 40 := by
    rw [u_nx_R hT]
    unfold u_t
    rw [o8, o4]
  obtain ⟨w, h, n, heat, price, D, A, c, U, kn, KS, cs, cC, cR, cW⟩ := hR.2
  have f1 := R_off2_ok (y := 39) (by decide +kernel) hC1 hp1
  have f2 := C_off_ok (y := 175) (by decide +kernel) hC2 hp2
  have cR1 := R_fr cR f1
  obtain ⟨m1, d1, d2, d3, d4, d5⟩ := c_rule (z_m σ) r1 r2 (u_g255 hT)
  obtain ⟨m2, g1, g2, g3, g4, g5⟩ := r_rule (z_m σ1) (by rw [o8, ← hT.1]; exact r1) (by rw [o8, ← hT.1]; exact r2) (fun k hk => by rw [o4]; exact rb k hk) (fun k hk => by rw [o5]; exact r259 k hk)
  have e8 : z_m σ1 251 8 = z_m σ 1 1 := o8.trans hT.1.symm
  rw [eG, e8] at g1 g4 g5
  rw [e8] at g3
  have eU : ∀ m : z_M, (∀ k : Nat, (k : Int) < z_m σ 1 1 → m 258 k = z_m σ1 254 k) → u_nx (fun k => z_and (m 258 k) 255) (z_m σ 1 1) 40 = u_nx (z_m σ 2) (z_m σ 1 1) 40 := fun m hm => by
    rw [← eG, e8]
    funext i
    unfold u_nx u_t
    by_cases ci : 0 ≤ i ∧ i < z_m σ 1 1 ∧ i < 40
    · rw [if_pos ci, if_pos ci]
      show z_and (m 258 i.toNat) 255 = _
      rw [hm i.toNat (by omega)]
    · rw [if_neg ci, if_neg ci]
  generalize u_nx (z_m σ 2) (z_m σ 1 1) 40 = g at d1 d4 d5 g1 g4 g5 eU
  obtain ⟨b1, b2⟩ := R_inj d1 hE1
  obtain ⟨b3, b4⟩ := R_inj g1 hE2
  subst b1 b3
  have hv : v1 = v2 := Int32.toInt_inj.mp (b2.symm.trans b4)
  have hc : ∀ p k, C_hit p k k = true → ¬ p = 4 → ¬ p = 5 → z_m σ1 p k = z_m σ p k := fun p k hk h4 h5 => by
    have hk' := hk
    unfold C_hit at hk'
    have hk' := of_decide_eq_true hk'
    exact d2.of (by
      unfold c_RU
      (repeat' (first | exact trivial | refine z_of_c ?_ ?_)) <;> omega)
  have hr : ∀ p k, R_hit p k k = true → ¬ p = 258 → ¬ (p = 251 ∧ k = 20) → z_m σ2 p k = z_m σ1 p k := fun p k hk h4 h5 => by
    have hk' := hk
    unfold R_hit at hk'
    have hk' := of_decide_eq_true hk'
    exact g2.of (by
      unfold r_RU
      (repeat' (first | exact trivial | refine z_of_c ?_ ?_)) <;> omega)
  refine ⟨⟨hz, ?_⟩, fun _ => hv⟩
  by_cases z : z_m σ 1 1 = 0
  · obtain ⟨k1, k2, k3, k4⟩ := d3 z
    exact Core_mk (hW := cW) (C_fr (C_mkR (cs' := [1000, 2, 2047]) cC hc ⟨k1, by decide, by decide, k2, k3, k4, trivial⟩) f2) (R_mkR cR1 hr (Or.inl ⟨g3 z, rfl⟩))
  by_cases fit : (q_ex g 4 0).1 = true ∧ z_m σ 1 1 ≤ (q_ex g 4 0).2.1
  · obtain ⟨k1, k2⟩ := d4 z fit
    obtain ⟨l1, l2, l3⟩ := g4 z fit
    have hlen : (((q_ex g 4 0).2.2).length : Int) ≤ 40 := by
      have := z_rng (c_post_h hp1).1 (p := 4) (k := 3) (lo := 0) (hi := 40) (by decide) (by decide +kernel) (by decide +kernel)
      omega
    have eg := eU (z_m σ2) l3
    refine Core_mk (hW := cW) (C_fr (C_mkR (cs' := (q_ex g 4 0).2.2) cC hc ⟨k1, by omega, cds_le k2 (fun k hk => r5 k (by omega)), k2⟩) f2) (R_mkR cR1 hr (Or.inr ⟨by omega, by omega, r258, ?_, ?_⟩))
    · rw [l1, eg]; exact fit.1
    · rw [l1, eg]
  · obtain ⟨k1, k2⟩ := d5 z fit
    obtain ⟨l1, l2⟩ := g5 z fit
    have cC' := cC.2.2.2.2.2
    have cR' := cR1.2.2.2.2.2
    refine Core_mk (hW := cW) (C_fr (C_mkR (cs' := cs) cC hc (by rw [k1, k2]; exact cC')) f2) (R_mkR cR1 hr (by
      unfold r_ru
      rw [l1, l2]
      exact cR'))
