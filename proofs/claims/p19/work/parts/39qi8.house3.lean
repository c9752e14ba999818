/-! house: the case -/
theorem wi_house {w h : Nat} {row : Nat → Int} {fr : Int} : wi w h 0 (u_hA (w : Int) (h : Int) row fr) := by
  refine ⟨fun p hp => absurd hp (Nat.not_lt_zero p), fun k hk hz => ⟨?_, ?_⟩, Or.inl ?_⟩
  · unfold u_hA
    rw [a_msk_at (a_vis_lo (by omega))]
    show (if k < 9 then (if u_hs (w : Int) (h : Int) (k : Int) = 0 then 0 else row k) else if k = 34 then -1 else if k = 36 then fr else 0) = 0
    rw [if_pos hk, if_pos hz]
  · unfold u_hA
    rw [a_msk_at (a_vis_lo (by omega))]
    show (if k + 9 < 9 then (if u_hs (w : Int) (h : Int) ((k + 9 : Nat) : Int) = 0 then 0 else row (k + 9)) else if k + 9 = 34 then -1 else if k + 9 = 36 then fr else 0) = 0
    rw [if_neg (by omega), if_neg (by omega), if_neg (by omega)]
  · unfold u_hA
    rw [a_msk_at (a_vis_hi (by decide))]
    show (if 34 < 9 then (if u_hs (w : Int) (h : Int) ((34 : Nat) : Int) = 0 then 0 else row 34) else if 34 = 34 then -1 else if 34 = 36 then fr else 0) = -1
    rw [if_neg (by decide), if_pos rfl]
theorem u_hou_s {g : Int → Int} {n : Int} : ∀ (f : Nat) (y w i : Int) (a : Nat → Int), 0 ≤ y → (u_hou g n f y w i a).1 = true → 1 ≤ (u_hou g n f y w i a).2.2.1 := by
  intro f
  induction f with
  | zero => intro y w i a h0 h; cases h
  | succ f ih =>
    intro y w i a h0 h
    unfold u_hou at h ⊢
    by_cases c1 : (u_sto g y 3 0 w i a).1 = false
    · rw [if_pos c1] at h; cases h
    rw [if_neg c1] at h ⊢
    by_cases c2 : n ≤ (u_sto g y 3 0 w i a).2.2.1
    · rw [if_pos c2]
      show 1 ≤ y + 1
      omega
    rw [if_neg c2] at h ⊢
    by_cases c3 : 3 ≤ y + 1
    · rw [if_pos c3] at h; cases h
    rw [if_neg c3] at h ⊢
    by_cases c4 : g (u_sto g y 3 0 w i a).2.2.1 = 47
    · rw [if_pos c4] at h ⊢
      exact ih _ _ _ _ (by omega) h
    · rw [if_neg c4] at h; cases h
theorem core_house : l_rel2 Rel_C (263, 36, 18, 0, false, 268, 40, 163) := by
  intro M1 M2 M3 σ σ1 σ2 as v1 v2 C1 C2 ρ1 ρ2 ha hR hh hM1 hC1 hp1 hE1 hC2 hp2 hE2
  obtain rfl := as_nil ha
  have hE1 : z_R 18 (z_m σ, 0, [(2, 0), (9, 0), (9, 0)], []) = some (z_m σ1, some (0, v1.toInt)) := z_R_iff.mpr hE1
  have hE2 : z_R 163 (z_m σ1, 0, [(2, 251), (9, 0), (9, 0), (9, 0), (9, 0), (9, 0)], []) = some (z_m σ2, some (0, v2.toInt)) := z_R_iff.mpr hE2
  obtain ⟨⟨hT, hv⟩, -⟩ := H_house M1 M2 M3 σ σ1 σ2 [] v1 v2 C1 C2 ρ1 ρ2 rfl hR.1 hh hC1 hp1 hE1 hC2 hp2 hE2
  have hT0 : u_R (z_m σ) := hR.1
  obtain ⟨r1, r2⟩ := z_rng hh (p := 1) (k := 1) (lo := 0) (hi := 80) (by decide) (by decide +kernel) (by decide +kernel)
  have rb : ∀ k, k < 80 → -128 ≤ z_m σ 254 k ∧ z_m σ 254 k ≤ 127 := fun k hk => z_rng hh (p := 254) (k := k) (lo := -128) (hi := 127) (by decide) (by rw [show h_ln 254 = 80 by decide +kernel]; exact hk) (h_ty_254 k)
  have o8 : z_m σ1 251 8 = z_m σ 251 8 := md_off_ok (y := 18) (by decide +kernel) hC1 hp1
  have o4 : z_m σ1 254 = z_m σ 254 := md_offr_ok (y := 18) (by decide +kernel) hC1 hp1
  have e8 : z_m σ1 251 8 = z_m σ 1 1 := o8.trans hT0.1.symm
  have eG : u_nx (u_t (z_m σ1)) (z_m σ1 251 8) 80 = u_nx (z_m σ 2) (z_m σ 1 1) 80 := by
    rw [u_nx_R hT0]
    unfold u_t
    rw [o8, o4]
  obtain ⟨w, h, n, heat, price, D, A, c, U, kn, KS, cs, cC, cR, cW⟩ := hR.2
  have f1 := R_off2_ok (y := 18) (by decide +kernel) hC1 hp1
  have f2 := C_off_ok (y := 163) (by decide +kernel) hC2 hp2
  have cR1 := R_fr cR f1
  have b := u_hou_b (u_nx_b r2) (n := z_m σ 1 1) 3 0 3 0 (z_m σ 9) (g := u_nx (z_m σ 2) (z_m σ 1 1) 80) (by decide) (by decide) (by decide) (by decide) (by decide) (by decide)
  have ee := u_hou_e (g := u_nx (z_m σ 2) (z_m σ 1 1) 80) (n := z_m σ 1 1) 3 0 3 0 (z_m σ 9) (z_m σ1 256)
  have er := u_hou_r (g := u_nx (z_m σ 2) (z_m σ 1 1) 80) (n := z_m σ 1 1) 3 0 3 0 (z_m σ 9) (z_m σ1 256) rfl (by decide)
  rw [show ((0 : Nat) : Int) = 0 from rfl] at er
  have hs := u_hou_s (g := u_nx (z_m σ 2) (z_m σ 1 1) 80) (n := z_m σ 1 1) 3 0 3 0 (z_m σ 9) (by decide)
  obtain ⟨m1, d1, d2, d3⟩ := C_house cC r1 r2 rfl
  obtain ⟨m2, g1, g2, g3⟩ := R_houseC cR1 (by rw [e8]; exact r1) (by rw [e8]; exact r2) (fun k hk => by rw [o4]; exact rb k hk) rfl
  rw [eG, e8] at g1 g2 g3
  generalize u_hou (u_nx (z_m σ 2) (z_m σ 1 1) 80) (z_m σ 1 1) 3 0 3 0 (z_m σ 9) = S at d1 d2 d3 b ee er hs
  generalize u_hou (u_nx (z_m σ 2) (z_m σ 1 1) 80) (z_m σ 1 1) 3 0 3 0 (z_m σ1 256) = S' at g1 g2 g3 ee er
  obtain ⟨b1, -⟩ := R_inj d1 hE1
  obtain ⟨b3, -⟩ := R_inj g1 hE2
  subst b1 b3
  obtain ⟨e1, e2, e3, -⟩ := ee
  refine ⟨⟨hT, ?_⟩, fun _ => hv⟩
  by_cases k : S.1 = true
  · obtain ⟨w1, h1, x1, x2, x3⟩ := d3 k
    obtain ⟨w2, h2, y1, y2, y3⟩ := g3 (e1.symm.trans k)
    obtain rfl : w2 = w1 := by omega
    obtain rfl : h2 = h1 := by omega
    have hw3 : w2 ≤ 3 := by omega
    have hh3 : h2 ≤ 3 := by omega
    rw [← u_hA_row (row := S.2.2.2.2) (row' := S'.2.2.2.2) (fun k' hk' hqx => er k k' (Or.inl ?_))] at y3
    · have hs1 := hs k
      exact Core_mk (hW := w_W_0 (by omega) wi_house (fun i hi => show ¬ ((-1 : Int) = ((0 : Nat) : Int)) by decide)) (C_fr x3 f2) y3
    · have hq' := u_hs_q hw3 hh3 (r := k') (by omega)
      cases hc : hq w2 h2 k' with
      | false => rw [hc, cond_false] at hq'; exact absurd hq' hqx
      | true =>
        obtain ⟨-, z1, z2⟩ := hq_t.mp hc
        exact ⟨k' / 3, k' % 3, Nat.zero_le _, by omega, by omega, by omega⟩
  · have k0 : S.1 = false := by cases hq : S.1 <;> simp_all
    exact Core_mk (C_fr (d2 k0) f2) (g2 (e1.symm.trans k0)) cW
