/-! drips, of what both are in -/
section
variable {w h n : Nat} {heat price : Int} {D A : Nat → Int} {c : Nat} {U : Nat → Nat → Int} {kn : Nat → Int} {KS : Nat → Nat → Int} {cs : List Int} {m : z_M}
theorem C_dri1 {x1 : Int} : ∀ (f x : Nat) (b : Int) (m : z_M), x + f = 9 → (b = -1 ∨ (0 ≤ b ∧ b < 9)) → C_is w h n heat price D A c U kn KS cs m → ∃ m1, z_R 94 (m, 21, [(2, 0), (0, x1), (0, b), (0, (x : Int))], []) = some (m1, some (0, z_sub (m 18 5) (m 12 5))) ∧ C_is w h n heat price D A c U kn KS cs m1 := by
  intro f
  induction f with
  | zero =>
    intro x b m hx hb hi
    rw [o_dri_21, if_pos (show (9 : Int) ≤ (x : Int) by omega)]
    by_cases c1 : b = -1
    · rw [if_pos c1, c_tell2, zb_n, o_dri_97]
      rw [c_told2 (p := 18) (k := 5) (by decide) (by decide), c_told2 (p := 12) (k := 5) (by decide) (by decide)]
      exact ⟨_, rfl, C_tell2 hi _ _⟩
    · rw [if_neg c1, if_pos (show 0 ≤ b ∧ b < 9 by omega), c_tell2, zb_n, o_dri_97]
      rw [c_told2 (p := 18) (k := 5) (by decide) (by decide), c_told2 (p := 12) (k := 5) (by decide) (by decide)]
      exact ⟨_, rfl, C_tell2 hi _ _⟩
  | succ f ih =>
    intro x b m hx hb hi
    rw [o_dri_21, if_neg (show ¬ (9 : Int) ≤ (x : Int) by omega), z_add_eq (x := (x : Int)) (y := 1) (by omega) (by omega), tc1]
    by_cases c1 : ¬ u_hs (m 3 8) (m 3 9) (x : Int) = 0
    · rw [if_pos c1]
      by_cases c2 : b = -1
      · rw [if_pos c2]; exact ih (x + 1) x m (by omega) (Or.inr (by omega)) hi
      · rw [if_neg c2, if_pos (show 0 ≤ b ∧ b < 9 by omega)]
        by_cases c3 : m 19 (x : Int).toNat ≤ m 19 b.toNat
        · rw [if_pos c3]; exact ih (x + 1) b m (by omega) hb hi
        · rw [if_neg c3]; exact ih (x + 1) x m (by omega) (Or.inr (by omega)) hi
    · rw [if_neg c1]; exact ih (x + 1) b m (by omega) hb hi
theorem R_dri1 {x1 : Int} : ∀ (f x : Nat) (b : Int) (m : z_M), x + f = 9 → (b = -1 ∨ (0 ≤ b ∧ b < 9)) → R_is w h n heat price D A c U kn KS cs m → ∃ m1, z_R 225 (m, 31, [(2, 251), (0, x1), (0, b), (0, (x : Int))], []) = some (m1, some (0, z_sub (m 264 33) (m 252 33))) ∧ R_is w h n heat price D A c U kn KS cs m1 := by
  intro f
  induction f with
  | zero =>
    intro x b m hx hb hi
    rw [o_tdr_31, if_pos (show (9 : Int) ≤ (x : Int) by omega), t_tell0, zb_n, o_tdr_84]
    by_cases c1 : b = -1
    · rw [if_pos c1, t_tell1, zb_n, o_tdr_104]
      rw [t_told2 (p := 264) (k := 33) (by decide) (by decide), t_told2 (p := 252) (k := 33) (by decide) (by decide)]
      exact ⟨_, rfl, R_upn (R_upn (R_upn (R_upn (R_upn hi (by decide)) (by decide)) (by decide)) (by decide)) (by decide)⟩
    · rw [if_neg c1, if_pos (show 0 ≤ b ∧ b < 37 by omega), t_tell1, zb_n, o_tdr_104]
      rw [t_told2 (p := 264) (k := 33) (by decide) (by decide), t_told2 (p := 252) (k := 33) (by decide) (by decide)]
      exact ⟨_, rfl, R_upn (R_upn (R_upn (R_upn (R_upn hi (by decide)) (by decide)) (by decide)) (by decide)) (by decide)⟩
  | succ f ih =>
    intro x b m hx hb hi
    rw [o_tdr_31, if_neg (show ¬ (9 : Int) ≤ (x : Int) by omega), z_add_eq (x := (x : Int)) (y := 1) (by omega) (by omega), tc1]
    by_cases c1 : ¬ u_hs (m 251 1) (m 251 2) (x : Int) = 0
    · rw [if_pos c1]
      by_cases c2 : b = -1
      · rw [if_pos c2]; exact ih (x + 1) x m (by omega) (Or.inr (by omega)) hi
      · rw [if_neg c2, if_pos (show 0 ≤ b ∧ b < 37 by omega)]
        by_cases c3 : m 264 (x : Int).toNat ≤ m 264 b.toNat
        · rw [if_pos c3]; exact ih (x + 1) b m (by omega) hb hi
        · rw [if_neg c3]; exact ih (x + 1) x m (by omega) (Or.inr (by omega)) hi
    · rw [if_neg c1]; exact ih (x + 1) b m (by omega) hb hi
def o_drips (w h n : Nat) (heat price : Int) (cs : List Int) (D A : Nat → Int) (a : Int) : Int := if ¬ (0 ≤ a ∧ a ≤ 100) then -1 else z_sub ((hr_R w h heat price cs D n a.toNat A).1 33) (A 33)
theorem C_drips (hi : C_is w h n heat price D A c U kn KS cs m) (hN : w_N w h n heat D) (hok : hr_ok n A) (ht : 0 ≤ A 35 ∧ A 35 ≤ 1073741824) (k6 : z_w (m 24 6) = m 24 6) (k9 : z_w (m 24 9) = m 24 9) (a : Int) : ∃ m1, z_R 94 (m, 0, [(2, 0), (0, a), (9, 0), (9, 0)], []) = some (m1, some (0, o_drips w h n heat price cs D A a)) ∧ C_is w h n heat price D A c U kn KS cs m1 := by
  rw [o_dri_0]
  by_cases c1 : a < 0
  · have e : o_drips w h n heat price cs D A a = -1 := if_pos (by omega)
    rw [if_pos c1, e]
    exact ⟨m, rfl, hi⟩
  rw [if_neg c1]
  by_cases c2 : a ≤ 100
  · have e : o_drips w h n heat price cs D A a = z_sub ((hr_R w h heat price cs D n a.toNat A).1 33) (A 33) := if_neg (by omega)
    obtain ⟨N, rfl⟩ : ∃ N : Nat, a = (N : Int) := ⟨a.toNat, by omega⟩
    rw [Int.toNat_natCast] at e
    obtain ⟨m1, d1, d2, d3, d4⟩ := C_la hi hN hok ht k6 k9 (N := N) (by omega)
    obtain ⟨m2, g1, g2⟩ := C_dri1 (x1 := (N : Int)) 9 0 (-1) m1 (by decide) (Or.inl rfl) d2
    have g1 : z_R 94 (m1, 21, [(2, 0), (0, (N : Int)), (0, -1), (0, 0)], []) = some (m2, some (0, z_sub (m1 18 5) (m1 12 5))) := g1
    have e33 : m1 12 5 = A 33 := by
      rw [← d2.2.2.1]
      exact cS_pondv.symm
    rw [if_pos c2, d1, zb_n, o_dri_17, g1, e, ← d3, cS_pondv, e33]
    exact ⟨m2, rfl, g2⟩
  · have e : o_drips w h n heat price cs D A a = -1 := if_pos (by omega)
    rw [if_neg c2, e]
    exact ⟨m, rfl, hi⟩
theorem R_drips (hi : R_is w h n heat price D A c U kn KS cs m) (hN : w_N w h n heat D) (hok : hr_ok n A) (ht : 0 ≤ A 35 ∧ A 35 ≤ 1073741824) (a : Int) : ∃ m1, z_R 225 (m, 0, [(2, 251), (0, a), (9, 0), (9, 0)], []) = some (m1, some (0, o_drips w h n heat price cs D A a)) ∧ R_is w h n heat price D A c U kn KS cs m1 := by
  have hu := R_upn (p0 := 251) (k0 := 11) (v := 0) hi (by decide)
  rw [o_tdr_0, R_isl]
  generalize z_up m 251 11 0 = m0 at hu ⊢
  by_cases c1 : 0 ≤ a ∧ a ≤ 100
  · have e : o_drips w h n heat price cs D A a = z_sub ((hr_R w h heat price cs D n a.toNat A).1 33) (A 33) := if_neg (not_not_intro c1)
    obtain ⟨N, rfl⟩ : ∃ N : Nat, a = (N : Int) := ⟨a.toNat, by omega⟩
    rw [Int.toNat_natCast] at e
    obtain ⟨m1, m2, d1, d2, d3, d4⟩ := R_la hu hN hok ht (N := N) (by omega)
    obtain ⟨m3, g1, g2⟩ := R_dri1 (x1 := (N : Int)) 9 0 (-1) m2 (by decide) (Or.inl rfl) d3
    have g1 : z_R 225 (m2, 31, [(2, 251), (0, (N : Int)), (0, -1), (0, 0)], []) = some (m3, some (0, z_sub (m2 264 33) (m2 252 33))) := g1
    have e1 : m2 264 33 = (hr_R w h heat price cs D n N A).1 33 := by
      rw [← d4]
      exact (rS_at (by decide) (a_vis_hi (by decide))).symm
    rw [if_pos c1, zb_v, o_tdr_9, if_neg (show ¬ (1 : Int) = 0 by decide), d1, zb_n, o_tdr_18, d2, zb_n, o_tdr_27, g1, e, e1, R_A d3 (k := 33) (by decide) (a_vis_hi (by decide))]
    exact ⟨m3, rfl, g2⟩
  · have e : o_drips w h n heat price cs D A a = -1 := if_pos c1
    rw [if_neg c1, zb_v, o_tdr_9, if_pos rfl, e]
    exact ⟨m0, rfl, hu⟩
end
theorem core_drips : l_rel2 Rel_C (748, 108, 94, 1, false, 759, 111, 225) := by
  intro M1 M2 M3 σ σ1 σ2 as v1 v2 C1 C2 ρ1 ρ2 ha hR hh hM1 hC1 hp1 hE1 hC2 hp2 hE2
  obtain ⟨a, rfl⟩ := as_one ha
  have hE1 : z_R 94 (z_m σ, 0, [(2, 0), (0, a.toInt), (9, 0), (9, 0)], []) = some (z_m σ1, some (0, v1.toInt)) := z_R_iff.mpr hE1
  have hE2 : z_R 225 (z_m σ1, 0, [(2, 251), (0, a.toInt), (9, 0), (9, 0)], []) = some (z_m σ2, some (0, v2.toInt)) := z_R_iff.mpr hE2
  have hT := T_two (y1 := 94) (y2 := 225) (by decide +kernel) (by decide +kernel) hC1 hC2 hp1 hp2 hR.1
  obtain ⟨w, h, n, heat, price, D, A, c, U, kn, KS, cs, cC, cR, cW⟩ := hR.2
  obtain ⟨b1, b2, -, -, hok, b35, -, b7⟩ := core_b hh hM1 cR
  have hN : w_N w h n heat D := ⟨b1, b2, b7⟩
  have kk := core_24 hh
  have f1 := R_off2_ok (y := 94) (by decide +kernel) hC1 hp1
  have f2 := C_off_ok (y := 225) (by decide +kernel) hC2 hp2
  have cR1 := R_fr cR f1
  have z := core_do cR1 (fun q => C_fr q f2) (C_drips cC hN hok b35 kk.1 kk.2 a.toInt) (fun q => R_drips q hN hok b35 a.toInt) hE1 hE2
  exact ⟨⟨hT, Core_mk z.1.1 z.1.2 cW⟩, fun _ => z.2⟩
