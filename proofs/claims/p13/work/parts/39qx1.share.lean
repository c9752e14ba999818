/-! share, water, of what both are in -/
def s_onlyV1 (q : a_K) : Bool := match q.2.1 with
  | .ireturn => false
  | .lreturn => false
  | .new _ => false
  | _ => true
def s_onlyV (y : Nat) : Bool := (kt_at y).all fun r => r.all s_onlyV1
theorem s_ex_tagV {y : Nat} (hk : s_onlyV y = true) : ∀ (f : Nat) (g : z_G) (r : z_Q), z_ex f y g = some r → r.2 = none := by
  intro f
  induction f with
  | zero => intro g r h; cases h
  | succ f ih =>
    intro g r h
    unfold z_ex at h
    split at h
    · cases h
    · rename_i q hq
      obtain ⟨⟨row, h1, h2⟩, -⟩ := k_get_in hq
      have hb := List.all_eq_true.mp (List.all_eq_true.mp hk row h1) q h2
      split at h
      · split at h
        · exact ih _ _ h
        · cases h
      · obtain ⟨m, pc, ls, st⟩ := g
        unfold z_ret at h
        unfold s_onlyV1 at hb
        simp only at h
        split at h
        · rw [← Option.some.inj h]
        · rename_i e; rw [e] at hb; cases hb
        · rename_i e; rw [e] at hb; cases hb
        · rename_i e; rw [e] at hb; cases hb
        · cases h
      · split at h
        · split at h
          · exact ih _ _ h
          · cases h
        · cases h
theorem s_tagV {y : Nat} (hk : s_onlyV y = true) {g : z_G} {r : z_Q} (h : z_R y g = some r) : r.2 = none := by
  obtain ⟨f, h⟩ := z_R_iff.mp h
  exact s_ex_tagV hk f g r h
def s_onlyI1 (q : a_K) : Bool := match q.2.1 with
  | .return_ => false
  | .lreturn => false
  | .new _ => false
  | _ => true
def s_onlyI (y : Nat) : Bool := (kt_at y).all fun r => r.all s_onlyI1
theorem s_ex_tagI {y : Nat} (hk : s_onlyI y = true) : ∀ (f : Nat) (g : z_G) (r : z_Q), z_ex f y g = some r → ∃ u, r.2 = some (0, u) := by
  intro f
  induction f with
  | zero => intro g r h; cases h
  | succ f ih =>
    intro g r h
    unfold z_ex at h
    split at h
    · cases h
    · rename_i q hq
      obtain ⟨⟨row, h1, h2⟩, -⟩ := k_get_in hq
      have hb := List.all_eq_true.mp (List.all_eq_true.mp hk row h1) q h2
      split at h
      · split at h
        · exact ih _ _ h
        · cases h
      · obtain ⟨m, pc, ls, st⟩ := g
        unfold z_ret at h
        unfold s_onlyI1 at hb
        simp only at h
        split at h
        · rename_i e; rw [e] at hb; cases hb
        · rename_i e; rw [e] at hb; cases hb
        · split at h
          · exact ⟨_, by rw [← Option.some.inj h]⟩
          · cases h
        · rename_i e; rw [e] at hb; cases hb
        · cases h
      · split at h
        · split at h
          · exact ih _ _ h
          · cases h
        · cases h
theorem s_tagI {y : Nat} (hk : s_onlyI y = true) {g : z_G} {r : z_Q} (h : z_R y g = some r) : ∃ u, r.2 = some (0, u) := by
  obtain ⟨f, h⟩ := z_R_iff.mp h
  exact s_ex_tagI hk f g r h
theorem s_val {m m' : z_M} {x v : Int} (h : some (m, some (0, x)) = (some (m', some (0, v)) : Option z_Q)) : v = x := (congrArg (fun z : z_Q => (z.2.getD (0, 0)).2) (Option.some.inj h)).symm
/-- behind a call that gives an int; that gives nothing -/
theorem s_bI {y y2 pc : Nat} (hk : s_onlyI y2 = true) {G : z_G} {ls : z_L} {rest : List z_V} {r : z_Q} (h : (z_R y2 G).bind (fun qq => z_R y (qq.1, pc, ls, qq.2.toList ++ rest)) = some r) : ∃ m u, z_R y (m, pc, ls, (0, u) :: rest) = some r := by
  obtain ⟨⟨m1, x1⟩, h1, h2⟩ := Option.bind_eq_some_iff.mp h
  obtain ⟨u, e⟩ := s_tagI hk h1
  simp only at e
  subst e
  exact ⟨m1, u, h2⟩
theorem s_bV {y y2 pc : Nat} (hk : s_onlyV y2 = true) {G : z_G} {ls : z_L} {rest : List z_V} {r : z_Q} (h : (z_R y2 G).bind (fun qq => z_R y (qq.1, pc, ls, qq.2.toList ++ rest)) = some r) : ∃ m, z_R y (m, pc, ls, rest) = some r := by
  obtain ⟨⟨m1, x1⟩, h1, h2⟩ := Option.bind_eq_some_iff.mp h
  have e := s_tagV hk h1
  simp only at e
  subst e
  exact ⟨m1, h2⟩
/-- share's answer -/
def x_A (n : Nat) (A : Nat → Int) (p : Int) : Int := if 0 ≤ p ∧ p < (n : Int) then (if A (p.toNat + 18) = -1 then -2 else 0) else -1
def x_s (A : Nat → Int) : Nat → Nat → Int → Int
  | 0, _, s => s
  | f + 1, x, s => x_s A f (x + 1) (z_add s (A x))
def x_w (A : Nat → Int) : Int := z_add (z_add (x_s A 9 0 0) (x_s (fun k => A (k + 9)) 9 0 0)) (A 33)
section
variable {w h n : Nat} {heat price : Int} {D A : Nat → Int} {c : Nat} {U : Nat → Nat → Int} {kn : Nat → Int} {KS : Nat → Nat → Int} {cs : List Int} {m : z_M}
theorem C_share (hi : C_is w h n heat price D A c U kn KS cs m) (h5 : n ≤ 5) (hw : wi w h n A) {p v : Int} {m' : z_M} (hE : z_R 116 (m, 0, [(2, 0), (0, p), (9, 0), (9, 0)], []) = some (m', some (0, v))) : v = x_A n A p := by
  rw [x_sha_0, hi.1.1, hi.1.2.1, hi.1.2.2.1] at hE
  unfold x_A
  by_cases c1 : 0 ≤ p ∧ p < (n : Int)
  · obtain ⟨q, rfl⟩ : ∃ q : Nat, p = (q : Int) := ⟨p.toNat, by omega⟩
    have e15 : m 15 q = A (q + 18) := C_A3 hi (by omega) h5
    rw [if_pos c1, if_pos (show 0 ≤ (q : Int) ∧ (q : Int) < 5 by omega), Int.toNat_natCast, e15] at hE
    rw [if_pos c1, Int.toNat_natCast]
    by_cases c2 : u_hs (w : Int) (h : Int) (A (q + 18)) = 0
    · rw [if_neg (not_not_intro c2)] at hE
      have z := (hw.1 q (by omega)).resolve_right (not_not_intro c2)
      rw [if_pos z]
      exact s_val hE
    · have z : ¬ A (q + 18) = -1 := fun z => by
        have := u_hs_rng c2
        omega
      rw [if_pos c2] at hE
      rw [if_neg z]
      obtain ⟨m1, u1, h1⟩ := s_bI (by decide +kernel) hE
      rw [x_sha_49] at h1
      obtain ⟨m2, u2, h2⟩ := s_bI (by decide +kernel) h1
      rw [x_sha_64] at h2
      obtain ⟨m3, u3, h3⟩ := s_bI (by decide +kernel) h2
      rw [x_sha_81] at h3
      obtain ⟨m4, h4⟩ := s_bV (by decide +kernel) h3
      rw [x_sha_85] at h4
      exact s_val h4
  · rw [if_neg c1] at hE ⊢
    exact s_val hE
theorem R_share (hi : R_is w h n heat price D A c U kn KS cs m) (h5 : n ≤ 5) {p v : Int} {m' : z_M} (hE : z_R 239 (m, 0, [(2, 251), (0, p), (9, 0), (9, 0)], []) = some (m', some (0, v))) : v = x_A n A p := by
  rw [x_tsh_0 m p (by rw [hi.1.2.2.1]; omega), hi.1.2.2.1] at hE
  unfold x_A
  by_cases c1 : 0 ≤ p ∧ p < (n : Int)
  · obtain ⟨q, rfl⟩ : ∃ q : Nat, p = (q : Int) := ⟨p.toNat, by omega⟩
    have e18 : m 252 (q + 18) = A (q + 18) := R_A hi (by omega) (a_vis_p (b := 18) (p := q) (by omega) (by omega) (by omega) (by omega))
    rw [if_pos c1, show ((q : Int) + 18).toNat = q + 18 by omega, e18] at hE
    rw [if_pos c1, Int.toNat_natCast]
    by_cases z : A (q + 18) = -1
    · rw [if_pos z] at hE ⊢
      exact s_val hE
    · rw [if_neg z] at hE ⊢
      obtain ⟨m1, u1, h1⟩ := s_bI (by decide +kernel) hE
      rw [x_tsh_48] at h1
      obtain ⟨m2, u2, h2⟩ := s_bI (by decide +kernel) h1
      rw [x_tsh_51] at h2
      by_cases c2 : u2 = 0
      · rw [if_pos c2] at h2
        obtain ⟨m3, h3⟩ := s_bV (by decide +kernel) h2
        rw [x_tsh_67] at h3
        exact s_val h3
      · rw [if_neg c2] at h2
        obtain ⟨m3, u3, h3⟩ := s_bI (by decide +kernel) h2
        rw [x_tsh_80] at h3
        obtain ⟨m4, u4, h4⟩ := s_bI (by decide +kernel) h3
        rw [x_tsh_90] at h4
        obtain ⟨m5, h6⟩ := s_bV (by decide +kernel) h4
        rw [x_tsh_97] at h6
        exact s_val h6
  · rw [if_neg c1] at hE ⊢
    exact s_val hE
theorem C_wat (hi : C_is w h n heat price D A c U kn KS cs m) (hw : wi w h n A) : ∀ (f x : Nat) (s t : Int), x + f = 9 → z_w s = s → z_w t = t → ∃ m', z_R 137 (m, 6, [(2, 0), (0, s), (0, t), (0, (x : Int))], []) = some (m', some (0, z_add (z_add (x_s A f x s) (x_s (fun k => A (k + 9)) f x t)) (A 33))) ∧ C_is w h n heat price D A c U kn KS cs m' := by
  have e33 : m 12 5 = A 33 := by
    rw [← hi.2.2.1]
    exact (cS_at0 (s := 12) (j := 5) (by decide)).symm
  intro f
  induction f with
  | zero =>
    intro x s t hx hs ht
    rw [x_wat_6, if_pos (by omega), c_tell3, zb_n, x_wat_69, c_told3 (by decide) (by decide), e33]
    exact ⟨_, rfl, C_tell3 hi _ _ _⟩
  | succ f ih =>
    intro x s t hx hs ht
    rw [x_wat_6, if_neg (by omega), hi.1.1, hi.1.2.1]
    show ∃ m', _ = some (m', some (0, z_add (z_add (x_s A f (x + 1) (z_add s (A x))) (x_s (fun k => A (k + 9)) f (x + 1) (z_add t (A (x + 9))))) (A 33))) ∧ _
    by_cases z : u_hs (w : Int) (h : Int) (x : Int) = 0
    · obtain ⟨z1, z2⟩ := hw.2.1 x (by omega) z
      rw [if_neg (not_not_intro z), z1, z2, z_add0 hs, z_add0 ht, z_add_eq (x := (x : Int)) (y := 1) (by omega) (by omega), tc1]
      exact ih (x + 1) s t (by omega) hs ht
    · have e13 : m 13 x = A x := by
        rw [← hi.2.2.1]
        exact (cS_at1 (s := 12) (by omega)).symm
      have e14 : m 14 x = A (x + 9) := by
        rw [← hi.2.2.1]
        exact (cS_at2 (s := 12) (by omega)).symm
      rw [if_pos z, Int.toNat_natCast, e13, e14, tc1]
      exact ih (x + 1) _ _ (by omega) (by rw [z_add_w]; exact z_w_w) (by rw [z_add_w]; exact z_w_w)
theorem C_water (hi : C_is w h n heat price D A c U kn KS cs m) (hw : wi w h n A) : ∃ m', z_R 137 (m, 0, [(2, 0), (9, 0), (9, 0), (9, 0)], []) = some (m', some (0, x_w A)) ∧ C_is w h n heat price D A c U kn KS cs m' := by
  rw [x_wat_0]
  exact C_wat hi hw 9 0 0 0 (by decide) (by decide +kernel) (by decide +kernel)
theorem R_wat (hi : R_is w h n heat price D A c U kn KS cs m) : ∀ (f x : Nat) (s t : Int), x + f = 9 → ∃ m', z_R 252 (m, 11, [(2, 251), (0, s), (0, t), (0, (x : Int))], []) = some (m', some (0, z_add (z_add (x_s A f x s) (x_s (fun k => A (k + 9)) f x t)) (A 33))) ∧ R_is w h n heat price D A c U kn KS cs m' := by
  have e33 : m 252 33 = A 33 := R_A hi (by decide) (a_vis_hi (by decide))
  intro f
  induction f with
  | zero =>
    intro x s t hx
    rw [x_twa_11, if_pos (by omega), t_tell0, zb_n, x_twa_55, t_tell1, zb_n, x_twa_61, t_tell2, zb_n, x_twa_73, t_told3 (by omega) (by omega), e33]
    exact ⟨_, rfl, R_upn (R_upn (R_upn (R_upn (R_upn (R_upn (R_upn hi (by decide)) (by decide)) (by decide)) (by decide)) (by decide)) (by decide)) (by decide)⟩
  | succ f ih =>
    intro x s t hx
    have e0 : m 252 x = A x := R_A hi (by omega) (a_vis_lo (by omega))
    have e9 : m 252 (x + 9) = A (x + 9) := R_A hi (by omega) (a_vis_lo (by omega))
    rw [x_twa_11, if_neg (by omega), if_pos (show 0 ≤ (x : Int) ∧ (x : Int) < 37 by omega), Int.toNat_natCast, show ((x : Int) + 9).toNat = x + 9 by omega, e0, e9, tc1]
    exact ih (x + 1) _ _ (by omega)
theorem R_water (hi : R_is w h n heat price D A c U kn KS cs m) : ∃ m', z_R 252 (m, 0, [(2, 251), (9, 0), (9, 0), (9, 0)], []) = some (m', some (0, x_w A)) ∧ R_is w h n heat price D A c U kn KS cs m' := by
  have hu := R_upn (p0 := 251) (k0 := 11) (v := 0) hi (by decide)
  rw [x_twa_0]
  exact R_wat hu 9 0 0 0 (by decide)
end
theorem core_share : l_rel2 Rel_C (874, 132, 116, 1, false, 885, 135, 239) := by
  intro M1 M2 M3 σ σ1 σ2 as v1 v2 C1 C2 ρ1 ρ2 ha hR hh hM1 hC1 hp1 hE1 hC2 hp2 hE2
  obtain ⟨p, rfl⟩ := as_one ha
  have hE1 : z_R 116 (z_m σ, 0, [(2, 0), (0, p.toInt), (9, 0), (9, 0)], []) = some (z_m σ1, some (0, v1.toInt)) := z_R_iff.mpr hE1
  have hE2 : z_R 239 (z_m σ1, 0, [(2, 251), (0, p.toInt), (9, 0), (9, 0)], []) = some (z_m σ2, some (0, v2.toInt)) := z_R_iff.mpr hE2
  have hT := T_two (y1 := 116) (y2 := 239) (by decide +kernel) (by decide +kernel) hC1 hC2 hp1 hp2 hR.1
  have hK := core_off_ok (y := 239) (by decide +kernel) hC2 hp2 (core_off_ok (y := 116) (by decide +kernel) hC1 hp1 hR.2)
  obtain ⟨w, h, n, heat, price, D, A, c, U, kn, KS, cs, cC, cR, cW⟩ := hR.2
  obtain ⟨⟨-, -, n5⟩, -⟩ := core_b hh hM1 cR
  have f1 := R_off2_ok (y := 116) (by decide +kernel) hC1 hp1
  have x1 := C_share cC n5 cW.2.1 hE1
  have x2 := R_share (R_fr cR f1) n5 hE2
  exact ⟨⟨hT, hK⟩, fun _ => Int32.toInt_inj.mp (x1.trans x2.symm)⟩
theorem core_water : l_rel2 Rel_C (1067, 160, 137, 0, false, 1072, 163, 252) := by
  intro M1 M2 M3 σ σ1 σ2 as v1 v2 C1 C2 ρ1 ρ2 ha hR hh hM1 hC1 hp1 hE1 hC2 hp2 hE2
  obtain rfl := as_nil ha
  have hE1 : z_R 137 (z_m σ, 0, [(2, 0), (9, 0), (9, 0), (9, 0)], []) = some (z_m σ1, some (0, v1.toInt)) := z_R_iff.mpr hE1
  have hE2 : z_R 252 (z_m σ1, 0, [(2, 251), (9, 0), (9, 0), (9, 0)], []) = some (z_m σ2, some (0, v2.toInt)) := z_R_iff.mpr hE2
  have hT := T_two (y1 := 137) (y2 := 252) (by decide +kernel) (by decide +kernel) hC1 hC2 hp1 hp2 hR.1
  obtain ⟨w, h, n, heat, price, D, A, c, U, kn, KS, cs, cC, cR, cW⟩ := hR.2
  have f1 := R_off2_ok (y := 137) (by decide +kernel) hC1 hp1
  have f2 := C_off_ok (y := 252) (by decide +kernel) hC2 hp2
  have cR1 := R_fr cR f1
  have z := core_do cR1 (fun q => C_fr q f2) (C_water cC cW.2.1) (fun q => R_water q) hE1 hE2
  exact ⟨⟨hT, Core_mk z.1.1 z.1.2 cW⟩, fun _ => z.2⟩
