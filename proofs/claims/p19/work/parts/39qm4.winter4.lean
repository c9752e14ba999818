/-! WINTER: both, and the case -/
theorem rS_cp {m m' : z_M} {a b : Nat} {n : Int} (h : ∀ k, k < 37 → m' b k = m a k) : rS m' b n = rS m a n := by
  unfold rS
  congr 1
  funext k
  unfold rR
  exact z_ifc (fun hk => h k hk) (fun _ => rfl)
section
variable {w h n : Nat} {heat price : Int} {D A : Nat → Int} {c : Nat} {U : Nat → Nat → Int} {kn : Nat → Int} {KS : Nat → Nat → Int} {cs : List Int} {m : z_M}
theorem C_wtail (hi : C_is w h n heat price D A c U kn KS cs m) (x2 : Int) : ∃ m', z_R 82 (m, 89, [(2, 0), (0, 1), (0, x2)], []) = some (m', some (0, x2)) ∧ C_is w h n heat price D A c U kn KS cs m' := by
  rw [w_win_89]
  by_cases z : m 118 4 ≤ x2
  · rw [if_pos z, c_tell3, zb_n, w_win_125]
    exact ⟨_, rfl, C_tell3 hi _ _ _⟩
  · rw [if_neg z, c_tell3, zb_n, w_win_125]
    exact ⟨_, rfl, C_tell3 hi _ _ _⟩
theorem C_wtext (hi : C_is w h n heat price D A c U kn KS cs m) {m1 : z_M} (h1 : z_same w_L0 m m1) : C_is w h n heat price D A c U kn KS cs (z_up m1 1 1 0) := C_fr hi fun p k hk => by
  have hk' := hk
  unfold C_hit at hk'
  have hk' := of_decide_eq_true hk'
  rw [X_up (by omega)]
  exact h1.of (by (try unfold w_L0); (try unfold w_LQ); (repeat' (first | exact trivial | refine z_of_c ?_ ?_)) <;> omega)
theorem C_win_no (hi : C_is w h n heat price D A c U kn KS cs m) (h1 : m 1 1 ≤ 80) {G : Int → Int} (hr : u_gr G) (hG : u_nx (m 2) (m 1 1) 60 = G) {j : Int} {l : List (Int × Int × Int)} (hS : w_rd G (m 1 1) = (false, j, l)) (hj : 0 ≤ j ∧ j ≤ 80) : ∃ m1, z_R 82 (m, 0, [(2, 0), (9, 0), (9, 0)], []) = some (m1, some (0, -1 - j)) ∧ C_is w h n heat price D A c U kn KS cs m1 := by
  obtain ⟨m1, a1, a2, -, a4⟩ := w_readc m h1 hr hG
  rw [hS] at a1 a2
  have a1 : z_R 83 (m, 0, [(2, 118), (9, 0)], []) = some (m1, some (0, 0)) := a1
  have k12 : (z_up m1 1 1 0) 1 2 = j := (zu_k (by decide)).trans a2.2.1
  rw [w_win_0, a1, zb_v, w_win_7, s_empty_0, zb_n, w_win_15, if_pos (show (0 : Int) = 0 from rfl), k12, z_sub_eq (by omega) (by omega)]
  exact ⟨_, rfl, C_wtext hi a4⟩
theorem C_win {e : Int} (hi : C_is w h n heat price D A c U kn KS cs m) (hN : w_N w h n heat D) (hI : w_inv n A e) (he : e + 270 ≤ 2147483600) (h1 : m 1 1 ≤ 80) {G : Int → Int} (hr : u_gr G) (hG : u_nx (m 2) (m 1 1) 60 = G) {j : Int} {l : List (Int × Int × Int)} (hS : w_rd G (m 1 1) = (true, j, l)) (hl : (∀ a ∈ l, w_av a) ∧ l.length ≤ 30) {d : Nat} {B : Nat → Int} (hd : w_go w h n heat price cs D l A = (d, B)) : ∃ m1, z_R 82 (m, 0, [(2, 0), (9, 0), (9, 0)], []) = some (m1, some (0, (d : Int))) ∧ C_is w h n heat price D B (if d = 0 then c else c_inc c) (if d = 0 then U else u_cons A U) kn KS cs m1 := by
  obtain ⟨m1, a1, a2, a3, a4⟩ := w_readc m h1 hr hG
  rw [hS] at a1 a3
  have a1 : z_R 83 (m, 0, [(2, 118), (9, 0)], []) = some (m1, some (0, 1)) := a1
  obtain ⟨a5, a6⟩ := a3 rfl
  have a5 : m1 118 4 = (l.length : Int) := a5
  have a6 : w_cl m1 0 l := a6
  have hC0 := C_wtext hi a4
  have f0 : ∀ p k, ¬ p = 1 → (z_up m1 1 1 0) p k = m1 p k := fun p k hp => zu_p hp
  rw [w_win_0, a1, zb_v, w_win_7, s_empty_0, zb_n, w_win_15, if_neg (show ¬ (1 : Int) = 0 by decide)]
  generalize z_up m1 1 1 0 = m0 at hC0 f0 ⊢
  obtain ⟨m2, b1, b2, b3⟩ := c_become z_st_12 z_st_18 (by decide) m0
  have b1 : z_R 61 (m0, 0, [(2, 18), (2, 12)], []) = some (m2, none) := b1
  have hC2 : C_is w h n heat price D A c U kn KS cs m2 := C_fr hC0 fun p k hk => by
    have hk' := hk
    unfold C_hit at hk'
    have hk' := of_decide_eq_true hk'
    exact b3.of (by (try unfold w_L0); (try unfold w_LQ); (repeat' (first | exact trivial | refine z_of_c ?_ ?_)) <;> omega)
  have hA2 : cS m2 18 n = A := (cS_cR b2).trans hC0.2.2.1
  have hC3 : C_is w h n heat price D A c U kn KS cs (z_up (z_up (z_up (z_up m2 24 6 0) 24 7 0) 24 8 0) 24 9 0) := C_upn (C_upn (C_upn (C_upn hC2 (by decide)) (by decide)) (by decide)) (by decide)
  have k6 : (z_up (z_up (z_up (z_up m2 24 6 0) 24 7 0) 24 8 0) 24 9 0) 24 6 = 0 := by rw [zu_k (by decide), zu_k (by decide), zu_k (by decide), zu_self]
  have k9 : (z_up (z_up (z_up (z_up m2 24 6 0) 24 7 0) 24 8 0) 24 9 0) 24 9 = 0 := zu_self
  have f3 : ∀ p k, ¬ p = 24 → (z_up (z_up (z_up (z_up m2 24 6 0) 24 7 0) 24 8 0) 24 9 0) p k = m2 p k := fun p k hp => by rw [zu_p hp, zu_p hp, zu_p hp, zu_p hp]
  rw [b1, zb_n, w_win_40, s_cb_0, zb_n, w_win_47]
  generalize z_up (z_up (z_up (z_up m2 24 6 0) 24 7 0) 24 8 0) 24 9 0 = m3 at hC3 k6 k9 f3 ⊢
  have fr : ∀ p k, (118 ≤ p ∧ p ≤ 121) → m3 p k = m1 p k := fun p k hp => by
    rw [f3 p k (by omega), b3.of (p := p) (k := k) (by (try unfold w_L0); (try unfold w_LQ); (repeat' (first | exact trivial | refine z_of_c ?_ ?_)) <;> omega)]
    exact f0 p k (by omega)
  have hA3 : cS m3 18 n = A := by
    rw [cS_fr (fun j k hj _ => f3 (18 + j) k (by omega))]
    exact hA2
  obtain ⟨m4, c1, c2, c3⟩ := C_wgo hN l 0 A e m3 (by omega) (by omega) (by rw [fr 118 4 (by decide), a5, Nat.zero_add]) (w_cl_fr l 0 a6 (fun j => ⟨fr 119 j (by decide), fr 120 j (by decide), fr 121 j (by decide)⟩)) hl.1 hC3 hI (by rw [k6]; decide +kernel) (by rw [k9]; decide +kernel)
  rw [hd, Nat.zero_add] at c1
  rw [hd] at c2
  have c1 : z_R 82 (m3, 49, [(2, 0), (0, 1), (0, 0)], []) = z_R 82 (m4, 74, [(2, 0), (0, 1), (0, (d : Int))], []) := c1
  have c2 : C_is w h n heat price D B c U kn KS cs m4 := c2
  rw [c1, w_win_74]
  by_cases z : d = 0
  · rw [if_pos (show (d : Int) ≤ 0 by omega), ← w_win_89 m4 1 (d : Int), if_pos z, if_pos z]
    exact C_wtail c2 _
  · obtain ⟨m5, d1, d2, -⟩ := C_rem c2 (s := 18) (Or.inr rfl)
    have d1 : z_R 60 (m4, 0, [(2, 28), (2, 18)], []) = some (m5, none) := d1
    have hA4 : cS m4 18 n = A := by
      rw [cS_fr (fun j k hj _ => c3.of (p := 18 + j) (k := k) (by (try unfold w_L0); (try unfold w_LQ); (repeat' (first | exact trivial | refine z_of_c ?_ ?_)) <;> omega))]
      exact hA3
    rw [hA4] at d2
    rw [if_neg (show ¬ (d : Int) ≤ 0 by omega), d1, zb_n, if_neg z, if_neg z]
    exact C_wtail d2 _
/-! the reference -/
theorem R_wtail (hi : R_is w h n heat price D A c U kn KS cs m) (x1 x2 x3 : Int) : ∃ m', z_R 212 (m, 179, [(2, 251), (0, x1), (0, x2), (0, x3)], []) = some (m', some (0, x3)) ∧ R_is w h n heat price D A c U kn KS cs m' := by
  rw [v_win_179]
  by_cases z : x1 ≤ x3
  · rw [if_pos z, t_tell0, zb_n, v_win_198, t_tell1, zb_n, v_win_207, t_tell2, zb_n, v_win_216]
    exact ⟨_, rfl, R_upn (R_upn (R_upn (R_upn (R_upn (R_upn (R_upn hi (by decide)) (by decide)) (by decide)) (by decide)) (by decide)) (by decide)) (by decide)⟩
  · rw [if_neg z, t_tell0, zb_n, v_win_198, t_tell1, zb_n, v_win_207, t_tell2, zb_n, v_win_216]
    exact ⟨_, rfl, R_upn (R_upn (R_upn (R_upn (R_upn (R_upn (R_upn hi (by decide)) (by decide)) (by decide)) (by decide)) (by decide)) (by decide)) (by decide)⟩
theorem R_wtext (hi : R_is w h n heat price D A c U kn KS cs m) {m1 : z_M} (h1 : z_same w_LQ m m1) : R_is w h n heat price D A c U kn KS cs m1 := R_fr hi fun p k hk => by
  have hk' := hk
  unfold R_hit at hk'
  have hk' := of_decide_eq_true hk'
  exact h1.of (by (try unfold w_L0); (try unfold w_LQ); (repeat' (first | exact trivial | refine z_of_c ?_ ?_)) <;> omega)
theorem R_win {e : Int} (hi : R_is w h n heat price D A c U kn KS cs m) (hN : w_N w h n heat D) (hI : w_inv n A e) (he : e + 270 ≤ 2147483600) (h0 : 0 ≤ m 251 8) (h1 : m 251 8 ≤ 80) (hb : ∀ k, k < 80 → -128 ≤ m 254 k ∧ m 254 k ≤ 127) {G : Int → Int} (hG : u_nx (u_t m) (m 251 8) 60 = G) {j : Int} {l : List (Int × Int × Int)} (hS : w_rd G (m 251 8) = (true, j, l)) (hl : (∀ a ∈ l, w_av a) ∧ l.length ≤ 30) {d : Nat} {B : Nat → Int} (hd : w_go w h n heat price cs D l A = (d, B)) : ∃ m1, z_R 212 (m, 0, [(2, 251), (9, 0), (9, 0), (9, 0)], []) = some (m1, some (0, (d : Int))) ∧ R_is w h n heat price D B (if d = 0 then c else c_inc c) (if d = 0 then U else u_cons A U) kn KS cs m1 := by
  obtain ⟨m1, a1, a2, -⟩ := w_readq m h0 h1 hb hG
  rw [hS] at a2
  obtain ⟨a3, a4⟩ := a2 rfl
  have a3 : z_R 212 (m, 0, [(2, 251), (9, 0), (9, 0), (9, 0)], []) = z_R 212 (m1, 93, [(2, 251), (0, (l.length : Int)), (0, 0), (9, 0)], [(0, 1)]) := a3
  have a4 : w_rl m1 0 l := a4
  have hR1 := R_wtext hi a1
  obtain ⟨m2, b1, b2, b3⟩ := t_layd (a := 252) (q := 261) (B := 0) t_lay261_0 t_lay261_2 (by decide) (b := 0) (by decide) m1
  have b1 : z_R 198 (m1, 0, [(2, 252), (2, 261), (0, 0), (9, 0)], []) = some (m2, none) := b1
  have b2 : ∀ k, k < 37 → m2 261 k = m1 252 k := fun k hk => by
    have := b2 k hk
    rw [Nat.zero_add] at this
    exact this
  have hR2 : R_is w h n heat price D A c U kn KS cs m2 := R_fr hR1 fun p k hk => by
    have hk' := hk
    unfold R_hit at hk'
    have hk' := of_decide_eq_true hk'
    exact b3 p k (by omega)
  have hA2 : rS m2 261 n = A := (rS_cp b2).trans hR1.2.2.1
  have hR3 : R_is w h n heat price D A c U kn KS cs (z_up (z_up (z_up (z_up m2 251 32 0) 251 33 0) 251 34 0) 251 35 0) := R_upn (R_upn (R_upn (R_upn hR2 (by decide)) (by decide)) (by decide)) (by decide)
  have f3 : ∀ p k, ¬ p = 251 → (z_up (z_up (z_up (z_up m2 251 32 0) 251 33 0) 251 34 0) 251 35 0) p k = m2 p k := fun p k hp => by rw [zu_p hp, zu_p hp, zu_p hp, zu_p hp]
  rw [a3, v_win_93, if_neg (show ¬ (1 : Int) = 0 by decide), b1, zb_n, v_win_115, t_bh_0, zb_n, v_win_119]
  generalize z_up (z_up (z_up (z_up m2 251 32 0) 251 33 0) 251 34 0) 251 35 0 = m3 at hR3 f3 ⊢
  have hA3 : rS m3 261 n = A := by
    rw [rS_row (funext fun k => f3 261 k (by decide))]
    exact hA2
  obtain ⟨m4, c1, c2, c3⟩ := R_wgo (x1 := (l.length : Int)) hN l 0 A e m3 (by omega) (by omega) (by rw [Nat.zero_add]) (w_rl_fr l 0 a4 (fun j => (f3 263 j (by decide)).trans (b3 263 j (by omega)))) hl.1 hR3 hI
  rw [hd, Nat.zero_add] at c1
  rw [hd] at c2
  have c1 : z_R 212 (m3, 121, [(2, 251), (0, (l.length : Int)), (0, 0), (0, 0)], []) = z_R 212 (m4, 167, [(2, 251), (0, (l.length : Int)), (0, 0), (0, (d : Int))], []) := c1
  have c2 : R_is w h n heat price D B c U kn KS cs m4 := c2
  rw [c1, v_win_167]
  by_cases z : d = 0
  · rw [if_pos (show (d : Int) ≤ 0 by omega), ← v_win_179 m4 (l.length : Int) 0 (d : Int), if_pos z, if_pos z]
    exact R_wtail c2 _ _ _
  · obtain ⟨m5, d1, d2, -⟩ := R_rem c2 (a := 261) (Or.inr rfl)
    have d1 : z_R 197 (m4, 0, [(2, 251), (2, 261), (9, 0)], []) = some (m5, none) := d1
    have hA4 : rS m4 261 n = A := by
      rw [rS_row (c3.ofr (by (try unfold w_L0); (try unfold w_LQ); (repeat' (first | exact trivial | refine z_ofr_c ?_ ?_)) <;> omega))]
      exact hA3
    rw [hA4] at d2
    rw [if_neg (show ¬ (d : Int) ≤ 0 by omega), d1, zb_n, if_neg z, if_neg z]
    exact R_wtail d2 _ _ _
end
theorem w_rd_b {G : Int → Int} (hg : u_gb G) (N : Int) : (0 ≤ (w_rd G N).2.1 ∧ (w_rd G N).2.1 ≤ 80) ∧ (∀ a ∈ (w_rd G N).2.2, w_av a) ∧ (w_rd G N).2.2.length ≤ 30 := by
  unfold w_rd
  by_cases z : N ≤ 0
  · rw [if_pos z]
    exact ⟨⟨by decide, by decide⟩, fun a ha => absurd ha List.not_mem_nil, Nat.zero_le _⟩
  · rw [if_neg z]
    exact w_ls_b hg 30 0 (by decide) (by decide)
theorem wi_wdo {w h n : Nat} {heat price : Int} {cs : List Int} {D A : Nat → Int} (hN : w_N w h n heat D) (hi : wi w h n A) (a : Int × Int × Int) : wi w h n (w_do w h n heat price cs D a A).2 := by
  have n5 := hN.1.2.2
  unfold w_do
  by_cases c1 : a.1 = 104
  · rw [if_pos c1]
    exact wi_H hN.1.1 hN.1.2.1 n5 _ A 0 0 0 0 hi
  rw [if_neg c1]
  by_cases c2 : a.1 = 102
  · rw [if_pos c2]
    exact wi_off n5 hi (by decide) (by decide)
  rw [if_neg c2]
  by_cases c3 : a.1 = 109
  · rw [if_pos c3]
    by_cases c4 : (a.2.1 < (n : Int) ∧ ¬ u_hs (w : Int) (h : Int) a.2.2 = 0) ∧ ¬ A (a.2.1.toNat + 18) = a.2.2
    · rw [if_pos c4]
      exact wi_go n5 hi (Or.inr c4.1.2) (by omega)
    · rw [if_neg c4]
      exact hi
  rw [if_neg c3]
  by_cases c4 : (a.2.2 = -1 ∨ ¬ u_hs (w : Int) (h : Int) a.2.2 = 0) ∧ ¬ A 34 = a.2.2
  · rw [if_pos c4]
    exact wi_st hi n5 c4.1
  · rw [if_neg c4]
    exact hi
theorem wi_wgo {w h n : Nat} {heat price : Int} {cs : List Int} {D : Nat → Int} (hN : w_N w h n heat D) : ∀ (l : List (Int × Int × Int)) (A : Nat → Int), wi w h n A → wi w h n (w_go w h n heat price cs D l A).2 := by
  intro l
  induction l with
  | nil => intro A hi; exact hi
  | cons a l ih =>
    intro A hi
    have h1 := wi_wdo (price := price) (cs := cs) hN hi a
    unfold w_go
    by_cases c : (w_do w h n heat price cs D a A).1 = true
    · rw [if_pos c]
      exact ih _ h1
    · rw [if_neg c]
      exact h1
theorem core_winter : l_rel2 Rel_C (666, 92, 82, 0, false, 671, 95, 212) := by
  intro M1 M2 M3 σ σ1 σ2 as v1 v2 C1 C2 ρ1 ρ2 ha hR hh hM1 hC1 hp1 hE1 hC2 hp2 hE2
  obtain rfl := as_nil ha
  have hE1 : z_R 82 (z_m σ, 0, [(2, 0), (9, 0), (9, 0)], []) = some (z_m σ1, some (0, v1.toInt)) := z_R_iff.mpr hE1
  have hE2 : z_R 212 (z_m σ1, 0, [(2, 251), (9, 0), (9, 0), (9, 0)], []) = some (z_m σ2, some (0, v2.toInt)) := z_R_iff.mpr hE2
  have hz : Rel_T σ2 := u_R_zero ((md_off_ok (y := 212) (by decide +kernel) hC2 hp2).trans (md_zero_ok (y := 82) (by decide +kernel) hC1 hp1)) (md_zero_ok (y := 212) (by decide +kernel) hC2 hp2)
  have hT : u_R (z_m σ) := hR.1
  obtain ⟨r1, r2⟩ := z_rng hh (p := 1) (k := 1) (lo := 0) (hi := 80) (by decide) (by decide +kernel) (by decide +kernel)
  have rb : ∀ k, k < 80 → -128 ≤ z_m σ 254 k ∧ z_m σ 254 k ≤ 127 := fun k hk => z_rng hh (p := 254) (k := k) (lo := -128) (hi := 127) (by decide) (by rw [show h_ln 254 = 80 by decide +kernel]; exact hk) (h_ty_254 k)
  have o8 : z_m σ1 251 8 = z_m σ 251 8 := md_off_ok (y := 82) (by decide +kernel) hC1 hp1
  have o4 : z_m σ1 254 = z_m σ 254 := md_offr_ok (y := 82) (by decide +kernel) hC1 hp1
  have e8 : z_m σ1 251 8 = z_m σ 1 1 := o8.trans hT.1.symm
  have eG : u_nx (u_t (z_m σ1)) (z_m σ1 251 8) 60 = u_nx (z_m σ 2) (z_m σ 1 1) 60 := by
    rw [u_nx_R hT]
    unfold u_t
    rw [o8, o4]
  obtain ⟨w, h, n, heat, price, D, A, c, U, kn, KS, cs, cC, cR, cW⟩ := hR.2
  obtain ⟨b1, b2, -, -, hok, b35, b34, b7⟩ := core_b hh hM1 cR
  have f1 := R_off2_ok (y := 82) (by decide +kernel) hC1 hp1
  have f2 := C_off_ok (y := 212) (by decide +kernel) hC2 hp2
  have cR1 := R_fr cR f1
  have rb1 : ∀ k, k < 80 → -128 ≤ z_m σ1 254 k ∧ z_m σ1 254 k ≤ 127 := fun k hk => by rw [o4]; exact rb k hk
  have hN : w_N w h n heat D := ⟨b1, b2, b7⟩
  have hI : w_inv n A 1073741824 := ⟨hok, b34.1, b35.1, b35.2⟩
  have hS := w_rd_b (G := u_nx (z_m σ 2) (z_m σ 1 1) 60) (u_nx_b r2) (z_m σ 1 1)
  rcases hW : w_rd (u_nx (z_m σ 2) (z_m σ 1 1) 60) (z_m σ 1 1) with ⟨x, j, l⟩
  rw [hW] at hS
  cases x with
  | true =>
    rcases hd : w_go w h n heat price cs D l A with ⟨d, B⟩
    have hBw : wi w h n B := by
      have := wi_wgo (price := price) (cs := cs) hN l A cW.2.1
      rw [hd] at this
      exact this
    have z := core_do cR1 (fun q => C_fr q f2) (C_win cC hN hI (by decide) r2 (u_gr_Rc hT) rfl hW hS.2 hd) (fun q => R_win q hN hI (by decide) (by rw [e8]; exact r1) (by rw [e8]; exact r2) rb1 eG (by rw [e8]; exact hW) hS.2 hd) hE1 hE2
    exact ⟨⟨hz, Core_mk z.1.1 z.1.2 (w_W_if cW hBw)⟩, fun _ => z.2⟩
  | false =>
    have z := core_do cR1 (fun q => C_fr q f2) (C_win_no cC r2 (u_gr_Rc hT) rfl hW hS.1) (fun q => by
      obtain ⟨m2, d1, -, d3⟩ := w_readq (z_m σ1) (by rw [e8]; exact r1) (by rw [e8]; exact r2) rb1 eG
      rw [e8, hW] at d3
      exact ⟨m2, d3 rfl, R_wtext q d1⟩) hE1 hE2
    exact ⟨⟨hz, Core_mk z.1.1 z.1.2 cW⟩, fun _ => z.2⟩
