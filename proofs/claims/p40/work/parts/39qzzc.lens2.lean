section
/-! HOW MANY NUMBERS ARE TOLD by carry, lodge, longest -/
section
variable {w h n : Nat} {heat price : Int} {D A : Nat → Int} {c : Nat} {U : Nat → Nat → Int} {kn : Nat → Int} {KS : Nat → Nat → Int} {cs : List Int} {m : z_M}
def ro_car (A : Nat → Int) (a : Int) : Option Nat := if ¬ (1 ≤ a ∧ a ≤ 5) then none else if A 34 = -1 then none else some a.toNat
theorem W_cyadd {N : Nat} (hN5 : N ≤ 5) {l : Int} : ∀ (f x : Nat) (m : z_M), x + f = N → m 0 13 = (x : Int) → m 153 6 = l → C_is w h n heat price D A c U kn KS cs m → ∃ m1, z_R 129 (m, 44, [(2, 0), (0, (N : Int)), (0, (x : Int))], []) = some (m1, some (0, l)) ∧ m1 0 13 = (N : Int) := by
  intro f
  induction f with
  | zero =>
    intro x m hx h13 hl hi
    rw [cy_car_44, if_pos (by omega), hl]
    exact ⟨m, rfl, h13.trans (by omega)⟩
  | succ f ih =>
    intro x m hx h13 hl hi
    rw [cy_car_44, if_neg (by omega), if_pos (by omega), c_add (j := x) m _ (by omega) h13, zb_n, cy_car_63, z_add_eq (x := (x : Int)) (y := 1) (by omega) (by omega), tc1]
    exact ih (x + 1) _ (by omega) zu_self (by rw [zu_p (by decide), zu_p (by decide)]; exact hl) (C_upn (C_upn hi (by unfold C_hit; exact decide_eq_false (by omega))) (by decide))
theorem W_carry (hi : C_is w h n heat price D A c U kn KS cs m) (hN : w_N w h n heat D) (hok : hr_ok n A) (ht : 0 ≤ A 35 ∧ A 35 ≤ 1073741824) (hw : wi w h n A) (k9 : z_w (m 24 9) = m 24 9) (a : Int) : ∃ m1, z_R 129 (m, 0, [(2, 0), (0, a), (9, 0)], []) = some (m1, some (0, cy_A w h n heat price cs D A a)) ∧ c_ln m m1 (ro_car A a) := by
  have e34 : m 12 6 = A 34 := by
    rw [← hi.2.2.1]
    exact (cS_at0 (s := 12) (j := 6) (by decide)).symm
  rw [cy_car_0]
  by_cases c1 : a < 1
  · have e : cy_A w h n heat price cs D A a = -1 := if_pos (by omega)
    rw [if_pos c1, e]
    exact ⟨m, rfl, c_ln_n (if_pos (by omega))⟩
  rw [if_neg c1]
  by_cases c2 : a ≤ 5
  · rw [if_pos c2, e34]
    by_cases c3 : A 34 = -1
    · have e : cy_A w h n heat price cs D A a = -2 := (if_neg (by omega)).trans (if_pos c3)
      rw [if_pos c3, e]
      exact ⟨m, rfl, c_ln_n ((if_neg (by omega)).trans (if_pos c3))⟩
    · have e : cy_A w h n heat price cs D A a = (cy_G w h n heat price cs D a.toNat 0 A 0 (fun _ => 0) (1000000, fun _ => 0)).1 := (if_neg (by omega)).trans (if_neg c3)
      obtain ⟨N, rfl⟩ : ∃ N : Nat, a = (N : Int) := ⟨a.toNat, by omega⟩
      rw [Int.toNat_natCast] at e
      rw [if_neg c3, cy_sea_0, if_neg (show ¬ (5 : Int) < (N : Int) by omega)]
      have hi0 : C_is w h n heat price D A c U kn KS cs (z_up (z_up m 153 5 (N : Int)) 153 6 (-1)) := C_upn (C_upn hi (by decide)) (by decide)
      have g5 : (z_up (z_up m 153 5 (N : Int)) 153 6 (-1)) 153 5 = (N : Int) := by rw [zu_k (by decide), zu_self]
      have g6 : (z_up (z_up m 153 5 (N : Int)) 153 6 (-1)) 153 6 = -1 := zu_self
      have g9 : (z_up (z_up m 153 5 (N : Int)) 153 6 (-1)) 24 9 = m 24 9 := by rw [zu_p (by decide), zu_p (by decide)]
      generalize z_up (z_up m 153 5 (N : Int)) 153 6 (-1) = m0 at hi0 g5 g6 g9 ⊢
      obtain ⟨m3, b1, b2, b3⟩ := c_become z_st_12 (cy_zst (k := 0) (by decide)) (by decide) m0
      have b1 : z_R 61 (m0, 0, [(2, 157), (2, 12)], []) = some (m3, none) := b1
      have hi3 : C_is w h n heat price D A c U kn KS cs m3 := C_fr hi0 fun p k hk => by
        have hk' := hk
        unfold C_hit at hk'
        have hk' := of_decide_eq_true hk'
        exact b3.of (by (repeat' (first | exact trivial | refine z_of_c ?_ ?_)) <;> omega)
      have hv : cy_iC w h n heat price D A c U kn KS cs N (1000000, fun _ => 0) m3 := ⟨hi3, (b3.of (by (repeat' (first | exact trivial | refine z_of_c ?_ ?_)) <;> omega)).trans g5, ((b3.of (by (repeat' (first | exact trivial | refine z_of_c ?_ ?_)) <;> omega)).trans g6).trans (if_pos rfl).symm, ⟨by decide, by decide⟩, Or.inl rfl, by rw [show m3 24 9 = m0 24 9 from b3.of (by (repeat' (first | exact trivial | refine z_of_c ?_ ?_)) <;> omega), g9]; exact k9⟩
      have hQ : cy_Q w h n 0 A := ⟨hok, ⟨ht.1, by omega⟩, hw⟩
      obtain ⟨m4, d1, d2, -, -⟩ := cy_gf (N := N) (by omega) hN N 0 (by omega) 0 m3 A (fun _ => 0) (1000000, fun _ => 0) (by decide) (by decide) hv ((cS_cR b2).trans hi0.2.2.1) hQ (fun i hi => absurd hi (Nat.not_lt_zero i))
      have d1 : z_R 131 (m3, 0, [(2, 153), (0, 0), (0, 0), (9, 0), (9, 0), (9, 0), (9, 0), (9, 0)], []) = some (m4, none) := d1
      have hfin : (cy_G w h n heat price cs D N 0 A 0 (fun _ => 0) (1000000, fun _ => 0)).1 ≤ 0 + 891 * (N : Int) := cy_fin (cy_Q_ok (price := price) (cs := cs) hN) (cy_Q_ne hN) N 0 A 0 (fun _ => 0) (1000000, fun _ => 0) (by omega) hQ
      have e6 : m4 153 6 = (if (cy_G w h n heat price cs D N 0 A 0 (fun _ => 0) (1000000, fun _ => 0)).1 = 1000000 then -1 else (cy_G w h n heat price cs D N 0 A 0 (fun _ => 0) (1000000, fun _ => 0)).1) := d2.2.2.1
      rw [if_neg (show ¬ (cy_G w h n heat price cs D N 0 A 0 (fun _ => 0) (1000000, fun _ => 0)).1 = 1000000 from fun z => by
        rw [z] at hfin
        omega)] at e6
      rw [b1, zb_n, cy_sea_24, d1, zb_n, cy_sea_30, zb_n, cy_car_38, s_tell0_0, zb_n, cy_car_42, e]
      obtain ⟨m5, k1, k2⟩ := W_cyadd (N := N) (by omega) N 0 _ (by omega) zu_self ((zu_p (by decide)).trans e6) (C_upn d2.1 (by decide))
      refine ⟨m5, k1, c_ln_s ((if_neg (by omega)).trans (if_neg c3)) ?_⟩
      rw [Int.toNat_natCast]
      exact k2
  · have e : cy_A w h n heat price cs D A a = -1 := if_pos (by omega)
    rw [if_neg c2, e]
    exact ⟨m, rfl, c_ln_n (if_pos (by omega))⟩
theorem V_cytel {N : Nat} (hN5 : N ≤ 5) {l : Int} : ∀ (f x : Nat) (m : z_M), x + f = N → m 251 10 = (x : Int) → m 251 49 = l → R_is w h n heat price D A c U kn KS cs m → ∃ m1, z_R 245 (m, 55, [(2, 251), (0, (N : Int)), (0, (x : Int))], []) = some (m1, some (0, l)) ∧ m1 251 10 = (N : Int) := by
  intro f
  induction f with
  | zero =>
    intro x m hx h10 hl hi
    rw [cy_tca_55, if_pos (by omega), hl]
    exact ⟨m, rfl, h10.trans (by omega)⟩
  | succ f ih =>
    intro x m hx h10 hl hi
    rw [cy_tca_55, if_neg (by omega), if_pos (by omega), t_tell (j := x) m _ (by omega) h10, zb_n, cy_tca_71, z_add_eq (x := (x : Int)) (y := 1) (by omega) (by omega), tc1]
    exact ih (x + 1) _ (by omega) zu_self (by rw [zu_k (by decide), zu_p (by decide)]; exact hl) (R_upn (R_upn hi (by unfold R_hit; exact decide_eq_false (by omega))) (by decide))
theorem V_carry (hi : R_is w h n heat price D A c U kn KS cs m) (hN : w_N w h n heat D) (hok : hr_ok n A) (ht : 0 ≤ A 35 ∧ A 35 ≤ 1073741824) (hw : wi w h n A) (a : Int) : ∃ m1, z_R 245 (m, 0, [(2, 251), (0, a), (9, 0)], []) = some (m1, some (0, cy_A w h n heat price cs D A a)) ∧ r_ln m m1 (ro_car A a) := by
  have e34 : m 252 34 = A 34 := R_A hi (by decide) (a_vis_hi (by decide))
  have hu := R_upn (p0 := 251) (k0 := 11) (v := 0) hi (by decide)
  have hw0 : (z_up m 251 11 0) 251 10 = m 251 10 := zu_k (by decide)
  rw [cy_tca_0, e34]
  generalize z_up m 251 11 0 = m0 at hu hw0 ⊢
  by_cases c1 : 1 ≤ a ∧ a ≤ 5
  · rw [if_pos c1]
    by_cases c3 : A 34 = -1
    · have e : cy_A w h n heat price cs D A a = -2 := (if_neg (not_not_intro c1)).trans (if_pos c3)
      rw [if_pos c3, e]
      exact ⟨_, rfl, r_ln_n hw0 ((if_neg (not_not_intro c1)).trans (if_pos c3))⟩
    · have e : cy_A w h n heat price cs D A a = (cy_G w h n heat price cs D a.toNat 0 A 0 (fun _ => 0) (1000000, fun _ => 0)).1 := (if_neg (not_not_intro c1)).trans (if_neg c3)
      obtain ⟨N, rfl⟩ : ∃ N : Nat, a = (N : Int) := ⟨a.toNat, by omega⟩
      rw [Int.toNat_natCast] at e
      obtain ⟨m1, b1, b2, b3⟩ := R_lt hu
      have hQ : cy_Q w h n 0 A := ⟨hok, ⟨ht.1, by omega⟩, hw⟩
      have hv : cy_iR w h n heat price D A c U kn KS cs N (1000000, fun _ => 0) (z_up m1 251 49 1000000) := ⟨R_upn b2 (by decide), zu_self, Or.inl rfl⟩
      obtain ⟨m4, d1, d2, -, -⟩ := cy_gc (N := N) (by omega) hN N 0 (by omega) 0 (z_up m1 251 49 1000000) A (fun _ => 0) (1000000, fun _ => 0) (by decide) (by decide) hv ((rS_row (zu_rowne (by decide))).trans b3) hQ (fun i hi => absurd hi (Nat.not_lt_zero i))
      have d1 : z_R 246 (z_up m1 251 49 1000000, 0, [(2, 251), (0, 0), (0, (N : Int)), (0, 0), (9, 0), (9, 0), (9, 0), (9, 0)], []) = some (m4, none) := d1
      rw [if_neg c3, b1, zb_n, cy_tca_34, d1, zb_n, cy_tca_48, e]
      obtain ⟨m5, k1, k2⟩ := V_cytel (N := N) (by omega) N 0 _ (by omega) zu_self ((zu_k (by decide)).trans d2.2.1) (R_upn d2.1 (by decide))
      refine ⟨m5, k1, r_ln_s ((if_neg (not_not_intro c1)).trans (if_neg c3)) ?_⟩
      rw [Int.toNat_natCast]
      exact k2
  · have e : cy_A w h n heat price cs D A a = -1 := if_pos c1
    rw [if_neg c1, e]
    exact ⟨_, rfl, r_ln_n hw0 (if_pos c1)⟩
def ro_lod (w h n : Nat) (heat price : Int) (cs : List Int) (D A : Nat → Int) (a : Int) : Option Nat := if a < 1 ∨ 40 < a then none else if 4 < (o_ls A n 0).length then none else some (if (lo_g (lo_V w h n heat price cs D A (o_ls A n 0) a.toNat) ((a.toNat : Nat) : Int) w h (o_ls A n 0).length 0 (fun _ => 0) (0, -1, fun _ => 0)).1 ≤ 0 then 0 else (o_ls A n 0).length)
theorem ro_lod_g {N : Nat} (h1 : 1 ≤ N) (h2 : N ≤ 40) (h3 : ¬ 4 < (o_ls A n 0).length) : ro_lod w h n heat price cs D A (N : Int) = some (if (lo_g (lo_V w h n heat price cs D A (o_ls A n 0) N) (N : Int) w h (o_ls A n 0).length 0 (fun _ => 0) (0, -1, fun _ => 0)).1 ≤ 0 then 0 else (o_ls A n 0).length) := by
  unfold ro_lod
  rw [if_neg (by omega), if_neg h3, Int.toNat_natCast]
def ro_lon (w h n : Nat) (A : Nat → Int) : Option Nat := if z_mul (w : Int) (h : Int) < ((o_ls A n 0).length : Int) ∨ 4 < (o_ls A n 0).length then none else some (o_ls A n 0).length
theorem W_telL {L : Nat} (hL : L ≤ 4) : ∀ (f x : Nat) (m : z_M), x + f = L → m 122 9 = (L : Int) → m 0 13 = (x : Int) → ∃ m1, z_R 108 (m, 2, [(2, 0), (0, (x : Int))], []) = some (m1, none) ∧ (∀ p k, ¬ p = 250 → ¬ (p = 0 ∧ k = 13) → m1 p k = m p k) ∧ m1 0 13 = (L : Int) := by
  intro f
  induction f with
  | zero =>
    intro x m hx h9 h13
    rw [lo_tel_2, h9, if_pos (by omega)]
    exact ⟨m, rfl, fun _ _ _ _ => rfl, h13.trans (by omega)⟩
  | succ f ih =>
    intro x m hx h9 h13
    rw [lo_tel_2, h9, if_neg (by omega), if_pos (by omega), c_add (j := x) m _ (by omega) h13, zb_n, lo_tel_27, z_add_eq (x := (x : Int)) (y := 1) (by omega) (by omega), tc1]
    obtain ⟨m1, a1, a2, a3⟩ := ih (x + 1) (z_up (z_up m 250 x (z_i2l (m 137 ((x : Nat) : Int).toNat))) 0 13 ((x + 1 : Nat) : Int)) (by omega) (by rw [zu_p (by decide), zu_p (by decide)]; exact h9) zu_self
    exact ⟨m1, a1, fun p k h1 h2 => by rw [a2 p k h1 h2, X_up h2, zu_p h1], a3⟩
theorem W_lodge (hi : C_is w h n heat price D A c U kn KS cs m) (hN : w_N w h n heat D) (hok : hr_ok n A) (ht : 0 ≤ A 35 ∧ A 35 ≤ 1073741824) (h138 : ∀ b, b < 3 → m 138 b = 0) (a : Int) : ∃ m1, z_R 98 (m, 0, [(2, 0), (0, a)], []) = some (m1, some (0, lo_A w h n heat price cs D A a)) ∧ c_ln m m1 (ro_lod w h n heat price cs D A a) := by
  have n5 := hN.1.2.2
  rw [lo_lod_0]
  by_cases c1 : a < 1
  · have e : lo_A w h n heat price cs D A a = -1 := if_pos (Or.inl c1)
    rw [if_pos c1, e]
    exact ⟨m, rfl, c_ln_n (if_pos (Or.inl c1))⟩
  rw [if_neg c1]
  by_cases c2 : 40 < a
  · have e : lo_A w h n heat price cs D A a = -1 := if_pos (Or.inr c2)
    rw [if_neg (by omega), e]
    exact ⟨m, rfl, c_ln_n (if_pos (Or.inr c2))⟩
  obtain ⟨N, rfl⟩ : ∃ N : Nat, a = (N : Int) := ⟨a.toNat, by omega⟩
  rw [if_pos (by omega), lo_inrL hi n5, zb_v, lo_lod_24]
  by_cases c3 : 4 < (o_ls A n 0).length
  · have e : lo_A w h n heat price cs D A (N : Int) = -3 := by
      unfold lo_A
      rw [if_neg (by omega), if_pos c3]
    rw [if_neg (by omega), e]
    exact ⟨m, rfl, c_ln_n ((if_neg (by omega)).trans (if_pos c3))⟩
  rw [lo_A_g (by omega) (by omega) c3, ro_lod_g (by omega) (by omega) c3]
  obtain ⟨m2, b1, b2, b3, b4, b5, b6, b7⟩ := lo_seaJ (N := N) (by omega) hN hok ht hi h138 (by omega) 1
  have hJ : lo_J w h n heat price D A c U kn KS cs (o_ls A n 0) N (0, -1, fun _ => 0) m2 := ⟨b2, b3, b4, b5, by decide +kernel, b6, Int.le_refl (-1), Or.inl rfl⟩
  obtain ⟨m3, d1, d2, d3, d4⟩ := lo_plaC (N := N) (by omega) hN hok ht (lo_ls_ok n A) (by omega) (o_ls A n 0).length 0 (by omega) 0 (fun _ => 0) (0, -1, fun _ => 0) m2 ⟨fun i hi => absurd hi (Nat.not_lt_zero i), fun i j _ hj => absurd hj (Nat.not_lt_zero j)⟩ (lo_tk_0 _) hJ (fun i hi => absurd hi (Nat.not_lt_zero i)) (fun b hb => b7 b hb)
  have d1 : z_R 106 (m2, 0, [(2, 122), (0, 0), (0, 0), (9, 0), (9, 0)], []) = some (m3, none) := d1
  rw [if_pos (by omega), b1, d1, zb_n, lo_sea_147, zb_n, lo_lod_44, s_tell0_0, zb_n, lo_lod_48]
  generalize lo_g (lo_V w h n heat price cs D A (o_ls A n 0) N) (N : Int) w h (o_ls A n 0).length 0 (fun _ => 0) (0, -1, fun _ => 0) = G at d2 ⊢
  have ez : (z_up m3 0 13 0) 122 12 = G.1 := (zu_p (by decide)).trans d2.2.2.2.1
  have hC4 : C_is w h n heat price D A c U kn KS cs (z_up m3 0 13 0) := C_upn d2.1.1 (by decide)
  have g138 : ∀ b, b < 3 → (z_up m3 0 13 0) 138 b = 0 := fun b hb => (zu_p (by decide)).trans ((d4 b hb).trans (b7 b hb))
  have e9 : (z_up m3 0 13 0) 122 9 = ((o_ls A n 0).length : Int) := (zu_p (by decide)).trans d2.1.2.1
  have e13 : (z_up m3 0 13 0) 0 13 = ((0 : Nat) : Int) := zu_self
  generalize z_up m3 0 13 0 = m4 at ez hC4 g138 e9 e13 ⊢
  rw [ez]
  by_cases c4 : G.1 ≤ 0
  · rw [if_pos c4, if_pos c4]
    exact ⟨m4, rfl, e13⟩
  · obtain ⟨m5, f1, f2, f3⟩ := W_telL (L := (o_ls A n 0).length) (by omega) (o_ls A n 0).length 0 m4 (by omega) e9 e13
    have f1 : z_R 108 (m4, 2, [(2, 0), (0, 0)], []) = some (m5, none) := f1
    rw [if_neg c4, if_neg c4, lo_tel_0, f1, zb_n, lo_lod_62, f2 122 12 (by decide) (by decide), ez]
    exact ⟨m5, rfl, f3⟩
theorem V_tteL {L : Nat} (hL : L ≤ 4) : ∀ (f x : Nat) (m : z_M), x + f = L → m 251 39 = (L : Int) → m 251 10 = (x : Int) → ∃ m1, z_R 231 (m, 2, [(2, 251), (0, (x : Int))], []) = some (m1, none) ∧ (∀ p k, ¬ p = 255 → ¬ (p = 251 ∧ k = 10) → m1 p k = m p k) ∧ m1 251 10 = (L : Int) := by
  intro f
  induction f with
  | zero =>
    intro x m hx h39 h10
    rw [lo_tte_2, h39, if_pos (by omega)]
    exact ⟨m, rfl, fun _ _ _ _ => rfl, h10.trans (by omega)⟩
  | succ f ih =>
    intro x m hx h39 h10
    rw [lo_tte_2, h39, if_neg (by omega), if_pos (by omega), t_tell (j := x) m _ (by omega) h10, zb_n, lo_tte_21, z_add_eq (x := (x : Int)) (y := 1) (by omega) (by omega), tc1]
    obtain ⟨m1, a1, a2, a3⟩ := ih (x + 1) (z_up (z_up m 255 x (z_i2l (m 267 ((x : Nat) : Int).toNat))) 251 10 ((x + 1 : Nat) : Int)) (by omega) (by rw [zu_k (by decide), zu_p (by decide)]; exact h39) zu_self
    exact ⟨m1, a1, fun p k h1 h2 => by rw [a2 p k h1 h2, X_up h2, zu_p h1], a3⟩
theorem V_lodge (hi : R_is w h n heat price D A c U kn KS cs m) (hN : w_N w h n heat D) (hok : hr_ok n A) (ht : 0 ≤ A 35 ∧ A 35 ≤ 1073741824) (a : Int) : ∃ m1, z_R 227 (m, 0, [(2, 251), (0, a)], []) = some (m1, some (0, lo_A w h n heat price cs D A a)) ∧ r_ln m m1 (ro_lod w h n heat price cs D A a) := by
  have n5 := hN.1.2.2
  rw [lo_tlo_0]
  by_cases c1 : ¬ (1 ≤ a ∧ a ≤ 40)
  · have e : lo_A w h n heat price cs D A a = -1 := if_pos (by omega)
    rw [if_neg c1, e]
    exact ⟨_, rfl, r_ln_n (zu_k (by decide)) (if_pos (by omega))⟩
  have c1 : 1 ≤ a ∧ a ≤ 40 := Decidable.not_not.mp c1
  obtain ⟨N, rfl⟩ : ∃ N : Nat, a = (N : Int) := ⟨a.toNat, by omega⟩
  have hu := R_upn (p0 := 251) (k0 := 39) (v := 0) (R_upn (p0 := 251) (k0 := 11) (v := 0) hi (by decide)) (by decide)
  have g0 : (z_up (z_up m 251 11 0) 251 39 0) 251 39 = ((0 : Nat) : Int) := zu_self
  have hw : (z_up (z_up m 251 11 0) 251 39 0) 251 10 = m 251 10 := (zu_k (by decide)).trans (zu_k (by decide))
  rw [if_pos c1, b_fl_0]
  generalize z_up (z_up m 251 11 0) 251 39 0 = m0 at hu g0 hw ⊢
  obtain ⟨m1, a1, a2, a3, a4⟩ := R_fl1 n5 n 0 0 m0 (by omega) (Nat.le_refl _) hu g0
  have a1 : z_R 228 (m0, 7, [(2, 251), (0, 0)], []) = some (m1, none) := a1
  rw [Nat.zero_add] at a2
  have hR1 : R_is w h n heat price D A c U kn KS cs m1 := R_fr hu fun p k hk => by
    have z := R_hit_no hk
    exact a4 p k (by omega) (by omega)
  rw [a1, zb_n, lo_tlo_21, a2]
  by_cases c3 : 4 < (o_ls A n 0).length
  · have e : lo_A w h n heat price cs D A (N : Int) = -3 := by
      unfold lo_A
      rw [if_neg (by omega), if_pos c3]
    rw [if_neg (by omega), e]
    exact ⟨m1, rfl, r_ln_n ((a4 251 10 (by decide) (by decide)).trans hw) ((if_neg (by omega)).trans (if_pos c3))⟩
  rw [lo_A_g (by omega) (by omega) c3, ro_lod_g (by omega) (by omega) c3, if_pos (by omega), lo_tla_0]
  have hK : lo_K w h n heat price D A c U kn KS cs (o_ls A n 0) (0, -1, fun _ => 0) (z_up (z_up m1 251 42 0) 251 43 (-1)) := by
    refine ⟨R_upn (R_upn hR1 (by decide)) (by decide), ?_, fun i hi => ?_, ?_, by decide +kernel, zu_self, Int.le_refl (-1), Or.inl rfl⟩
    · rw [zu_k (by decide), zu_k (by decide), a2]
    · have := lo_hl (l := []) (o_ls A n 0) 0 a3 i hi
      rw [Nat.zero_add] at this
      rw [zu_p (by decide), zu_p (by decide)]
      exact this
    · rw [zu_k (by decide), zu_self]
  generalize z_up (z_up m1 251 42 0) 251 43 (-1) = m2 at hK ⊢
  obtain ⟨m3, d1, d2, d3⟩ := lo_glL (N := N) (by omega) hN hok ht (lo_ls_ok n A) (by omega) (o_ls A n 0).length 0 (by omega) 0 (fun _ => 0) (0, -1, fun _ => 0) m2 (fun i hi => absurd hi (Nat.not_lt_zero i)) (lo_tk_0 _) hK (fun i hi => absurd hi (Nat.not_lt_zero i))
  have d1 : z_R 230 (m2, 0, [(2, 251), (0, 0), (0, 0), (0, (N : Int)), (9, 0), (9, 0)], []) = some (m3, none) := d1
  rw [d1, zb_n, lo_tla_17, zb_n, lo_tlo_37]
  generalize lo_g (lo_V w h n heat price cs D A (o_ls A n 0) N) (N : Int) w h (o_ls A n 0).length 0 (fun _ => 0) (0, -1, fun _ => 0) = G at d2 ⊢
  have e42 : m3 251 42 = G.1 := d2.2.2.2.1
  rw [e42]
  by_cases c4 : G.1 ≤ 0
  · rw [if_pos c4, if_pos c4]
    exact ⟨_, rfl, zu_self⟩
  · obtain ⟨m5, f1, f2, f3⟩ := V_tteL (L := (o_ls A n 0).length) (by omega) (o_ls A n 0).length 0 (z_up m3 251 10 0) (by omega) ((zu_k (by decide)).trans d2.2.1) zu_self
    have f1 : z_R 231 (z_up m3 251 10 0, 2, [(2, 251), (0, 0)], []) = some (m5, none) := f1
    rw [if_neg c4, if_neg c4, lo_tte_0, f1, zb_n, lo_tlo_53, f2 251 42 (by decide) (by decide), zu_k (by decide), e42]
    exact ⟨m5, rfl, f3⟩
theorem W_longest (hi : C_is w h n heat price D A c U kn KS cs m) (hN : w_N w h n heat D) (hok : hr_ok n A) (ht : 0 ≤ A 35 ∧ A 35 ≤ 1073741824) (h138 : ∀ b, b < 3 → m 138 b = 0) : ∃ m1 v, z_R 109 (m, 0, [(2, 0), (9, 0)], []) = some (m1, some (0, v)) ∧ c_ln m m1 (ro_lon w h n A) := by
  have n5 := hN.1.2.2
  rw [lo_lon_0, lo_inrL hi n5, zb_v, lo_lon_11, hi.1.1, hi.1.2.1]
  by_cases c1 : ((o_ls A n 0).length : Int) ≤ z_mul (w : Int) (h : Int)
  · rw [if_pos c1]
    by_cases c2 : 4 < (o_ls A n 0).length
    · rw [if_neg (by omega)]
      exact ⟨m, _, rfl, c_ln_n (if_pos (Or.inr c2))⟩
    obtain ⟨m2, b1, b2, b3, b4, b5, b6, b7⟩ := lo_seaJ (N := 100) (by omega) hN hok ht hi h138 (by omega) 0
    have b1 : z_R 102 (m, 0, [(2, 122), (2, 12), (0, 100), (0, 0), (9, 0)], []) = ((z_R 106 (m2, 0, [(2, 122), (0, 0), (0, 0), (9, 0), (9, 0)], [])).bind fun qq => z_R 102 (qq.1, 147, [(2, 122), (2, 12), (0, 100), (0, 0), (0, (w : Int))], qq.2.toList ++ [])) := b1
    obtain ⟨m3, d1, d2, d3⟩ := lo_plaF hN.1.1 (show (o_ls A n 0).length ≤ 4 by omega) (o_ls A n 0).length 0 (by omega) 0 m2 b2.1.1.1 b2.2.1 (fun b hb => by rw [b7 b hb]; decide +kernel)
    have d1 : z_R 106 (m2, 0, [(2, 122), (0, 0), (0, 0), (9, 0), (9, 0)], []) = some (m3, none) := d1
    have e9 : (z_up m3 0 13 0) 122 9 = ((o_ls A n 0).length : Int) := (zu_p (by decide)).trans ((d3 122 9 (by decide) (by decide) (by decide) (by decide)).trans b2.2.1)
    obtain ⟨m5, f1, f2, f3⟩ := W_telL (L := (o_ls A n 0).length) (by omega) (o_ls A n 0).length 0 (z_up m3 0 13 0) (by omega) e9 zu_self
    have f1 : z_R 108 (z_up m3 0 13 0, 2, [(2, 0), (0, 0)], []) = some (m5, none) := f1
    rw [if_pos (by omega), b1, d1, zb_n, lo_sea_147, zb_n, lo_lon_56, s_tell0_0, zb_n, lo_lon_60, lo_tel_0, f1, zb_n, lo_lon_64]
    exact ⟨m5, _, rfl, c_ln_s (if_neg (by omega)) f3⟩
  · rw [if_neg c1]
    exact ⟨m, _, rfl, c_ln_n (if_pos (Or.inl (by omega)))⟩
theorem V_longest (hi : R_is w h n heat price D A c U kn KS cs m) (hN : w_N w h n heat D) (hok : hr_ok n A) (ht : 0 ≤ A 35 ∧ A 35 ≤ 1073741824) : ∃ m1 v, z_R 232 (m, 0, [(2, 251)], []) = some (m1, some (0, v)) ∧ r_ln m m1 (ro_lon w h n A) := by
  have n5 := hN.1.2.2
  have hu := R_upn (p0 := 251) (k0 := 39) (v := 0) (R_upn (p0 := 251) (k0 := 11) (v := 0) hi (by decide)) (by decide)
  have g0 : (z_up (z_up m 251 11 0) 251 39 0) 251 39 = ((0 : Nat) : Int) := zu_self
  have hw : (z_up (z_up m 251 11 0) 251 39 0) 251 10 = m 251 10 := (zu_k (by decide)).trans (zu_k (by decide))
  rw [ll_tlo_0, b_fl_0]
  generalize z_up (z_up m 251 11 0) 251 39 0 = m0 at hu g0 hw ⊢
  obtain ⟨m1, a1, a2, a3, a4⟩ := R_fl1 n5 n 0 0 m0 (by omega) (Nat.le_refl _) hu g0
  have a1 : z_R 228 (m0, 7, [(2, 251), (0, 0)], []) = some (m1, none) := a1
  rw [Nat.zero_add] at a2
  have hR1 : R_is w h n heat price D A c U kn KS cs m1 := R_fr hu fun p k hk => by
    have z := R_hit_no hk
    exact a4 p k (by omega) (by omega)
  rw [a1, zb_n, ll_tlo_9, a2, hR1.1.1, hR1.1.2.1]
  by_cases c3 : 4 < (o_ls A n 0).length
  · rw [if_neg (by omega)]
    exact ⟨m1, _, rfl, r_ln_n ((a4 251 10 (by decide) (by decide)).trans hw) (if_pos (Or.inr c3))⟩
  rw [if_pos (by omega)]
  by_cases c2 : ((o_ls A n 0).length : Int) ≤ z_mul (w : Int) (h : Int)
  · rw [if_pos c2, lo_tla_0]
    have hK : lo_K w h n heat price D A c U kn KS cs (o_ls A n 0) (0, -1, fun _ => 0) (z_up (z_up m1 251 42 0) 251 43 (-1)) := by
      refine ⟨R_upn (R_upn hR1 (by decide)) (by decide), ?_, fun i hi => ?_, ?_, by decide +kernel, zu_self, Int.le_refl (-1), Or.inl rfl⟩
      · rw [zu_k (by decide), zu_k (by decide), a2]
      · have := lo_hl (l := []) (o_ls A n 0) 0 a3 i hi
        rw [Nat.zero_add] at this
        rw [zu_p (by decide), zu_p (by decide)]
        exact this
      · rw [zu_k (by decide), zu_self]
    generalize z_up (z_up m1 251 42 0) 251 43 (-1) = m2 at hK ⊢
    obtain ⟨m3, d1, d2, d3⟩ := lo_glL (N := 100) (by omega) hN hok ht (lo_ls_ok n A) (by omega) (o_ls A n 0).length 0 (by omega) 0 (fun _ => 0) (0, -1, fun _ => 0) m2 (fun i hi => absurd hi (Nat.not_lt_zero i)) (lo_tk_0 _) hK (fun i hi => absurd hi (Nat.not_lt_zero i))
    have d1 : z_R 230 (m2, 0, [(2, 251), (0, 0), (0, 0), (0, 100), (9, 0), (9, 0)], []) = some (m3, none) := d1
    obtain ⟨m5, f1, f2, f3⟩ := V_tteL (L := (o_ls A n 0).length) (by omega) (o_ls A n 0).length 0 (z_up m3 251 10 0) (by omega) ((zu_k (by decide)).trans d2.2.1) zu_self
    have f1 : z_R 231 (z_up m3 251 10 0, 2, [(2, 251), (0, 0)], []) = some (m5, none) := f1
    rw [d1, zb_n, lo_tla_17, zb_n, ll_tlo_45, lo_tte_0, f1, zb_n, ll_tlo_54]
    exact ⟨m5, _, rfl, r_ln_s (if_neg (by omega)) f3⟩
  · rw [if_neg c2]
    exact ⟨m1, _, rfl, r_ln_n ((a4 251 10 (by decide) (by decide)).trans hw) (if_pos (Or.inl (by omega)))⟩
end
theorem two_carry : l_two ln_Q (974, 148, 129, 1, false, 985, 151, 245) := by
  intro M1 M2 M3 σ σ1 σ2 as v1 v2 C1 C2 ρ1 ρ2 ha hR hh hM1 hC1 hp1 hE1 hC2 hp2 hE2
  obtain ⟨a, rfl⟩ := as_one ha
  have hE1 : z_R 129 (z_m σ, 0, [(2, 0), (0, a.toInt), (9, 0)], []) = some (z_m σ1, some (0, v1.toInt)) := z_R_iff.mpr hE1
  have hE2 : z_R 245 (z_m σ1, 0, [(2, 251), (0, a.toInt), (9, 0)], []) = some (z_m σ2, some (0, v2.toInt)) := z_R_iff.mpr hE2
  obtain ⟨w, h, n, heat, price, D, A, c, U, kn, KS, cs, cC, cR, cW⟩ := hR.2
  obtain ⟨b1, b2, -, -, hok, b35, -, b7⟩ := core_b hh hM1 cR
  have hN : w_N w h n heat D := ⟨b1, b2, b7⟩
  have kk := core_24 hh
  have f1 := R_off2_ok (y := 129) (by decide +kernel) hC1 hp1
  have cR1 := R_fr cR f1
  exact ln_do hE1 hE2 ((W_carry cC hN hok b35 cW.2.1 kk.2 a.toInt).imp fun _ h => ⟨_, h⟩) ((V_carry cR1 hN hok b35 cW.2.1 a.toInt).imp fun _ h => ⟨_, h⟩)
theorem two_lodge : l_twR Rel_L ln_Q (798, 116, 98, 1, false, 809, 119, 227) := by
  intro M1 M2 M3 σ σ1 σ2 as v1 v2 C1 C2 ρ1 ρ2 ha hR hh hM1 hC1 hp1 hE1 hC2 hp2 hE2
  obtain ⟨a, rfl⟩ := as_one ha
  have hE1 : z_R 98 (z_m σ, 0, [(2, 0), (0, a.toInt)], []) = some (z_m σ1, some (0, v1.toInt)) := z_R_iff.mpr hE1
  have hE2 : z_R 227 (z_m σ1, 0, [(2, 251), (0, a.toInt)], []) = some (z_m σ2, some (0, v2.toInt)) := z_R_iff.mpr hE2
  obtain ⟨w, h, n, heat, price, D, A, c, U, kn, KS, cs, cC, cR, cW⟩ := hR.1.2
  obtain ⟨b1, b2, -, -, hok, b35, -, b7⟩ := core_b hh hM1 cR
  have hN : w_N w h n heat D := ⟨b1, b2, b7⟩
  have f1 := R_off2_ok (y := 98) (by decide +kernel) hC1 hp1
  have cR1 := R_fr cR f1
  exact ln_do hE1 hE2 ((W_lodge cC hN hok b35 hR.2 a.toInt).imp fun _ h => ⟨_, h⟩) ((V_lodge cR1 hN hok b35 a.toInt).imp fun _ h => ⟨_, h⟩)
theorem two_longest : l_twR Rel_L ln_Q (817, 120, 109, 0, false, 822, 123, 232) := by
  intro M1 M2 M3 σ σ1 σ2 as v1 v2 C1 C2 ρ1 ρ2 ha hR hh hM1 hC1 hp1 hE1 hC2 hp2 hE2
  obtain rfl := as_nil ha
  have hE1 : z_R 109 (z_m σ, 0, [(2, 0), (9, 0)], []) = some (z_m σ1, some (0, v1.toInt)) := z_R_iff.mpr hE1
  have hE2 : z_R 232 (z_m σ1, 0, [(2, 251)], []) = some (z_m σ2, some (0, v2.toInt)) := z_R_iff.mpr hE2
  obtain ⟨w, h, n, heat, price, D, A, c, U, kn, KS, cs, cC, cR, cW⟩ := hR.1.2
  obtain ⟨b1, b2, -, -, hok, b35, -, b7⟩ := core_b hh hM1 cR
  have hN : w_N w h n heat D := ⟨b1, b2, b7⟩
  have f1 := R_off2_ok (y := 109) (by decide +kernel) hC1 hp1
  have cR1 := R_fr cR f1
  obtain ⟨m1, u1, x1, x2⟩ := W_longest cC hN hok b35 hR.2
  obtain ⟨m2, u2, y1, y2⟩ := V_longest cR1 hN hok b35
  exact ln_do hE1 hE2 ⟨m1, _, x1, x2⟩ ⟨m2, _, y1, y2⟩
theorem two_quiet : l_two ln_Q (836, 124, 110, 1, false, 847, 127, 233) := by
  intro M1 M2 M3 σ σ1 σ2 as v1 v2 C1 C2 ρ1 ρ2 ha hR hh hM1 hC1 hp1 hE1 hC2 hp2 hE2
  obtain ⟨a, rfl⟩ := as_one ha
  have hE1 : z_R 110 (z_m σ, 0, [(2, 0), (0, a.toInt), (9, 0)], []) = some (z_m σ1, some (0, v1.toInt)) := z_R_iff.mpr hE1
  have hE2 : z_R 233 (z_m σ1, 0, [(2, 251), (0, a.toInt), (9, 0), (9, 0), (9, 0), (9, 0)], []) = some (z_m σ2, some (0, v2.toInt)) := z_R_iff.mpr hE2
  obtain ⟨w, h, n, heat, price, D, A, c, U, kn, KS, cs, cC, cR, cW⟩ := hR.2
  obtain ⟨b1, b2, -, b4, hok, b35, -, -⟩ := core_b hh hM1 cR
  have f1 := R_off2_ok (y := 110) (by decide +kernel) hC1 hp1
  have cR1 := R_fr cR f1
  obtain ⟨m1, v, d1, d2, d3, d4⟩ := C_quiet cC b1 b2 b4 hok b35 a.toInt
  obtain ⟨e1, e2⟩ := R_inj d1 hE1
  subst e1
  obtain ⟨m2, v', g1, g2, g3, g4⟩ := R_quiet2 b1 b2 b4 hok b35 cR1 a.toInt
  obtain ⟨k1, k2⟩ := R_inj g1 hE2
  subst k1
  have ev : v = v' := by
    rcases d3 with ⟨n1, n2⟩ | ⟨n1, n2⟩
    · rcases g3 with ⟨o1, o2⟩ | ⟨o1, o2⟩
      · rw [n2, o2]
      · exact absurd o1 n1
    · rcases g3 with ⟨o1, o2⟩ | ⟨o1, o2⟩
      · exact absurd n1 o1
      · exact q_an_1 n2 o2
  rw [← ev] at g4
  by_cases z : v < 0
  · exact ⟨none, d4.trans (if_pos z), g4.trans (if_pos z)⟩
  · exact ⟨some v.toNat, (d4.trans (if_neg z)).trans (by omega), (g4.trans (if_neg z)).trans (by omega)⟩
end
section
/-! WHAT IS KEPT: both texts alike, both are in one and the same, no code is left, as many numbers were told -/
def Rel_0 (σ : m_H) : Prop := Rel_N σ
theorem rel_start : ∀ σ, xs_is σ → Rel_0 σ := ln_start
theorem rel_offc {c : l_C} (h : ((core_offb c.2.2.1 && core_offb c.2.2.2.2.2.2.2) && (rel_offb c.2.2.1 && (rel_offb c.2.2.2.2.2.2.2 && !c.2.2.2.2.1))) = true) : l_rel2 Rel_C c := by
  obtain ⟨h1, h2⟩ := Bool.and_eq_true _ _ |>.mp h
  exact core_q (R_off h2) h1
theorem rel_off {c : l_C} (h : ((((core_offb c.2.2.1 && core_offb c.2.2.2.2.2.2.2) && (rel_offb c.2.2.1 && (rel_offb c.2.2.2.2.2.2.2 && !c.2.2.2.2.1))) && (lo_offb c.2.2.1 && lo_offb c.2.2.2.2.2.2.2)) && ((md_off c.2.2.1 0 13 && md_off c.2.2.2.2.2.2.2 251 10) && ln_offb c.2.2.1 c.2.2.2.2.2.2.2)) = true) : l_rel2 Rel_0 c := by
  obtain ⟨h0, h3⟩ := Bool.and_eq_true _ _ |>.mp h
  obtain ⟨h1, h2⟩ := Bool.and_eq_true _ _ |>.mp h0
  exact ln_q (lo_q (rel_offc h1) h2) h3
theorem rl_0 : l_rel2 Rel_0 (219, 26, 14, 1, false, 230, 30, 160) := ln_q (c := (219, 26, 14, 1, false, 230, 30, 160)) (lo_q (c := (219, 26, 14, 1, false, 230, 30, 160)) (core_q R_sign (by decide +kernel)) (by decide +kernel)) (by decide +kernel)
theorem rl_1 : l_rel2 Rel_0 (244, 31, 16, 1, false, 255, 35, 161) := ln_q (c := (244, 31, 16, 1, false, 255, 35, 161)) (lo_q (c := (244, 31, 16, 1, false, 255, 35, 161)) (core_q R_end (by decide +kernel)) (by decide +kernel)) (by decide +kernel)
theorem rl_2 : l_rel2 Rel_0 (263, 36, 18, 0, false, 268, 40, 163) := ln_house (lo_q (c := (263, 36, 18, 0, false, 268, 40, 163)) (core_house) (by decide +kernel))
theorem rl_3 : l_rel2 Rel_0 (276, 41, 35, 0, false, 281, 44, 172) := ln_q (c := (276, 41, 35, 0, false, 281, 44, 172)) (lo_q (c := (276, 41, 35, 0, false, 281, 44, 172)) (core_people) (by decide +kernel)) (by decide +kernel)
theorem rl_4 : l_rel2 Rel_0 (289, 45, 39, 0, false, 294, 48, 175) := ln_q (c := (289, 45, 39, 0, false, 294, 48, 175)) (lo_q (c := (289, 45, 39, 0, false, 294, 48, 175)) (core_rule) (by decide +kernel)) (by decide +kernel)
theorem rl_7 : l_rel2 Rel_0 (394, 58, 53, 2, false, 411, 61, 192) := ln_q (c := (394, 58, 53, 2, false, 411, 61, 192)) (lo_q (c := (394, 58, 53, 2, false, 411, 61, 192)) (core_set) (by decide +kernel)) (by decide +kernel)
theorem rl_8 : l_rel2 Rel_0 (437, 62, 54, 3, false, 460, 66, 193) := ln_q (c := (437, 62, 54, 3, false, 460, 66, 193)) (lo_q (c := (437, 62, 54, 3, false, 460, 66, 193)) (core_doing) (by decide +kernel)) (by decide +kernel)
theorem rl_9 : l_rel2 Rel_0 (492, 67, 56, 4, false, 521, 71, 194) := ln_q (c := (492, 67, 56, 4, false, 521, 71, 194)) (lo_q (c := (492, 67, 56, 4, false, 521, 71, 194)) (core_sheet) (by decide +kernel)) (by decide +kernel)
theorem rl_10 : l_rel2 Rel_0 (541, 72, 58, 2, false, 558, 75, 195) := ln_q (c := (541, 72, 58, 2, false, 558, 75, 195)) (lo_q (c := (541, 72, 58, 2, false, 558, 75, 195)) (core_move) (by decide +kernel)) (by decide +kernel)
theorem rl_11 : l_rel2 Rel_0 (572, 76, 62, 1, false, 583, 79, 201) := ln_q (c := (572, 76, 62, 1, false, 583, 79, 201)) (lo_q (c := (572, 76, 62, 1, false, 583, 79, 201)) (core_stove) (by decide +kernel)) (by decide +kernel)
theorem rl_12 : l_rel2 Rel_0 (591, 80, 64, 0, false, 596, 83, 204) := ln_case (lo_q (c := (591, 80, 64, 0, false, 596, 83, 204)) (core_hour) (by decide +kernel)) (two_L (l_two_ln two_hour)) (by decide +kernel)
theorem rl_13 : l_rel2 Rel_0 (610, 84, 80, 1, false, 621, 87, 205) := ln_case (lo_q (c := (610, 84, 80, 1, false, 621, 87, 205)) (core_hours) (by decide +kernel)) (two_L (l_two_ln two_hours)) (by decide +kernel)
theorem rl_14 : l_rel2 Rel_0 (641, 88, 81, 2, false, 658, 91, 211) := ln_q (c := (641, 88, 81, 2, false, 658, 91, 211)) (lo_q (c := (641, 88, 81, 2, false, 658, 91, 211)) (core_pay) (by decide +kernel)) (by decide +kernel)
theorem rl_15 : l_rel2 Rel_0 (666, 92, 82, 0, false, 671, 95, 212) := ln_case (lo_q (c := (666, 92, 82, 0, false, 671, 95, 212)) (core_winter) (by decide +kernel)) (two_L two_winter) (by decide +kernel)
theorem rl_16 : l_rel2 Rel_0 (679, 96, 87, 0, false, 684, 99, 216) := ln_q (c := (679, 96, 87, 0, false, 684, 99, 216)) (lo_q (c := (679, 96, 87, 0, false, 684, 99, 216)) (core_undo) (by decide +kernel)) (by decide +kernel)
theorem rl_17 : l_rel2 Rel_0 (704, 100, 89, 2, false, 721, 103, 217) := ln_case (lo_q (c := (704, 100, 89, 2, false, 721, 103, 217)) (core_thick) (by decide +kernel)) (two_L (l_two_ln two_thick)) (by decide +kernel)
theorem rl_18 : l_rel2 Rel_0 (729, 104, 91, 0, false, 734, 107, 220) := ln_case (lo_q (c := (729, 104, 91, 0, false, 734, 107, 220)) (core_gives) (by decide +kernel)) (two_L (l_two_ln two_gives)) (by decide +kernel)
theorem rl_19 : l_rel2 Rel_0 (748, 108, 94, 1, false, 759, 111, 225) := ln_case (lo_q (c := (748, 108, 94, 1, false, 759, 111, 225)) (core_drips) (by decide +kernel)) (two_L (l_two_ln two_drips)) (by decide +kernel)
theorem rl_20 : l_rel2 Rel_0 (773, 112, 95, 1, false, 784, 115, 226) := ln_q (c := (773, 112, 95, 1, false, 784, 115, 226)) (lo_q (c := (773, 112, 95, 1, false, 784, 115, 226)) (core_coldest) (by decide +kernel)) (by decide +kernel)
theorem rl_21 : l_rel2 Rel_0 (798, 116, 98, 1, false, 809, 119, 227) := ln_case core_lodge two_lodge (by decide +kernel)
theorem rl_22 : l_rel2 Rel_0 (817, 120, 109, 0, false, 822, 123, 232) := ln_case (lo_longest (rel_offc (by decide +kernel))) two_longest (by decide +kernel)
theorem rl_23 : l_rel2 Rel_0 (836, 124, 110, 1, false, 847, 127, 233) := ln_case (lo_q (c := (836, 124, 110, 1, false, 847, 127, 233)) (core_quiet2) (by decide +kernel)) (two_L two_quiet) (by decide +kernel)
theorem rl_24 : l_rel2 Rel_0 (855, 128, 115, 0, false, 860, 131, 238) := ln_case (lo_q (c := (855, 128, 115, 0, false, 860, 131, 238)) (core_burden) (by decide +kernel)) (two_L (l_two_ln two_burden)) (by decide +kernel)
theorem rl_25 : l_rel2 Rel_0 (874, 132, 116, 1, false, 885, 135, 239) := ln_case (lo_q (c := (874, 132, 116, 1, false, 885, 135, 239)) (core_share) (by decide +kernel)) (two_L two_share) (by decide +kernel)
theorem rl_26 : l_rel2 Rel_0 (899, 136, 123, 1, false, 910, 139, 242) := ln_case (lo_q (c := (899, 136, 123, 1, false, 910, 139, 242)) (core_charges) (by decide +kernel)) (two_L (l_two_ln two_charges)) (by decide +kernel)
theorem rl_27 : l_rel2 Rel_0 (930, 140, 125, 2, false, 947, 143, 243) := ln_case (lo_q (c := (930, 140, 125, 2, false, 947, 143, 243)) (core_warm) (by decide +kernel)) (two_L (l_two_ln two_warm)) (by decide +kernel)
theorem rl_28 : l_rel2 Rel_0 (955, 144, 126, 0, false, 960, 147, 244) := ln_case (lo_q (c := (955, 144, 126, 0, false, 960, 147, 244)) (core_look) (by decide +kernel)) (two_L (l_two_ln two_look)) (by decide +kernel)
theorem rl_29 : l_rel2 Rel_0 (974, 148, 129, 1, false, 985, 151, 245) := ln_case (lo_q (c := (974, 148, 129, 1, false, 985, 151, 245)) (core_carry) (by decide +kernel)) (two_L two_carry) (by decide +kernel)
theorem rl_30 : l_rel2 Rel_0 (999, 152, 133, 1, false, 1010, 155, 249) := ln_case (lo_q (c := (999, 152, 133, 1, false, 1010, 155, 249)) (core_hearth) (by decide +kernel)) (two_L (l_two_ln two_hearth)) (by decide +kernel)
theorem rl_31 : l_rel2 Rel_0 (1036, 156, 135, 3, false, 1059, 159, 251) := ln_case (lo_q (c := (1036, 156, 135, 3, false, 1059, 159, 251)) (core_rests) (by decide +kernel)) (two_L two_rests) (by decide +kernel)
theorem rl_32 : l_rel2 Rel_0 (1067, 160, 137, 0, false, 1072, 163, 252) := ln_case (lo_q (c := (1067, 160, 137, 0, false, 1072, 163, 252)) (core_water) (by decide +kernel)) (two_L (l_two_ln two_water)) (by decide +kernel)
theorem rl_33 : l_rel2 Rel_0 (1092, 164, 138, 2, false, 1109, 167, 253) := ln_case (lo_q (c := (1092, 164, 138, 2, false, 1109, 167, 253)) (rel_offc (by decide +kernel)) (by decide +kernel)) (two_L two_thaw) (by decide +kernel)
theorem rl_34 : l_rel2 Rel_0 (1129, 168, 143, 2, false, 1146, 171, 256) := ln_q (c := (1129, 168, 143, 2, false, 1146, 171, 256)) (lo_q (c := (1129, 168, 143, 2, false, 1146, 171, 256)) (core_leave) (by decide +kernel)) (by decide +kernel)
theorem rl_35 : l_rel2 Rel_0 (1166, 172, 144, 2, false, 1183, 175, 257) := ln_case (lo_q (c := (1166, 172, 144, 2, false, 1183, 175, 257)) (core_season) (by decide +kernel)) (two_L two_season) (by decide +kernel)
theorem rl_36 : l_rel2 Rel_0 (1197, 176, 150, 1, false, 1208, 179, 258) := ln_q (c := (1197, 176, 150, 1, false, 1208, 179, 258)) (lo_q (c := (1197, 176, 150, 1, false, 1208, 179, 258)) (core_keep) (by decide +kernel)) (by decide +kernel)
theorem rl_37 : l_rel2 Rel_0 (1222, 180, 152, 1, false, 1233, 183, 259) := ln_q (c := (1222, 180, 152, 1, false, 1233, 183, 259)) (lo_q (c := (1222, 180, 152, 1, false, 1233, 183, 259)) (core_again) (by decide +kernel)) (by decide +kernel)
theorem rel_cases : ∀ c ∈ law_cs, l_rel2 Rel_0 c := by
  unfold law_cs
  refine List.forall_mem_cons.mpr ⟨rl_0, ?_⟩
  refine List.forall_mem_cons.mpr ⟨rl_1, ?_⟩
  refine List.forall_mem_cons.mpr ⟨rl_2, ?_⟩
  refine List.forall_mem_cons.mpr ⟨rl_3, ?_⟩
  refine List.forall_mem_cons.mpr ⟨rl_4, ?_⟩
  refine List.forall_mem_cons.mpr ⟨rl_7, ?_⟩
  refine List.forall_mem_cons.mpr ⟨rl_8, ?_⟩
  refine List.forall_mem_cons.mpr ⟨rl_9, ?_⟩
  refine List.forall_mem_cons.mpr ⟨rl_10, ?_⟩
  refine List.forall_mem_cons.mpr ⟨rl_11, ?_⟩
  refine List.forall_mem_cons.mpr ⟨rl_12, ?_⟩
  refine List.forall_mem_cons.mpr ⟨rl_13, ?_⟩
  refine List.forall_mem_cons.mpr ⟨rl_14, ?_⟩
  refine List.forall_mem_cons.mpr ⟨rl_15, ?_⟩
  refine List.forall_mem_cons.mpr ⟨rl_16, ?_⟩
  refine List.forall_mem_cons.mpr ⟨rl_17, ?_⟩
  refine List.forall_mem_cons.mpr ⟨rl_18, ?_⟩
  refine List.forall_mem_cons.mpr ⟨rl_19, ?_⟩
  refine List.forall_mem_cons.mpr ⟨rl_20, ?_⟩
  refine List.forall_mem_cons.mpr ⟨rl_21, ?_⟩
  refine List.forall_mem_cons.mpr ⟨rl_22, ?_⟩
  refine List.forall_mem_cons.mpr ⟨rl_23, ?_⟩
  refine List.forall_mem_cons.mpr ⟨rl_24, ?_⟩
  refine List.forall_mem_cons.mpr ⟨rl_25, ?_⟩
  refine List.forall_mem_cons.mpr ⟨rl_26, ?_⟩
  refine List.forall_mem_cons.mpr ⟨rl_27, ?_⟩
  refine List.forall_mem_cons.mpr ⟨rl_28, ?_⟩
  refine List.forall_mem_cons.mpr ⟨rl_29, ?_⟩
  refine List.forall_mem_cons.mpr ⟨rl_30, ?_⟩
  refine List.forall_mem_cons.mpr ⟨rl_31, ?_⟩
  refine List.forall_mem_cons.mpr ⟨rl_32, ?_⟩
  refine List.forall_mem_cons.mpr ⟨rl_33, ?_⟩
  refine List.forall_mem_cons.mpr ⟨rl_34, ?_⟩
  refine List.forall_mem_cons.mpr ⟨rl_35, ?_⟩
  refine List.forall_mem_cons.mpr ⟨rl_36, ?_⟩
  refine List.forall_mem_cons.mpr ⟨rl_37, ?_⟩
  refine List.forall_mem_cons.mpr ⟨core_count, ?_⟩
  exact fun _ h => absurd h List.not_mem_nil
theorem rel_5 : l_rel3 Rel_0 181 2 := ln_q3 (lo_q3 (core_q3 (R3_off (by decide +kernel)) (by decide +kernel)) (by decide +kernel)) (by decide +kernel)
theorem rel_6 : l_rel3 Rel_0 190 2 := ln_q3 (lo_q3 (core_q3 (R3_off (by decide +kernel)) (by decide +kernel)) (by decide +kernel)) (by decide +kernel)
theorem rel_39 : l_rel3 Rel_0 261 1 := ln_q3 (lo_q3 (core_q3 (R3_off (by decide +kernel)) (by decide +kernel)) (by decide +kernel)) (by decide +kernel)
end
