section
/-! HOW MANY NUMBERS ARE TOLD by carry, lodge, longest -/
section
variable {w h n : Nat} {heat price : Int} {D A : Nat → Int} {c : Nat} {U : Nat → Nat → Int} {kn : Nat → Int} {KS : Nat → Nat → Int} {cs : List Int} {m : z_M}
def ro_car (A : Nat → Int) (a : Int) : Option Nat := if ¬ (1 ≤ a ∧ a ≤ 5) then none else if A 34 = -1 then none else some a.toNat
theorem W_cyadd {N : Nat} (hN5 : N ≤ 5) {l : Int} : ∀ (f x : Nat) (m : z_M), x + f = N → m 0 13 = (x : Int) → m 153 6 = l → C_is w h n heat price D A c U kn KS cs m → ∃ m1, z_R 129 (m, 44, [(2, 0), (0, (N : Int)), (0, (x : Int))], []) = some (m1, some (0, l)) ∧ m1 0 13 = (N : Int) := by
  intro f
  induction f with
  | zero =>
    intro x m hx h13 hl hi
    rw [cy_car_44, if_pos (by omega), hl]
    exact ⟨m, rfl, h13.trans (by omega)⟩
  | succ f ih =>
    intro x m hx h13 hl hi
    rw [cy_car_44, if_neg (by omega), if_pos (by omega), c_add (j := x) m _ (by omega) h13, zb_n, cy_car_63, z_add_eq (x := (x : Int)) (y := 1) (by omega) (by omega), tc1]
    exact ih (x + 1) _ (by omega) zu_self (by rw [zu_p (by decide), zu_p (by decide)]; exact hl) (C_upn (C_upn hi (by unfold C_hit; exact decide_eq_false (by omega))) (by decide))
theorem W_carry (hi : C_is w h n heat price D A c U kn KS cs m) (hN : w_N w h n heat D) (hok : hr_ok n A) (ht : 0 ≤ A 35 ∧ A 35 ≤ 1073741824) (hw : wi w h n A) (k9 : z_w (m 24 9) = m 24 9) (a : Int) : ∃ m1, z_R 129 (m, 0, [(2, 0), (0, a), (9, 0)], []) = some (m1, some (0, cy_A w h n heat price cs D A a)) ∧ c_ln m m1 (ro_car A a) := by
  have e34 : m 12 6 = A 34 := by
    rw [← hi.2.2.1]
    exact (cS_at0 (s := 12) (j := 6) (by decide)).symm
  rw [cy_car_0]
  by_cases c1 : a < 1
  · have e : cy_A w h n heat price cs D A a = -1 := if_pos (by omega)
    rw [if_pos c1, e]
    exact ⟨m, rfl, c_ln_n (if_pos (by omega))⟩
  rw [if_neg c1]
  by_cases c2 : a ≤ 5
  · rw [if_pos c2, e34]
    by_cases c3 : A 34 = -1
    · have e : cy_A w h n heat price cs D A a = -2 := (if_neg (by omega)).trans (if_pos c3)
      rw [if_pos c3, e]
      exact ⟨m, rfl, c_ln_n ((if_neg (by omega)).trans (if_pos c3))⟩
    · have e : cy_A w h n heat price cs D A a = (cy_G w h n heat price cs D a.toNat 0 A 0 (fun _ => 0) (1000000, fun _ => 0)).1 := (if_neg (by omega)).trans (if_neg c3)
      obtain ⟨N, rfl⟩ : ∃ N : Nat, a = (N : Int) := ⟨a.toNat, by omega⟩
      rw [Int.toNat_natCast] at e
      rw [if_neg c3, cy_sea_0, if_neg (show ¬ (5 : Int) < (N : Int) by omega)]
      have hi0 : C_is w h n heat price D A c U kn KS cs (z_up (z_up m 153 5 (N : Int)) 153 6 (-1)) := C_upn (C_upn hi (by decide)) (by decide)
      have g5 : (z_up (z_up m 153 5 (N : Int)) 153 6 (-1)) 153 5 = (N : Int) := by rw [zu_k (by decide), zu_self]
      have g6 : (z_up (z_up m 153 5 (N : Int)) 153 6 (-1)) 153 6 = -1 := zu_self
      have g9 : (z_up (z_up m 153 5 (N : Int)) 153 6 (-1)) 24 9 = m 24 9 := by rw [zu_p (by decide), zu_p (by decide)]
      generalize z_up (z_up m 153 5 (N : Int)) 153 6 (-1) = m0 at hi0 g5 g6 g9 ⊢
      obtain ⟨m3, b1, b2, b3⟩ := c_become z_st_12 (cy_zst (k := 0) (by decide)) (by decide) m0
      have b1 : z_R 61 (m0, 0, [(2, 157), (2, 12)], []) = some (m3, none) := b1
      have hi3 : C_is w h n heat price D A c U kn KS cs m3 := C_fr hi0 fun p k hk => by
        have hk' := hk
        unfold C_hit at hk'
        have hk' := of_decide_eq_true hk'
        exact b3.of (by (repeat' (first | exact trivial | refine z_of_c ?_ ?_)) <;> omega)
      have hv : cy_iC w h n heat price D A c U kn KS cs N (1000000, fun _ => 0) m3 := ⟨hi3, (b3.of (by (repeat' (first | exact trivial | refine z_of_c ?_ ?_)) <;> omega)).trans g5, ((b3.of (by (repeat' (first | exact trivial | refine z_of_c ?_ ?_)) <;> omega)).trans g6).trans (if_pos rfl).symm, ⟨by decide, by decide⟩, Or.inl rfl, by rw [show m3 24 9 = m0 24 9 from b3.of (by (repeat' (first | exact trivial | refine z_of_c ?_ ?_)) <;> omega), g9]; exact k9⟩
      have hQ : cy_Q w h n 0 A := ⟨hok, ⟨ht.1, by omega⟩, hw⟩
      obtain ⟨m4, d1, d2, -, -⟩ := cy_gf (N := N) (by omega) hN N 0 (by omega) 0 m3 A (fun _ => 0) (1000000, fun _ => 0) (by decide) (by decide) hv ((cS_cR b2).trans hi0.2.2.1) hQ (fun i hi => absurd hi (Nat.not_lt_zero i))
      have d1 : z_R 131 (m3, 0, [(2, 153), (0, 0), (0, 0), (9, 0), (9, 0), (9, 0), (9, 0), (9, 0)], []) = some (m4, none) := d1
      have hfin : (cy_G w h n heat price cs D N 0 A 0 (fun _ => 0) (1000000, fun _ => 0)).1 ≤ 0 + 891 * (N : Int) := cy_fin (cy_Q_ok (price := price) (cs := cs) hN) (cy_Q_ne hN) N 0 A 0 (fun _ => 0) (1000000, fun _ => 0) (by omega) hQ
      have e6 : m4 153 6 = (if (cy_G w h n heat price cs D N 0 A 0 (fun _ => 0) (1000000, fun _ => 0)).1 = 1000000 then -1 else (cy_G w h n heat price cs D N 0 A 0 (fun _ => 0) (1000000, fun _ => 0)).1) := d2.2.2.1
      rw [if_neg (show ¬ (cy_G w h n heat price cs D N 0 A 0 (fun _ => 0) (1000000, fun _ => 0)).1 = 1000000 from fun z => by
        rw [z] at hfin
        omega)] at e6
      rw [b1, zb_n, cy_sea_24, d1, zb_n, cy_sea_30, zb_n, cy_car_38, s_tell0_0, zb_n, cy_car_42, e]
      obtain ⟨m5, k1, k2⟩ := W_cyadd (N := N) (by omega) N 0 _ (by omega) zu_self ((zu_p (by decide)).trans e6) (C_upn d2.1 (by decide))
      refine ⟨m5, k1, c_ln_s ((if_neg (by omega)).trans (if_neg c3)) ?_⟩
      rw [Int.toNat_natCast]
      exact k2
  · have e : cy_A w h n heat price cs D A a = -1 := if_pos (by omega)
    rw [if_neg c2, e]
    exact ⟨m, rfl, c_ln_n (if_pos (by omega))⟩
theorem V_cytel {N : Nat} (hN5 : N ≤ 5) {l : Int} : ∀ (f x : Nat) (m : z_M), x + f = N → m 251 10 = (x : Int) → m 251 49 = l → R_is w h n heat price D A c U kn KS cs m → ∃ m1, z_R 245 (m, 55, [(2, 251), (0, (N : Int)), (0, (x : Int))], []) = some (m1, some (0, l)) ∧ m1 251 10 = (N : Int) := by
  intro f
  induction f with
  | zero =>
    intro x m hx h10 hl hi
    rw [cy_tca_55, if_pos (by omega), hl]
    exact ⟨m, rfl, h10.trans (by omega)⟩
  | succ f ih =>
    intro x m hx h10 hl hi
    rw [cy_tca_55, if_neg (by omega), if_pos (by omega), t_tell (j := x) m _ (by omega) h10, zb_n, cy_tca_71, z_add_eq (x := (x : Int)) (y := 1) (by omega) (by omega), tc1]
    exact ih (x + 1) _ (by omega) zu_self (by rw [zu_k (by decide), zu_p (by decide)]; exact hl) (R_upn (R_upn hi (by unfold R_hit; exact decide_eq_false (by omega))) (by decide))
theorem V_carry (hi : R_is w h n heat price D A c U kn KS cs m) (hN : w_N w h n heat D) (hok : hr_ok n A) (ht : 0 ≤ A 35 ∧ A 35 ≤ 1073741824) (hw : wi w h n A) (a : Int) : ∃ m1, z_R 245 (m, 0, [(2, 251), (0, a), (9, 0)], []) = some (m1, some (0, cy_A w h n heat price cs D A a)) ∧ r_ln m m1 (ro_car A a) := by
  have e34 : m 252 34 = A 34 := R_A hi (by decide) (a_vis_hi (by decide))
  have hu := R_upn (p0 := 251) (k0 := 11) (v := 0) hi (by decide)
  have hw0 : (z_up m 251 11 0) 251 10 = m 251 10 := zu_k (by decide)
  rw [cy_tca_0, e34]
  generalize z_up m 251 11 0 = m0 at hu hw0 ⊢
  by_cases c1 : 1 ≤ a ∧ a ≤ 5
  · rw [if_pos c1]
    by_cases c3 : A 34 = -1
    · have e : cy_A w h n heat price cs D A a = -2 := (if_neg (not_not_intro c1)).trans (if_pos c3)
      rw [if_pos c3, e]
      exact ⟨_, rfl, r_ln_n hw0 ((if_neg (not_not_intro c1)).trans (if_pos c3))⟩
    · have e : cy_A w h n heat price cs D A a = (cy_G w h n heat price cs D a.toNat 0 A 0 (fun _ => 0) (1000000, fun _ => 0)).1 := (if_neg (not_not_intro c1)).trans (if_neg c3)
      obtain ⟨N, rfl⟩ : ∃ N : Nat, a = (N : Int) := ⟨a.toNat, by omega⟩
      rw [Int.toNat_natCast] at e
      obtain ⟨m1, b1, b2, b3⟩ := R_lt hu
      have hQ : cy_Q w h n 0 A := ⟨hok, ⟨ht.1, by omega⟩, hw⟩
      have hv : cy_iR w h n heat price D A c U kn KS cs N (1000000, fun _ => 0) (z_up m1 251 49 1000000) := ⟨R_upn b2 (by decide), zu_self, Or.inl rfl⟩
      obtain ⟨m4, d1, d2, -, -⟩ := cy_gc (N := N) (by omega) hN N 0 (by omega) 0 (z_up m1 251 49 1000000) A (fun _ => 0) (1000000, fun _ => 0) (by decide) (by decide) hv ((rS_row (zu_rowne (by decide))).trans b3) hQ (fun i hi => absurd hi (Nat.not_lt_zero i))
      have d1 : z_R 246 (z_up m1 251 49 1000000, 0, [(2, 251), (0, 0), (0, (N : Int)), (0, 0), (9, 0), (9, 0), (9, 0), (9, 0)], []) = some (m4, none) := d1
      rw [if_neg c3, b1, zb_n, cy_tca_34, d1, zb_n, cy_tca_48, e]
      obtain ⟨m5, k1, k2⟩ := V_cytel (N := N) (by omega) N 0 _ (by omega) zu_self ((zu_k (by decide)).trans d2.2.1) (R_upn d2.1 (by decide))
      refine ⟨m5, k1, r_ln_s ((if_neg (not_not_intro c1)).trans (if_neg c3)) ?_⟩
      rw [Int.toNat_natCast]
      exact k2
  · have e : cy_A w h n heat price cs D A a = -1 := if_pos c1
    rw [if_neg c1, e]
    exact ⟨_, rfl, r_ln_n hw0 (if_pos c1)⟩
def ro_lod (w h n : Nat) (heat price : Int) (cs : List Int) (D A : Nat → Int) (a : Int) : Option Nat := if a < 1 ∨ 40 < a then none else if 4 < (o_ls A n 0).length then none else some (if (lo_g (lo_V w h n heat price cs D A (o_ls A n 0) a.toNat) ((a.toNat : Nat) : Int) w h (o_ls A n 0).length 0 (fun _ => 0) (0, -1, fun _ => 0)).1 ≤ 0 then 0 else (o_ls A n 0).length)
theorem ro_lod_g {N : Nat} (h1 : 1 ≤ N) (h2 : N ≤ 40) (h3 : ¬ 4 < (o_ls A n 0).length) : ro_lod w h n heat price cs D A (N : Int) = some (if (lo_g (lo_V w h n heat price cs D A (o_ls A n 0) N) (N : Int) w h (o_ls A n 0).length 0 (fun _ => 0) (0, -1, fun _ => 0)).1 ≤ 0 then 0 else (o_ls A n 0).length) := by
  unfold ro_lod
  rw [if_neg (by omega), if_neg h3, Int.toNat_natCast]
def ro_lon (w h n : Nat) (A : Nat → Int) : Option Nat := if z_mul (w : Int) (h : Int) < ((o_ls A n 0).length : Int) ∨ 4 < (o_ls A n 0).length then none else some (o_ls A n 0).length
theorem W_telL {L : Nat} (hL : L ≤ 4) : ∀ (f x : Nat) (m : z_M), x + f = L → m 122 9 = (L : Int) → m 0 13 = (x : Int) → ∃ m1, z_R 108 (m, 2, [(2, 0), (0, (x : Int))], []) = some (m1, none) ∧ (∀ p k, ¬ p = 250 → ¬ (p = 0 ∧ k = 13) → m1 p k = m p k) ∧ m1 0 13 = (L : Int) := by
  intro f
  induction f with
  | zero =>
    intro x m hx h9 h13
    rw [lo_tel_2, h9, if_pos (by omega)]
    exact ⟨m, rfl, fun _ _ _ _ => rfl, h13.trans (by omega)⟩
  | succ f ih =>
    intro x m hx h9 h13
    rw [lo_tel_2, h9, if_neg (by omega), if_pos (by omega), c_add (j := x) m _ (by omega) h13, zb_n, lo_tel_27, z_add_eq (x := (x : Int)) (y := 1) (by omega) (by omega), tc1]
    obtain ⟨m1, a1, a2, a3⟩ := ih (x + 1) (z_up (z_up m 250 x (z_i2l (m 137 ((x : Nat) : Int).toNat))) 0 13 ((x + 1 : Nat) : Int)) (by omega) (by rw [zu_p (by decide), zu_p (by decide)]; exact h9) zu_self
    exact ⟨m1, a1, fun p k h1 h2 => by rw [a2 p k h1 h2, X_up h2, zu_p h1], a3⟩
theorem W_lodge (hi : C_is w h n heat price D A c U kn KS cs m) (hN : w_N w h n heat D) (hok : hr_ok n A) (ht : 0 ≤ A 35 ∧ A 35 ≤ 1073741824) (h138 : ∀ b, b < 3 → m 138 b = 0) (a : Int) : ∃ m1, z_R 98 (m, 0, [(2, 0), (0, a)], []) = some (m1, some (0, lo_A w h n heat price cs D A a)) ∧ c_ln m m1 (ro_lod w h n heat price cs D A a) := by
  have n5 := hN.1.2.2
  rw [lo_lod_0]
  by_cases c1 : a < 1
  · have e : lo_A w h n heat price cs D A a = -1 := if_pos (Or.inl c1)
    rw [if_pos c1, e]
    exact ⟨m, rfl, c_ln_n (if_pos (Or.inl c1))⟩
  rw [if_neg c1]
  by_cases c2 : 40 < a
  · have e : lo_A w h n heat price cs D A a = -1 := if_pos (Or.inr c2)
    rw [if_neg (by omega), e]
    exact ⟨m, rfl, c_ln_n (if_pos (Or.inr c2))⟩
  obtain ⟨N, rfl⟩ : ∃ N : Nat, a = (N : Int) := ⟨a.toNat, by omega⟩
  rw [if_pos (by omega), lo_inrL hi n5, zb_v, lo_lod_24]
  by_cases c3 : 4 < (o_ls A n 0).length
  · have e : lo_A w h n heat price cs D A (N : Int) = -3 := by
      unfold lo_A
      rw [if_neg (by omega), if_pos c3]
    rw [if_neg (by omega), e]
    exact ⟨m, rfl, c_ln_n ((if_neg (by omega)).trans (if_pos c3))⟩
  rw [lo_A_g (by omega) (by omega) c3, ro_lod_g (by omega) (by omega) c3]
  obtain ⟨m2, b1, b2, b3, b4, b5, b6, b7⟩ := lo_seaJ (N := N) (by omega) hN hok ht hi h138 (by omega) 1
  have hJ : lo_J w h n heat price D A c U kn KS cs (o_ls A n 0) N (0, -1, fun _ => 0) m2 := ⟨b2, b3, b4, b5, by decide +kernel, b6, Int.le_refl (-1), Or.inl rfl⟩
  obtain ⟨m3, d1, d2, d3, d4⟩ := lo_plaC (N := N) (by omega) hN hok ht (lo_ls_ok n A) (by omega) (o_ls A n 0).length 0 (by omega) 0 (fun _ => 0) (0, -1, fun _ => 0) m2 ⟨fun i hi => absurd hi (Nat.not_lt_zero i), fun i j _ hj => absurd hj (Nat.not_lt_zero j)⟩ (lo_tk_0 _) hJ (fun i hi => absurd hi (Nat.not_lt_zero i)) (fun b hb => b7 b hb)
  have d1 : z_R 106 (m2, 0, [(2, 122), (0, 0), (0, 0), (9, 0), (9, 0)], []) = some (m3, none) := d1
  rw [if_pos (by omega), b1, d1, zb_n, lo_sea_147, zb_n, lo_lod_44, s_tell0_0, zb_n, lo_lod_48]
  generalize lo_g (lo_V w h n heat price cs D A (o_ls A n 0) N) (N : Int) w h (o_ls A n 0).length 0 (fun _ => 0) (0, -1, fun _ => 0) = G at d2 ⊢
  have ez : (z_up m3 0 13 0) 122 12 = G.1 := (zu_p (by decide)).trans d2.2.2.2.1
  have hC4 : C_is w h n heat price D A c U kn KS cs (z_up m3 0 13 0) := C_upn d2.1.1 (by decide)
  have g138 : ∀ b, b < 3 → (z_up m3 0 13 0) 138 b = 0 := fun b hb => (zu_p (by decide)).trans ((d4 b hb).trans (b7 b hb))
  have e9 : (z_up m3 0 13 0) 122 9 = ((o_ls A n 0).length : Int) := (zu_p (by decide)).trans d2.1.2.1
  have e13 : (z_up m3 0 13 0) 0 13 = ((0 : Nat) : Int) := zu_self
  generalize z_up m3 0 13 0 = m4 at ez hC4 g138 e9 e13 ⊢
  rw [ez]
  by_cases c4 : G.1 ≤ 0
  · rw [if_pos c4, if_pos c4]
    exact ⟨m4, rfl, e13⟩
  · obtain ⟨m5, f1, f2, f3⟩ := W_telL (L := (o_ls A n 0).length) (by omega) (o_ls A n 0).length 0 m4 (by omega) e9 e13
    have f1 : z_R 108 (m4, 2, [(2, 0), (0, 0)], []) = some (m5, none) := f1
    rw [if_neg c4, if_neg c4, lo_tel_0, f1, zb_n, lo_lod_62, f2 122 12 (by decide) (by decide), ez]
    exact ⟨m5, rfl, f3⟩
theorem V_tteL {L : Nat} (hL : L ≤ 4) : ∀ (f x : Nat) (m : z_M), x + f = L → m 251 39 = (L : Int) → m 251 10 = (x : Int) → ∃ m1, z_R 231 (m, 2, [(2, 251), (0, (x : Int))], []) = some (m1, none) ∧ (∀ p k, ¬ p = 255 → ¬ (p = 251 ∧ k = 10) → m1 p k = m p k) ∧ m1 251 10 = (L : Int) := by
  intro f
  induction f with
  | zero =>
    intro x m hx h39 h10
    rw [lo_tte_2, h39, if_pos (by omega)]
    exact ⟨m, rfl, fun _ _ _ _ => rfl, h10.trans (by omega)⟩
  | succ f ih =>
    intro x m hx h39 h10
    rw [lo_tte_2, h39, if_neg (by omega), if_pos (by omega), t_tell (j := x) m _ (by omega) h10, zb_n, lo_tte_21, z_add_eq (x := (x : Int)) (y := 1) (by omega) (by omega), tc1]
    obtain ⟨m1, a1, a2, a3⟩ := ih (x + 1) (z_up (z_up m 255 x (z_i2l (m 267 ((x : Nat) : Int).toNat))) 251 10 ((x + 1 : Nat) : Int)) (by omega) (by rw [zu_k (by decide), zu_p (by decide)]; exact h39) zu_self
    exact ⟨m1, a1, fun p k h1 h2 => by rw [a2 p k h1 h2, X_up h2, zu_p h1], a3⟩
theorem V_lodge (hi : R_is w h n heat price D A c U kn KS cs m) (hN : w_N w h n heat D) (hok : hr_ok n A) (ht : 0 ≤ A 35 ∧ A 35 ≤ 1073741824) (a : Int) : ∃ m1, z_R 227 (m, 0, [(2, 251), (0, a)], []) = some (m1, some (0, lo_A w h n heat price cs D A a)) ∧ r_ln m m1 (ro_lod w h n heat price cs D A a) := by
  have n5 := hN.1.2.2
  rw [lo_tlo_0]
  by_cases c1 : ¬ (1 ≤ a ∧ a ≤ 40)
  · have e : lo_A w h n heat price cs D A a = -1 := if_pos (by omega)
    rw [if_neg c1, e]
    exact ⟨_, rfl, r_ln_n (zu_k (by decide)) (if_pos (by omega))⟩
  have c1 : 1 ≤ a ∧ a ≤ 40 := Decidable.not_not.mp c1
  obtain ⟨N, rfl⟩ : ∃ N : Nat, a = (N : Int) := ⟨a.toNat, by omega⟩
  have hu := R_upn (p0 := 251) (k0 := 39) (v := 0) (R_upn (p0 := 251) (k0 := 11) (v := 0) hi (by decide)) (by decide)
  have g0 : (z_up (z_up m 251 11 0) 251 39 0) 251 39 = ((0 : Nat) : Int) := zu_self
  have hw : (z_up (z_up m 251 11 0) 251 39 0) 251 10 = m 251 10 := (zu_k (by decide)).trans (zu_k (by decide))
  rw [if_pos c1, b_fl_0]
  generalize z_up (z_up m 251 11 0) 251 39 0 = m0 at hu g0 hw ⊢
  obtain ⟨m1, a1, a2, a3, a4⟩ := R_fl1 n5 n 0 0 m0 (by omega) (Nat.le_refl _) hu g0
  have a1 : z_R 228 (m0, 7, [(2, 251), (0, 0)], []) = some (m1, none) := a1
  rw [Nat.zero_add] at a2
  have hR1 : R_is w h n heat price D A c U kn KS cs m1 := R_fr hu fun p k hk => by
    have z := R_hit_no hk
    exact a4 p k (by omega) (by omega)
  rw [a1, zb_n, lo_tlo_21, a2]
  by_cases c3 : 4 < (o_ls A n 0).length
  · have e : lo_A w h n heat price cs D A (N : Int) = -3 := by
      unfold lo_A
      rw [if_neg (by omega), if_pos c3]
    rw [if_neg (by omega), e]
    exact ⟨m1, rfl, r_ln_n ((a4 251 10 (by decide) (by decide)).trans hw) ((if_neg (by omega)).trans (if_pos c3))⟩
  rw [lo_A_g (by omega) (by omega) c3, ro_lod_g (by omega) (by omega) c3, if_pos (by omega), lo_tla_0]
  have hK : lo_K w h n heat price D A c U kn KS cs (o_ls A n 0) (0, -1, fun _ => 0) (z_up (z_up m1 251 42 0) 251 43 (-1)) := by
    refine ⟨R_upn (R_upn hR1 (by decide)) (by decide), ?_, fun i hi => ?_, ?_, by decide +kernel, zu_self, Int.le_refl (-1), Or.inl rfl⟩
    · rw [zu_k (by decide), zu_k (by decide), a2]
    · have := lo_hl (l := []) (o_ls A n 0) 0 a3 i hi
      rw [Nat.zero_add] at this
      rw [zu_p (by decide), zu_p (by decide)]
      exact this
    · rw [zu_k (by decide), zu_self]
  generalize z_up (z_up m1 251 42 0) 251 43 (-1) = m2 at hK ⊢
  obtain ⟨m3, d1, d2, d3⟩ := lo_glL (N := N) (by omega) hN hok ht (lo_ls_ok n A) (by omega) (o_ls A n 0).length 0 (by omega) 0 (fun _ => 0) (0, -1, fun _ => 0) m2 (fun i hi => absurd hi (Nat.not_lt_zero i)) (lo_tk_0 _) hK (fun i hi => absurd hi (Nat.not_lt_zero i))
  have d1 : z_R 230 (m2, 0, [(2, 251), (0, 0), (0, 0), (0, (N : Int)), (9, 0), (9, 0)], []) = some (m3, none) := d1
  rw [d1, zb_n, lo_tla_17, zb_n, lo_tlo_37]
  generalize lo_g (lo_V w h n heat price cs D A (o_ls A n 0) N) (N : Int) w h (o_ls A n 0).length 0 (fun _ => 0) (0, -1, fun _ => 0) = G at d2 ⊢
  have e42 : m3 251 42 = G.1 := d2.2.2.2.1
  rw [e42]
  by_cases c4 : G.1 ≤ 0
  · rw [if_pos c4, if_pos c4]
    exact ⟨_, rfl, zu_self⟩
  · obtain ⟨m5, f1, f2, f3⟩ := V_tteL (L := (o_ls A n 0).length) (by omega) (o_ls A n 0).length 0 (z_up m3 251 10 0) (by omega) ((zu_k (by decide)).trans d2.2.1) zu_self
    have f1 : z_R 231 (z_up m3 251 10 0, 2, [(2, 251), (0, 0)], []) = some (m5, none) := f1
    rw [if_neg c4, if_neg c4, lo_tte_0, f1, zb_n, lo_tlo_53, f2 251 42 (by decide) (by decide), zu_k (by decide), e42]
    exact ⟨m5, rfl, f3⟩
theorem W_longest (hi : C_is w h n heat price D A c U kn KS cs m) (hN : w_N w h n heat D) (hok : hr_ok n A) (ht : 0 ≤ A 35 ∧ A 35 ≤ 1073741824) (h138 : ∀ b, b < 3 → m 138 b = 0) : ∃ m1 v, z_R 109 (m, 0, [(2, 0), (9, 0)], []) = some (m1, some (0, v)) ∧ c_ln m m1 (ro_lon w h n A) := by
  have n5 := hN.1.2.2
  rw [lo_lon_0, lo_inrL hi n5, zb_v, lo_lon_11, hi.1.1, hi.1.2.1]
  by_cases c1 : ((o_ls A n 0).length : Int) ≤ z_mul (w : Int) (h : Int)
  · rw [if_pos c1]
    by_cases c2 : 4 < (o_ls A n 0).length
    · rw [if_neg (by omega)]
      exact ⟨m, _, rfl, c_ln_n (if_pos (Or.inr c2))⟩
    obtain ⟨m2, b1, b2, b3, b4, b5, b6, b7⟩ := lo_seaJ (N := 100) (by omega) hN hok ht hi h138 (by omega) 0
    have b1 : z_R 102 (m, 0, [(2, 122), (2, 12), (0, 100), (0, 0), (9, 0)], []) = ((z_R 106 (m2, 0, [(2, 122), (0, 0), (0, 0), (9, 0), (9, 0)], [])).bind fun qq => z_R 102 (qq.1, 147, [(2, 122), (2, 12), (0, 100), (0, 0), (0, (w : Int))], qq.2.toList ++ [])) := b1
    obtain ⟨m3, d1, d2, d3⟩ := lo_plaF hN.1.1 (show (o_ls A n 0).length ≤ 4 by omega) (o_ls A n 0).length 0 (by omega) 0 m2 b2.1.1.1 b2.2.1 (fun b hb => by rw [b7 b hb]; decide +kernel)
    have d1 : z_R 106 (m2, 0, [(2, 122), (0, 0), (0, 0), (9, 0), (9, 0)], []) = some (m3, none) := d1
    have e9 : (z_up m3 0 13 0) 122 9 = ((o_ls A n 0).length : Int) := (zu_p (by decide)).trans ((d3 122 9 (by decide) (by decide) (by decide) (by decide)).trans b2.2.1)
    obtain ⟨m5, f1, f2, f3⟩ := W_telL (L := (o_ls A n 0).length) (by omega) (o_ls A n 0).length 0 (z_up m3 0 13 0) (by omega) e9 zu_self
    have f1 : z_R 108 (z_up m3 0 13 0, 2, [(2, 0), (0, 0)], []) = some (m5, none) := f1
    rw [if_pos (by omega), b1, d1, zb_n, lo_sea_147, zb_n, lo_lon_56, s_tell0_0, zb_n, lo_lon_60, lo_tel_0, f1, zb_n, lo_lon_64]
    exact ⟨m5, _, rfl, c_ln_s (if_neg (by omega)) f3⟩
  · rw [if_neg c1]
    exact ⟨m, _, rfl, c_ln_n (if_pos (Or.inl (by omega)))⟩
theorem V_longest (hi : R_is w h n heat price D A c U kn KS cs m) (hN : w_N w h n heat D) (hok : hr_ok n A) (ht : 0 ≤ A 35 ∧ A 35 ≤ 1073741824) : ∃ m1 v, z_R 232 (m, 0, [(2, 251)], []) = some (m1, some (0, v)) ∧ r_ln m m1 (ro_lon w h n A) := by
  have n5 := hN.1.2.2
  have hu := R_upn (p0 := 251) (k0 := 39) (v := 0) (R_upn (p0 := 251) (k0 := 11) (v := 0) hi (by decide)) (by decide)
  have g0 : (z_up (z_up m 251 11 0) 251 39 0) 251 39 = ((0 : Nat) : Int) := zu_self
  have hw : (z_up (z_up m 251 11 0) 251 39 0) 251 10 = m 251 10 := (zu_k (by decide)).trans (zu_k (by decide))
  rw [ll_tlo_0, b_fl_0]
  generalize z_up (z_up m 251 11 0) 251 39 0 = m0 at hu g0 hw ⊢
  obtain ⟨m1, a1, a2, a3, a4⟩ := R_fl1 n5 n 0 0 m0 (by omega) (Nat.le_refl _) hu g0
  have a1 : z_R 228 (m0, 7, [(2, 251), (0, 0)], []) = some (m1, none) := a1
  rw [Nat.zero_add] at a2
  have hR1 : R_is w h n heat price D A c U kn KS cs m1 := R_fr hu fun p k hk => by
    have z := R_hit_no hk
    exact a4 p k (by omega) (by omega)
  rw [a1, zb_n, ll_tlo_9, a2, hR1.1.1, hR1.1.2.1]
  by_cases c3 : 4 < (o_ls A n 0).length
  · rw [if_neg (by omega)]
    exact ⟨m1, _, rfl, r_ln_n ((a4 251 10 (by decide) (by decide)).trans hw) (if_pos (Or.inr c3))⟩
  rw [if_pos (by omega)]
  by_cases c2 : ((o_ls A n 0).length : Int) ≤ z_mul (w : Int) (h : Int)
  · rw [if_pos c2, lo_tla_0]
    have hK : lo_K w h n heat price D A c U kn KS cs (o_ls A n 0) (0, -1, fun _ => 0) (z_up (z_up m1 251 42 0) 251 43 (-1)) := by
      refine ⟨R_upn (R_upn hR1 (by decide)) (by decide), ?_, fun i hi => ?_, ?_, by decide +kernel, zu_self, Int.le_refl (-1), Or.inl rfl⟩
      · rw [zu_k (by decide), zu_k (by decide), a2]
      · have := lo_hl (l := []) (o_ls A n 0) 0 a3 i hi
        rw [Nat.zero_add] at this
        rw [zu_p (by decide), zu_p (by decide)]
        exact this
      · rw [zu_k (by decide), zu_self]
    generalize z_up (z_up m1 251 42 0) 251 43 (-1) = m2 at hK ⊢
    obtain ⟨m3, d1, d2, d3⟩ := lo_glL (N := 100) (by omega) hN hok ht (lo_ls_ok n A) (by omega) (o_ls A n 0).length 0 (by omega) 0 (fun _ => 0) (0, -1, fun _ => 0) m2 (fun i hi => absurd hi (Nat.not_lt_zero i)) (lo_tk_0 _) hK (fun i hi => absurd hi (Nat.not_lt_zero i))
    have d1 : z_R 230 (m2, 0, [(2, 251), (0, 0), (0, 0), (0, 100), (9, 0), (9, 0)], []) = some (m3, none) := d1
    obtain ⟨m5, f1, f2, f3⟩ := V_tteL (L := (o_ls A n 0).length) (by omega) (o_ls A n 0).length 0 (z_up m3 251 10 0) (by omega) ((zu_k (by decide)).trans d2.2.1) zu_self
    have f1 : z_R 231 (z_up m3 251 10 0, 2, [(2, 251), (0, 0)], []) = some (m5, none) := f1
    rw [d1, zb_n, lo_tla_17, zb_n, ll_tlo_45, lo_tte_0, f1, zb_n, ll_tlo_54]
    exact ⟨m5, _, rfl, r_ln_s (if_neg (by omega)) f3⟩
  · rw [if_neg c2]
    exact ⟨m1, _, rfl, r_ln_n ((a4 251 10 (by decide) (by decide)).trans hw) (if_pos (Or.inl (by omega)))⟩
end
theorem two_carry : l_two ln_Q (974, 148, 129, 1, false, 985, 151, 245) := by
  intro M1 M2 M3 σ σ1 σ2 as v1 v2 C1 C2 ρ1 ρ2 ha hR hh hM1 hC1 hp1 hE1 hC2 hp2 hE2
  obtain ⟨a, rfl⟩ := as_one ha
  have hE1 : z_R 129 (z_m σ, 0, [(2, 0), (0, a.toInt), (9, 0)], []) = some (z_m σ1, some (0, v1.toInt)) := z_R_iff.mpr hE1
  have hE2 : z_R 245 (z_m σ1, 0, [(2, 251), (0, a.toInt), (9, 0)], []) = some (z_m σ2, some (0, v2.toInt)) := z_R_iff.mpr hE2
  obtain ⟨w, h, n, heat, price, D, A, c, U, kn, KS, cs, cC, cR, cW⟩ := hR.2
  obtain ⟨b1, b2, -, -, hok, b35, -, b7⟩ := core_b hh hM1 cR
  have hN : w_N w h n heat D := ⟨b1, b2, b7⟩
  have kk := core_24 hh
  have f1 := R_off2_ok (y := 129) (by decide +kernel) hC1 hp1
  have cR1 := R_fr cR f1
  exact ln_do hE1 hE2 ((W_carry cC hN hok b35 cW.2.1 kk.2 a.toInt).imp fun _ h => ⟨_, h⟩) ((V_carry cR1 hN hok b35 cW.2.1 a.toInt).imp fun _ h => ⟨_, h⟩)
theorem two_lodge : l_twR Rel_L ln_Q (798, 116, 98, 1, false, 809, 119, 227) := by
  intro M1 M2 M3 σ σ1 σ2 as v1 v2 C1 C2 ρ1 ρ2 ha hR hh hM1 hC1 hp1 hE1 hC2 hp2 hE2
  obtain ⟨a, rfl⟩ := as_one ha
  have hE1 : z_R 98 (z_m σ, 0, [(2, 0), (0, a.toInt)], []) = some (z_m σ1, some (0, v1.toInt)) := z_R_iff.mpr hE1
  have hE2 : z_R 227 (z_m σ1, 0, [(2, 251), (0, a.toInt)], []) = some (z_m σ2, some (0, v2.toInt)) := z_R_iff.mpr hE2
  obtain ⟨w, h, n, heat, price, D, A, c, U, kn, KS, cs, cC, cR, cW⟩ := hR.1.2
  obtain ⟨b1, b2, -, -, hok, b35, -, b7⟩ := core_b hh hM1 cR
  have hN : w_N w h n heat D := ⟨b1, b2, b7⟩
  have f1 := R_off2_ok (y := 98) (by decide +kernel) hC1 hp1
  have cR1 := R_fr cR f1
  exact ln_do hE1 hE2 ((W_lodge cC hN hok b35 hR.2 a.toInt).imp fun _ h => ⟨_, h⟩) ((V_lodge cR1 hN hok b35 a.toInt).imp fun _ h => ⟨_, h⟩)
theorem two_longest : l_twR Rel_L ln_Q (817, 120, 109, 0, false, 822, 123, 232) := by
  intro M1 M2 M3 σ σ1 σ2 as v1 v2 C1 C2 ρ1 ρ2 ha hR hh hM1 hC1 hp1 hE1 hC2 hp2 hE2
  obtain rfl := as_nil ha
  have hE1 : z_R 109 (z_m σ, 0, [(2, 0), (9, 0)], []) = some (z_m σ1, some (0, v1.toInt)) := z_R_iff.mpr hE1
  have hE2 : z_R 232 (z_m σ1, 0, [(2, 251)], []) = some (z_m σ2, some (0, v2.toInt)) := z_R_iff.mpr hE2
  obtain ⟨w, h, n, heat, price, D, A, c, U, kn, KS, cs, cC, cR, cW⟩ := hR.1.2
  obtain ⟨b1, b2, -, -, hok, b35, -, b7⟩ := core_b hh hM1 cR
  have hN : w_N w h n heat D := ⟨b1, b2, b7⟩
  have f1 := R_off2_ok (y := 109) (by decide +kernel) hC1 hp1
  have cR1 := R_fr cR f1
  obtain ⟨m1, u1, x1, x2⟩ := W_longest cC hN hok b35 hR.2
  obtain ⟨m2, u2, y1, y2⟩ := V_longest cR1 hN hok b35
  exact ln_do hE1 hE2 ⟨m1, _, x1, x2⟩ ⟨m2, _, y1, y2⟩
theorem two_quiet : l_two ln_Q (836, 124, 110, 1, false, 847, 127, 233) := by
  intro M1 M2 M3 σ σ1 σ2 as v1 v2 C1 C2 ρ1 ρ2 ha hR hh hM1 hC1 hp1 hE1 hC2 hp2 hE2
  obtain ⟨a, rfl⟩ := as_one ha
  have hE1 : z_R 110 (z_m σ, 0, [(2, 0), (0, a.toInt), (9, 0)], []) = some (z_m σ1, some (0, v1.toInt)) := z_R_iff.mpr hE1
  have hE2 : z_R 233 (z_m σ1, 0, [(2, 251), (0, a.toInt), (9, 0), (9, 0), (9, 0), (9, 0)], []) = some (z_m σ2, some (0, v2.toInt)) := z_R_iff.mpr hE2
  obtain ⟨w, h, n, heat, price, D, A, c, U, kn, KS, cs, cC, cR, cW⟩ := hR.2
  obtain ⟨b1, b2, -, b4, hok, b35, -, -⟩ := core_b hh hM1 cR
  have f1 := R_off2_ok (y := 110) (by decide +kernel) hC1 hp1
  have cR1 := R_fr cR f1
  obtain ⟨m1, v, d1, d2, d3, d4⟩ := C_quiet cC b1 b2 b4 hok b35 a.toInt
  obtain ⟨e1, e2⟩ := R_inj d1 hE1
  subst e1
  obtain ⟨m2, v', g1, g2, g3, g4⟩ := R_quiet2 b1 b2 b4 hok b35 cR1 a.toInt
  obtain ⟨k1, k2⟩ := R_inj g1 hE2
  subst k1
  have ev : v = v' := by
    rcases d3 with ⟨n1, n2⟩ | ⟨n1, n2⟩
    · rcases g3 with ⟨o1, o2⟩ | ⟨o1, o2⟩
      · rw [n2, o2]
      · exact absurd o1 n1
    · rcases g3 with ⟨o1, o2⟩ | ⟨o1, o2⟩
      · exact absurd n1 o1
      · exact q_an_1 n2 o2
  rw [← ev] at g4
  by_cases z : v < 0
  · exact ⟨none, d4.trans (if_pos z), g4.trans (if_pos z)⟩
  · exact ⟨some v.toNat, (d4.trans (if_neg z)).trans (by omega), (g4.trans (if_neg z)).trans (by omega)⟩
end
section
/-! WHAT IS TOLD by carry, lodge, rests -/
section
variable {w h n : Nat} {heat price : Int} {D A : Nat → Int} {c : Nat} {U : Nat → Nat → Int} {kn : Nat → Int} {KS : Nat → Nat → Int} {cs : List Int} {m : z_M}
def ro_carv (w h n : Nat) (heat price : Int) (cs : List Int) (D A : Nat → Int) (a : Int) : Option (List Int) := if ¬ (1 ≤ a ∧ a ≤ 5) then none else if A 34 = -1 then none else some (rw_of a.toNat (fun i => z_i2l ((cy_G w h n heat price cs D a.toNat 0 A 0 (fun _ => 0) (1000000, fun _ => 0)).2 i)))
theorem X_cyadd {N : Nat} (hN5 : N ≤ 5) {l : Int} {S : Nat → Int} : ∀ (f x : Nat) (m : z_M), x + f = N → m 0 13 = (x : Int) → m 153 6 = l → (∀ i, i < N → z_i2l (m 156 i) = S i) → (∀ j, j < x → m 250 j = S j) → ∃ m1, z_R 129 (m, 44, [(2, 0), (0, (N : Int)), (0, (x : Int))], []) = some (m1, some (0, l)) ∧ m1 0 13 = (N : Int) ∧ ∀ j, j < N → m1 250 j = S j := by
  intro f
  induction f with
  | zero =>
    intro x m hx h13 hl hS hq
    rw [cy_car_44, if_pos (by omega), hl]
    exact ⟨m, rfl, h13.trans (by omega), fun j hj => hq j (by omega)⟩
  | succ f ih =>
    intro x m hx h13 hl hS hq
    rw [cy_car_44, if_neg (by omega), if_pos (by omega), c_add (j := x) m _ (by omega) h13, zb_n, cy_car_63, z_add_eq (x := (x : Int)) (y := 1) (by omega) (by omega), tc1, Int.toNat_natCast, hS x (by omega)]
    exact ih (x + 1) _ (by omega) zu_self (by rw [zu_p (by decide), zu_p (by decide)]; exact hl) (fun i hi => by rw [zu_p (by decide), zu_p (by decide)]; exact hS i hi) (fun j hj => by
      rw [zu_p (by decide)]
      by_cases e : j = x
      · rw [e, zu_self]
      · rw [zu_k e]; exact hq j (by omega))
theorem Y_cytel {N : Nat} (hN5 : N ≤ 5) {l : Int} {S : Nat → Int} : ∀ (f x : Nat) (m : z_M), x + f = N → m 251 10 = (x : Int) → m 251 49 = l → (∀ i, i < N → z_i2l (m 272 i) = S i) → (∀ j, j < x → m 255 j = S j) → ∃ m1, z_R 245 (m, 55, [(2, 251), (0, (N : Int)), (0, (x : Int))], []) = some (m1, some (0, l)) ∧ m1 251 10 = (N : Int) ∧ ∀ j, j < N → m1 255 j = S j := by
  intro f
  induction f with
  | zero =>
    intro x m hx h10 hl hS hq
    rw [cy_tca_55, if_pos (by omega), hl]
    exact ⟨m, rfl, h10.trans (by omega), fun j hj => hq j (by omega)⟩
  | succ f ih =>
    intro x m hx h10 hl hS hq
    rw [cy_tca_55, if_neg (by omega), if_pos (by omega), t_tell (j := x) m _ (by omega) h10, zb_n, cy_tca_71, z_add_eq (x := (x : Int)) (y := 1) (by omega) (by omega), tc1, Int.toNat_natCast, hS x (by omega)]
    exact ih (x + 1) _ (by omega) zu_self (by rw [zu_k (by decide), zu_p (by decide)]; exact hl) (fun i hi => by rw [zu_p (by decide), zu_p (by decide)]; exact hS i hi) (fun j hj => by
      rw [zu_p (by decide)]
      by_cases e : j = x
      · rw [e, zu_self]
      · rw [zu_k e]; exact hq j (by omega))
theorem X_carry (hi : C_is w h n heat price D A c U kn KS cs m) (hN : w_N w h n heat D) (hok : hr_ok n A) (ht : 0 ≤ A 35 ∧ A 35 ≤ 1073741824) (hw : wi w h n A) (k9 : z_w (m 24 9) = m 24 9) (a : Int) : ∃ m1, z_R 129 (m, 0, [(2, 0), (0, a), (9, 0)], []) = some (m1, some (0, cy_A w h n heat price cs D A a)) ∧ c_rw m m1 (ro_carv w h n heat price cs D A a) := by
  have e34 : m 12 6 = A 34 := by
    rw [← hi.2.2.1]
    exact (cS_at0 (s := 12) (j := 6) (by decide)).symm
  rw [cy_car_0]
  by_cases c1 : a < 1
  · have e : cy_A w h n heat price cs D A a = -1 := if_pos (by omega)
    rw [if_pos c1, e]
    exact ⟨m, rfl, c_rw_n (if_pos (by omega))⟩
  rw [if_neg c1]
  by_cases c2 : a ≤ 5
  · rw [if_pos c2, e34]
    by_cases c3 : A 34 = -1
    · have e : cy_A w h n heat price cs D A a = -2 := (if_neg (by omega)).trans (if_pos c3)
      rw [if_pos c3, e]
      exact ⟨m, rfl, c_rw_n ((if_neg (by omega)).trans (if_pos c3))⟩
    · have e : cy_A w h n heat price cs D A a = (cy_G w h n heat price cs D a.toNat 0 A 0 (fun _ => 0) (1000000, fun _ => 0)).1 := (if_neg (by omega)).trans (if_neg c3)
      obtain ⟨N, rfl⟩ : ∃ N : Nat, a = (N : Int) := ⟨a.toNat, by omega⟩
      rw [Int.toNat_natCast] at e
      rw [if_neg c3, cy_sea_0, if_neg (show ¬ (5 : Int) < (N : Int) by omega)]
      have hi0 : C_is w h n heat price D A c U kn KS cs (z_up (z_up m 153 5 (N : Int)) 153 6 (-1)) := C_upn (C_upn hi (by decide)) (by decide)
      have g5 : (z_up (z_up m 153 5 (N : Int)) 153 6 (-1)) 153 5 = (N : Int) := by rw [zu_k (by decide), zu_self]
      have g6 : (z_up (z_up m 153 5 (N : Int)) 153 6 (-1)) 153 6 = -1 := zu_self
      have g9 : (z_up (z_up m 153 5 (N : Int)) 153 6 (-1)) 24 9 = m 24 9 := by rw [zu_p (by decide), zu_p (by decide)]
      generalize z_up (z_up m 153 5 (N : Int)) 153 6 (-1) = m0 at hi0 g5 g6 g9 ⊢
      obtain ⟨m3, b1, b2, b3⟩ := c_become z_st_12 (cy_zst (k := 0) (by decide)) (by decide) m0
      have b1 : z_R 61 (m0, 0, [(2, 157), (2, 12)], []) = some (m3, none) := b1
      have hi3 : C_is w h n heat price D A c U kn KS cs m3 := C_fr hi0 fun p k hk => by
        have hk' := hk
        unfold C_hit at hk'
        have hk' := of_decide_eq_true hk'
        exact b3.of (by (repeat' (first | exact trivial | refine z_of_c ?_ ?_)) <;> omega)
      have hv : cy_iC w h n heat price D A c U kn KS cs N (1000000, fun _ => 0) m3 := ⟨hi3, (b3.of (by (repeat' (first | exact trivial | refine z_of_c ?_ ?_)) <;> omega)).trans g5, ((b3.of (by (repeat' (first | exact trivial | refine z_of_c ?_ ?_)) <;> omega)).trans g6).trans (if_pos rfl).symm, ⟨by decide, by decide⟩, Or.inl rfl, by rw [show m3 24 9 = m0 24 9 from b3.of (by (repeat' (first | exact trivial | refine z_of_c ?_ ?_)) <;> omega), g9]; exact k9⟩
      have hQ : cy_Q w h n 0 A := ⟨hok, ⟨ht.1, by omega⟩, hw⟩
      obtain ⟨m4, d1, d2, -, -⟩ := cy_gf (N := N) (by omega) hN N 0 (by omega) 0 m3 A (fun _ => 0) (1000000, fun _ => 0) (by decide) (by decide) hv ((cS_cR b2).trans hi0.2.2.1) hQ (fun i hi => absurd hi (Nat.not_lt_zero i))
      have d1 : z_R 131 (m3, 0, [(2, 153), (0, 0), (0, 0), (9, 0), (9, 0), (9, 0), (9, 0), (9, 0)], []) = some (m4, none) := d1
      have hfin : (cy_G w h n heat price cs D N 0 A 0 (fun _ => 0) (1000000, fun _ => 0)).1 ≤ 0 + 891 * (N : Int) := cy_fin (cy_Q_ok (price := price) (cs := cs) hN) (cy_Q_ne hN) N 0 A 0 (fun _ => 0) (1000000, fun _ => 0) (by omega) hQ
      have e6 : m4 153 6 = (if (cy_G w h n heat price cs D N 0 A 0 (fun _ => 0) (1000000, fun _ => 0)).1 = 1000000 then -1 else (cy_G w h n heat price cs D N 0 A 0 (fun _ => 0) (1000000, fun _ => 0)).1) := d2.2.2.1
      rw [if_neg (show ¬ (cy_G w h n heat price cs D N 0 A 0 (fun _ => 0) (1000000, fun _ => 0)).1 = 1000000 from fun z => by
        rw [z] at hfin
        omega)] at e6
      rw [b1, zb_n, cy_sea_24, d1, zb_n, cy_sea_30, zb_n, cy_car_38, s_tell0_0, zb_n, cy_car_42, e]
      have hrow : ∀ i, i < N → m4 156 i = (cy_G w h n heat price cs D N 0 A 0 (fun _ => 0) (1000000, fun _ => 0)).2 i := (d2.2.2.2.2.1).resolve_left (fun z => by
        rw [z] at hfin
        omega)
      obtain ⟨m5, k1, k2, k3⟩ := X_cyadd (N := N) (by omega) (S := fun i => z_i2l ((cy_G w h n heat price cs D N 0 A 0 (fun _ => 0) (1000000, fun _ => 0)).2 i)) N 0 _ (by omega) zu_self ((zu_p (by decide)).trans e6) (fun i hi => by rw [zu_p (by decide), hrow i hi]) (fun j hj => absurd hj (Nat.not_lt_zero j))
      refine ⟨m5, k1, c_rw_s ((if_neg (by omega)).trans (if_neg c3)) ?_⟩
      rw [Int.toNat_natCast]
      exact c_rw_of k2 k3
  · have e : cy_A w h n heat price cs D A a = -1 := if_pos (by omega)
    rw [if_neg c2, e]
    exact ⟨m, rfl, c_rw_n (if_pos (by omega))⟩
theorem Y_carry (hi : R_is w h n heat price D A c U kn KS cs m) (hN : w_N w h n heat D) (hok : hr_ok n A) (ht : 0 ≤ A 35 ∧ A 35 ≤ 1073741824) (hw : wi w h n A) (a : Int) : ∃ m1, z_R 245 (m, 0, [(2, 251), (0, a), (9, 0)], []) = some (m1, some (0, cy_A w h n heat price cs D A a)) ∧ r_rw m m1 (ro_carv w h n heat price cs D A a) := by
  have e34 : m 252 34 = A 34 := R_A hi (by decide) (a_vis_hi (by decide))
  have hu := R_upn (p0 := 251) (k0 := 11) (v := 0) hi (by decide)
  have hw0 : r_rw m (z_up m 251 11 0) none := r_rw_11
  rw [cy_tca_0, e34]
  generalize z_up m 251 11 0 = m0 at hu hw0 ⊢
  by_cases c1 : 1 ≤ a ∧ a ≤ 5
  · rw [if_pos c1]
    by_cases c3 : A 34 = -1
    · have e : cy_A w h n heat price cs D A a = -2 := (if_neg (not_not_intro c1)).trans (if_pos c3)
      rw [if_pos c3, e]
      exact ⟨_, rfl, r_rw_m hw0 ((if_neg (not_not_intro c1)).trans (if_pos c3))⟩
    · have e : cy_A w h n heat price cs D A a = (cy_G w h n heat price cs D a.toNat 0 A 0 (fun _ => 0) (1000000, fun _ => 0)).1 := (if_neg (not_not_intro c1)).trans (if_neg c3)
      obtain ⟨N, rfl⟩ : ∃ N : Nat, a = (N : Int) := ⟨a.toNat, by omega⟩
      rw [Int.toNat_natCast] at e
      obtain ⟨m1, b1, b2, b3⟩ := R_lt hu
      have hQ : cy_Q w h n 0 A := ⟨hok, ⟨ht.1, by omega⟩, hw⟩
      have hv : cy_iR w h n heat price D A c U kn KS cs N (1000000, fun _ => 0) (z_up m1 251 49 1000000) := ⟨R_upn b2 (by decide), zu_self, Or.inl rfl⟩
      obtain ⟨m4, d1, d2, -, -⟩ := cy_gc (N := N) (by omega) hN N 0 (by omega) 0 (z_up m1 251 49 1000000) A (fun _ => 0) (1000000, fun _ => 0) (by decide) (by decide) hv ((rS_row (zu_rowne (by decide))).trans b3) hQ (fun i hi => absurd hi (Nat.not_lt_zero i))
      have d1 : z_R 246 (z_up m1 251 49 1000000, 0, [(2, 251), (0, 0), (0, (N : Int)), (0, 0), (9, 0), (9, 0), (9, 0), (9, 0)], []) = some (m4, none) := d1
      rw [if_neg c3, b1, zb_n, cy_tca_34, d1, zb_n, cy_tca_48, e]
      have hfin : (cy_G w h n heat price cs D N 0 A 0 (fun _ => 0) (1000000, fun _ => 0)).1 ≤ 0 + 891 * (N : Int) := cy_fin (cy_Q_ok (price := price) (cs := cs) hN) (cy_Q_ne hN) N 0 A 0 (fun _ => 0) (1000000, fun _ => 0) (by omega) hQ
      have hrow : ∀ i, i < N → m4 272 i = (cy_G w h n heat price cs D N 0 A 0 (fun _ => 0) (1000000, fun _ => 0)).2 i := (d2.2.2).resolve_left (fun z => by
        rw [z] at hfin
        omega)
      obtain ⟨m5, k1, k2, k3⟩ := Y_cytel (N := N) (by omega) (S := fun i => z_i2l ((cy_G w h n heat price cs D N 0 A 0 (fun _ => 0) (1000000, fun _ => 0)).2 i)) N 0 _ (by omega) zu_self ((zu_k (by decide)).trans d2.2.1) (fun i hi => by rw [zu_p (by decide), hrow i hi]) (fun j hj => absurd hj (Nat.not_lt_zero j))
      refine ⟨m5, k1, r_rw_s ((if_neg (not_not_intro c1)).trans (if_neg c3)) ?_⟩
      rw [Int.toNat_natCast]
      exact r_rw_of k2 k3
  · have e : cy_A w h n heat price cs D A a = -1 := if_pos c1
    rw [if_neg c1, e]
    exact ⟨_, rfl, r_rw_m hw0 (if_pos c1)⟩
/-! lodge -/
theorem lo_w_P {N v : Int} {rr : Nat → Nat} {a : lo_a} (hv : 0 ≤ v) : 0 ≤ (lo_w N v rr a).2.1 := by
  show 0 ≤ (if a.2.1 < v then v else a.2.1)
  by_cases e : a.2.1 < v
  · rw [if_pos e]; exact hv
  · rw [if_neg e]; omega
theorem lo_fold_P {f : lo_a → Nat → lo_a} (hf : ∀ a r, (a.2.1 < 0 → a.1 ≤ 0) → ((f a r).2.1 < 0 → (f a r).1 ≤ 0)) : ∀ (l : List Nat) (a : lo_a), (a.2.1 < 0 → a.1 ≤ 0) → ((l.foldl f a).2.1 < 0 → (l.foldl f a).1 ≤ 0) := by
  intro l
  induction l with
  | nil => intro a h; exact h
  | cons r l ih => intro a h; exact ih (f a r) (hf a r h)
theorem lo_g_P {V : (Nat → Nat) → Int} {N : Int} (hV : ∀ rr, 0 ≤ V rr) {w h : Nat} : ∀ (j k : Nat) (rr : Nat → Nat) (a : lo_a), (a.2.1 < 0 → a.1 ≤ 0) → ((lo_g V N w h j k rr a).2.1 < 0 → (lo_g V N w h j k rr a).1 ≤ 0) := by
  intro j
  induction j with
  | zero =>
    intro k rr a _ hlt
    have := lo_w_P (N := N) (v := V rr) (rr := rr) (a := a) (hV rr)
    have hlt : (lo_w N (V rr) rr a).2.1 < 0 := hlt
    omega
  | succ j ih =>
    intro k rr a ha
    refine lo_fold_P (fun a' r h' => ?_) (lo_rs 9 0) a ha
    by_cases e : lo_can w h k rr r = true
    · rw [if_pos e]
      exact ih (k + 1) (lo_up rr k r) a' h'
    · rw [if_neg e]
      exact h'
theorem lo_V_nn {l : List Nat} {N : Nat} (rr : Nat → Nat) : 0 ≤ lo_V w h n heat price cs D A l N rr := by
  unfold lo_V
  rcases s_sta_x (w := w) (h := h) (n := n) (heat := heat) (price := price) (cs := cs) (D := D) (F := s_F w h A) (N := N) N 0 (lo_pl l rr l.length A) (Nat.zero_add N) with z | z
  · rw [z]; omega
  · exact z.1
def ro_lodv (w h n : Nat) (heat price : Int) (cs : List Int) (D A : Nat → Int) (a : Int) : Option (List Int) := if a < 1 ∨ 40 < a then none else if 4 < (o_ls A n 0).length then none else some (if (lo_g (lo_V w h n heat price cs D A (o_ls A n 0) a.toNat) ((a.toNat : Nat) : Int) w h (o_ls A n 0).length 0 (fun _ => 0) (0, -1, fun _ => 0)).1 ≤ 0 then [] else rw_of (o_ls A n 0).length (fun i => z_i2l (((lo_g (lo_V w h n heat price cs D A (o_ls A n 0) a.toNat) ((a.toNat : Nat) : Int) w h (o_ls A n 0).length 0 (fun _ => 0) (0, -1, fun _ => 0)).2.2 i : Nat) : Int)))
theorem ro_lodv_g {N : Nat} (h1 : 1 ≤ N) (h2 : N ≤ 40) (h3 : ¬ 4 < (o_ls A n 0).length) : ro_lodv w h n heat price cs D A (N : Int) = some (if (lo_g (lo_V w h n heat price cs D A (o_ls A n 0) N) (N : Int) w h (o_ls A n 0).length 0 (fun _ => 0) (0, -1, fun _ => 0)).1 ≤ 0 then [] else rw_of (o_ls A n 0).length (fun i => z_i2l (((lo_g (lo_V w h n heat price cs D A (o_ls A n 0) N) (N : Int) w h (o_ls A n 0).length 0 (fun _ => 0) (0, -1, fun _ => 0)).2.2 i : Nat) : Int))) := by
  unfold ro_lodv
  rw [if_neg (by omega), if_neg h3, Int.toNat_natCast]
theorem X_telL {L : Nat} (hL : L ≤ 4) {S : Nat → Int} : ∀ (f x : Nat) (m : z_M), x + f = L → m 122 9 = (L : Int) → m 0 13 = (x : Int) → (∀ i, i < L → z_i2l (m 137 i) = S i) → (∀ j, j < x → m 250 j = S j) → ∃ m1, z_R 108 (m, 2, [(2, 0), (0, (x : Int))], []) = some (m1, none) ∧ (∀ p k, ¬ p = 250 → ¬ (p = 0 ∧ k = 13) → m1 p k = m p k) ∧ m1 0 13 = (L : Int) ∧ ∀ j, j < L → m1 250 j = S j := by
  intro f
  induction f with
  | zero =>
    intro x m hx h9 h13 hS hq
    rw [lo_tel_2, h9, if_pos (by omega)]
    exact ⟨m, rfl, fun _ _ _ _ => rfl, h13.trans (by omega), fun j hj => hq j (by omega)⟩
  | succ f ih =>
    intro x m hx h9 h13 hS hq
    rw [lo_tel_2, h9, if_neg (by omega), if_pos (by omega), c_add (j := x) m _ (by omega) h13, zb_n, lo_tel_27, z_add_eq (x := (x : Int)) (y := 1) (by omega) (by omega), tc1]
    obtain ⟨m1, a1, a2, a3, a4⟩ := ih (x + 1) (z_up (z_up m 250 x (z_i2l (m 137 ((x : Nat) : Int).toNat))) 0 13 ((x + 1 : Nat) : Int)) (by omega) (by rw [zu_p (by decide), zu_p (by decide)]; exact h9) zu_self (fun i hi => by rw [zu_p (by decide), zu_p (by decide)]; exact hS i hi) (fun j hj => by
      rw [zu_p (by decide)]
      by_cases e : j = x
      · rw [e, zu_self]
        exact hS x (by omega)
      · rw [zu_k e]; exact hq j (by omega))
    exact ⟨m1, a1, fun p k h1 h2 => by rw [a2 p k h1 h2, X_up h2, zu_p h1], a3, a4⟩
theorem Y_tteL {L : Nat} (hL : L ≤ 4) {S : Nat → Int} : ∀ (f x : Nat) (m : z_M), x + f = L → m 251 39 = (L : Int) → m 251 10 = (x : Int) → (∀ i, i < L → z_i2l (m 267 i) = S i) → (∀ j, j < x → m 255 j = S j) → ∃ m1, z_R 231 (m, 2, [(2, 251), (0, (x : Int))], []) = some (m1, none) ∧ (∀ p k, ¬ p = 255 → ¬ (p = 251 ∧ k = 10) → m1 p k = m p k) ∧ m1 251 10 = (L : Int) ∧ ∀ j, j < L → m1 255 j = S j := by
  intro f
  induction f with
  | zero =>
    intro x m hx h39 h10 hS hq
    rw [lo_tte_2, h39, if_pos (by omega)]
    exact ⟨m, rfl, fun _ _ _ _ => rfl, h10.trans (by omega), fun j hj => hq j (by omega)⟩
  | succ f ih =>
    intro x m hx h39 h10 hS hq
    rw [lo_tte_2, h39, if_neg (by omega), if_pos (by omega), t_tell (j := x) m _ (by omega) h10, zb_n, lo_tte_21, z_add_eq (x := (x : Int)) (y := 1) (by omega) (by omega), tc1]
    obtain ⟨m1, a1, a2, a3, a4⟩ := ih (x + 1) (z_up (z_up m 255 x (z_i2l (m 267 ((x : Nat) : Int).toNat))) 251 10 ((x + 1 : Nat) : Int)) (by omega) (by rw [zu_k (by decide), zu_p (by decide)]; exact h39) zu_self (fun i hi => by rw [zu_p (by decide), zu_p (by decide)]; exact hS i hi) (fun j hj => by
      rw [zu_p (by decide)]
      by_cases e : j = x
      · rw [e, zu_self]
        exact hS x (by omega)
      · rw [zu_k e]; exact hq j (by omega))
    exact ⟨m1, a1, fun p k h1 h2 => by rw [a2 p k h1 h2, X_up h2, zu_p h1], a3, a4⟩
theorem X_lodge (hi : C_is w h n heat price D A c U kn KS cs m) (hN : w_N w h n heat D) (hok : hr_ok n A) (ht : 0 ≤ A 35 ∧ A 35 ≤ 1073741824) (h138 : ∀ b, b < 3 → m 138 b = 0) (a : Int) : ∃ m1, z_R 98 (m, 0, [(2, 0), (0, a)], []) = some (m1, some (0, lo_A w h n heat price cs D A a)) ∧ c_rw m m1 (ro_lodv w h n heat price cs D A a) := by
  have n5 := hN.1.2.2
  rw [lo_lod_0]
  by_cases c1 : a < 1
  · have e : lo_A w h n heat price cs D A a = -1 := if_pos (Or.inl c1)
    rw [if_pos c1, e]
    exact ⟨m, rfl, c_rw_n (if_pos (Or.inl c1))⟩
  rw [if_neg c1]
  by_cases c2 : 40 < a
  · have e : lo_A w h n heat price cs D A a = -1 := if_pos (Or.inr c2)
    rw [if_neg (by omega), e]
    exact ⟨m, rfl, c_rw_n (if_pos (Or.inr c2))⟩
  obtain ⟨N, rfl⟩ : ∃ N : Nat, a = (N : Int) := ⟨a.toNat, by omega⟩
  rw [if_pos (by omega), lo_inrL hi n5, zb_v, lo_lod_24]
  by_cases c3 : 4 < (o_ls A n 0).length
  · have e : lo_A w h n heat price cs D A (N : Int) = -3 := by
      unfold lo_A
      rw [if_neg (by omega), if_pos c3]
    rw [if_neg (by omega), e]
    exact ⟨m, rfl, c_rw_n ((if_neg (by omega)).trans (if_pos c3))⟩
  rw [lo_A_g (by omega) (by omega) c3, ro_lodv_g (by omega) (by omega) c3]
  obtain ⟨m2, b1, b2, b3, b4, b5, b6, b7⟩ := lo_seaJ (N := N) (by omega) hN hok ht hi h138 (by omega) 1
  have hJ : lo_J w h n heat price D A c U kn KS cs (o_ls A n 0) N (0, -1, fun _ => 0) m2 := ⟨b2, b3, b4, b5, by decide +kernel, b6, Int.le_refl (-1), Or.inl rfl⟩
  obtain ⟨m3, d1, d2, d3, d4⟩ := lo_plaC (N := N) (by omega) hN hok ht (lo_ls_ok n A) (by omega) (o_ls A n 0).length 0 (by omega) 0 (fun _ => 0) (0, -1, fun _ => 0) m2 ⟨fun i hi => absurd hi (Nat.not_lt_zero i), fun i j _ hj => absurd hj (Nat.not_lt_zero j)⟩ (lo_tk_0 _) hJ (fun i hi => absurd hi (Nat.not_lt_zero i)) (fun b hb => b7 b hb)
  have d1 : z_R 106 (m2, 0, [(2, 122), (0, 0), (0, 0), (9, 0), (9, 0)], []) = some (m3, none) := d1
  rw [if_pos (by omega), b1, d1, zb_n, lo_sea_147, zb_n, lo_lod_44, s_tell0_0, zb_n, lo_lod_48]
  have hP := lo_g_P (V := lo_V w h n heat price cs D A (o_ls A n 0) N) (N := (N : Int)) (lo_V_nn) (w := w) (h := h) (o_ls A n 0).length 0 (fun _ => 0) (0, -1, fun _ => 0) (fun _ => Int.le_refl 0)
  generalize lo_g (lo_V w h n heat price cs D A (o_ls A n 0) N) (N : Int) w h (o_ls A n 0).length 0 (fun _ => 0) (0, -1, fun _ => 0) = G at d2 hP ⊢
  have ez : (z_up m3 0 13 0) 122 12 = G.1 := (zu_p (by decide)).trans d2.2.2.2.1
  have hC4 : C_is w h n heat price D A c U kn KS cs (z_up m3 0 13 0) := C_upn d2.1.1 (by decide)
  have g138 : ∀ b, b < 3 → (z_up m3 0 13 0) 138 b = 0 := fun b hb => (zu_p (by decide)).trans ((d4 b hb).trans (b7 b hb))
  have e9 : (z_up m3 0 13 0) 122 9 = ((o_ls A n 0).length : Int) := (zu_p (by decide)).trans d2.1.2.1
  have e13 : (z_up m3 0 13 0) 0 13 = ((0 : Nat) : Int) := zu_self
  have e137 : ∀ i, i < (o_ls A n 0).length → 0 < G.1 → z_i2l ((z_up m3 0 13 0) 137 i) = z_i2l ((G.2.2 i : Nat) : Int) := fun i hi hG => by
    rw [zu_p (by decide), (d2.2.2.2.2.2.2.2.resolve_left (fun z => by
      have := hP (by omega)
      omega)) i hi]
  generalize z_up m3 0 13 0 = m4 at ez hC4 g138 e9 e13 e137 ⊢
  rw [ez]
  by_cases c4 : G.1 ≤ 0
  · rw [if_pos c4, if_pos c4]
    exact ⟨m4, rfl, e13, fun i hi => absurd hi (Nat.not_lt_zero i)⟩
  · obtain ⟨m5, f1, f2, f3, f4⟩ := X_telL (L := (o_ls A n 0).length) (by omega) (S := fun i => z_i2l ((G.2.2 i : Nat) : Int)) (o_ls A n 0).length 0 m4 (by omega) e9 e13 (fun i hi => e137 i hi (by omega)) (fun j hj => absurd hj (Nat.not_lt_zero j))
    have f1 : z_R 108 (m4, 2, [(2, 0), (0, 0)], []) = some (m5, none) := f1
    rw [if_neg c4, if_neg c4, lo_tel_0, f1, zb_n, lo_lod_62, f2 122 12 (by decide) (by decide), ez]
    exact ⟨m5, rfl, c_rw_of f3 f4⟩
theorem Y_lodge (hi : R_is w h n heat price D A c U kn KS cs m) (hN : w_N w h n heat D) (hok : hr_ok n A) (ht : 0 ≤ A 35 ∧ A 35 ≤ 1073741824) (a : Int) : ∃ m1, z_R 227 (m, 0, [(2, 251), (0, a)], []) = some (m1, some (0, lo_A w h n heat price cs D A a)) ∧ r_rw m m1 (ro_lodv w h n heat price cs D A a) := by
  have n5 := hN.1.2.2
  rw [lo_tlo_0]
  by_cases c1 : ¬ (1 ≤ a ∧ a ≤ 40)
  · have e : lo_A w h n heat price cs D A a = -1 := if_pos (by omega)
    rw [if_neg c1, e]
    exact ⟨_, rfl, r_rw_n (if_pos (by omega))⟩
  have c1 : 1 ≤ a ∧ a ≤ 40 := Decidable.not_not.mp c1
  obtain ⟨N, rfl⟩ : ∃ N : Nat, a = (N : Int) := ⟨a.toNat, by omega⟩
  have hu := R_upn (p0 := 251) (k0 := 39) (v := 0) (R_upn (p0 := 251) (k0 := 11) (v := 0) hi (by decide)) (by decide)
  have g0 : (z_up (z_up m 251 11 0) 251 39 0) 251 39 = ((0 : Nat) : Int) := zu_self
  have hw : r_rw m (z_up (z_up m 251 11 0) 251 39 0) none := r_rw_fr r_rw_11 (zu_k (by decide)) (fun _ _ => zu_p (by decide))
  rw [if_pos c1, b_fl_0]
  generalize z_up (z_up m 251 11 0) 251 39 0 = m0 at hu g0 hw ⊢
  obtain ⟨m1, a1, a2, a3, a4⟩ := R_fl1 n5 n 0 0 m0 (by omega) (Nat.le_refl _) hu g0
  have a1 : z_R 228 (m0, 7, [(2, 251), (0, 0)], []) = some (m1, none) := a1
  rw [Nat.zero_add] at a2
  have hR1 : R_is w h n heat price D A c U kn KS cs m1 := R_fr hu fun p k hk => by
    have z := R_hit_no hk
    exact a4 p k (by omega) (by omega)
  rw [a1, zb_n, lo_tlo_21, a2]
  by_cases c3 : 4 < (o_ls A n 0).length
  · have e : lo_A w h n heat price cs D A (N : Int) = -3 := by
      unfold lo_A
      rw [if_neg (by omega), if_pos c3]
    rw [if_neg (by omega), e]
    exact ⟨m1, rfl, r_rw_m (r_rw_fr hw (a4 251 10 (by decide) (by decide)) (fun i _ => a4 255 i (by omega) (by omega))) ((if_neg (by omega)).trans (if_pos c3))⟩
  rw [lo_A_g (by omega) (by omega) c3, ro_lodv_g (by omega) (by omega) c3, if_pos (by omega), lo_tla_0]
  have hK : lo_K w h n heat price D A c U kn KS cs (o_ls A n 0) (0, -1, fun _ => 0) (z_up (z_up m1 251 42 0) 251 43 (-1)) := by
    refine ⟨R_upn (R_upn hR1 (by decide)) (by decide), ?_, fun i hi => ?_, ?_, by decide +kernel, zu_self, Int.le_refl (-1), Or.inl rfl⟩
    · rw [zu_k (by decide), zu_k (by decide), a2]
    · have := lo_hl (l := []) (o_ls A n 0) 0 a3 i hi
      rw [Nat.zero_add] at this
      rw [zu_p (by decide), zu_p (by decide)]
      exact this
    · rw [zu_k (by decide), zu_self]
  generalize z_up (z_up m1 251 42 0) 251 43 (-1) = m2 at hK ⊢
  obtain ⟨m3, d1, d2, d3⟩ := lo_glL (N := N) (by omega) hN hok ht (lo_ls_ok n A) (by omega) (o_ls A n 0).length 0 (by omega) 0 (fun _ => 0) (0, -1, fun _ => 0) m2 (fun i hi => absurd hi (Nat.not_lt_zero i)) (lo_tk_0 _) hK (fun i hi => absurd hi (Nat.not_lt_zero i))
  have d1 : z_R 230 (m2, 0, [(2, 251), (0, 0), (0, 0), (0, (N : Int)), (9, 0), (9, 0)], []) = some (m3, none) := d1
  rw [d1, zb_n, lo_tla_17, zb_n, lo_tlo_37]
  have hP := lo_g_P (V := lo_V w h n heat price cs D A (o_ls A n 0) N) (N := (N : Int)) (lo_V_nn) (w := w) (h := h) (o_ls A n 0).length 0 (fun _ => 0) (0, -1, fun _ => 0) (fun _ => Int.le_refl 0)
  generalize lo_g (lo_V w h n heat price cs D A (o_ls A n 0) N) (N : Int) w h (o_ls A n 0).length 0 (fun _ => 0) (0, -1, fun _ => 0) = G at d2 hP ⊢
  have e42 : m3 251 42 = G.1 := d2.2.2.2.1
  rw [e42]
  by_cases c4 : G.1 ≤ 0
  · rw [if_pos c4, if_pos c4]
    exact ⟨_, rfl, zu_self, fun i hi => absurd hi (Nat.not_lt_zero i)⟩
  · have e267 : ∀ i, i < (o_ls A n 0).length → z_i2l ((z_up m3 251 10 0) 267 i) = z_i2l ((G.2.2 i : Nat) : Int) := fun i hi => by
      rw [zu_p (by decide), (d2.2.2.2.2.2.2.2.resolve_left (fun z => by
        have := hP (by omega)
        omega)) i hi]
    obtain ⟨m5, f1, f2, f3, f4⟩ := Y_tteL (L := (o_ls A n 0).length) (by omega) (S := fun i => z_i2l ((G.2.2 i : Nat) : Int)) (o_ls A n 0).length 0 (z_up m3 251 10 0) (by omega) ((zu_k (by decide)).trans d2.2.1) zu_self e267 (fun j hj => absurd hj (Nat.not_lt_zero j))
    have f1 : z_R 231 (z_up m3 251 10 0, 2, [(2, 251), (0, 0)], []) = some (m5, none) := f1
    rw [if_neg c4, if_neg c4, lo_tte_0, f1, zb_n, lo_tlo_53, f2 251 42 (by decide) (by decide), zu_k (by decide), e42]
    exact ⟨m5, rfl, r_rw_of f3 f4⟩
end
end
section
/-! WHAT IS TOLD by winter, rests -/
section
variable {w h n : Nat} {heat price : Int} {D A : Nat → Int} {c : Nat} {U : Nat → Nat → Int} {kn : Nat → Int} {KS : Nat → Nat → Int} {cs : List Int} {m : z_M}
theorem w_pr {a b c d : Int} (h1 : a = c) (h2 : b = d) : ((a, b) : Int × Int) = (c, d) := by rw [h1, h2]
theorem hr_H_s {ml : hr_M} {wmt : Int → Nat → Int} {N : Nat} {A : Nat → Int} {M G F T : Int} : hr_H w h heat price ml wmt n (N + 1) A M G F T = hr_H w h heat price ml wmt n N (hr_A w h heat price ml (wmt (A 35)) n A) (z_add M (hr_m w h heat ml (wmt (A 35)) n A)) (z_or G (hr_K w h heat price ml (wmt (A 35)) n A).2.1) (z_or F (hr_K w h heat price ml (wmt (A 35)) n A).2.2.1) (z_add T (hr_K w h heat price ml (wmt (A 35)) n A).2.2.2) := rfl
theorem hr_H_26 {ml : hr_M} {wmt : Int → Nat → Int} : ∀ (N : Nat) (A : Nat → Int) (M G F T : Int), (hr_H w h heat price ml wmt n N A M G F T).2.1 = (hr_H w h heat price ml wmt n N A M 0 0 0).2.1 := by
  intro N
  induction N with
  | zero => intro A M G F T; rfl
  | succ N ih =>
    intro A M G F T
    rw [hr_H_s, hr_H_s, ih, ih _ _ (z_or 0 _)]
theorem hr_H_29 {ml : hr_M} {wmt : Int → Nat → Int} : ∀ (N : Nat) (A : Nat → Int) (M G F T : Int), (hr_H w h heat price ml wmt n N A M G F T).2.2.2.2 = (hr_H w h heat price ml wmt n N A 0 0 0 T).2.2.2.2 := by
  intro N
  induction N with
  | zero => intro A M G F T; rfl
  | succ N ih =>
    intro A M G F T
    rw [hr_H_s, hr_H_s, ih, ih _ (z_add 0 _)]
/-- what melted and how many fell, behind an act; behind acts -/
def w_mt (w h n : Nat) (heat price : Int) (cs : List Int) (D : Nat → Int) (a : Int × Int × Int) (A : Nat → Int) (M T : Int) : Int × Int := if a.1 = 104 then ((hr_H w h heat price (c_ml cs) (wmD D) n a.2.2.toNat A M 0 0 0).2.1, (hr_H w h heat price (c_ml cs) (wmD D) n a.2.2.toNat A 0 0 0 T).2.2.2.2) else (M, T)
theorem w_mt_h {p : Int} {X : Nat} {M T : Int} : w_mt w h n heat price cs D (104, p, (X : Int)) A M T = ((hr_H w h heat price (c_ml cs) (wmD D) n X A M 0 0 0).2.1, (hr_H w h heat price (c_ml cs) (wmD D) n X A 0 0 0 T).2.2.2.2) := if_pos rfl
theorem w_mt_o {t p v : Int} {M T : Int} (ht : ¬ t = 104) : w_mt w h n heat price cs D (t, p, v) A M T = (M, T) := if_neg ht
def w_gmt (w h n : Nat) (heat price : Int) (cs : List Int) (D : Nat → Int) : List (Int × Int × Int) → (Nat → Int) → Int × Int → Int × Int
  | [], _, q => q
  | a :: l, A, q => if (w_do w h n heat price cs D a A).1 = true then w_gmt w h n heat price cs D l (w_do w h n heat price cs D a A).2 (w_mt w h n heat price cs D a A q.1 q.2) else w_mt w h n heat price cs D a A q.1 q.2
theorem w_gmt_1 {a : Int × Int × Int} {l : List (Int × Int × Int)} {B : Nat → Int} {q : Int × Int} (e : w_do w h n heat price cs D a A = (true, B)) : w_gmt w h n heat price cs D (a :: l) A q = w_gmt w h n heat price cs D l B (w_mt w h n heat price cs D a A q.1 q.2) := by
  show (if (w_do w h n heat price cs D a A).1 = true then w_gmt w h n heat price cs D l (w_do w h n heat price cs D a A).2 (w_mt w h n heat price cs D a A q.1 q.2) else w_mt w h n heat price cs D a A q.1 q.2) = _
  rw [e]
  exact if_pos rfl
theorem w_gmt_0 {a : Int × Int × Int} {l : List (Int × Int × Int)} {B : Nat → Int} {q : Int × Int} (e : w_do w h n heat price cs D a A = (false, B)) : w_gmt w h n heat price cs D (a :: l) A q = w_mt w h n heat price cs D a A q.1 q.2 := by
  show (if (w_do w h n heat price cs D a A).1 = true then w_gmt w h n heat price cs D l (w_do w h n heat price cs D a A).2 (w_mt w h n heat price cs D a A q.1 q.2) else w_mt w h n heat price cs D a A q.1 q.2) = _
  rw [e]
  exact if_neg (fun z => w_ft z)
theorem X_wper {e : Int} (hN : w_N w h n heat D) (he : e + 9 ≤ 2147483647) (hi : C_is w h n heat price D A c U kn KS cs m) (hI : w_inv n A e) {k : Nat} (hk : k ≤ 29) {a : Int × Int × Int} (ha : w_c1 m k a) (hv : w_av a) (k6 : z_w (m 24 6) = m 24 6) (k9 : z_w (m 24 9) = m 24 9) : ∃ m1, z_R 86 (m, 0, [(2, 0), (0, (k : Int)), (9, 0), (9, 0)], []) = some (m1, some (0, w_b (w_do w h n heat price cs D a A).1)) ∧ C_is w h n heat price D (w_do w h n heat price cs D a A).2 c U kn KS cs m1 ∧ z_same w_LW m m1 ∧ z_w (m1 24 6) = m1 24 6 ∧ z_w (m1 24 9) = m1 24 9 ∧ (m1 24 6, m1 24 9) = w_mt w h n heat price cs D a A (m 24 6) (m 24 9) := by
  obtain ⟨hok, h34, ht, ht2⟩ := hI
  have b := hN.1
  obtain ⟨t, p, v⟩ := a
  obtain ⟨e1, e2, e3⟩ := ha
  have e1 : m 119 k = t := e1
  have e2 : t = 109 → m 120 k = p := e2
  have e3 : m 121 k = v := e3
  rw [w_per_0 m k ⟨by omega, by omega⟩, Int.toNat_natCast, e1, e3]
  rcases hv with ⟨z0, hv⟩ | ⟨z0, hv⟩ | ⟨z0, hv⟩ | z0
  · have q : t = 104 := z0
    have hv : 1 ≤ v ∧ v ≤ 9 := hv
    subst q
    obtain ⟨X, rfl⟩ : ∃ X : Nat, v = (X : Int) := ⟨v.toNat, by omega⟩
    obtain ⟨m1, b1, b2, b3⟩ := c_goOn z_st_12 b.1 b.2.1 (price := price) ⟨b.2.2, hN.2.1, c_ml_ok cs, hN.2.2⟩ (N := X) (by omega) m (C_cfg hi) hi.2.2.1 hok ht (by omega) k6 k9
    have b1 : z_R 67 (m, 0, [(2, 24), (2, 12), (0, (X : Int)), (9, 0)], []) = some (m1, none) := b1
    have hw := hr_H_w (w := w) (h := h) (n := n) (heat := heat) (price := price) (ml := c_ml cs) (wmt := wmD D) X A (m 24 6) (m 24 7) (m 24 8) (m 24 9) k6 k9
    rw [← b2] at hw
    have hA : cS m1 12 n = (hr_R w h heat price cs D n X A).1 := (congrArg Prod.fst b2).trans (hr_H_1 X A _ _ _ _)
    rw [if_neg (show ¬ (102 : Int) = 104 by decide), if_pos (show (104 : Int) = 104 from rfl), b1, zb_n, w_per_76, w_do_h]
    exact ⟨m1, rfl, C_LH12 hi b3 hA, b3.subo (by (try unfold c_LB); (try unfold w_LW); (try unfold w_LV); (repeat' (first | exact trivial | refine z_sbo_c ?_ ?_)) <;> (intro k h1 h2; first | exact z_on_h rfl (by omega) (by omega) | exact z_on_t (z_on_h rfl (by omega) (by omega)) | exact z_on_t (z_on_t (z_on_h rfl (by omega) (by omega))) | exact z_on_t (z_on_t (z_on_t (z_on_h rfl (by omega) (by omega)))) | exact z_on_t (z_on_t (z_on_t (z_on_t (z_on_h rfl (by omega) (by omega))))) | exact z_on_t (z_on_t (z_on_t (z_on_t (z_on_t (z_on_h rfl (by omega) (by omega)))))) | exact z_on_t (z_on_t (z_on_t (z_on_t (z_on_t (z_on_t (z_on_h rfl (by omega) (by omega))))))) | exact z_on_t (z_on_t (z_on_t (z_on_t (z_on_t (z_on_t (z_on_t (z_on_h rfl (by omega) (by omega)))))))) | exact z_on_t (z_on_t (z_on_t (z_on_t (z_on_t (z_on_t (z_on_t (z_on_t (z_on_h rfl (by omega) (by omega))))))))) | exact z_on_t (z_on_t (z_on_t (z_on_t (z_on_t (z_on_t (z_on_t (z_on_t (z_on_t (z_on_h rfl (by omega) (by omega)))))))))) | exact z_on_t (z_on_t (z_on_t (z_on_t (z_on_t (z_on_t (z_on_t (z_on_t (z_on_t (z_on_t (z_on_h rfl (by omega) (by omega))))))))))) | exact z_on_t (z_on_t (z_on_t (z_on_t (z_on_t (z_on_t (z_on_t (z_on_t (z_on_t (z_on_t (z_on_t (z_on_h rfl (by omega) (by omega)))))))))))) | exact z_on_t (z_on_t (z_on_t (z_on_t (z_on_t (z_on_t (z_on_t (z_on_t (z_on_t (z_on_t (z_on_t (z_on_t (z_on_h rfl (by omega) (by omega))))))))))))))), hw.1, hw.2, (w_pr ((congrArg (fun z => z.2.1) b2).trans (hr_H_26 X A _ _ _ _)) ((congrArg (fun z => z.2.2.2.2) b2).trans (hr_H_29 X A _ _ _ _))).trans w_mt_h.symm⟩
  · have q : t = 102 := z0
    subst q
    rw [if_pos (show (102 : Int) = 102 from rfl), w_do_f]
    refine ⟨_, rfl, C_mkA hi (fun p' k' _ h1 => zu_p (by omega)) ?_, z_same.rf.upo (by (try unfold c_LB); (try unfold w_LW); (try unfold w_LV); first | exact z_on_h rfl (by omega) (by omega) | exact z_on_t (z_on_h rfl (by omega) (by omega)) | exact z_on_t (z_on_t (z_on_h rfl (by omega) (by omega))) | exact z_on_t (z_on_t (z_on_t (z_on_h rfl (by omega) (by omega)))) | exact z_on_t (z_on_t (z_on_t (z_on_t (z_on_h rfl (by omega) (by omega))))) | exact z_on_t (z_on_t (z_on_t (z_on_t (z_on_t (z_on_h rfl (by omega) (by omega)))))) | exact z_on_t (z_on_t (z_on_t (z_on_t (z_on_t (z_on_t (z_on_h rfl (by omega) (by omega))))))) | exact z_on_t (z_on_t (z_on_t (z_on_t (z_on_t (z_on_t (z_on_t (z_on_h rfl (by omega) (by omega)))))))) | exact z_on_t (z_on_t (z_on_t (z_on_t (z_on_t (z_on_t (z_on_t (z_on_t (z_on_h rfl (by omega) (by omega))))))))) | exact z_on_t (z_on_t (z_on_t (z_on_t (z_on_t (z_on_t (z_on_t (z_on_t (z_on_t (z_on_h rfl (by omega) (by omega)))))))))) | exact z_on_t (z_on_t (z_on_t (z_on_t (z_on_t (z_on_t (z_on_t (z_on_t (z_on_t (z_on_t (z_on_h rfl (by omega) (by omega))))))))))) | exact z_on_t (z_on_t (z_on_t (z_on_t (z_on_t (z_on_t (z_on_t (z_on_t (z_on_t (z_on_t (z_on_t (z_on_h rfl (by omega) (by omega)))))))))))) | exact z_on_t (z_on_t (z_on_t (z_on_t (z_on_t (z_on_t (z_on_t (z_on_t (z_on_t (z_on_t (z_on_t (z_on_t (z_on_h rfl (by omega) (by omega)))))))))))))), ?_, ?_, ?_⟩
    · have e := cS_frost (m := m) (s := 12) (v := v) (n := (n : Int))
      rw [hi.2.2.1] at e
      exact e
    · rw [zu_p (by decide)]; exact k6
    · rw [zu_p (by decide)]; exact k9
    · rw [zu_p (by decide), zu_p (by decide)]; exact (w_mt_o (show ¬ (102 : Int) = 104 by decide)).symm
  · have q : t = 109 := z0
    have hv : 0 ≤ p ∧ p ≤ 9 := hv
    subst q
    obtain ⟨q, rfl⟩ : ∃ q : Nat, p = (q : Int) := ⟨p.toNat, by omega⟩
    rw [if_neg (show ¬ (102 : Int) = 109 by decide), if_neg (show ¬ (104 : Int) = 109 by decide), if_pos (show (109 : Int) = 109 from rfl), e2 rfl]
    by_cases hc : (q : Int) < (n : Int) ∧ ¬ u_hs (w : Int) (h : Int) v = 0
    · have hqn : q < n := by have := hc.1; omega
      have h5 := b.2.2
      rw [C_mva hi b.2.2 hqn v hc.2, zb_v, w_per_94]
      by_cases c2 : A (q + 18) = v
      · rw [if_pos c2, if_neg (show ¬ (0 : Int) ≤ -2 by decide), w_do_m0 (fun z => z.2 c2)]
        exact ⟨m, rfl, hi, z_same.rf, k6, k9, (w_mt_o (show ¬ (109 : Int) = 104 by decide)).symm⟩
      · have hw := u_was_nn (v := A (q + 18)) (hok.2.2.1 q hqn).1
        rw [if_neg c2, if_pos (show 0 ≤ u_was (A (q + 18)) by omega), if_pos (show 0 ≤ (q : Int) ∧ (q : Int) < 5 by omega), Int.toNat_natCast, w_do_m1 ⟨hc, c2⟩]
        refine ⟨_, rfl, C_mkA hi (fun p' k' _ h1 => zu_p (by omega)) ?_, z_same.rf.upo (by (try unfold c_LB); (try unfold w_LW); (try unfold w_LV); first | exact z_on_h rfl (by omega) (by omega) | exact z_on_t (z_on_h rfl (by omega) (by omega)) | exact z_on_t (z_on_t (z_on_h rfl (by omega) (by omega))) | exact z_on_t (z_on_t (z_on_t (z_on_h rfl (by omega) (by omega)))) | exact z_on_t (z_on_t (z_on_t (z_on_t (z_on_h rfl (by omega) (by omega))))) | exact z_on_t (z_on_t (z_on_t (z_on_t (z_on_t (z_on_h rfl (by omega) (by omega)))))) | exact z_on_t (z_on_t (z_on_t (z_on_t (z_on_t (z_on_t (z_on_h rfl (by omega) (by omega))))))) | exact z_on_t (z_on_t (z_on_t (z_on_t (z_on_t (z_on_t (z_on_t (z_on_h rfl (by omega) (by omega)))))))) | exact z_on_t (z_on_t (z_on_t (z_on_t (z_on_t (z_on_t (z_on_t (z_on_t (z_on_h rfl (by omega) (by omega))))))))) | exact z_on_t (z_on_t (z_on_t (z_on_t (z_on_t (z_on_t (z_on_t (z_on_t (z_on_t (z_on_h rfl (by omega) (by omega)))))))))) | exact z_on_t (z_on_t (z_on_t (z_on_t (z_on_t (z_on_t (z_on_t (z_on_t (z_on_t (z_on_t (z_on_h rfl (by omega) (by omega))))))))))) | exact z_on_t (z_on_t (z_on_t (z_on_t (z_on_t (z_on_t (z_on_t (z_on_t (z_on_t (z_on_t (z_on_t (z_on_h rfl (by omega) (by omega)))))))))))) | exact z_on_t (z_on_t (z_on_t (z_on_t (z_on_t (z_on_t (z_on_t (z_on_t (z_on_t (z_on_t (z_on_t (z_on_t (z_on_h rfl (by omega) (by omega)))))))))))))), ?_, ?_, ?_⟩
        · have e := cS_up3 (m := m) (s := 12) (j := q) (v := v) (n := (n : Int)) (by omega) (by omega)
          rw [hi.2.2.1] at e
          exact e
        · rw [zu_p (by decide)]; exact k6
        · rw [zu_p (by decide)]; exact k9
        · rw [zu_p (by decide), zu_p (by decide)]; exact (w_mt_o (show ¬ (109 : Int) = 104 by decide)).symm
    · rw [C_mva_no hi b.2.2 _ v (fun z => hc ⟨z.1.2, z.2⟩), zb_v, w_per_94, if_neg (show ¬ (0 : Int) ≤ -1 by decide), w_do_m0 (fun z => hc z.1)]
      exact ⟨m, rfl, hi, z_same.rf, k6, k9, (w_mt_o (show ¬ (109 : Int) = 104 by decide)).symm⟩
  · have q : t = 115 := z0
    subst q
    rw [if_neg (show ¬ (102 : Int) = 115 by decide), if_neg (show ¬ (104 : Int) = 115 by decide), if_neg (show ¬ (109 : Int) = 115 by decide), C_sta hi, zb_v, w_per_116]
    by_cases c1 : v = -1 ∨ ¬ u_hs (w : Int) (h : Int) v = 0
    · rw [if_pos c1]
      by_cases c2 : A 34 = v
      · rw [if_pos c2, if_neg (show ¬ (0 : Int) ≤ -2 by decide), w_do_s0 (fun z => z.2 c2)]
        exact ⟨m, rfl, hi, z_same.rf, k6, k9, (w_mt_o (show ¬ (115 : Int) = 104 by decide)).symm⟩
      · have hw := u_was_nn h34
        rw [if_neg c2, if_pos (show 0 ≤ u_was (A 34) by omega), w_do_s1 ⟨c1, c2⟩]
        refine ⟨_, rfl, C_mkA hi (fun p' k' _ h1 => zu_p (by omega)) ?_, z_same.rf.upo (by (try unfold c_LB); (try unfold w_LW); (try unfold w_LV); first | exact z_on_h rfl (by omega) (by omega) | exact z_on_t (z_on_h rfl (by omega) (by omega)) | exact z_on_t (z_on_t (z_on_h rfl (by omega) (by omega))) | exact z_on_t (z_on_t (z_on_t (z_on_h rfl (by omega) (by omega)))) | exact z_on_t (z_on_t (z_on_t (z_on_t (z_on_h rfl (by omega) (by omega))))) | exact z_on_t (z_on_t (z_on_t (z_on_t (z_on_t (z_on_h rfl (by omega) (by omega)))))) | exact z_on_t (z_on_t (z_on_t (z_on_t (z_on_t (z_on_t (z_on_h rfl (by omega) (by omega))))))) | exact z_on_t (z_on_t (z_on_t (z_on_t (z_on_t (z_on_t (z_on_t (z_on_h rfl (by omega) (by omega)))))))) | exact z_on_t (z_on_t (z_on_t (z_on_t (z_on_t (z_on_t (z_on_t (z_on_t (z_on_h rfl (by omega) (by omega))))))))) | exact z_on_t (z_on_t (z_on_t (z_on_t (z_on_t (z_on_t (z_on_t (z_on_t (z_on_t (z_on_h rfl (by omega) (by omega)))))))))) | exact z_on_t (z_on_t (z_on_t (z_on_t (z_on_t (z_on_t (z_on_t (z_on_t (z_on_t (z_on_t (z_on_h rfl (by omega) (by omega))))))))))) | exact z_on_t (z_on_t (z_on_t (z_on_t (z_on_t (z_on_t (z_on_t (z_on_t (z_on_t (z_on_t (z_on_t (z_on_h rfl (by omega) (by omega)))))))))))) | exact z_on_t (z_on_t (z_on_t (z_on_t (z_on_t (z_on_t (z_on_t (z_on_t (z_on_t (z_on_t (z_on_t (z_on_t (z_on_h rfl (by omega) (by omega)))))))))))))), ?_, ?_, ?_⟩
        · have e := cS_stove (m := m) (s := 12) (v := v) (n := (n : Int))
          rw [hi.2.2.1] at e
          exact e
        · rw [zu_p (by decide)]; exact k6
        · rw [zu_p (by decide)]; exact k9
        · rw [zu_p (by decide), zu_p (by decide)]; exact (w_mt_o (show ¬ (115 : Int) = 104 by decide)).symm
    · rw [if_neg c1, if_neg (show ¬ (0 : Int) ≤ -1 by decide), w_do_s0 (fun z => c1 z.1)]
      exact ⟨m, rfl, hi, z_same.rf, k6, k9, (w_mt_o (show ¬ (115 : Int) = 104 by decide)).symm⟩
theorem X_wgo (hN : w_N w h n heat D) : ∀ (l : List (Int × Int × Int)) (k : Nat) (A : Nat → Int) (e : Int) (m : z_M), k + l.length ≤ 30 → e + 9 * (l.length : Int) ≤ 2147483600 → m 118 4 = ((k + l.length : Nat) : Int) → w_cl m k l → (∀ a ∈ l, w_av a) → C_is w h n heat price D A c U kn KS cs m → w_inv n A e → z_w (m 24 6) = m 24 6 → z_w (m 24 9) = m 24 9 → ∃ m1, z_R 82 (m, 49, [(2, 0), (0, 1), (0, (k : Int))], []) = z_R 82 (m1, 74, [(2, 0), (0, 1), (0, ((k + (w_go w h n heat price cs D l A).1 : Nat) : Int))], []) ∧ C_is w h n heat price D (w_go w h n heat price cs D l A).2 c U kn KS cs m1 ∧ z_same w_LW m m1 ∧ (m1 24 6, m1 24 9) = w_gmt w h n heat price cs D l A (m 24 6, m 24 9) := by
  intro l
  induction l with
  | nil =>
    intro k A e m hk he h4 hl hv hi hI k6 k9
    have h4 : m 118 4 = (k : Int) := h4
    have hk : k ≤ 30 := hk
    rw [w_win_49 m 1 k ⟨by omega, by omega⟩, if_pos (by omega)]
    exact ⟨m, rfl, hi, z_same.rf, rfl⟩
  | cons a l ih =>
    intro k A e m hk he h4 hl hv hi hI k6 k9
    have hk : k + (l.length + 1) ≤ 30 := hk
    have he : e + 9 * ((l.length + 1 : Nat) : Int) ≤ 2147483600 := he
    have h4 : m 118 4 = ((k + (l.length + 1) : Nat) : Int) := h4
    obtain ⟨m1, a1, a2, a3, a4, a5, a6⟩ := X_wper hN (by omega) hi hI (k := k) (by omega) hl.1 (hv a List.mem_cons_self) k6 k9
    have hI' := w_do_ok (price := price) (cs := cs) hN (by omega) (hv a List.mem_cons_self) hI
    rw [w_win_49 m 1 k ⟨by omega, by omega⟩, if_neg (by omega), a1, zb_v, w_win_65 m1 1 k _ ⟨by omega, by omega⟩]
    rcases hd : w_do w h n heat price cs D a A with ⟨x, B⟩
    rw [hd] at a2 hI'
    cases x with
    | false =>
      rw [w_go_0 hd, w_gmt_0 hd]
      refine ⟨m1, ?_, a2, a3, a6⟩
      exact if_pos rfl
    | true =>
      rw [w_go_1 hd, w_gmt_1 hd]
      obtain ⟨m2, d1, d2, d3, d4⟩ := ih (k + 1) B (e + 9) m1 (by omega) (by omega) (by rw [a3.of (p := 118) (k := 4) (by (try unfold c_LB); (try unfold w_LW); (try unfold w_LV); (repeat' (first | exact trivial | refine z_of_c ?_ ?_)) <;> omega), h4]; omega) (w_cl_fr l (k + 1) hl.2 (fun j => ⟨a3.of (by (try unfold c_LB); (try unfold w_LW); (try unfold w_LV); (repeat' (first | exact trivial | refine z_of_c ?_ ?_)) <;> omega), a3.of (by (try unfold c_LB); (try unfold w_LW); (try unfold w_LV); (repeat' (first | exact trivial | refine z_of_c ?_ ?_)) <;> omega), a3.of (by (try unfold c_LB); (try unfold w_LW); (try unfold w_LV); (repeat' (first | exact trivial | refine z_of_c ?_ ?_)) <;> omega)⟩)) (fun x hx => hv x (List.mem_cons_of_mem _ hx)) a2 hI' a4 a5
      refine ⟨m2, ?_, d2, a3.tr d3, d4.trans (by rw [a6])⟩
      refine (if_neg (show ¬ (1 : Int) = 0 by decide)).trans ?_
      rw [tc1, d1]
      show z_R 82 (m2, 74, [(2, 0), (0, 1), (0, ((k + 1 + (w_go w h n heat price cs D l B).1 : Nat) : Int))], []) = z_R 82 (m2, 74, [(2, 0), (0, 1), (0, ((k + ((w_go w h n heat price cs D l B).1 + 1) : Nat) : Int))], [])
      rw [show k + 1 + (w_go w h n heat price cs D l B).1 = k + ((w_go w h n heat price cs D l B).1 + 1) by omega]
theorem Y_wact {e : Int} (hN : w_N w h n heat D) (he : e + 9 ≤ 2147483647) (hi : R_is w h n heat price D A c U kn KS cs m) (hI : w_inv n A e) {k : Nat} {a : Int × Int × Int} (ha : w_r1 m k a) (hv : w_av a) : ∃ m1, z_R 215 (m, 0, [(2, 251), (0, m 263 (3 * k)), (0, m 263 (3 * k + 1)), (0, m 263 (3 * k + 2))], []) = some (m1, some (0, w_b (w_do w h n heat price cs D a A).1)) ∧ R_is w h n heat price D (w_do w h n heat price cs D a A).2 c U kn KS cs m1 ∧ z_same w_LV m m1 ∧ (m1 251 32, m1 251 35) = w_mt w h n heat price cs D a A (m 251 32) (m 251 35) := by
  obtain ⟨hok, h34, ht, ht2⟩ := hI
  have b := hN.1
  have h5 := b.2.2
  obtain ⟨t, p, v⟩ := a
  obtain ⟨e1, e2⟩ := ha
  have e1 : m 263 (3 * k) = t := e1
  have e2 : (t = 109 ∧ m 263 (3 * k + 1) = p ∧ m 263 (3 * k + 2) = v) ∨ (¬ t = 109 ∧ m 263 (3 * k + 1) = v) := e2
  rw [v_act_0, e1]
  rcases hv with ⟨z0, hv⟩ | ⟨z0, hv⟩ | ⟨z0, hv⟩ | z0
  · have q : t = 104 := z0
    have hv : 1 ≤ v ∧ v ≤ 9 := hv
    subst q
    have e3 : m 263 (3 * k + 1) = v := by omega
    obtain ⟨X, rfl⟩ : ∃ X : Nat, v = (X : Int) := ⟨v.toNat, by omega⟩
    obtain ⟨m1, b1, b2, b3⟩ := r_goHours z_A_252 (Or.inl rfl) b.1 b.2.1 (price := price) ⟨b.2.2, hN.2.1, c_ml_ok cs, hN.2.2⟩ (N := X) (by omega) m (R_cfg hi) hi.2.2.1 hok ht (by omega)
    have b1 : z_R 207 (m, 0, [(2, 251), (2, 252), (0, (X : Int)), (9, 0)], []) = some (m1, none) := b1
    have hA : rS m1 252 n = (hr_R w h heat price cs D n X A).1 := (congrArg Prod.fst b2).trans (hr_H_1 X A _ _ _ _)
    rw [if_pos (show (104 : Int) = 104 from rfl), e3, b1, zb_n, v_act_45, w_do_h]
    exact ⟨m1, rfl, R_LH252 hi b3 hA, b3.subo (by (try unfold c_LB); (try unfold w_LW); (try unfold w_LV); (repeat' (first | exact trivial | refine z_sbo_c ?_ ?_)) <;> (intro k h1 h2; first | exact z_on_h rfl (by omega) (by omega) | exact z_on_t (z_on_h rfl (by omega) (by omega)) | exact z_on_t (z_on_t (z_on_h rfl (by omega) (by omega))) | exact z_on_t (z_on_t (z_on_t (z_on_h rfl (by omega) (by omega)))) | exact z_on_t (z_on_t (z_on_t (z_on_t (z_on_h rfl (by omega) (by omega))))) | exact z_on_t (z_on_t (z_on_t (z_on_t (z_on_t (z_on_h rfl (by omega) (by omega)))))) | exact z_on_t (z_on_t (z_on_t (z_on_t (z_on_t (z_on_t (z_on_h rfl (by omega) (by omega))))))) | exact z_on_t (z_on_t (z_on_t (z_on_t (z_on_t (z_on_t (z_on_t (z_on_h rfl (by omega) (by omega)))))))) | exact z_on_t (z_on_t (z_on_t (z_on_t (z_on_t (z_on_t (z_on_t (z_on_t (z_on_h rfl (by omega) (by omega))))))))) | exact z_on_t (z_on_t (z_on_t (z_on_t (z_on_t (z_on_t (z_on_t (z_on_t (z_on_t (z_on_h rfl (by omega) (by omega)))))))))) | exact z_on_t (z_on_t (z_on_t (z_on_t (z_on_t (z_on_t (z_on_t (z_on_t (z_on_t (z_on_t (z_on_h rfl (by omega) (by omega))))))))))) | exact z_on_t (z_on_t (z_on_t (z_on_t (z_on_t (z_on_t (z_on_t (z_on_t (z_on_t (z_on_t (z_on_t (z_on_h rfl (by omega) (by omega)))))))))))) | exact z_on_t (z_on_t (z_on_t (z_on_t (z_on_t (z_on_t (z_on_t (z_on_t (z_on_t (z_on_t (z_on_t (z_on_t (z_on_h rfl (by omega) (by omega))))))))))))))), (w_pr ((congrArg (fun z => z.2.1) b2).trans (hr_H_26 X A _ _ _ _)) ((congrArg (fun z => z.2.2.2.2) b2).trans (hr_H_29 X A _ _ _ _))).trans w_mt_h.symm⟩
  · have q : t = 102 := z0
    subst q
    have e3 : m 263 (3 * k + 1) = v := by omega
    rw [if_neg (show ¬ (104 : Int) = 102 by decide), if_neg (show ¬ (109 : Int) = 102 by decide), if_neg (show ¬ (115 : Int) = 102 by decide), e3, w_do_f]
    refine ⟨_, rfl, R_mkA hi (fun p' k' _ h1 => zu_p h1) ?_, z_same.rf.upo (by (try unfold c_LB); (try unfold w_LW); (try unfold w_LV); first | exact z_on_h rfl (by omega) (by omega) | exact z_on_t (z_on_h rfl (by omega) (by omega)) | exact z_on_t (z_on_t (z_on_h rfl (by omega) (by omega))) | exact z_on_t (z_on_t (z_on_t (z_on_h rfl (by omega) (by omega)))) | exact z_on_t (z_on_t (z_on_t (z_on_t (z_on_h rfl (by omega) (by omega))))) | exact z_on_t (z_on_t (z_on_t (z_on_t (z_on_t (z_on_h rfl (by omega) (by omega)))))) | exact z_on_t (z_on_t (z_on_t (z_on_t (z_on_t (z_on_t (z_on_h rfl (by omega) (by omega))))))) | exact z_on_t (z_on_t (z_on_t (z_on_t (z_on_t (z_on_t (z_on_t (z_on_h rfl (by omega) (by omega)))))))) | exact z_on_t (z_on_t (z_on_t (z_on_t (z_on_t (z_on_t (z_on_t (z_on_t (z_on_h rfl (by omega) (by omega))))))))) | exact z_on_t (z_on_t (z_on_t (z_on_t (z_on_t (z_on_t (z_on_t (z_on_t (z_on_t (z_on_h rfl (by omega) (by omega)))))))))) | exact z_on_t (z_on_t (z_on_t (z_on_t (z_on_t (z_on_t (z_on_t (z_on_t (z_on_t (z_on_t (z_on_h rfl (by omega) (by omega))))))))))) | exact z_on_t (z_on_t (z_on_t (z_on_t (z_on_t (z_on_t (z_on_t (z_on_t (z_on_t (z_on_t (z_on_t (z_on_h rfl (by omega) (by omega)))))))))))) | exact z_on_t (z_on_t (z_on_t (z_on_t (z_on_t (z_on_t (z_on_t (z_on_t (z_on_t (z_on_t (z_on_t (z_on_t (z_on_h rfl (by omega) (by omega)))))))))))))), (w_pr (zu_p (by decide)) (zu_p (by decide))).trans (w_mt_o (show ¬ (102 : Int) = 104 by decide)).symm⟩
    show rS (z_up m 252 36 v) 252 n = u_up A 36 v
    rw [rS_up (by decide) (a_vis_hi (by decide)), hi.2.2.1]
  · have q : t = 109 := z0
    have hv : 0 ≤ p ∧ p ≤ 9 := hv
    subst q
    obtain ⟨e3, e4⟩ : m 263 (3 * k + 1) = p ∧ m 263 (3 * k + 2) = v := by
      rcases e2 with z | z
      · exact z.2
      · exact absurd rfl z.1
    obtain ⟨q, rfl⟩ : ∃ q : Nat, p = (q : Int) := ⟨p.toNat, by omega⟩
    rw [if_neg (show ¬ (104 : Int) = 109 by decide), if_pos (show (109 : Int) = 109 from rfl), e3, e4]
    by_cases hc : (q : Int) < (n : Int) ∧ ¬ u_hs (w : Int) (h : Int) v = 0
    · have hqn : q < n := by have := hc.1; omega
      rw [R_rmv hi b.2.2 hqn v hc.2, zb_v, v_act_53]
      by_cases c2 : A (q + 18) = v
      · rw [if_pos c2, if_neg (show ¬ (0 : Int) ≤ -2 by decide), w_do_m0 (fun z => z.2 c2)]
        exact ⟨m, rfl, hi, z_same.rf, (w_mt_o (show ¬ (109 : Int) = 104 by decide)).symm⟩
      · obtain ⟨m1, d1, d2, d3, d4⟩ : ∃ m1, z_R 199 (m, 0, [(2, 251), (0, (q : Int)), (0, v), (9, 0)], []) = some (m1, some (0, u_was (A (q + 18)))) ∧ R_is w h n heat price D (u_up A (q + 18) v) c U kn KS cs m1 ∧ z_same w_LV m m1 ∧ (m1 251 32, m1 251 35) = (m 251 32, m 251 35) := by
          have hvq : a_vis (n : Int) (q + 18) = true := a_vis_p (b := 18) (p := q) (by omega) (by omega) (by omega) (by omega)
          have hm : R_is w h n heat price D (u_up A (q + 18) v) c U kn KS cs (z_up m 252 (q + 18) v) := R_mkA hi (fun p' k' _ h1 => zu_p h1) (by rw [rS_up (by omega) hvq, hi.2.2.1])
          refine ⟨_, ?_, hm, z_same.rf.upo (by (try unfold c_LB); (try unfold w_LW); (try unfold w_LV); first | exact z_on_h rfl (by omega) (by omega) | exact z_on_t (z_on_h rfl (by omega) (by omega)) | exact z_on_t (z_on_t (z_on_h rfl (by omega) (by omega))) | exact z_on_t (z_on_t (z_on_t (z_on_h rfl (by omega) (by omega)))) | exact z_on_t (z_on_t (z_on_t (z_on_t (z_on_h rfl (by omega) (by omega))))) | exact z_on_t (z_on_t (z_on_t (z_on_t (z_on_t (z_on_h rfl (by omega) (by omega)))))) | exact z_on_t (z_on_t (z_on_t (z_on_t (z_on_t (z_on_t (z_on_h rfl (by omega) (by omega))))))) | exact z_on_t (z_on_t (z_on_t (z_on_t (z_on_t (z_on_t (z_on_t (z_on_h rfl (by omega) (by omega)))))))) | exact z_on_t (z_on_t (z_on_t (z_on_t (z_on_t (z_on_t (z_on_t (z_on_t (z_on_h rfl (by omega) (by omega))))))))) | exact z_on_t (z_on_t (z_on_t (z_on_t (z_on_t (z_on_t (z_on_t (z_on_t (z_on_t (z_on_h rfl (by omega) (by omega)))))))))) | exact z_on_t (z_on_t (z_on_t (z_on_t (z_on_t (z_on_t (z_on_t (z_on_t (z_on_t (z_on_t (z_on_h rfl (by omega) (by omega))))))))))) | exact z_on_t (z_on_t (z_on_t (z_on_t (z_on_t (z_on_t (z_on_t (z_on_t (z_on_t (z_on_t (z_on_t (z_on_h rfl (by omega) (by omega)))))))))))) | exact z_on_t (z_on_t (z_on_t (z_on_t (z_on_t (z_on_t (z_on_t (z_on_t (z_on_t (z_on_t (z_on_t (z_on_t (z_on_h rfl (by omega) (by omega)))))))))))))), w_pr (zu_p (by decide)) (zu_p (by decide))⟩
          rw [t_gmv_0 m q v (by omega), tn18, R_A hi (k := q + 18) (by omega) hvq]
          unfold u_was
          by_cases c3 : A (q + 18) = -1
          · rw [if_pos c3, if_pos c3]
          · rw [if_neg c3, if_neg c3]
        rw [if_neg c2, if_pos (show (0 : Int) ≤ 0 by decide), d1, zb_v, v_act_64, w_do_m1 ⟨hc, c2⟩]
        exact ⟨m1, rfl, d2, d3, d4.trans (w_mt_o (show ¬ (109 : Int) = 104 by decide)).symm⟩
    · rw [R_rmv_no hi b.2.2 _ v (fun z => hc ⟨z.1.2, z.2⟩), zb_v, v_act_53, if_neg (show ¬ (0 : Int) ≤ -1 by decide), w_do_m0 (fun z => hc z.1)]
      exact ⟨m, rfl, hi, z_same.rf, (w_mt_o (show ¬ (109 : Int) = 104 by decide)).symm⟩
  · have q : t = 115 := z0
    subst q
    have e3 : m 263 (3 * k + 1) = v := by omega
    rw [if_neg (show ¬ (104 : Int) = 115 by decide), if_neg (show ¬ (109 : Int) = 115 by decide), if_pos (show (115 : Int) = 115 from rfl), e3, R_rst hi, zb_v, v_act_72]
    by_cases c1 : v = -1 ∨ ¬ u_hs (w : Int) (h : Int) v = 0
    · rw [if_pos c1]
      by_cases c2 : A 34 = v
      · rw [if_pos c2, if_neg (show ¬ (0 : Int) ≤ -2 by decide), w_do_s0 (fun z => z.2 c2)]
        exact ⟨m, rfl, hi, z_same.rf, (w_mt_o (show ¬ (115 : Int) = 104 by decide)).symm⟩
      · have hm : R_is w h n heat price D (u_up A 34 v) c U kn KS cs (z_up m 252 34 v) := R_mkA hi (fun q k _ h1 => zu_p h1) (by rw [rS_up (by decide) (a_vis_hi (by decide)), hi.2.2.1])
        have d1 : z_R 203 (m, 0, [(2, 251), (0, v), (9, 0)], []) = some (z_up m 252 34 v, some (0, u_was (A 34))) := by
          rw [t_gst_0, R_A hi (k := 34) (by decide) (a_vis_hi (by decide))]
          unfold u_was
          by_cases c3 : A 34 = -1
          · rw [if_pos c3, if_pos c3]
          · rw [if_neg c3, if_neg c3]
        rw [if_neg c2, if_pos (show (0 : Int) ≤ 0 by decide), d1, zb_v, v_act_82, w_do_s1 ⟨c1, c2⟩]
        exact ⟨_, rfl, hm, z_same.rf.upo (by (try unfold c_LB); (try unfold w_LW); (try unfold w_LV); first | exact z_on_h rfl (by omega) (by omega) | exact z_on_t (z_on_h rfl (by omega) (by omega)) | exact z_on_t (z_on_t (z_on_h rfl (by omega) (by omega))) | exact z_on_t (z_on_t (z_on_t (z_on_h rfl (by omega) (by omega)))) | exact z_on_t (z_on_t (z_on_t (z_on_t (z_on_h rfl (by omega) (by omega))))) | exact z_on_t (z_on_t (z_on_t (z_on_t (z_on_t (z_on_h rfl (by omega) (by omega)))))) | exact z_on_t (z_on_t (z_on_t (z_on_t (z_on_t (z_on_t (z_on_h rfl (by omega) (by omega))))))) | exact z_on_t (z_on_t (z_on_t (z_on_t (z_on_t (z_on_t (z_on_t (z_on_h rfl (by omega) (by omega)))))))) | exact z_on_t (z_on_t (z_on_t (z_on_t (z_on_t (z_on_t (z_on_t (z_on_t (z_on_h rfl (by omega) (by omega))))))))) | exact z_on_t (z_on_t (z_on_t (z_on_t (z_on_t (z_on_t (z_on_t (z_on_t (z_on_t (z_on_h rfl (by omega) (by omega)))))))))) | exact z_on_t (z_on_t (z_on_t (z_on_t (z_on_t (z_on_t (z_on_t (z_on_t (z_on_t (z_on_t (z_on_h rfl (by omega) (by omega))))))))))) | exact z_on_t (z_on_t (z_on_t (z_on_t (z_on_t (z_on_t (z_on_t (z_on_t (z_on_t (z_on_t (z_on_t (z_on_h rfl (by omega) (by omega)))))))))))) | exact z_on_t (z_on_t (z_on_t (z_on_t (z_on_t (z_on_t (z_on_t (z_on_t (z_on_t (z_on_t (z_on_t (z_on_t (z_on_h rfl (by omega) (by omega)))))))))))))), (w_pr (zu_p (by decide)) (zu_p (by decide))).trans (w_mt_o (show ¬ (115 : Int) = 104 by decide)).symm⟩
    · rw [if_neg c1, if_neg (show ¬ (0 : Int) ≤ -1 by decide), w_do_s0 (fun z => c1 z.1)]
      exact ⟨m, rfl, hi, z_same.rf, (w_mt_o (show ¬ (115 : Int) = 104 by decide)).symm⟩
theorem Y_wgo {x1 : Int} (hN : w_N w h n heat D) : ∀ (l : List (Int × Int × Int)) (k : Nat) (A : Nat → Int) (e : Int) (m : z_M), k + l.length ≤ 30 → e + 9 * (l.length : Int) ≤ 2147483600 → x1 = ((k + l.length : Nat) : Int) → w_rl m k l → (∀ a ∈ l, w_av a) → R_is w h n heat price D A c U kn KS cs m → w_inv n A e → ∃ m1, z_R 212 (m, 121, [(2, 251), (0, x1), (0, 0), (0, (k : Int))], []) = z_R 212 (m1, 167, [(2, 251), (0, x1), (0, 0), (0, ((k + (w_go w h n heat price cs D l A).1 : Nat) : Int))], []) ∧ R_is w h n heat price D (w_go w h n heat price cs D l A).2 c U kn KS cs m1 ∧ z_same w_LV m m1 ∧ (m1 251 32, m1 251 35) = w_gmt w h n heat price cs D l A (m 251 32, m 251 35) := by
  intro l
  induction l with
  | nil =>
    intro k A e m hk he h4 hl hv hi hI
    have h4 : x1 = (k : Int) := h4
    have hk : k ≤ 30 := hk
    rw [v_win_121 m x1 0 k ⟨by omega, by omega⟩, if_pos (by omega)]
    exact ⟨m, rfl, hi, z_same.rf, rfl⟩
  | cons a l ih =>
    intro k A e m hk he h4 hl hv hi hI
    have hk : k + (l.length + 1) ≤ 30 := hk
    have he : e + 9 * ((l.length + 1 : Nat) : Int) ≤ 2147483600 := he
    have h4 : x1 = ((k + (l.length + 1) : Nat) : Int) := h4
    have k0 : (3 * (k : Int)).toNat = 3 * k := by omega
    have k1 : (3 * (k : Int) + 1).toNat = 3 * k + 1 := by omega
    have k2 : (3 * (k : Int) + 2).toNat = 3 * k + 2 := by omega
    obtain ⟨m1, a1, a2, a3, a6⟩ := Y_wact hN (by omega) hi hI hl.1 (hv a List.mem_cons_self)
    have hI' := w_do_ok (price := price) (cs := cs) hN (by omega) (hv a List.mem_cons_self) hI
    rw [v_win_121 m x1 0 k ⟨by omega, by omega⟩, if_neg (by omega), k0, k1, k2, a1, zb_v, v_win_158 m1 x1 0 k _ ⟨by omega, by omega⟩]
    rcases hd : w_do w h n heat price cs D a A with ⟨x, B⟩
    rw [hd] at a2 hI'
    cases x with
    | false =>
      rw [w_go_0 hd, w_gmt_0 hd]
      refine ⟨m1, ?_, a2, a3, a6⟩
      exact if_pos rfl
    | true =>
      rw [w_go_1 hd, w_gmt_1 hd]
      obtain ⟨m2, d1, d2, d3, d4⟩ := ih (k + 1) B (e + 9) m1 (by omega) (by omega) (by omega) (w_rl_fr l (k + 1) hl.2 (fun j => a3.of (by (try unfold c_LB); (try unfold w_LW); (try unfold w_LV); (repeat' (first | exact trivial | refine z_of_c ?_ ?_)) <;> omega))) (fun x hx => hv x (List.mem_cons_of_mem _ hx)) a2 hI'
      refine ⟨m2, ?_, d2, a3.tr d3, d4.trans (by rw [a6])⟩
      refine (if_neg (show ¬ (1 : Int) = 0 by decide)).trans ?_
      rw [tc1, d1]
      show z_R 212 (m2, 167, [(2, 251), (0, x1), (0, 0), (0, ((k + 1 + (w_go w h n heat price cs D l B).1 : Nat) : Int))], []) = z_R 212 (m2, 167, [(2, 251), (0, x1), (0, 0), (0, ((k + ((w_go w h n heat price cs D l B).1 + 1) : Nat) : Int))], [])
      rw [show k + 1 + (w_go w h n heat price cs D l B).1 = k + ((w_go w h n heat price cs D l B).1 + 1) by omega]
def ro_win (l : List (Int × Int × Int)) (d : Nat) (q : Int × Int) : List Int := [if (l.length : Int) ≤ (d : Int) then 0 else 1, z_i2l q.1, z_i2l q.2]
theorem X_wtail {mz : z_M} {l : List (Int × Int × Int)} {d : Nat} {q : Int × Int} (h4 : m 118 4 = (l.length : Int)) (hq : (m 24 6, m 24 9) = q) : ∃ m' v, z_R 82 (m, 89, [(2, 0), (0, 1), (0, (d : Int))], []) = some (m', some (0, v)) ∧ c_rw mz m' (some (ro_win l d q)) := by
  subst hq
  unfold ro_win
  rw [w_win_89, h4]
  by_cases z : (l.length : Int) ≤ (d : Int)
  · rw [if_pos z, if_pos z, c_tell3, zb_n, w_win_125]
    exact ⟨_, _, rfl, c_rw_3⟩
  · rw [if_neg z, if_neg z, c_tell3, zb_n, w_win_125]
    exact ⟨_, _, rfl, c_rw_3⟩
theorem Y_wtail {mz : z_M} {l : List (Int × Int × Int)} {d : Nat} {q : Int × Int} {x2 : Int} (hq : (m 251 32, m 251 35) = q) : ∃ m' v, z_R 212 (m, 179, [(2, 251), (0, (l.length : Int)), (0, x2), (0, (d : Int))], []) = some (m', some (0, v)) ∧ r_rw mz m' (some (ro_win l d q)) := by
  subst hq
  unfold ro_win
  rw [v_win_179]
  by_cases z : (l.length : Int) ≤ (d : Int)
  · rw [if_pos z, if_pos z, t_tell0, zb_n, v_win_198, t_tell1, zb_n, v_win_207, t_tell2, zb_n, v_win_216]
    exact ⟨_, _, rfl, r_rw_3 rfl rfl (congrArg z_i2l (t_told1 (by omega) (by omega))) (congrArg z_i2l (t_told2 (by omega) (by omega)))⟩
  · rw [if_neg z, if_neg z, t_tell0, zb_n, v_win_198, t_tell1, zb_n, v_win_207, t_tell2, zb_n, v_win_216]
    exact ⟨_, _, rfl, r_rw_3 rfl rfl (congrArg z_i2l (t_told1 (by omega) (by omega))) (congrArg z_i2l (t_told2 (by omega) (by omega)))⟩
-- c_LB w_LW w_LV
theorem X_win {e : Int} (hi : C_is w h n heat price D A c U kn KS cs m) (hN : w_N w h n heat D) (hI : w_inv n A e) (he : e + 270 ≤ 2147483600) (h1 : m 1 1 ≤ 80) {G : Int → Int} (hr : u_gr G) (hG : u_nx (m 2) (m 1 1) 60 = G) {j : Int} {l : List (Int × Int × Int)} (hS : w_rd G (m 1 1) = (true, j, l)) (hl : (∀ a ∈ l, w_av a) ∧ l.length ≤ 30) {d : Nat} {B : Nat → Int} (hd : w_go w h n heat price cs D l A = (d, B)) : ∃ m1 v, z_R 82 (m, 0, [(2, 0), (9, 0), (9, 0)], []) = some (m1, some (0, v)) ∧ c_rw m m1 (some (ro_win l d (w_gmt w h n heat price cs D l A (0, 0)))) := by
  obtain ⟨m1, a1, a2, a3, a4⟩ := w_readc m h1 hr hG
  rw [hS] at a1 a3
  have a1 : z_R 83 (m, 0, [(2, 118), (9, 0)], []) = some (m1, some (0, 1)) := a1
  obtain ⟨a5, a6⟩ := a3 rfl
  have a5 : m1 118 4 = (l.length : Int) := a5
  have a6 : w_cl m1 0 l := a6
  have hC0 := C_wtext hi a4
  have f0 : ∀ p k, ¬ p = 1 → (z_up m1 1 1 0) p k = m1 p k := fun p k hp => zu_p hp
  rw [w_win_0, a1, zb_v, w_win_7, s_empty_0, zb_n, w_win_15, if_neg (show ¬ (1 : Int) = 0 by decide)]
  generalize z_up m1 1 1 0 = m0 at hC0 f0 ⊢
  obtain ⟨m2, b1, b2, b3⟩ := c_become z_st_12 z_st_18 (by decide) m0
  have b1 : z_R 61 (m0, 0, [(2, 18), (2, 12)], []) = some (m2, none) := b1
  have hC2 : C_is w h n heat price D A c U kn KS cs m2 := C_fr hC0 fun p k hk => by
    have hk' := hk
    unfold C_hit at hk'
    have hk' := of_decide_eq_true hk'
    exact b3.of (by (try unfold c_LB); (try unfold w_LW); (try unfold w_LV); (repeat' (first | exact trivial | refine z_of_c ?_ ?_)) <;> omega)
  have hA2 : cS m2 18 n = A := (cS_cR b2).trans hC0.2.2.1
  have hC3 : C_is w h n heat price D A c U kn KS cs (z_up (z_up (z_up (z_up m2 24 6 0) 24 7 0) 24 8 0) 24 9 0) := C_upn (C_upn (C_upn (C_upn hC2 (by decide)) (by decide)) (by decide)) (by decide)
  have k6 : (z_up (z_up (z_up (z_up m2 24 6 0) 24 7 0) 24 8 0) 24 9 0) 24 6 = 0 := by rw [zu_k (by decide), zu_k (by decide), zu_k (by decide), zu_self]
  have k9 : (z_up (z_up (z_up (z_up m2 24 6 0) 24 7 0) 24 8 0) 24 9 0) 24 9 = 0 := zu_self
  have f3 : ∀ p k, ¬ p = 24 → (z_up (z_up (z_up (z_up m2 24 6 0) 24 7 0) 24 8 0) 24 9 0) p k = m2 p k := fun p k hp => by rw [zu_p hp, zu_p hp, zu_p hp, zu_p hp]
  rw [b1, zb_n, w_win_40, s_cb_0, zb_n, w_win_47]
  generalize z_up (z_up (z_up (z_up m2 24 6 0) 24 7 0) 24 8 0) 24 9 0 = m3 at hC3 k6 k9 f3 ⊢
  have fr : ∀ p k, (118 ≤ p ∧ p ≤ 121) → m3 p k = m1 p k := fun p k hp => by
    rw [f3 p k (by omega), b3.of (p := p) (k := k) (by (try unfold c_LB); (try unfold w_LW); (try unfold w_LV); (repeat' (first | exact trivial | refine z_of_c ?_ ?_)) <;> omega)]
    exact f0 p k (by omega)
  have hA3 : cS m3 18 n = A := by
    rw [cS_fr (fun j k hj _ => f3 (18 + j) k (by omega))]
    exact hA2
  obtain ⟨m4, c1, c2, c3, c4⟩ := X_wgo hN l 0 A e m3 (by omega) (by omega) (by rw [fr 118 4 (by decide), a5, Nat.zero_add]) (w_cl_fr l 0 a6 (fun j => ⟨fr 119 j (by decide), fr 120 j (by decide), fr 121 j (by decide)⟩)) hl.1 hC3 hI (by rw [k6]; decide +kernel) (by rw [k9]; decide +kernel)
  rw [hd, Nat.zero_add] at c1
  rw [hd] at c2
  have c1 : z_R 82 (m3, 49, [(2, 0), (0, 1), (0, 0)], []) = z_R 82 (m4, 74, [(2, 0), (0, 1), (0, (d : Int))], []) := c1
  have c2 : C_is w h n heat price D B c U kn KS cs m4 := c2
  have q4 : (m4 24 6, m4 24 9) = w_gmt w h n heat price cs D l A (0, 0) := by rw [c4, k6, k9]
  have e4 : m4 118 4 = (l.length : Int) := (c3.of (by (try unfold c_LB); (try unfold w_LW); (try unfold w_LV); (repeat' (first | exact trivial | refine z_of_c ?_ ?_)) <;> omega)).trans ((fr 118 4 (by decide)).trans a5)
  rw [c1, w_win_74]
  by_cases z : d = 0
  · rw [if_pos (show (d : Int) ≤ 0 by omega), ← w_win_89 m4 1 (d : Int)]
    exact X_wtail e4 q4
  · obtain ⟨m5, d1, d2, d3⟩ := C_rem c2 (s := 18) (Or.inr rfl)
    have d1 : z_R 60 (m4, 0, [(2, 28), (2, 18)], []) = some (m5, none) := d1
    have hA4 : cS m4 18 n = A := by
      rw [cS_fr (fun j k hj _ => c3.of (p := 18 + j) (k := k) (by (try unfold c_LB); (try unfold w_LW); (try unfold w_LV); (repeat' (first | exact trivial | refine z_of_c ?_ ?_)) <;> omega))]
      exact hA3
    rw [hA4] at d2
    have f5 : ∀ p k, (p = 24 ∨ p = 118) → m5 p k = m4 p k := fun p k hp => by
      have hb := c2.2.2.2.1.1
      exact d3.of (by (try unfold c_LB); (try unfold w_LW); (try unfold w_LV); (repeat' (first | exact trivial | refine z_of_c ?_ ?_)) <;> omega)
    rw [if_neg (show ¬ (d : Int) ≤ 0 by omega), d1, zb_n]
    exact X_wtail ((f5 118 4 (Or.inr rfl)).trans e4) (by rw [f5 24 6 (Or.inl rfl), f5 24 9 (Or.inl rfl)]; exact q4)
theorem Y_win {e : Int} (hi : R_is w h n heat price D A c U kn KS cs m) (hN : w_N w h n heat D) (hI : w_inv n A e) (he : e + 270 ≤ 2147483600) (h0 : 0 ≤ m 251 8) (h1 : m 251 8 ≤ 80) (hb : ∀ k, k < 80 → -128 ≤ m 254 k ∧ m 254 k ≤ 127) {G : Int → Int} (hG : u_nx (u_t m) (m 251 8) 60 = G) {j : Int} {l : List (Int × Int × Int)} (hS : w_rd G (m 251 8) = (true, j, l)) (hl : (∀ a ∈ l, w_av a) ∧ l.length ≤ 30) {d : Nat} {B : Nat → Int} (hd : w_go w h n heat price cs D l A = (d, B)) : ∃ m1 v, z_R 212 (m, 0, [(2, 251), (9, 0), (9, 0), (9, 0)], []) = some (m1, some (0, v)) ∧ r_rw m m1 (some (ro_win l d (w_gmt w h n heat price cs D l A (0, 0)))) := by
  obtain ⟨m1, a1, a2, -⟩ := w_readq m h0 h1 hb hG
  rw [hS] at a2
  obtain ⟨a3, a4⟩ := a2 rfl
  have a3 : z_R 212 (m, 0, [(2, 251), (9, 0), (9, 0), (9, 0)], []) = z_R 212 (m1, 93, [(2, 251), (0, (l.length : Int)), (0, 0), (9, 0)], [(0, 1)]) := a3
  have a4 : w_rl m1 0 l := a4
  have hR1 := R_wtext hi a1
  obtain ⟨m2, b1, b2, b3⟩ := t_layd (a := 252) (q := 261) (B := 0) t_lay261_0 t_lay261_2 (by decide) (b := 0) (by decide) m1
  have b1 : z_R 198 (m1, 0, [(2, 252), (2, 261), (0, 0), (9, 0)], []) = some (m2, none) := b1
  have b2 : ∀ k, k < 37 → m2 261 k = m1 252 k := fun k hk => by
    have := b2 k hk
    rw [Nat.zero_add] at this
    exact this
  have hR2 : R_is w h n heat price D A c U kn KS cs m2 := R_fr hR1 fun p k hk => by
    have hk' := hk
    unfold R_hit at hk'
    have hk' := of_decide_eq_true hk'
    exact b3 p k (by omega)
  have hA2 : rS m2 261 n = A := (rS_cp b2).trans hR1.2.2.1
  have hR3 : R_is w h n heat price D A c U kn KS cs (z_up (z_up (z_up (z_up m2 251 32 0) 251 33 0) 251 34 0) 251 35 0) := R_upn (R_upn (R_upn (R_upn hR2 (by decide)) (by decide)) (by decide)) (by decide)
  have f3 : ∀ p k, ¬ p = 251 → (z_up (z_up (z_up (z_up m2 251 32 0) 251 33 0) 251 34 0) 251 35 0) p k = m2 p k := fun p k hp => by rw [zu_p hp, zu_p hp, zu_p hp, zu_p hp]
  have k32 : (z_up (z_up (z_up (z_up m2 251 32 0) 251 33 0) 251 34 0) 251 35 0) 251 32 = 0 := by rw [zu_k (by decide), zu_k (by decide), zu_k (by decide), zu_self]
  have k35 : (z_up (z_up (z_up (z_up m2 251 32 0) 251 33 0) 251 34 0) 251 35 0) 251 35 = 0 := zu_self
  rw [a3, v_win_93, if_neg (show ¬ (1 : Int) = 0 by decide), b1, zb_n, v_win_115, t_bh_0, zb_n, v_win_119]

  generalize z_up (z_up (z_up (z_up m2 251 32 0) 251 33 0) 251 34 0) 251 35 0 = m3 at hR3 f3 k32 k35 ⊢
  have hA3 : rS m3 261 n = A := by
    rw [rS_row (funext fun k => f3 261 k (by decide))]
    exact hA2
  obtain ⟨m4, c1, c2, c3, c4⟩ := Y_wgo (x1 := (l.length : Int)) hN l 0 A e m3 (by omega) (by omega) (by rw [Nat.zero_add]) (w_rl_fr l 0 a4 (fun j => (f3 263 j (by decide)).trans (b3 263 j (by omega)))) hl.1 hR3 hI
  rw [hd, Nat.zero_add] at c1
  rw [hd] at c2
  have c1 : z_R 212 (m3, 121, [(2, 251), (0, (l.length : Int)), (0, 0), (0, 0)], []) = z_R 212 (m4, 167, [(2, 251), (0, (l.length : Int)), (0, 0), (0, (d : Int))], []) := c1
  have c2 : R_is w h n heat price D B c U kn KS cs m4 := c2
  have q4 : (m4 251 32, m4 251 35) = w_gmt w h n heat price cs D l A (0, 0) := by rw [c4, k32, k35]
  rw [c1, v_win_167]
  by_cases z : d = 0
  · rw [if_pos (show (d : Int) ≤ 0 by omega), ← v_win_179 m4 (l.length : Int) 0 (d : Int)]
    exact Y_wtail q4
  · obtain ⟨m5, d1, d2, d3⟩ := R_rem c2 (a := 261) (Or.inr rfl)
    have d1 : z_R 197 (m4, 0, [(2, 251), (2, 261), (9, 0)], []) = some (m5, none) := d1
    have hA4 : rS m4 261 n = A := by
      rw [rS_row (c3.ofr (by (try unfold c_LB); (try unfold w_LW); (try unfold w_LV); (repeat' (first | exact trivial | refine z_ofr_c ?_ ?_)) <;> omega))]
      exact hA3
    rw [hA4] at d2
    rw [if_neg (show ¬ (d : Int) ≤ 0 by omega), d1, zb_n]
    exact Y_wtail (by rw [show m5 251 32 = m4 251 32 from d3.of (by (try unfold c_LB); (try unfold w_LW); (try unfold w_LV); (repeat' (first | exact trivial | refine z_of_c ?_ ?_)) <;> omega), show m5 251 35 = m4 251 35 from d3.of (by (try unfold c_LB); (try unfold w_LW); (try unfold w_LV); (repeat' (first | exact trivial | refine z_of_c ?_ ?_)) <;> omega)]; exact q4)
/-! rests -/
def g_row (G : Nat → Nat → Int) (acc : Int) : List Int := if acc = 0 then [] else [z_i2l (G 0 (gv_nz acc).toNat), z_i2l (G 1 (gv_nz acc).toNat)]
def g_Lv (n : Nat) (heat : Int) (cs : List Int) (D A : Nat → Int) (a b v : Int) : Option (List Int) := if (0 ≤ a ∧ a < (n : Int)) ∧ (0 ≤ b ∧ b < (n : Int)) ∧ ¬ a = b ∧ 0 ≤ v ∧ v ≤ 99 then (if ¬ A (a.toNat + 18) = -1 ∧ A (b.toNat + 18) = A (a.toNat + 18) then some (g_row (g_G n heat cs D A a.toNat b.toNat (A (a.toNat + 18)).toNat v) (g_bits (g_G n heat cs D A a.toNat b.toNat (A (a.toNat + 18)).toNat v) 4 0 0)) else none) else none
def g_stepb : Bool := (List.range 8).all fun k => (List.range 4).all fun x => Nat.ble (2 ^ x) k || (decide (0 ≤ z_or (k : Int) (z_shl 1 (x : Int))) && (decide ((z_or (k : Int) (z_shl 1 (x : Int))).toNat < 2 ^ (x + 1)) && ((decide ((k : Int) = 0) || decide (gv_nz (z_or (k : Int) (z_shl 1 (x : Int))) = gv_nz (k : Int))) && (!(decide ((k : Int) = 0)) || decide (gv_nz (z_or (k : Int) (z_shl 1 (x : Int))) = (x : Int))))))
theorem g_stepb_t : g_stepb = true := by decide +kernel
theorem g_step : ∀ k : Nat, k < 8 → ∀ x : Nat, x < 4 → k < 2 ^ x → 0 ≤ z_or (k : Int) (z_shl 1 (x : Int)) ∧ (z_or (k : Int) (z_shl 1 (x : Int))).toNat < 2 ^ (x + 1) ∧ (¬ (k : Int) = 0 → gv_nz (z_or (k : Int) (z_shl 1 (x : Int))) = gv_nz (k : Int)) ∧ ((k : Int) = 0 → gv_nz (z_or (k : Int) (z_shl 1 (x : Int))) = (x : Int)) := by
  intro k hk x hx h
  have h1 := List.all_eq_true.mp (List.all_eq_true.mp g_stepb_t k (List.mem_range.mpr hk)) x (List.mem_range.mpr hx)
  rcases Bool.or_eq_true _ _ |>.mp h1 with h2 | h2
  · exact absurd h (Nat.not_lt.mpr (Nat.le_of_ble_eq_true h2))
  obtain ⟨a1, h2⟩ := Bool.and_eq_true _ _ |>.mp h2
  obtain ⟨a2, h2⟩ := Bool.and_eq_true _ _ |>.mp h2
  obtain ⟨a3, a4⟩ := Bool.and_eq_true _ _ |>.mp h2
  refine ⟨of_decide_eq_true a1, of_decide_eq_true a2, fun z => ?_, fun z => ?_⟩
  · rcases Bool.or_eq_true _ _ |>.mp a3 with y | y
    · exact absurd (of_decide_eq_true y) z
    · exact of_decide_eq_true y
  · rcases Bool.or_eq_true _ _ |>.mp a4 with y | y
    · rw [decide_eq_true z] at y
      cases y
    · exact of_decide_eq_true y
theorem g_nz4 : ∀ k : Nat, k < 16 → ¬ k = 0 → 0 ≤ gv_nz (k : Int) ∧ gv_nz (k : Int) < 4 := by decide +kernel
theorem g_k8 {k x : Nat} (h : k < 2 ^ x) (hx : x < 4) : k < 8 := Nat.lt_of_lt_of_le h (Nat.pow_le_pow_right (n := 2) (i := x) (j := 3) (by decide) (by omega))
theorem g_kup {acc : Int} {x : Nat} (hk : ∃ k : Nat, acc = (k : Int) ∧ k < 2 ^ x) : ∃ k : Nat, acc = (k : Int) ∧ k < 2 ^ (x + 1) := by
  obtain ⟨k, e, h⟩ := hk
  exact ⟨k, e, Nat.lt_of_lt_of_le h (Nat.pow_le_pow_right (by decide) (Nat.le_succ x))⟩
theorem g_bits_b {G : Nat → Nat → Int} : ∀ (f x : Nat) (acc : Int), x + f = 4 → (∃ k : Nat, acc = (k : Int) ∧ k < 2 ^ x) → ∃ k : Nat, g_bits G f x acc = (k : Int) ∧ k < 2 ^ 4 := by
  intro f
  induction f with
  | zero =>
    intro x acc hx hk
    obtain rfl : x = 4 := by omega
    exact hk
  | succ f ih =>
    intro x acc hx hk
    unfold g_bits
    refine ih (x + 1) _ (by omega) ?_
    by_cases p : G 0 (g_x1 x) ≤ G 0 x ∧ G 1 (g_x2 x) ≤ G 1 x
    · rw [if_pos p]
      obtain ⟨k, e, h⟩ := hk
      have st := g_step k (g_k8 h (by omega)) x (by omega) h
      rw [← e] at st
      exact ⟨_, (Int.toNat_of_nonneg st.1).symm, st.2.1⟩
    · rw [if_neg p]
      exact g_kup hk
theorem X_mby (hi : C_is w h n heat price D A c U kn KS cs m) {r : Nat} (hr : r < 9) (t k : Int) : ∃ m1, z_R 120 (m, 0, [(2, 24), (2, 12), (0, (r : Int)), (0, t), (0, k)], []) = some (m1, some (0, c_ml cs t (A r) (A (r + 9)) (A 36) ((r : Int) / 3) k (A 35))) ∧ C_is w h n heat price D A c U kn KS cs m1 ∧ m1 0 13 = m 0 13 ∧ ∀ k, m1 250 k = m 250 k := by
  have e7 : m 12 7 = A 35 := by
    rw [← hi.2.2.1]
    exact (cS_at0 (s := 12) (j := 7) (by decide)).symm
  have e8 : m 12 8 = A 36 := by
    rw [← hi.2.2.1]
    exact (cS_at0 (s := 12) (j := 8) (by decide)).symm
  have e13 : m 13 r = A r := by
    rw [← hi.2.2.1]
    exact (cS_at1 (s := 12) hr).symm
  have e14 : m 14 r = A (r + 9) := by
    rw [← hi.2.2.1]
    exact (cS_at2 (s := 12) hr).symm
  obtain ⟨m1, a1, a2⟩ := (C_cfg hi).2.2.2.2.2.2.1 m rfl rfl t (A r) (A (r + 9)) (A 36) ((r : Int) / 3) k (A 35)
  rw [u_mby_0 m r _ _ (by omega), Int.toNat_natCast, e13, e14, e8, e7, a1, zb_v, u_mby_48]
  refine ⟨m1, rfl, C_fr hi fun p k hk => ?_, a2.of (by (try unfold c_LB); (try unfold w_LW); (try unfold w_LV); (repeat' (first | exact trivial | refine z_of_c ?_ ?_)) <;> omega), fun k => a2.of (by (try unfold c_LB); (try unfold w_LW); (try unfold w_LV); (repeat' (first | exact trivial | refine z_of_c ?_ ?_)) <;> omega)⟩
  have hk' := hk
  unfold C_hit at hk'
  have hk' := of_decide_eq_true hk'
  exact a2.of (by (try unfold c_LB); (try unfold w_LW); (try unfold w_LV); (repeat' (first | exact trivial | refine z_of_c ?_ ?_)) <;> omega)
theorem X_gain (hi : C_is w h n heat price D A c U kn KS cs m) (hN : w_N w h n heat D) (hok : hr_ok n A) (ht : 0 ≤ A 35 ∧ A 35 ≤ 1073741824) {a b r : Nat} (ha : a < n) (hb : b < n) (hr : r < 9) (ea : A (a + 18) = (r : Int)) {v : Int} (hv : 0 ≤ v ∧ v ≤ 99) {s x : Nat} (hs : s < 2) (hx : x < 4) : ∃ m1, z_R 136 (m, 0, [(2, 0), (0, (a : Int)), (0, (b : Int)), (0, v), (0, (x : Int)), (0, (s : Int)), (9, 0), (9, 0), (9, 0), (9, 0)], []) = some (m1, some (0, g_G n heat cs D A a b r v s x)) ∧ C_is w h n heat price D A c U kn KS cs m1 ∧ m1 0 13 = m 0 13 ∧ ∀ k, m1 250 k = m 250 k := by
  have h5 := hN.1.2.2
  have e15 : m 15 a = (r : Int) := (C_A3 hi ha h5).trans ea
  have e7 : m 12 7 = A 35 := by
    rw [← hi.2.2.1]
    exact (cS_at0 (s := 12) (j := 7) (by decide)).symm
  have bW := hr_wb_b hN ht.1 (r : Int) (hr_b (r : Int) n 0 A 0)
  have ba := hN.2.2 (A 35) ht.1 a (by omega)
  have bb := hN.2.2 (A 35) ht.1 b (by omega)
  have ca : cw m a (A 35) = wmD D (A 35) a := cw_D hi.1.2.2.2.2.2.2.1 hi.1.2.2.2.2.2.2.2 hi.2.1 ht.1 (by omega)
  have cb : cw m b (A 35) = wmD D (A 35) b := cw_D hi.1.2.2.2.2.2.2.1 hi.1.2.2.2.2.2.2.2 hi.2.1 ht.1 (by omega)
  have wa : z_R 70 (m, 0, [(2, 24), (0, (a : Int)), (0, A 35), (9, 0)], []) = some (m, some (0, wmD D (A 35) a)) := by rw [c_wo m (by omega) ht.1 (by omega), ca]
  have wb : z_R 70 (m, 0, [(2, 24), (0, (b : Int)), (0, A 35), (9, 0)], []) = some (m, some (0, wmD D (A 35) b)) := by rw [c_wo m (by omega) ht.1 (by omega), cb]
  have ew := C_wmi hi hN ht (r : Int)
  have aB := C_bin hi h5 (r := (r : Int)) n 0 0 (by omega) (by decide)
  have aB : z_R 100 (m, 5, [(2, 3), (2, 12), (0, (r : Int)), (0, 0), (0, 0)], []) = some (m, some (0, hr_b (r : Int) n 0 A 0)) := aB
  have k1 : z_and (x : Int) 1 = 0 ↔ g_go 0 x = true := by
    have : ∀ x, x < 4 → (z_and ((x : Nat) : Int) 1 = 0 ↔ g_go 0 x = true) := by decide +kernel
    exact this x hx
  have k2 : z_and (x : Int) 2 = 0 ↔ g_go 1 x = true := by
    have : ∀ x, x < 4 → (z_and ((x : Nat) : Int) 2 = 0 ↔ g_go 1 x = true) := by decide +kernel
    exact this x hx
  rw [z_gai_0 m a b v x s ⟨by omega, by omega⟩ ⟨by omega, by omega⟩, if_pos (show 0 ≤ (a : Int) ∧ (a : Int) < 5 by omega), Int.toNat_natCast, e15, ew, zb_v, z_gai_24, e7]
  unfold g_G
  generalize hr_wb heat (wmD D (A 35)) n A (r : Int) (hr_b (r : Int) n 0 A 0) = W at bW ⊢
  generalize hr_b (r : Int) n 0 A 0 = B at aB ⊢
  generalize wmD D (A 35) a = x1 at ba wa ⊢
  generalize wmD D (A 35) b = x2 at bb wb ⊢
  have go : ∀ t, t = g_wt W x1 x2 x → ∃ m1, ((z_R 100 (m, 0, [(2, 3), (2, 12), (0, (r : Int)), (9, 0), (9, 0)], [])).bind fun qq => z_R 136 (qq.1, 93, [(2, 0), (0, (a : Int)), (0, (b : Int)), (0, v), (0, (x : Int)), (0, (s : Int)), (0, (r : Int)), (0, t), (9, 0), (9, 0)], qq.2.toList ++ [])) = some (m1, some (0, g_g (fun t => c_ml cs t (A r) (A (r + 9)) (A 36) ((r : Int) / 3) (hr_pc B) (A 35)) W x1 x2 v s x)) ∧ C_is w h n heat price D A c U kn KS cs m1 ∧ m1 0 13 = m 0 13 ∧ ∀ k, m1 250 k = m 250 k := by
    intro t et
    obtain ⟨m1, a1, a2, a3, a4⟩ := X_mby hi hr t (hr_pc B)
    have bm := c_ml_ok cs t (A r) (A (r + 9)) (A 36) ((r : Int) / 3) (hr_pc B) (A 35) (hok.1 r hr).1
    have br := (hok.1 r hr).2
    rw [z_bin_0, aB, zb_v, z_gai_93, t_bc_0, zb_v, z_gai_96, a1, zb_v, z_gai_115, g_shr hx hs]
    show ∃ m1', _ = some (m1', some (0, (if g_go s x = true then 0 else v) - c_ml cs (g_wt W x1 x2 x) (A r) (A (r + 9)) (A 36) ((r : Int) / 3) (hr_pc B) (A 35))) ∧ _ ∧ _
    rw [← et]
    by_cases g : g_go s x = true
    · rw [if_pos g, if_pos rfl, if_pos g, z_sub_eq (by omega) (by omega)]
      exact ⟨m1, rfl, a2, a3, a4⟩
    · rw [if_neg g, if_neg (show ¬ (1 : Int) = 0 by decide), if_neg g, z_sub_eq (by omega) (by omega)]
      exact ⟨m1, rfl, a2, a3, a4⟩
  by_cases c1 : g_go 0 x = true
  · rw [if_pos (k1.mpr c1), wa, zb_v, z_gai_50, e7]
    by_cases c2 : g_go 1 x = true
    · rw [if_pos (k2.mpr c2), wb, zb_v, z_gai_77, z_sub_eq (x := W) (by omega) (by omega), z_sub_eq (x := W - x1) (by omega) (by omega)]
      exact go _ (by unfold g_wt; rw [if_pos c1, if_pos c2])
    · rw [if_neg (fun z => c2 (k2.mp z)), z_sub_eq (x := W) (by omega) (by omega)]
      exact go _ (by unfold g_wt; rw [if_pos c1, if_neg c2]; omega)
  · rw [if_neg (fun z => c1 (k1.mp z))]
    by_cases c2 : g_go 1 x = true
    · rw [if_pos (k2.mpr c2), wb, zb_v, z_gai_77, z_sub_eq (x := W) (by omega) (by omega)]
      exact go _ (by unfold g_wt; rw [if_neg c1, if_pos c2]; omega)
    · rw [if_neg (fun z => c2 (k2.mp z))]
      exact go _ (by unfold g_wt; rw [if_neg c1, if_neg c2]; omega)
theorem X_rst1 {mz : z_M} (hN : w_N w h n heat D) (hok : hr_ok n A) (ht : 0 ≤ A 35 ∧ A 35 ≤ 1073741824) {a b r : Nat} (ha : a < n) (hb : b < n) (hr : r < 9) (ea : A (a + 18) = (r : Int)) {v : Int} (hv : 0 ≤ v ∧ v ≤ 99) : ∀ (f x : Nat) (acc y : Int) (v8 v9 : z_V) (m : z_M), x + f = 4 → (∃ k : Nat, acc = (k : Int) ∧ k < 2 ^ x) → (acc = 0 ∨ (y = gv_nz acc ∧ 0 ≤ y ∧ y < 4)) → C_is w h n heat price D A c U kn KS cs m → ∃ m1, z_R 135 (m, 88, [(2, 0), (0, (a : Int)), (0, (b : Int)), (0, v), (0, (r : Int)), (0, acc), (0, y), (0, (x : Int)), v8, v9], []) = some (m1, some (0, g_bits (g_G n heat cs D A a b r v) f x acc)) ∧ c_rw mz m1 (some (g_row (g_G n heat cs D A a b r v) (g_bits (g_G n heat cs D A a b r v) f x acc))) := by
  intro f
  induction f with
  | zero =>
    intro x acc y v8 v9 m hx hk hy hi
    have hi1 : C_is w h n heat price D A c U kn KS cs (z_up m 0 13 0) := C_upn hi (by decide)
    have g13 : (z_up m 0 13 0) 0 13 = ((0 : Nat) : Int) := zu_self
    show ∃ m1 : z_M, _ = some (m1, some (0, acc)) ∧ c_rw mz m1 (some (g_row (g_G n heat cs D A a b r v) acc))
    rw [z_rst_88, if_pos (by omega), s_tell0_0, zb_n, z_rst_201]
    generalize z_up m 0 13 0 = m0 at hi1 g13 ⊢
    by_cases z : acc = 0
    · rw [if_pos z, show g_row (g_G n heat cs D A a b r v) acc = [] from if_pos z]
      exact ⟨m0, rfl, g13, fun i hi => absurd hi (Nat.not_lt_zero i)⟩
    · obtain ⟨y', rfl⟩ : ∃ y' : Nat, y = (y' : Int) := ⟨y.toNat, by omega⟩
      have ey : gv_nz acc = (y' : Int) := (hy.resolve_left z).1.symm
      have eR : g_row (g_G n heat cs D A a b r v) acc = [z_i2l (g_G n heat cs D A a b r v 0 y'), z_i2l (g_G n heat cs D A a b r v 1 y')] := (if_neg z).trans (by rw [ey, Int.toNat_natCast])
      obtain ⟨m1, a1, a2, a3, a4⟩ := X_gain hi1 hN hok ht ha hb hr ea hv (s := 0) (x := y') (by decide) (by omega)
      have a1 : z_R 136 (m0, 0, [(2, 0), (0, (a : Int)), (0, (b : Int)), (0, v), (0, (y' : Int)), (0, 0), (9, 0), (9, 0), (9, 0), (9, 0)], []) = some (m1, some (0, g_G n heat cs D A a b r v 0 y')) := a1
      have hi2 : C_is w h n heat price D A c U kn KS cs (z_up (z_up m1 250 0 (z_i2l (g_G n heat cs D A a b r v 0 y'))) 0 13 ((0 + 1 : Nat) : Int)) := C_upn (C_upn a2 (by decide)) (by decide)
      have g2 : (z_up (z_up m1 250 0 (z_i2l (g_G n heat cs D A a b r v 0 y'))) 0 13 ((0 + 1 : Nat) : Int)) 0 13 = ((1 : Nat) : Int) := zu_self
      have g3 : (z_up (z_up m1 250 0 (z_i2l (g_G n heat cs D A a b r v 0 y'))) 0 13 ((0 + 1 : Nat) : Int)) 250 0 = z_i2l (g_G n heat cs D A a b r v 0 y') := by rw [zu_p (by decide), zu_self]
      rw [if_neg z, a1, zb_v, z_rst_217, c_add (j := 0) m1 _ (by decide) (a3.trans g13), zb_n, z_rst_221]
      generalize z_up (z_up m1 250 0 (z_i2l (g_G n heat cs D A a b r v 0 y'))) 0 13 ((0 + 1 : Nat) : Int) = m2 at hi2 g2 g3 ⊢
      obtain ⟨m3, b1, b2, b3, b4⟩ := X_gain hi2 hN hok ht ha hb hr ea hv (s := 1) (x := y') (by decide) (by omega)
      have b1 : z_R 136 (m2, 0, [(2, 0), (0, (a : Int)), (0, (b : Int)), (0, v), (0, (y' : Int)), (0, 1), (9, 0), (9, 0), (9, 0), (9, 0)], []) = some (m3, some (0, g_G n heat cs D A a b r v 1 y')) := b1
      rw [b1, zb_v, z_rst_232, c_add (j := 1) m3 _ (by decide) (b3.trans g2), zb_n, z_rst_236]
      rw [eR]
      refine ⟨_, rfl, zu_self, fun i hi => ?_⟩
      have hi : i < 2 := hi
      rcases (show i = 0 ∨ i = 1 by omega) with rfl | rfl
      · show _ = z_i2l (g_G n heat cs D A a b r v 0 y')
        rw [zu_p (by decide), zu_k (by decide), b4 0, g3]
      · show _ = z_i2l (g_G n heat cs D A a b r v 1 y')
        rw [zu_p (by decide), zu_self]
  | succ f ih =>
    intro x acc y v8 v9 m hx hk hy hi
    have hx4 : x < 4 := by omega
    obtain ⟨m1, a1, a2, -⟩ := C_gain hi hN hok ht ha hb hr ea hv (s := 0) (x := x) (by decide) hx4
    have a1 : z_R 136 (m, 0, [(2, 0), (0, (a : Int)), (0, (b : Int)), (0, v), (0, (x : Int)), (0, 0), (9, 0), (9, 0), (9, 0), (9, 0)], []) = some (m1, some (0, g_G n heat cs D A a b r v 0 x)) := a1
    obtain ⟨m2, b1, b2, -⟩ := C_gain a2 hN hok ht ha hb hr ea hv (s := 0) (x := g_x1 x) (by decide) (g_x1_lt hx4)
    have b1 : z_R 136 (m1, 0, [(2, 0), (0, (a : Int)), (0, (b : Int)), (0, v), (0, ((g_x1 x : Nat) : Int)), (0, 0), (9, 0), (9, 0), (9, 0), (9, 0)], []) = some (m2, some (0, g_G n heat cs D A a b r v 0 (g_x1 x))) := b1
    obtain ⟨m3, d1, d2, -⟩ := C_gain b2 hN hok ht ha hb hr ea hv (s := 1) (x := x) (by decide) hx4
    have d1 : z_R 136 (m2, 0, [(2, 0), (0, (a : Int)), (0, (b : Int)), (0, v), (0, (x : Int)), (0, 1), (9, 0), (9, 0), (9, 0), (9, 0)], []) = some (m3, some (0, g_G n heat cs D A a b r v 1 x)) := d1
    obtain ⟨k, ek, hk2⟩ := hk
    have st := g_step k (g_k8 hk2 hx4) x hx4 hk2
    rw [← ek] at st
    have hk : ∃ k : Nat, acc = (k : Int) ∧ k < 2 ^ x := ⟨k, ek, hk2⟩
    have hk3 : ∃ k : Nat, z_or acc (z_shl 1 (x : Int)) = (k : Int) ∧ k < 2 ^ (x + 1) := ⟨_, (Int.toNat_of_nonneg st.1).symm, st.2.1⟩
    obtain ⟨m4, e1, e2, -⟩ := C_gain d2 hN hok ht ha hb hr ea hv (s := 1) (x := g_x2 x) (by decide) (g_x2_lt hx4)
    have e1 : z_R 136 (m3, 0, [(2, 0), (0, (a : Int)), (0, (b : Int)), (0, v), (0, ((g_x2 x : Nat) : Int)), (0, 1), (9, 0), (9, 0), (9, 0), (9, 0)], []) = some (m4, some (0, g_G n heat cs D A a b r v 1 (g_x2 x))) := e1
    have bit0 : (0 : Int) ≤ x ∧ (x : Int) < 4 := by omega
    rw [z_rst_88, if_neg (by omega), a1, zb_v, z_rst_104, g_xor1 hx4, b1, zb_v, z_rst_116]
    unfold g_bits
    generalize g_G n heat cs D A a b r v = G at d1 e1 ih ⊢
    by_cases p1 : G 0 x < G 0 (g_x1 x)
    · rw [if_pos p1, d1, zb_v, z_rst_136, g_xor2 hx4, e1, zb_v, z_rst_148, if_neg (show ¬ (G 0 (g_x1 x) ≤ G 0 x ∧ G 1 (g_x2 x) ≤ G 1 x) by omega), z_add_eq (x := (x : Int)) (y := 1) (by omega) (by omega), tc1]
      by_cases p2 : G 1 x < G 1 (g_x2 x)
      · rw [if_pos p2, if_pos rfl]
        exact ih (x + 1) acc y _ _ m4 (by omega) (g_kup hk) hy e2
      · rw [if_neg p2, if_pos rfl]
        exact ih (x + 1) acc y _ _ m4 (by omega) (g_kup hk) hy e2
    · rw [if_neg p1, d1, zb_v, z_rst_136, g_xor2 hx4, e1, zb_v, z_rst_148, z_add_eq (x := (x : Int)) (y := 1) (by omega) (by omega), tc1]
      by_cases p2 : G 1 x < G 1 (g_x2 x)
      · rw [if_pos p2, if_neg (show ¬ (1 : Int) = 0 by decide), if_neg (show ¬ (G 0 (g_x1 x) ≤ G 0 x ∧ G 1 (g_x2 x) ≤ G 1 x) by omega)]
        exact ih (x + 1) acc y _ _ m4 (by omega) (g_kup hk) hy e2
      · rw [if_neg p2, if_neg (show ¬ (1 : Int) = 0 by decide), if_pos (show G 0 (g_x1 x) ≤ G 0 x ∧ G 1 (g_x2 x) ≤ G 1 x by omega)]
        by_cases p3 : acc = 0
        · rw [if_pos p3]
          exact ih (x + 1) _ _ _ _ m4 (by omega) hk3 (Or.inr ⟨(st.2.2.2 p3).symm, bit0⟩) e2
        · rw [if_neg p3]
          exact ih (x + 1) _ _ _ _ m4 (by omega) hk3 (Or.inr ⟨(hy.resolve_left p3).1.trans (st.2.2.1 p3).symm, (hy.resolve_left p3).2⟩) e2
theorem X_rests (hi : C_is w h n heat price D A c U kn KS cs m) (hN : w_N w h n heat D) (hok : hr_ok n A) (ht : 0 ≤ A 35 ∧ A 35 ≤ 1073741824) (hw : wi w h n A) (a b v : Int) : ∃ m1, z_R 135 (m, 0, [(2, 0), (0, a), (0, b), (0, v), (9, 0), (9, 0), (9, 0), (9, 0), (9, 0), (9, 0)], []) = some (m1, some (0, g_A n heat cs D A a b v)) ∧ c_rw m m1 (g_Lv n heat cs D A a b v) := by
  have h5 := hN.1.2.2
  rw [z_rst_0, hi.1.1, hi.1.2.1, hi.1.2.2.1]
  by_cases c1 : 0 ≤ a ∧ a < (n : Int)
  · rw [if_pos c1]
    by_cases c2 : 0 ≤ b ∧ b < (n : Int)
    · rw [if_pos c2]
      by_cases c3 : a = b
      · have e : g_A n heat cs D A a b v = -1 := if_neg (fun z => z.2.2.1 c3)
        rw [if_pos c3, e]
        exact ⟨m, rfl, c_rw_n (if_neg (fun z => z.2.2.1 c3))⟩
      rw [if_neg c3]
      by_cases c4 : v < 0
      · have e : g_A n heat cs D A a b v = -1 := if_neg (fun z => by have := z.2.2.2.1; omega)
        rw [if_pos c4, e]
        exact ⟨m, rfl, c_rw_n (if_neg (fun z => by have := z.2.2.2.1; omega))⟩
      rw [if_neg c4]
      by_cases c5 : v ≤ 99
      · obtain ⟨a', rfl⟩ : ∃ a' : Nat, a = (a' : Int) := ⟨a.toNat, by omega⟩
        obtain ⟨b', rfl⟩ : ∃ b' : Nat, b = (b' : Int) := ⟨b.toNat, by omega⟩
        have ha : a' < n := by omega
        have hb : b' < n := by omega
        have e15 : m 15 a' = A (a' + 18) := C_A3 hi ha h5
        have e15b : m 15 b' = A (b' + 18) := C_A3 hi hb h5
        have eA : g_A n heat cs D A (a' : Int) (b' : Int) v = if ¬ A ((a' : Int).toNat + 18) = -1 ∧ A ((b' : Int).toNat + 18) = A ((a' : Int).toNat + 18) then g_bits (g_G n heat cs D A (a' : Int).toNat (b' : Int).toNat (A ((a' : Int).toNat + 18)).toNat v) 4 0 0 else -2 := if_pos ⟨c1, c2, c3, by omega, c5⟩
        rw [Int.toNat_natCast, Int.toNat_natCast] at eA
        have eL : g_Lv n heat cs D A (a' : Int) (b' : Int) v = if ¬ A ((a' : Int).toNat + 18) = -1 ∧ A ((b' : Int).toNat + 18) = A ((a' : Int).toNat + 18) then some (g_row (g_G n heat cs D A (a' : Int).toNat (b' : Int).toNat (A ((a' : Int).toNat + 18)).toNat v) (g_bits (g_G n heat cs D A (a' : Int).toNat (b' : Int).toNat (A ((a' : Int).toNat + 18)).toNat v) 4 0 0)) else none := if_pos ⟨c1, c2, c3, by omega, c5⟩
        rw [Int.toNat_natCast, Int.toNat_natCast] at eL
        rw [if_pos c5, if_pos (show 0 ≤ (a' : Int) ∧ (a' : Int) < 5 by omega), if_pos (show 0 ≤ (b' : Int) ∧ (b' : Int) < 5 by omega), Int.toNat_natCast, Int.toNat_natCast, e15, e15b, eA, eL]
        by_cases d1 : u_hs (w : Int) (h : Int) (A (a' + 18)) = 0
        · have z := (hw.1 a' ha).resolve_right (not_not_intro d1)
          rw [if_neg (not_not_intro d1), if_neg (fun y => y.1 z), if_neg (fun y => y.1 z)]
          exact ⟨m, rfl, c_rw_id⟩
        · have hr := u_hs_rng d1
          rw [if_pos d1]
          by_cases d2 : A (b' + 18) = A (a' + 18)
          · obtain ⟨r, er⟩ : ∃ r : Nat, A (a' + 18) = (r : Int) := ⟨(A (a' + 18)).toNat, by omega⟩
            rw [if_pos d2, if_pos (show ¬ A (a' + 18) = -1 ∧ A (b' + 18) = A (a' + 18) from ⟨by omega, d2⟩), if_pos (show ¬ A (a' + 18) = -1 ∧ A (b' + 18) = A (a' + 18) from ⟨by omega, d2⟩), er, Int.toNat_natCast]
            exact X_rst1 hN hok ht ha hb (by omega) er (v := v) ⟨by omega, c5⟩ 4 0 0 (-1) (9, 0) (9, 0) m (by decide) ⟨0, rfl, by decide⟩ (Or.inl rfl) hi
          · rw [if_neg d2, if_neg (fun y => d2 y.2), if_neg (fun y => d2 y.2)]
            exact ⟨m, rfl, c_rw_id⟩
      · have e : g_A n heat cs D A a b v = -1 := if_neg (fun z => c5 z.2.2.2.2)
        rw [if_neg c5, e]
        exact ⟨m, rfl, c_rw_n (if_neg (fun z => c5 z.2.2.2.2))⟩
    · have e : g_A n heat cs D A a b v = -1 := if_neg (fun z => c2 z.2.1)
      rw [if_neg c2, e]
      exact ⟨m, rfl, c_rw_n (if_neg (fun z => c2 z.2.1))⟩
  · have e : g_A n heat cs D A a b v = -1 := if_neg (fun z => c1 z.1)
    rw [if_neg c1, e]
    exact ⟨m, rfl, c_rw_n (if_neg (fun z => c1 z.1))⟩
theorem Y_rst3 {mz : z_M} {G : Nat → Nat → Int} (hc : g_cl G m 4) {y1 y2 y3 y4 y5 y6 acc v : Int} {v9 : z_V} {m' : z_M} (hk : ∃ k : Nat, acc = (k : Int) ∧ k < 2 ^ 4) (hE : z_R 251 (m, 262, [(2, 251), (0, y1), (0, y2), (0, y3), (0, y4), (0, y5), (0, y6), (0, acc), (0, 4), v9], []) = some (m', some (0, v))) : r_rw mz m' (some (g_row G acc)) := by
  obtain ⟨k, rfl, hk2⟩ := hk
  rw [z_trs_262, if_pos (by decide)] at hE
  by_cases z : (k : Int) = 0
  · rw [if_pos z] at hE
    rw [show g_row G (k : Int) = [] from if_pos z, s_mem hE]
    exact ⟨zu_self, fun i hi => absurd hi (Nat.not_lt_zero i)⟩
  · rw [if_neg z] at hE
    obtain ⟨y, ey, hy⟩ : ∃ y : Nat, gv_nz (k : Int) = (y : Int) ∧ y < 4 := by
      have := g_nz4 k hk2 (by omega)
      exact ⟨(gv_nz (k : Int)).toNat, by omega, by omega⟩
    have n1 : z_add ((2 * y : Nat) : Int) 1 = ((2 * y + 1 : Nat) : Int) := by
      rw [z_add_eq (by omega) (by omega)]
      omega
    have eR : g_row G (k : Int) = [z_i2l (G 0 y), z_i2l (G 1 y)] := (if_neg z).trans (by rw [ey, Int.toNat_natCast])
    rw [gv_ntz, zb_v, ey, z_trs_348, g_mul2 hy, if_pos (by omega), Int.toNat_natCast, t_tell0, zb_n, z_trs_364, g_mul2 hy, n1, if_pos (by omega), Int.toNat_natCast, t_tell1, zb_n, z_trs_380] at hE
    rw [eR, s_mem hE]
    exact r_rw_2 rfl (congrArg z_i2l ((zu_p (by decide)).trans (hc y hy).1)) (congrArg z_i2l ((t_told1 (by omega) (by omega)).trans (hc y hy).2))
theorem Y_rests (hi : R_is w h n heat price D A c U kn KS cs m) (hN : w_N w h n heat D) (hok : hr_ok n A) (ht : 0 ≤ A 35 ∧ A 35 ≤ 1073741824) {a b v x : Int} {m' : z_M} (hE : z_R 251 (m, 0, [(2, 251), (0, a), (0, b), (0, v), (9, 0), (9, 0), (9, 0), (9, 0), (9, 0), (9, 0)], []) = some (m', some (0, x))) : r_rw m m' (g_Lv n heat cs D A a b v) := by
  have h5 := hN.1.2.2
  have hu := R_upn (p0 := 251) (k0 := 11) (v := 0) hi (by decide)
  rw [z_trs_0 m a b v (by rw [hi.1.2.2.1]; omega), hi.1.2.2.1] at hE
  have h10 : r_rw m (z_up m 251 11 0) none := r_rw_11
  generalize z_up m 251 11 0 = m0 at hu hE h10
  by_cases c1 : 0 ≤ a ∧ a < (n : Int)
  · rw [if_pos c1] at hE
    by_cases c2 : 0 ≤ b ∧ b < (n : Int)
    · rw [if_pos c2] at hE
      by_cases c3 : a = b
      · rw [if_pos c3] at hE
        exact r_rw_m (by rw [s_mem hE]; exact h10) (if_neg (fun z => z.2.2.1 c3))
      rw [if_neg c3] at hE
      by_cases c5 : 0 ≤ v ∧ v ≤ 99
      · obtain ⟨a', rfl⟩ : ∃ a' : Nat, a = (a' : Int) := ⟨a.toNat, by omega⟩
        obtain ⟨b', rfl⟩ : ∃ b' : Nat, b = (b' : Int) := ⟨b.toNat, by omega⟩
        have ha : a' < n := by omega
        have hb : b' < n := by omega
        have e18 : m 252 (a' + 18) = A (a' + 18) := R_A hi (by omega) (a_vis_p (b := 18) (p := a') (by omega) (by omega) (by omega) (by omega))
        have e18b : m 252 (b' + 18) = A (b' + 18) := R_A hi (by omega) (a_vis_p (b := 18) (p := b') (by omega) (by omega) (by omega) (by omega))
        have eA : g_Lv n heat cs D A (a' : Int) (b' : Int) v = if ¬ A ((a' : Int).toNat + 18) = -1 ∧ A ((b' : Int).toNat + 18) = A ((a' : Int).toNat + 18) then some (g_row (g_G n heat cs D A (a' : Int).toNat (b' : Int).toNat (A ((a' : Int).toNat + 18)).toNat v) (g_bits (g_G n heat cs D A (a' : Int).toNat (b' : Int).toNat (A ((a' : Int).toNat + 18)).toNat v) 4 0 0)) else none := if_pos ⟨c1, c2, c3, c5⟩
        rw [Int.toNat_natCast, Int.toNat_natCast] at eA
        rw [if_pos c5, show ((a' : Int) + 18).toNat = a' + 18 by omega, show ((b' : Int) + 18).toNat = b' + 18 by omega, e18, e18b] at hE
        rw [eA]
        by_cases d1 : A (a' + 18) = -1
        · rw [if_pos d1] at hE
          rw [if_neg (fun y => y.1 d1), s_mem hE]
          exact h10
        rw [if_neg d1] at hE
        by_cases d2 : A (b' + 18) = A (a' + 18)
        · have hw := hok.2.2.1 a' ha
          obtain ⟨r, er⟩ : ∃ r : Nat, A (a' + 18) = (r : Int) := ⟨(A (a' + 18)).toNat, by omega⟩
          have eb := d2.trans er
          have hr : r < 9 := by omega
          have bW := hr_wb_b hN ht.1 (r : Int) (hr_b (r : Int) n 0 A 0)
          have b2W := g_W2 hN ht.1 ha hb (fun z => c3 (by rw [z])) er eb
          have ba := hN.2.2 (A 35) ht.1 a' (by omega)
          have bb := hN.2.2 (A 35) ht.1 b' (by omega)
          have hrS := hu.2.2.1
          have pin := r_pin z_A_252 (Or.inl rfl) h5 (k := (r : Int)) m0 hu.1.2.2.1
          rw [hrS] at pin
          have pin : z_R 183 (m0, 0, [(2, 251), (2, 252), (0, (r : Int)), (9, 0), (9, 0)], []) = some (m0, some (0, hr_b (r : Int) n 0 A 0)) := pin
          have wbr := r_wb z_A_252 (Or.inl rfl) h5 (k := (r : Int)) (b := hr_b (r : Int) n 0 A 0) (t := A 35) (heat := heat) (wm := wmD D (A 35)) ht.1 (by omega) m0 hu.1.2.2.1 (R_cfg hu).2.2.2.1 (R_A hu (by decide) (a_vis_hi (by decide))) (fun p hp => (R_cfg hu).2.2.2.2.2.1 (A 35) ht.1 p hp)
          rw [hrS] at wbr
          have wbr : z_R 184 (m0, 0, [(2, 251), (2, 252), (0, (r : Int)), (0, hr_b (r : Int) n 0 A 0), (9, 0), (9, 0)], []) = some (m0, some (0, hr_wb heat (wmD D (A 35)) n A (r : Int) (hr_b (r : Int) n 0 A 0))) := wbr
          have wa := R_wmo hu ht (p := a') (by omega)
          have wb := R_wmo hu ht (p := b') (by omega)
          rw [if_pos d2, er, pin, zb_v, z_trs_82, wbr, zb_v, z_trs_96, wa, zb_v, z_trs_105, wb, zb_v, z_trs_115, z_sub_eq (x := hr_wb heat (wmD D (A 35)) n A (r : Int) (hr_b (r : Int) n 0 A 0)) (by omega) (by omega), z_sub_eq (x := hr_wb heat (wmD D (A 35)) n A (r : Int) (hr_b (r : Int) n 0 A 0) - wmD D (A 35) a') (by omega) (by omega)] at hE
          obtain ⟨m1, v9, f1, f2⟩ := R_rst1 (cs := cs) hok ht h5 ha hb hr (v := v) (W := hr_wb heat (wmD D (A 35)) n A (r : Int) (hr_b (r : Int) n 0 A 0)) (B := hr_b (r : Int) n 0 A 0) c5 (hr_pc_b _) ba bb ⟨b2W, bW.2⟩ rfl rfl (G := g_G n heat cs D A a' b' r v) rfl 4 0 (9, 0) (9, 0) m0 (by decide) hu (fun j hj => absurd hj (Nat.not_lt_zero j))
          have f1 : z_R 251 (m0, 121, [(2, 251), (0, (a' : Int)), (0, (b' : Int)), (0, v), (0, (r : Int)), (0, hr_b (r : Int) n 0 A 0), (0, hr_wb heat (wmD D (A 35)) n A (r : Int) (hr_b (r : Int) n 0 A 0) - wmD D (A 35) a' - wmD D (A 35) b'), (0, 0), (9, 0), (9, 0)], []) = _ := f1
          rw [f1] at hE
          have f3 := R_rst2 (y1 := (a' : Int)) (y2 := (b' : Int)) (y3 := v) (y4 := (r : Int)) (y5 := hr_b (r : Int) n 0 A 0) (y6 := hr_wb heat (wmD D (A 35)) n A (r : Int) (hr_b (r : Int) n 0 A 0) - wmD D (A 35) a' - wmD D (A 35) b') (v9 := v9) f2 4 0 0 (by decide)
          have z := Y_rst3 (mz := m) f2 (g_bits_b 4 0 0 rfl ⟨0, rfl, by decide⟩) (f3.symm.trans hE)
          rw [if_pos (show ¬ A (a' + 18) = -1 ∧ A (b' + 18) = A (a' + 18) from ⟨d1, d2⟩), er, Int.toNat_natCast]
          exact z
        · rw [if_neg d2] at hE
          rw [if_neg (fun y => d2 y.2), s_mem hE]
          exact h10
      · rw [if_neg c5] at hE
        exact r_rw_m (by rw [s_mem hE]; exact h10) (if_neg (fun z => c5 z.2.2.2))
    · rw [if_neg c2] at hE
      exact r_rw_m (by rw [s_mem hE]; exact h10) (if_neg (fun z => c2 z.2.1))
  · rw [if_neg c1] at hE
    exact r_rw_m (by rw [s_mem hE]; exact h10) (if_neg (fun z => c1 z.1))
end
end
section
/-! WHAT IS TOLD by season -/
def so_f (g : Int) (C : Nat → Int) : Nat → Int := fun k => z_add (C k) (z_and (z_shr g (k : Int)) 1)
def so_R (w h n : Nat) (heat price : Int) (cs : List Int) (D : Nat → Int) : Nat → Int → (Nat → Int) → Int → (Nat → Int) → Int × (Nat → Int)
  | 0, _, _, M, C => (M, C)
  | f + 1, r, B, M, C => so_R w h n heat price cs D f (se_n (se_n r)) (hr_A w h heat price (c_ml cs) (se_w D (z_rem (z_ush (se_n (se_n r)) 16) ((n : Int) + 3)) (u_up B 36 (z_rem (z_ush (se_n r) 16) 10) 35)) n (u_up B 36 (z_rem (z_ush (se_n r) 16) 10))) (z_add M (hr_m w h heat (c_ml cs) (se_w D (z_rem (z_ush (se_n (se_n r)) 16) ((n : Int) + 3)) (u_up B 36 (z_rem (z_ush (se_n r) 16) 10) 35)) n (u_up B 36 (z_rem (z_ush (se_n r) 16) 10)))) (so_f (hr_K w h heat price (c_ml cs) (se_w D (z_rem (z_ush (se_n (se_n r)) 16) ((n : Int) + 3)) (u_up B 36 (z_rem (z_ush (se_n r) 16) 10) 35)) n (u_up B 36 (z_rem (z_ush (se_n r) 16) 10))).2.1 C)
def so_o (C : Nat → Int) : Nat → Nat → Int → Int
  | 0, _, b => b
  | f + 1, x, b => so_o C f (x + 1) (if b = -1 then (if C x ≤ 0 then b else (x : Int)) else if C x ≤ C b.toNat then b else (x : Int))
def so_p (C : Nat → Int) : Nat → Nat → Int → Int
  | 0, _, b => b
  | f + 1, x, b => so_p C f (x + 1) (if C x ≤ C b.toNat then b else (x : Int))
theorem so_o_s {C : Nat → Int} {f x : Nat} {b : Int} : so_o C (f + 1) x b = so_o C f (x + 1) (if b = -1 then (if C x ≤ 0 then b else (x : Int)) else if C x ≤ C b.toNat then b else (x : Int)) := rfl
theorem so_p_s {C : Nat → Int} {f x : Nat} {b : Int} : so_p C (f + 1) x b = so_p C f (x + 1) (if C x ≤ C b.toNat then b else (x : Int)) := rfl
theorem so_op {C : Nat → Int} (hC : ∀ k, k < 9 → 0 ≤ C k) : ∀ (f x : Nat) (b b' : Int), x + f = 9 → ((b = -1 ∧ C b'.toNat = 0 ∧ 0 ≤ b' ∧ b' < 9) ∨ (b = b' ∧ 0 < C b'.toNat ∧ 0 ≤ b' ∧ b' < 9)) → ((so_o C f x b = -1 ∧ C (so_p C f x b').toNat = 0 ∧ 0 ≤ so_p C f x b' ∧ so_p C f x b' < 9) ∨ (so_o C f x b = so_p C f x b' ∧ 0 < C (so_p C f x b').toNat ∧ 0 ≤ so_p C f x b' ∧ so_p C f x b' < 9)) := by
  intro f
  induction f with
  | zero =>
    intro x b b' hx h
    exact h
  | succ f ih =>
    intro x b b' hx h
    have h0 := hC x (by omega)
    rw [so_o_s, so_p_s]
    refine ih (x + 1) _ _ (by omega) ?_
    rcases h with ⟨e, h1, h2⟩ | ⟨e, h1, h2⟩
    · rw [if_pos e]
      by_cases c : C x ≤ 0
      · rw [if_pos c, if_pos (show C x ≤ C b'.toNat by omega)]
        exact Or.inl ⟨e, h1, h2⟩
      · rw [if_neg c, if_neg (show ¬ C x ≤ C b'.toNat by omega)]
        exact Or.inr ⟨rfl, by rw [Int.toNat_natCast]; omega, by omega, by omega⟩
    · subst e
      rw [if_neg (show ¬ b = -1 by omega)]
      by_cases c : C x ≤ C b.toNat
      · rw [if_pos c]
        exact Or.inr ⟨rfl, h1, h2⟩
      · rw [if_neg c]
        exact Or.inr ⟨rfl, by rw [Int.toNat_natCast]; omega, by omega, by omega⟩
theorem so_op0 {C : Nat → Int} (hC : ∀ k, k < 9 → 0 ≤ C k) : (so_o C 9 0 (-1) = -1 ∧ C (so_p C 8 1 0).toNat = 0 ∧ 0 ≤ so_p C 8 1 0 ∧ so_p C 8 1 0 < 9) ∨ (so_o C 9 0 (-1) = so_p C 8 1 0 ∧ 0 < C (so_p C 8 1 0).toNat ∧ 0 ≤ so_p C 8 1 0 ∧ so_p C 8 1 0 < 9) := by
  have h0 := hC 0 (by decide)
  have e : so_o C 9 0 (-1) = so_o C 8 1 (if (-1 : Int) = -1 then (if C 0 ≤ 0 then -1 else ((0 : Nat) : Int)) else if C 0 ≤ C (-1 : Int).toNat then -1 else ((0 : Nat) : Int)) := rfl
  rw [e, if_pos rfl]
  by_cases c : C 0 ≤ 0
  · rw [if_pos c]
    exact so_op hC 8 1 (-1) 0 (by decide) (Or.inl ⟨rfl, (show C 0 = 0 by omega), by decide, by decide⟩)
  · rw [if_neg c]
    exact so_op hC 8 1 ((0 : Nat) : Int) 0 (by decide) (Or.inr ⟨rfl, (show 0 < C 0 by omega), by decide, by decide⟩)
def so_row (q : Int × (Nat → Int)) : List Int := [z_i2l q.1, z_i2l (so_o q.2 9 0 (-1)), if so_o q.2 9 0 (-1) = -1 then 0 else z_i2l (q.2 (so_o q.2 9 0 (-1)).toNat)]
theorem Y_so {C : Nat → Int} (hC : ∀ k, k < 9 → 0 ≤ C k) {M : Int} : so_row (M, C) = [z_i2l M, if C (so_p C 8 1 0).toNat = 0 then -1 else z_i2l (so_p C 8 1 0), z_i2l (C (so_p C 8 1 0).toNat)] := by
  show [z_i2l M, z_i2l (so_o C 9 0 (-1)), if so_o C 9 0 (-1) = -1 then 0 else z_i2l (C (so_o C 9 0 (-1)).toNat)] = _
  rcases so_op0 hC with ⟨e, h1, h2⟩ | ⟨e, h1, h2⟩
  · rw [e, h1, if_pos rfl, if_pos rfl, show z_i2l (-1) = -1 by decide +kernel, show z_i2l 0 = 0 by decide +kernel]
  · rw [e, if_neg (show ¬ so_p C 8 1 0 = -1 by omega), if_neg (show ¬ C (so_p C 8 1 0).toNat = 0 by omega)]
theorem so_f_b {g : Int} {C : Nat → Int} {k : Nat} {u : Int} (h : 0 ≤ C k ∧ C k ≤ u) (hu : u ≤ 1000000) : 0 ≤ so_f g C k ∧ so_f g C k ≤ u + 1 := by
  unfold so_f
  rcases z_a1 (z_shr g (k : Int)) with e | e
  · rw [e, z_add_eq (by omega) (by omega)]
    omega
  · rw [e, z_add_eq (by omega) (by omega)]
    omega
theorem hr_A_cg {w h n : Nat} {heat price : Int} {ml : hr_M} {wm wm' : Nat → Int} {A : Nat → Int} (hw : ∀ y, y < n → wm y = wm' y) : hr_A w h heat price ml wm n A = hr_A w h heat price ml wm' n A := by
  unfold hr_A
  rw [hr_K_cg hw]
theorem hr_m_cg {w h n : Nat} {heat : Int} {ml : hr_M} {wm wm' : Nat → Int} {A : Nat → Int} (hw : ∀ y, y < n → wm y = wm' y) : hr_m w h heat ml wm n A = hr_m w h heat ml wm' n A := by
  have e2 : hr_me (w : Int) (h : Int) heat ml wm n A = hr_me (w : Int) (h : Int) heat ml wm' n A := by
    funext k
    unfold hr_me hr_mN hr_mB hr_wb
    rw [hr_s_cg n 0 _ (fun y _ h2 => hw y (by omega))]
  unfold hr_m
  rw [e2]
def so_tv (w h n : Nat) (heat price : Int) (cs : List Int) (D A : Nat → Int) (s a : Int) : Option (List Int) := if 1 ≤ a ∧ a ≤ 60 then some (so_row (so_R w h n heat price cs D a.toNat s A 0 (fun _ => 0))) else none
theorem X_goOn {s : Nat} (hs : z_st s) {w h n : Nat} {heat price : Int} {ml : hr_M} {wmt : Int → Nat → Int} (hw : w ≤ 3) (hh : h ≤ 3) (hN : hr_nums n heat ml wmt) {N : Nat} (h1 : N = 1) (m : z_M) {A : Nat → Int} (hc : c_cfg w h n heat price ml wmt m) (hA : cS m s n = A) (hok : hr_ok n A) (ht : 0 ≤ A 35) (ht2 : A 35 + (N : Int) ≤ 2147483647) (h6 : z_w (m 24 6) = m 24 6) (h9 : z_w (m 24 9) = m 24 9) : ∃ m', z_R 67 (m, 0, [(2, 24), (2, ((s : Nat) : Int)), (0, (N : Int)), (9, 0)], []) = some (m', none) ∧ (cS m' s n, m' 24 6, m' 24 7, m' 24 8, m' 24 9) = hr_H w h heat price ml wmt n 1 A (m 24 6) (m 24 7) (m 24 8) (m 24 9) ∧ z_same (c_LH s) m m' ∧ m' 24 10 = (hr_K w h heat price ml (wmt (A 35)) n A).2.1 := by
  have hs2 := hs.2
  obtain ⟨m1, a1, a2, a3, a4, a5, a6, a7, a8, a9⟩ := c_hour hs hw hh hN m hc hA hok ht (by omega) h6 h9
  rw [s_goOn_0 hs m N ⟨by omega, by omega⟩, s_goOn_2 hs m N 0 ⟨by omega, by omega⟩ ⟨by omega, by omega⟩, if_neg (by omega), a1, zb_n, s_goOn_19 hs m1 N 0 ⟨by omega, by omega⟩, s_goOn_2 hs m1 N (0 + 1) ⟨by omega, by omega⟩ ⟨by omega, by omega⟩, if_pos (by omega)]
  refine ⟨m1, rfl, ?_, a9, a7⟩
  rw [a2, a3, a4, a5, a6]
  rfl
theorem Y_goHours {a : Nat} (ha : z_A 37 a) (ha2 : z_ab a) {w h n : Nat} {heat price : Int} {ml : hr_M} {wmt : Int → Nat → Int} (hw : w ≤ 3) (hh : h ≤ 3) (hN : hr_nums n heat ml wmt) {N : Nat} (h1 : N = 1) (m : z_M) {A : Nat → Int} (hc : r_cfg w h n heat price ml wmt m) (hA : rS m a n = A) (hok : hr_ok n A) (ht : 0 ≤ A 35) (ht2 : A 35 + (N : Int) ≤ 2147483647) : ∃ m', z_R 207 (m, 0, [(2, 251), (2, ((a : Nat) : Int)), (0, (N : Int)), (9, 0)], []) = some (m', none) ∧ (rS m' a n, m' 251 32, m' 251 33, m' 251 34, m' 251 35) = hr_H w h heat price ml wmt n 1 A (m 251 32) (m 251 33) (m 251 34) (m 251 35) ∧ z_same (r_LHs a) m m' ∧ m' 251 29 = (hr_K w h heat price ml (wmt (A 35)) n A).2.1 := by
  have ha3 := r_ne251 ha2
  obtain ⟨m1, a1, a2, a3, a4, a5, a6, a7⟩ := r_hour ha ha2 hw hh hN m hc hA hok ht (by omega)
  rw [t_hrs_0 ha ha2 m N ⟨by omega, by omega⟩, t_hrs_2 ha ha2 m N 0 ⟨by omega, by omega⟩ ⟨by omega, by omega⟩, if_neg (by omega), a1, zb_n, t_hrs_12 ha ha2 m1 N 0 ⟨by omega, by omega⟩, a3, a4, a5, a6]
  have s1 : z_same (r_LHs a) m m1 := a7.subo (by (try unfold c_LH); (try unfold r_LHs); (repeat' (first | exact trivial | refine z_sbo_c ?_ ?_)) <;> (intro k h1 h2; first | exact z_on_h rfl (by omega) (by omega) | exact z_on_t (z_on_h rfl (by omega) (by omega)) | exact z_on_t (z_on_t (z_on_h rfl (by omega) (by omega))) | exact z_on_t (z_on_t (z_on_t (z_on_h rfl (by omega) (by omega)))) | exact z_on_t (z_on_t (z_on_t (z_on_t (z_on_h rfl (by omega) (by omega))))) | exact z_on_t (z_on_t (z_on_t (z_on_t (z_on_t (z_on_h rfl (by omega) (by omega)))))) | exact z_on_t (z_on_t (z_on_t (z_on_t (z_on_t (z_on_t (z_on_h rfl (by omega) (by omega))))))) | exact z_on_t (z_on_t (z_on_t (z_on_t (z_on_t (z_on_t (z_on_t (z_on_h rfl (by omega) (by omega)))))))) | exact z_on_t (z_on_t (z_on_t (z_on_t (z_on_t (z_on_t (z_on_t (z_on_t (z_on_h rfl (by omega) (by omega))))))))) | exact z_on_t (z_on_t (z_on_t (z_on_t (z_on_t (z_on_t (z_on_t (z_on_t (z_on_t (z_on_h rfl (by omega) (by omega)))))))))) | exact z_on_t (z_on_t (z_on_t (z_on_t (z_on_t (z_on_t (z_on_t (z_on_t (z_on_t (z_on_t (z_on_h rfl (by omega) (by omega))))))))))) | exact z_on_t (z_on_t (z_on_t (z_on_t (z_on_t (z_on_t (z_on_t (z_on_t (z_on_t (z_on_t (z_on_t (z_on_h rfl (by omega) (by omega)))))))))))) | exact z_on_t (z_on_t (z_on_t (z_on_t (z_on_t (z_on_t (z_on_t (z_on_t (z_on_t (z_on_t (z_on_t (z_on_t (z_on_h rfl (by omega) (by omega)))))))))))))))
  rw [a7.of (p := 251) (k := 32) (by (try unfold c_LH); (try unfold r_LHs); (repeat' (first | exact trivial | refine z_of_c ?_ ?_)) <;> omega), a7.of (p := 251) (k := 33) (by (try unfold c_LH); (try unfold r_LHs); (repeat' (first | exact trivial | refine z_of_c ?_ ?_)) <;> omega), a7.of (p := 251) (k := 34) (by (try unfold c_LH); (try unfold r_LHs); (repeat' (first | exact trivial | refine z_of_c ?_ ?_)) <;> omega), a7.of (p := 251) (k := 35) (by (try unfold c_LH); (try unfold r_LHs); (repeat' (first | exact trivial | refine z_of_c ?_ ?_)) <;> omega)]
  have s2 : z_same (r_LHs a) m (z_up (z_up (z_up (z_up m1 251 32 (z_add (m 251 32) (hr_m w h heat ml (wmt (A 35)) n A))) 251 33 (z_or (m 251 33) (hr_K w h heat price ml (wmt (A 35)) n A).2.1)) 251 34 (z_or (m 251 34) (hr_K w h heat price ml (wmt (A 35)) n A).2.2.1)) 251 35 (z_add (m 251 35) (hr_K w h heat price ml (wmt (A 35)) n A).2.2.2)) := (((s1.upo (by (try unfold c_LH); (try unfold r_LHs); first | exact z_on_h rfl (by omega) (by omega) | exact z_on_t (z_on_h rfl (by omega) (by omega)) | exact z_on_t (z_on_t (z_on_h rfl (by omega) (by omega))) | exact z_on_t (z_on_t (z_on_t (z_on_h rfl (by omega) (by omega)))) | exact z_on_t (z_on_t (z_on_t (z_on_t (z_on_h rfl (by omega) (by omega))))) | exact z_on_t (z_on_t (z_on_t (z_on_t (z_on_t (z_on_h rfl (by omega) (by omega)))))) | exact z_on_t (z_on_t (z_on_t (z_on_t (z_on_t (z_on_t (z_on_h rfl (by omega) (by omega))))))) | exact z_on_t (z_on_t (z_on_t (z_on_t (z_on_t (z_on_t (z_on_t (z_on_h rfl (by omega) (by omega)))))))) | exact z_on_t (z_on_t (z_on_t (z_on_t (z_on_t (z_on_t (z_on_t (z_on_t (z_on_h rfl (by omega) (by omega))))))))) | exact z_on_t (z_on_t (z_on_t (z_on_t (z_on_t (z_on_t (z_on_t (z_on_t (z_on_t (z_on_h rfl (by omega) (by omega)))))))))) | exact z_on_t (z_on_t (z_on_t (z_on_t (z_on_t (z_on_t (z_on_t (z_on_t (z_on_t (z_on_t (z_on_h rfl (by omega) (by omega))))))))))) | exact z_on_t (z_on_t (z_on_t (z_on_t (z_on_t (z_on_t (z_on_t (z_on_t (z_on_t (z_on_t (z_on_t (z_on_h rfl (by omega) (by omega)))))))))))) | exact z_on_t (z_on_t (z_on_t (z_on_t (z_on_t (z_on_t (z_on_t (z_on_t (z_on_t (z_on_t (z_on_t (z_on_t (z_on_h rfl (by omega) (by omega))))))))))))))).upo (by (try unfold c_LH); (try unfold r_LHs); first | exact z_on_h rfl (by omega) (by omega) | exact z_on_t (z_on_h rfl (by omega) (by omega)) | exact z_on_t (z_on_t (z_on_h rfl (by omega) (by omega))) | exact z_on_t (z_on_t (z_on_t (z_on_h rfl (by omega) (by omega)))) | exact z_on_t (z_on_t (z_on_t (z_on_t (z_on_h rfl (by omega) (by omega))))) | exact z_on_t (z_on_t (z_on_t (z_on_t (z_on_t (z_on_h rfl (by omega) (by omega)))))) | exact z_on_t (z_on_t (z_on_t (z_on_t (z_on_t (z_on_t (z_on_h rfl (by omega) (by omega))))))) | exact z_on_t (z_on_t (z_on_t (z_on_t (z_on_t (z_on_t (z_on_t (z_on_h rfl (by omega) (by omega)))))))) | exact z_on_t (z_on_t (z_on_t (z_on_t (z_on_t (z_on_t (z_on_t (z_on_t (z_on_h rfl (by omega) (by omega))))))))) | exact z_on_t (z_on_t (z_on_t (z_on_t (z_on_t (z_on_t (z_on_t (z_on_t (z_on_t (z_on_h rfl (by omega) (by omega)))))))))) | exact z_on_t (z_on_t (z_on_t (z_on_t (z_on_t (z_on_t (z_on_t (z_on_t (z_on_t (z_on_t (z_on_h rfl (by omega) (by omega))))))))))) | exact z_on_t (z_on_t (z_on_t (z_on_t (z_on_t (z_on_t (z_on_t (z_on_t (z_on_t (z_on_t (z_on_t (z_on_h rfl (by omega) (by omega)))))))))))) | exact z_on_t (z_on_t (z_on_t (z_on_t (z_on_t (z_on_t (z_on_t (z_on_t (z_on_t (z_on_t (z_on_t (z_on_t (z_on_h rfl (by omega) (by omega))))))))))))))).upo (by (try unfold c_LH); (try unfold r_LHs); first | exact z_on_h rfl (by omega) (by omega) | exact z_on_t (z_on_h rfl (by omega) (by omega)) | exact z_on_t (z_on_t (z_on_h rfl (by omega) (by omega))) | exact z_on_t (z_on_t (z_on_t (z_on_h rfl (by omega) (by omega)))) | exact z_on_t (z_on_t (z_on_t (z_on_t (z_on_h rfl (by omega) (by omega))))) | exact z_on_t (z_on_t (z_on_t (z_on_t (z_on_t (z_on_h rfl (by omega) (by omega)))))) | exact z_on_t (z_on_t (z_on_t (z_on_t (z_on_t (z_on_t (z_on_h rfl (by omega) (by omega))))))) | exact z_on_t (z_on_t (z_on_t (z_on_t (z_on_t (z_on_t (z_on_t (z_on_h rfl (by omega) (by omega)))))))) | exact z_on_t (z_on_t (z_on_t (z_on_t (z_on_t (z_on_t (z_on_t (z_on_t (z_on_h rfl (by omega) (by omega))))))))) | exact z_on_t (z_on_t (z_on_t (z_on_t (z_on_t (z_on_t (z_on_t (z_on_t (z_on_t (z_on_h rfl (by omega) (by omega)))))))))) | exact z_on_t (z_on_t (z_on_t (z_on_t (z_on_t (z_on_t (z_on_t (z_on_t (z_on_t (z_on_t (z_on_h rfl (by omega) (by omega))))))))))) | exact z_on_t (z_on_t (z_on_t (z_on_t (z_on_t (z_on_t (z_on_t (z_on_t (z_on_t (z_on_t (z_on_t (z_on_h rfl (by omega) (by omega)))))))))))) | exact z_on_t (z_on_t (z_on_t (z_on_t (z_on_t (z_on_t (z_on_t (z_on_t (z_on_t (z_on_t (z_on_t (z_on_t (z_on_h rfl (by omega) (by omega))))))))))))))).upo (by (try unfold c_LH); (try unfold r_LHs); first | exact z_on_h rfl (by omega) (by omega) | exact z_on_t (z_on_h rfl (by omega) (by omega)) | exact z_on_t (z_on_t (z_on_h rfl (by omega) (by omega))) | exact z_on_t (z_on_t (z_on_t (z_on_h rfl (by omega) (by omega)))) | exact z_on_t (z_on_t (z_on_t (z_on_t (z_on_h rfl (by omega) (by omega))))) | exact z_on_t (z_on_t (z_on_t (z_on_t (z_on_t (z_on_h rfl (by omega) (by omega)))))) | exact z_on_t (z_on_t (z_on_t (z_on_t (z_on_t (z_on_t (z_on_h rfl (by omega) (by omega))))))) | exact z_on_t (z_on_t (z_on_t (z_on_t (z_on_t (z_on_t (z_on_t (z_on_h rfl (by omega) (by omega)))))))) | exact z_on_t (z_on_t (z_on_t (z_on_t (z_on_t (z_on_t (z_on_t (z_on_t (z_on_h rfl (by omega) (by omega))))))))) | exact z_on_t (z_on_t (z_on_t (z_on_t (z_on_t (z_on_t (z_on_t (z_on_t (z_on_t (z_on_h rfl (by omega) (by omega)))))))))) | exact z_on_t (z_on_t (z_on_t (z_on_t (z_on_t (z_on_t (z_on_t (z_on_t (z_on_t (z_on_t (z_on_h rfl (by omega) (by omega))))))))))) | exact z_on_t (z_on_t (z_on_t (z_on_t (z_on_t (z_on_t (z_on_t (z_on_t (z_on_t (z_on_t (z_on_t (z_on_h rfl (by omega) (by omega)))))))))))) | exact z_on_t (z_on_t (z_on_t (z_on_t (z_on_t (z_on_t (z_on_t (z_on_t (z_on_t (z_on_t (z_on_t (z_on_t (z_on_h rfl (by omega) (by omega))))))))))))))
  generalize hm2 : z_up (z_up (z_up (z_up m1 251 32 (z_add (m 251 32) (hr_m w h heat ml (wmt (A 35)) n A))) 251 33 (z_or (m 251 33) (hr_K w h heat price ml (wmt (A 35)) n A).2.1)) 251 34 (z_or (m 251 34) (hr_K w h heat price ml (wmt (A 35)) n A).2.2.1)) 251 35 (z_add (m 251 35) (hr_K w h heat price ml (wmt (A 35)) n A).2.2.2) = m2 at s2 ⊢
  have g32 : m2 251 32 = z_add (m 251 32) (hr_m w h heat ml (wmt (A 35)) n A) := by rw [← hm2, zu_k (by decide), zu_k (by decide), zu_k (by decide), zu_self]
  have g33 : m2 251 33 = z_or (m 251 33) (hr_K w h heat price ml (wmt (A 35)) n A).2.1 := by rw [← hm2, zu_k (by decide), zu_k (by decide), zu_self]
  have g34 : m2 251 34 = z_or (m 251 34) (hr_K w h heat price ml (wmt (A 35)) n A).2.2.1 := by rw [← hm2, zu_k (by decide), zu_self]
  have g35 : m2 251 35 = z_add (m 251 35) (hr_K w h heat price ml (wmt (A 35)) n A).2.2.2 := by rw [← hm2, zu_self]
  have ga : m2 a = m1 a := by rw [← hm2, zu_rowne (by omega), zu_rowne (by omega), zu_rowne (by omega), zu_rowne (by omega)]
  have g29 : m2 251 29 = (hr_K w h heat price ml (wmt (A 35)) n A).2.1 := by rw [← hm2, zu_k (by decide), zu_k (by decide), zu_k (by decide), zu_k (by decide), a4]
  rw [t_hrs_2 ha ha2 m2 N (0 + 1) ⟨by omega, by omega⟩ ⟨by omega, by omega⟩, if_pos (by omega)]
  refine ⟨m2, rfl, ?_, s2, g29⟩
  rw [(rS_row ga).trans a2, g32, g33, g34, g35]
  rfl
section
variable {w h n : Nat} {heat price : Int} {D A : Nat → Int} {c : Nat} {U : Nat → Nat → Int} {kn : Nat → Int} {KS : Nat → Nat → Int} {cs : List Int} {m : z_M}
theorem X_fgn : ∀ (f x : Nat) (m : z_M), x + f = 9 → ∃ m', z_R 145 (m, 2, [(2, 24), (0, (x : Int))], []) = some (m', none) ∧ z_same [(27, 0, 8)] m m' ∧ ∀ k, k < 9 → m' 27 k = if x ≤ k then 0 else m 27 k := by
  intro f
  induction f with
  | zero =>
    intro x m hx
    rw [q_fg_2, if_pos (by omega)]
    exact ⟨m, rfl, z_same.rf, fun k hk => (if_neg (by omega)).symm⟩
  | succ f ih =>
    intro x m hx
    rw [q_fg_2, if_neg (by omega), if_pos (show 0 ≤ (x : Int) ∧ (x : Int) < 9 by omega), Int.toNat_natCast, tc1]
    obtain ⟨m', a1, a2, a3⟩ := ih (x + 1) (z_up m 27 x 0) (by omega)
    refine ⟨m', a1, (z_same.rf.upo (by (try unfold c_LH); (try unfold r_LHs); first | exact z_on_h rfl (by omega) (by omega) | exact z_on_t (z_on_h rfl (by omega) (by omega)) | exact z_on_t (z_on_t (z_on_h rfl (by omega) (by omega))) | exact z_on_t (z_on_t (z_on_t (z_on_h rfl (by omega) (by omega)))) | exact z_on_t (z_on_t (z_on_t (z_on_t (z_on_h rfl (by omega) (by omega))))) | exact z_on_t (z_on_t (z_on_t (z_on_t (z_on_t (z_on_h rfl (by omega) (by omega)))))) | exact z_on_t (z_on_t (z_on_t (z_on_t (z_on_t (z_on_t (z_on_h rfl (by omega) (by omega))))))) | exact z_on_t (z_on_t (z_on_t (z_on_t (z_on_t (z_on_t (z_on_t (z_on_h rfl (by omega) (by omega)))))))) | exact z_on_t (z_on_t (z_on_t (z_on_t (z_on_t (z_on_t (z_on_t (z_on_t (z_on_h rfl (by omega) (by omega))))))))) | exact z_on_t (z_on_t (z_on_t (z_on_t (z_on_t (z_on_t (z_on_t (z_on_t (z_on_t (z_on_h rfl (by omega) (by omega)))))))))) | exact z_on_t (z_on_t (z_on_t (z_on_t (z_on_t (z_on_t (z_on_t (z_on_t (z_on_t (z_on_t (z_on_h rfl (by omega) (by omega))))))))))) | exact z_on_t (z_on_t (z_on_t (z_on_t (z_on_t (z_on_t (z_on_t (z_on_t (z_on_t (z_on_t (z_on_t (z_on_h rfl (by omega) (by omega)))))))))))) | exact z_on_t (z_on_t (z_on_t (z_on_t (z_on_t (z_on_t (z_on_t (z_on_t (z_on_t (z_on_t (z_on_t (z_on_t (z_on_h rfl (by omega) (by omega))))))))))))))).tr a2, fun k hk => ?_⟩
    by_cases c : x + 1 ≤ k
    · rw [a3 k hk, if_pos c, if_pos (show x ≤ k by omega)]
    · rw [a3 k hk, if_neg c]
      by_cases e : k = x
      · subst e
        rw [zu_self, if_pos (Nat.le_refl _)]
      · rw [zu_k e, if_neg (by omega)]
theorem Y_tse30 {x1 x2 x3 : Int} : ∀ (f x : Nat) (m : z_M), x + f = 9 → ∃ m', z_R 257 (m, 30, [(2, 251), (0, x1), (0, x2), (0, x3), (0, (x : Int)), (9, 0), (9, 0)], []) = z_R 257 (m', 54, [(2, 251), (0, x1), (0, x2), (0, x3), (0, 0), (9, 0), (9, 0)], []) ∧ z_same [(274, 0, 8)] m m' ∧ ∀ k, k < 9 → m' 274 k = if x ≤ k then 0 else m 274 k := by
  intro f
  induction f with
  | zero =>
    intro x m hx
    rw [q_tse_30, if_pos (by omega)]
    exact ⟨m, rfl, z_same.rf, fun k hk => (if_neg (by omega)).symm⟩
  | succ f ih =>
    intro x m hx
    rw [q_tse_30, if_neg (by omega), if_pos (show 0 ≤ (x : Int) ∧ (x : Int) < 9 by omega), Int.toNat_natCast, tc1]
    obtain ⟨m', a1, a2, a3⟩ := ih (x + 1) (z_up m 274 x 0) (by omega)
    refine ⟨m', a1, (z_same.rf.upo (by (try unfold c_LH); (try unfold r_LHs); first | exact z_on_h rfl (by omega) (by omega) | exact z_on_t (z_on_h rfl (by omega) (by omega)) | exact z_on_t (z_on_t (z_on_h rfl (by omega) (by omega))) | exact z_on_t (z_on_t (z_on_t (z_on_h rfl (by omega) (by omega)))) | exact z_on_t (z_on_t (z_on_t (z_on_t (z_on_h rfl (by omega) (by omega))))) | exact z_on_t (z_on_t (z_on_t (z_on_t (z_on_t (z_on_h rfl (by omega) (by omega)))))) | exact z_on_t (z_on_t (z_on_t (z_on_t (z_on_t (z_on_t (z_on_h rfl (by omega) (by omega))))))) | exact z_on_t (z_on_t (z_on_t (z_on_t (z_on_t (z_on_t (z_on_t (z_on_h rfl (by omega) (by omega)))))))) | exact z_on_t (z_on_t (z_on_t (z_on_t (z_on_t (z_on_t (z_on_t (z_on_t (z_on_h rfl (by omega) (by omega))))))))) | exact z_on_t (z_on_t (z_on_t (z_on_t (z_on_t (z_on_t (z_on_t (z_on_t (z_on_t (z_on_h rfl (by omega) (by omega)))))))))) | exact z_on_t (z_on_t (z_on_t (z_on_t (z_on_t (z_on_t (z_on_t (z_on_t (z_on_t (z_on_t (z_on_h rfl (by omega) (by omega))))))))))) | exact z_on_t (z_on_t (z_on_t (z_on_t (z_on_t (z_on_t (z_on_t (z_on_t (z_on_t (z_on_t (z_on_t (z_on_h rfl (by omega) (by omega)))))))))))) | exact z_on_t (z_on_t (z_on_t (z_on_t (z_on_t (z_on_t (z_on_t (z_on_t (z_on_t (z_on_t (z_on_t (z_on_t (z_on_h rfl (by omega) (by omega))))))))))))))).tr a2, fun k hk => ?_⟩
    by_cases c : x + 1 ≤ k
    · rw [a3 k hk, if_pos c, if_pos (show x ≤ k by omega)]
    · rw [a3 k hk, if_neg c]
      by_cases e : k = x
      · subst e
        rw [zu_self, if_pos (Nat.le_refl _)]
      · rw [zu_k e, if_neg (by omega)]
theorem X_cgn : ∀ (f x : Nat) (m : z_M), x + f = 9 → ∃ m', z_R 148 (m, 2, [(2, 24), (0, (x : Int))], []) = some (m', none) ∧ z_same [(27, 0, 8)] m m' ∧ ∀ k, k < 9 → m' 27 k = if x ≤ k then so_f (m 24 10) (m 27) k else m 27 k := by
  intro f
  induction f with
  | zero =>
    intro x m hx
    rw [q_cg_2, if_pos (by omega)]
    exact ⟨m, rfl, z_same.rf, fun k hk => (if_neg (by omega)).symm⟩
  | succ f ih =>
    intro x m hx
    rw [q_cg_2, if_neg (by omega), if_pos (show 0 ≤ (x : Int) ∧ (x : Int) < 9 by omega), Int.toNat_natCast, tc1]
    obtain ⟨m', a1, a2, a3⟩ := ih (x + 1) (z_up m 27 x (z_add (m 27 x) (z_and (z_shr (m 24 10) (x : Int)) 1))) (by omega)
    refine ⟨m', a1, (z_same.rf.upo (by (try unfold c_LH); (try unfold r_LHs); first | exact z_on_h rfl (by omega) (by omega) | exact z_on_t (z_on_h rfl (by omega) (by omega)) | exact z_on_t (z_on_t (z_on_h rfl (by omega) (by omega))) | exact z_on_t (z_on_t (z_on_t (z_on_h rfl (by omega) (by omega)))) | exact z_on_t (z_on_t (z_on_t (z_on_t (z_on_h rfl (by omega) (by omega))))) | exact z_on_t (z_on_t (z_on_t (z_on_t (z_on_t (z_on_h rfl (by omega) (by omega)))))) | exact z_on_t (z_on_t (z_on_t (z_on_t (z_on_t (z_on_t (z_on_h rfl (by omega) (by omega))))))) | exact z_on_t (z_on_t (z_on_t (z_on_t (z_on_t (z_on_t (z_on_t (z_on_h rfl (by omega) (by omega)))))))) | exact z_on_t (z_on_t (z_on_t (z_on_t (z_on_t (z_on_t (z_on_t (z_on_t (z_on_h rfl (by omega) (by omega))))))))) | exact z_on_t (z_on_t (z_on_t (z_on_t (z_on_t (z_on_t (z_on_t (z_on_t (z_on_t (z_on_h rfl (by omega) (by omega)))))))))) | exact z_on_t (z_on_t (z_on_t (z_on_t (z_on_t (z_on_t (z_on_t (z_on_t (z_on_t (z_on_t (z_on_h rfl (by omega) (by omega))))))))))) | exact z_on_t (z_on_t (z_on_t (z_on_t (z_on_t (z_on_t (z_on_t (z_on_t (z_on_t (z_on_t (z_on_t (z_on_h rfl (by omega) (by omega)))))))))))) | exact z_on_t (z_on_t (z_on_t (z_on_t (z_on_t (z_on_t (z_on_t (z_on_t (z_on_t (z_on_t (z_on_t (z_on_t (z_on_h rfl (by omega) (by omega))))))))))))))).tr a2, fun k hk => ?_⟩
    by_cases c : x + 1 ≤ k
    · rw [a3 k hk, if_pos c, if_pos (show x ≤ k by omega)]
      show z_add ((z_up m 27 x (z_add (m 27 x) (z_and (z_shr (m 24 10) (x : Int)) 1))) 27 k) (z_and (z_shr ((z_up m 27 x (z_add (m 27 x) (z_and (z_shr (m 24 10) (x : Int)) 1))) 24 10) (k : Int)) 1) = z_add (m 27 k) (z_and (z_shr (m 24 10) (k : Int)) 1)
      rw [zu_k (show ¬ k = x by omega), zu_p (by decide)]
    · rw [a3 k hk, if_neg c]
      by_cases e : k = x
      · subst e
        rw [zu_self, if_pos (Nat.le_refl _)]
        rfl
      · rw [zu_k e, if_neg (by omega)]
theorem X_ogn {C : Nat → Int} : ∀ (f x : Nat) (b : Int) (m : z_M), (∀ k, k < 9 → m 27 k = C k) → x + f = 9 → (b = -1 ∨ (0 ≤ b ∧ b < 9)) → z_R 149 (m, 4, [(2, 24), (0, b), (0, (x : Int))], []) = some (m, some (0, so_o C f x b)) ∧ (so_o C f x b = -1 ∨ (0 ≤ so_o C f x b ∧ so_o C f x b < 9)) := by
  intro f
  induction f with
  | zero =>
    intro x b m hC hx hb
    rw [q_og_4, if_pos (by omega)]
    exact ⟨rfl, hb⟩
  | succ f ih =>
    intro x b m hC hx hb
    rw [q_og_4, if_neg (by omega), if_pos (show 0 ≤ (x : Int) ∧ (x : Int) < 9 by omega), Int.toNat_natCast, hC x (by omega), tc1, so_o_s]
    by_cases c1 : b = -1
    · rw [if_pos c1, if_pos c1]
      by_cases c2 : C x ≤ 0
      · rw [if_pos c2, if_pos c2]; exact ih (x + 1) b m hC (by omega) hb
      · rw [if_neg c2, if_neg c2]; exact ih (x + 1) x m hC (by omega) (Or.inr (by omega))
    · rw [if_neg c1, if_neg c1, if_pos (show 0 ≤ b ∧ b < 9 by omega), hC b.toNat (by omega)]
      by_cases c2 : C x ≤ C b.toNat
      · rw [if_pos c2, if_pos c2]; exact ih (x + 1) b m hC (by omega) hb
      · rw [if_neg c2, if_neg c2]; exact ih (x + 1) x m hC (by omega) (Or.inr (by omega))
theorem X_sea1 {mz : z_M} (hN : w_N w h n heat D) {x1 : Int} {N : Nat} (hN6 : N ≤ 60) : ∀ (f k : Nat) (r : Int) (m : z_M) (B C : Nat → Int), (∀ j, j < 9 → m 27 j = C j) → k + f = N → C_is w h n heat price D A c U kn KS cs (z_up m 24 4 (-1)) → cS m 18 n = B → hr_ok n B → -1 ≤ B 34 → 0 ≤ B 35 → B 35 + (f : Int) ≤ 2147483647 → z_w (m 24 6) = m 24 6 → z_w (m 24 9) = m 24 9 → ∃ m' v, z_R 144 (m, 43, [(2, 0), (0, x1), (0, (N : Int)), (0, r), (0, (k : Int))], []) = some (m', some (0, v)) ∧ c_rw mz m' (some (so_row (so_R w h n heat price cs D f r B (m 24 6) C))) := by
  intro f
  induction f with
  | zero =>
    intro k r m B C hC hk hi hB hok h34 ht ht2 k6 k9
    obtain ⟨a1, a2⟩ := X_ogn (C := C) 9 0 (-1) (z_up m 24 4 (-1)) (fun j hj => (zu_p (by decide)).trans (hC j hj)) (by decide) (Or.inl rfl)
    show ∃ m' v, _ = some (m', some (0, v)) ∧ c_rw mz m' (some (so_row (m 24 6, C)))
    have eR : so_row (m 24 6, C) = [z_i2l (m 24 6), z_i2l (so_o C 9 0 (-1)), if so_o C 9 0 (-1) = -1 then 0 else z_i2l (C (so_o C 9 0 (-1)).toNat)] := rfl
    rw [eR]
    generalize so_o C 9 0 (-1) = v at a1 a2 ⊢
    have a1 : z_R 149 (z_up m 24 4 (-1), 4, [(2, 24), (0, -1), (0, 0)], []) = some (z_up m 24 4 (-1), some (0, v)) := a1
    rw [q_sea_43, if_pos (by omega), q_og_0, a1, zb_v, q_sea_132, show (z_up m 24 4 (-1)) 24 6 = m 24 6 from zu_k (by decide)]
    by_cases c1 : v = -1
    · rw [if_pos c1, if_pos c1, c_tell3, zb_n, q_sea_170]
      exact ⟨_, _, rfl, c_rw_3⟩
    · rw [if_neg c1, if_neg c1, if_pos (show 0 ≤ v ∧ v < 9 by omega), c_tell3, zb_n, q_sea_170, show (z_up m 24 4 (-1)) 27 v.toNat = C v.toNat from (zu_p (by decide)).trans (hC _ (by omega))]
      exact ⟨_, _, rfl, c_rw_3⟩
  | succ f ih =>
    intro k r m B C hC hk hi hB hok h34 ht ht2 k6 k9
    rw [q_sea_43, if_neg (by omega), q_next_0, zb_v, q_sea_53, q_draw_0, if_pos (show (1 : Int) ≤ 10 by decide), zb_v, q_sea_64, q_next_0, zb_v, q_sea_71]
    obtain ⟨r1, hr1⟩ : ∃ r1, se_n r = r1 := ⟨_, rfl⟩
    obtain ⟨r2, hr2⟩ : ∃ r2, se_n r1 = r2 := ⟨_, rfl⟩
    have es : so_R w h n heat price cs D (f + 1) r B (m 24 6) C = so_R w h n heat price cs D f r2 (hr_A w h heat price (c_ml cs) (se_w D (z_rem (z_ush r2 16) ((n : Int) + 3)) (u_up B 36 (z_rem (z_ush r1 16) 10) 35)) n (u_up B 36 (z_rem (z_ush r1 16) 10))) (z_add (m 24 6) (hr_m w h heat (c_ml cs) (se_w D (z_rem (z_ush r2 16) ((n : Int) + 3)) (u_up B 36 (z_rem (z_ush r1 16) 10) 35)) n (u_up B 36 (z_rem (z_ush r1 16) 10)))) (so_f (hr_K w h heat price (c_ml cs) (se_w D (z_rem (z_ush r2 16) ((n : Int) + 3)) (u_up B 36 (z_rem (z_ush r1 16) 10) 35)) n (u_up B 36 (z_rem (z_ush r1 16) 10))).2.1 C) := by
      rw [← hr2, ← hr1]
      rfl
    rw [es, show z_add (z_mul r 1103515245) 12345 = r1 from hr1, show z_add (z_mul r1 1103515245) 12345 = r2 from hr2]
    clear es
    have hF := z_draw r1 (y := 10) (by decide) (by decide)
    generalize z_rem (z_ush r1 16) 10 = F at hF ⊢
    have hi1 : C_is w h n heat price D A c U kn KS cs (z_up (z_up m 18 8 F) 24 4 (-1)) := C_f4 hi fun p k hk _ => X_up fun z => by
      unfold C_hit at hk
      have := of_decide_eq_true hk
      omega
    have hB1 : cS (z_up m 18 8 F) 18 n = u_up B 36 F := by
      rw [cS_frost, hB]
    have j6 : (z_up m 18 8 F) 24 6 = m 24 6 := zu_p (by decide)
    have j9 : (z_up m 18 8 F) 24 9 = m 24 9 := zu_p (by decide)
    have j27 : ∀ j, (z_up m 18 8 F) 27 j = m 27 j := fun j => zu_p (by decide)
    generalize z_up m 18 8 F = m1 at hi1 hB1 j6 j9 j27 ⊢
    have e11 : m1 3 11 = (n : Int) := by
      have := hi1.1.2.2.1
      rw [zu_p (by decide)] at this
      exact this
    have h5 := hN.1.2.2
    rw [q_draw_0, e11, z_add_eq (x := (n : Int)) (by omega) (by omega), if_pos (show 1 ≤ (n : Int) + 3 by omega), zb_v, q_sea_89]
    generalize z_rem (z_ush r2 16) ((n : Int) + 3) = V
    have hi2 : C_is w h n heat price D A c U kn KS cs (z_up (z_up m1 24 4 V) 24 4 (-1)) := C_f4 hi1 fun p k _ hn => X_up hn
    have hB2 : cS (z_up m1 24 4 V) 18 n = u_up B 36 F := by
      rw [cS_off (by omega)]
      exact hB1
    have l6 : z_w ((z_up m1 24 4 V) 24 6) = (z_up m1 24 4 V) 24 6 := by rw [zu_k (by decide), j6]; exact k6
    have l9 : z_w ((z_up m1 24 4 V) 24 9) = (z_up m1 24 4 V) 24 9 := by rw [zu_k (by decide), j9]; exact k9
    have lf : (z_up m1 24 4 V) 24 4 = V := zu_self
    have l66 : (z_up m1 24 4 V) 24 6 = m 24 6 := (zu_k (by decide)).trans j6
    have l27 : ∀ j, (z_up m1 24 4 V) 27 j = m 27 j := fun j => (zu_p (by decide)).trans (j27 j)
    generalize z_up m1 24 4 V = m2 at hi2 hB2 l6 l9 lf l66 l27 ⊢
    have hok2 : hr_ok n (u_up B 36 F) := hr_ok_up hok (by decide) (fun _ => by omega) (fun p h1 h2 => by omega)
    have h342 : -1 ≤ u_up B 36 F 34 := by rw [u_up_ne (by decide)]; exact h34
    have h352 : u_up B 36 F 35 = B 35 := u_up_ne (by decide)
    have hnum : hr_nums n heat (c_ml cs) (se_w D V) := ⟨h5, hN.2.1, c_ml_ok cs, wmf_b hN.2.2⟩
    obtain ⟨m3, b1, b2, b3, b4⟩ := X_goOn z_st_18 hN.1.1 hN.1.2.1 (price := price) hnum (N := 1) (by decide) m2 (C_cfgf hi2 lf) hB2 hok2 (by rw [h352]; exact ht) (by rw [h352]; omega) l6 l9
    have b1 : z_R 67 (m2, 0, [(2, 24), (2, 18), (0, 1), (9, 0)], []) = some (m3, none) := b1
    obtain ⟨⟨o1, o2⟩, o3⟩ := hr_H_ok (price := price) hN.1.1 hN.1.2.1 hnum 1 (u_up B 36 F) (m2 24 6) (m2 24 7) (m2 24 8) (m2 24 9) hok2 h342 (by rw [h352]; exact ht) (by rw [h352]; omega)
    have ow := hr_H_w (w := w) (h := h) (n := n) (heat := heat) (price := price) (ml := c_ml cs) (wmt := se_w D V) 1 (u_up B 36 F) (m2 24 6) (m2 24 7) (m2 24 8) (m2 24 9) l6 l9
    rw [← b2] at o1 o2 o3 ow
    have o1 : hr_ok n (cS m3 18 n) := o1
    have o2 : -1 ≤ cS m3 18 n 34 := o2
    have o3 : cS m3 18 n 35 = B 35 + 1 := by
      have o3 : cS m3 18 n 35 = u_up B 36 F 35 + ((1 : Nat) : Int) := o3
      omega
    have ow6 : z_w (m3 24 6) = m3 24 6 := ow.1
    have ow9 : z_w (m3 24 9) = m3 24 9 := ow.2
    obtain ⟨m4, c1, c2, c3⟩ := X_cgn 9 0 m3 (by decide)
    have c1 : z_R 148 (m3, 2, [(2, 24), (0, 0)], []) = some (m4, none) := c1
    have hi4 : C_is w h n heat price D A c U kn KS cs (z_up m4 24 4 (-1)) := C_f4 hi2 fun p k hk hn => by
      have hk' := hk
      unfold C_hit at hk'
      have hk' := of_decide_eq_true hk'
      rw [c2.of (p := p) (k := k) (by (try unfold c_LH); (try unfold r_LHs); (repeat' (first | exact trivial | refine z_of_c ?_ ?_)) <;> omega)]
      exact b3.of (by (try unfold c_LH); (try unfold r_LHs); (repeat' (first | exact trivial | refine z_of_c ?_ ?_)) <;> omega)
    have e18 : cS m4 18 n = cS m3 18 n := cS_fr (fun j k hj _ => c2.of (by (try unfold c_LH); (try unfold r_LHs); (repeat' (first | exact trivial | refine z_of_c ?_ ?_)) <;> omega))
    have e6 : m4 24 6 = m3 24 6 := c2.of (by (try unfold c_LH); (try unfold r_LHs); (repeat' (first | exact trivial | refine z_of_c ?_ ?_)) <;> omega)
    have e9 : m4 24 9 = m3 24 9 := c2.of (by (try unfold c_LH); (try unfold r_LHs); (repeat' (first | exact trivial | refine z_of_c ?_ ?_)) <;> omega)
    have q2 : cS m3 18 n = hr_A w h heat price (c_ml cs) (se_w D V (u_up B 36 F 35)) n (u_up B 36 F) := congrArg Prod.fst b2
    have q3 : m3 24 6 = z_add (m2 24 6) (hr_m w h heat (c_ml cs) (se_w D V (u_up B 36 F 35)) n (u_up B 36 F)) := congrArg (fun z => z.2.1) b2
    have h27 : ∀ j, j < 9 → m3 27 j = C j := fun j hj => (b3.of (p := 27) (k := j) (by (try unfold c_LH); (try unfold r_LHs); (repeat' (first | exact trivial | refine z_of_c ?_ ?_)) <;> omega)).trans ((l27 j).trans (hC j hj))
    have hC4 : ∀ j, j < 9 → m4 27 j = so_f (m3 24 10) C j := fun j hj => by
      rw [c3 j hj, if_pos (Nat.zero_le j)]
      show z_add (m3 27 j) _ = _
      rw [h27 j hj]
      rfl
    rw [b1, zb_n, q_sea_104, q_cg_0, c1, zb_n, q_sea_111, z_add_eq (by omega) (by omega), tc1]
    have z := ih (k + 1) r2 m4 (cS m3 18 n) (so_f (m3 24 10) C) hC4 (by omega) hi4 e18 o1 o2 (by omega) (by omega) (by rw [e6]; exact ow6) (by rw [e9]; exact ow9)
    rw [e6, q3, l66, q2, b4] at z
    exact z
theorem X_season (hi : C_is w h n heat price D A c U kn KS cs m) (hN : w_N w h n heat D) (hok : hr_ok n A) (h34 : -1 ≤ A 34) (ht : 0 ≤ A 35 ∧ A 35 ≤ 1073741824) (s a : Int) : ∃ m' v, z_R 144 (m, 0, [(2, 0), (0, s), (0, a), (9, 0), (9, 0)], []) = some (m', some (0, v)) ∧ c_rw m m' (so_tv w h n heat price cs D A s a) := by
  rw [q_sea_0]
  by_cases c1 : a < 1
  · rw [if_pos c1]
    exact ⟨m, _, rfl, c_rw_n (if_neg (by omega))⟩
  rw [if_neg c1]
  by_cases c2 : a ≤ 60
  · have e : so_tv w h n heat price cs D A s a = some (so_row (so_R w h n heat price cs D a.toNat s A 0 (fun _ => 0))) := if_pos (by omega)
    obtain ⟨N, rfl⟩ : ∃ N : Nat, a = (N : Int) := ⟨a.toNat, by omega⟩
    rw [Int.toNat_natCast] at e
    obtain ⟨m2, b1, b2, b3⟩ := c_become z_st_12 z_st_18 (by decide) m
    have b1 : z_R 61 (m, 0, [(2, 18), (2, 12)], []) = some (m2, none) := b1
    have hC2 : C_is w h n heat price D A c U kn KS cs m2 := C_fr hi fun p k hk => by
      have hk' := hk
      unfold C_hit at hk'
      have hk' := of_decide_eq_true hk'
      exact b3.of (by (try unfold c_LH); (try unfold r_LHs); (repeat' (first | exact trivial | refine z_of_c ?_ ?_)) <;> omega)
    have hA2 : cS m2 18 n = A := (cS_cR b2).trans hi.2.2.1
    have hC3 : C_is w h n heat price D A c U kn KS cs (z_up (z_up (z_up (z_up m2 24 6 0) 24 7 0) 24 8 0) 24 9 0) := C_upn (C_upn (C_upn (C_upn hC2 (by decide)) (by decide)) (by decide)) (by decide)
    have k6 : (z_up (z_up (z_up (z_up m2 24 6 0) 24 7 0) 24 8 0) 24 9 0) 24 6 = 0 := by rw [zu_k (by decide), zu_k (by decide), zu_k (by decide), zu_self]
    have k9 : (z_up (z_up (z_up (z_up m2 24 6 0) 24 7 0) 24 8 0) 24 9 0) 24 9 = 0 := zu_self
    have f3 : ∀ p k, ¬ p = 24 → (z_up (z_up (z_up (z_up m2 24 6 0) 24 7 0) 24 8 0) 24 9 0) p k = m2 p k := fun p k hp => by rw [zu_p hp, zu_p hp, zu_p hp, zu_p hp]
    rw [if_pos c2, b1, zb_n, q_sea_24, s_cb_0, zb_n, q_sea_31, q_fg_0]
    generalize z_up (z_up (z_up (z_up m2 24 6 0) 24 7 0) 24 8 0) 24 9 0 = m3 at hC3 k6 k9 f3 ⊢
    have hA3 : cS m3 18 n = A := by
      rw [cS_fr (fun j k hj _ => f3 (18 + j) k (by omega))]
      exact hA2
    obtain ⟨m4, d1, d2, d3⟩ := X_fgn 9 0 m3 (by decide)
    have d1 : z_R 145 (m3, 2, [(2, 24), (0, 0)], []) = some (m4, none) := d1
    have hC4 : C_is w h n heat price D A c U kn KS cs m4 := C_fr hC3 fun p k hk => by
      have hk' := hk
      unfold C_hit at hk'
      have hk' := of_decide_eq_true hk'
      exact d2.of (by (try unfold c_LH); (try unfold r_LHs); (repeat' (first | exact trivial | refine z_of_c ?_ ?_)) <;> omega)
    have hC5 : C_is w h n heat price D A c U kn KS cs (z_up m4 24 4 (-1)) := C_fr hC4 fun p k hk => by
      by_cases e : p = 24 ∧ k = 4
      · rw [e.1, e.2, zu_self]
        exact hC4.1.2.2.2.2.2.2.1.symm
      · exact X_up e
    have e18 : cS m4 18 n = A := by
      rw [cS_fr (fun j k hj _ => d2.of (p := 18 + j) (k := k) (by (try unfold c_LH); (try unfold r_LHs); (repeat' (first | exact trivial | refine z_of_c ?_ ?_)) <;> omega))]
      exact hA3
    have e6 : m4 24 6 = 0 := (d2.of (by (try unfold c_LH); (try unfold r_LHs); (repeat' (first | exact trivial | refine z_of_c ?_ ?_)) <;> omega)).trans k6
    have e9 : m4 24 9 = 0 := (d2.of (by (try unfold c_LH); (try unfold r_LHs); (repeat' (first | exact trivial | refine z_of_c ?_ ?_)) <;> omega)).trans k9
    obtain ⟨m5, v5, g1, g2⟩ := X_sea1 (mz := m) hN (x1 := s) (N := N) (by omega) N 0 s m4 A (fun _ => 0) (fun j hj => (d3 j hj).trans (if_pos (Nat.zero_le j))) (by omega) hC5 e18 hok h34 ht.1 (by omega) (by rw [e6]; decide +kernel) (by rw [e9]; decide +kernel)
    have g1 : z_R 144 (m4, 43, [(2, 0), (0, s), (0, (N : Int)), (0, s), (0, 0)], []) = some (m5, some (0, v5)) := g1
    rw [e6] at g2
    rw [d1, zb_n, q_sea_38, g1, e]
    exact ⟨m5, _, rfl, g2⟩
  · rw [if_neg c2]
    exact ⟨m, _, rfl, c_rw_n (if_neg (by omega))⟩
theorem Y_has (m : z_M) (a b : Int) : z_R 185 (m, 0, [(0, a), (0, b)], []) = some (m, some (0, z_and (z_shr a b) 1)) := by
  rw [q_has_0]
  rcases z_a1 (z_shr a b) with e | e
  · rw [e, if_neg (show ¬ (0 : Int) = 1 by decide)]
  · rw [e, if_pos rfl]
theorem Y_tse138 {x1 x2 x3 x4 x5 : Int} : ∀ (f x : Nat) (m : z_M), x + f = 9 → ∃ m' v6, z_R 257 (m, 138, [(2, 251), (0, x1), (0, x2), (0, x3), (0, x4), (0, x5), (0, (x : Int))], []) = z_R 257 (m', 54, [(2, 251), (0, x1), (0, x2), (0, x3), (0, z_add x4 1), (0, x5), v6], []) ∧ z_same [(274, 0, 8)] m m' ∧ ∀ k, k < 9 → m' 274 k = if x ≤ k then so_f (m 251 29) (m 274) k else m 274 k := by
  intro f
  induction f with
  | zero =>
    intro x m hx
    rw [q_tse_138, if_pos (by omega)]
    exact ⟨m, _, rfl, z_same.rf, fun k hk => (if_neg (by omega)).symm⟩
  | succ f ih =>
    intro x m hx
    have nx : ∀ v, z_and (z_shr (m 251 29) (x : Int)) 1 = v → ∃ m' v6, z_R 257 (z_up m 274 x (z_add (m 274 x) v), 138, [(2, 251), (0, x1), (0, x2), (0, x3), (0, x4), (0, x5), (0, ((x + 1 : Nat) : Int))], []) = z_R 257 (m', 54, [(2, 251), (0, x1), (0, x2), (0, x3), (0, z_add x4 1), (0, x5), v6], []) ∧ z_same [(274, 0, 8)] m m' ∧ ∀ k, k < 9 → m' 274 k = if x ≤ k then so_f (m 251 29) (m 274) k else m 274 k := by
      intro v hv
      subst hv
      obtain ⟨m', v6, a1, a2, a3⟩ := ih (x + 1) (z_up m 274 x (z_add (m 274 x) (z_and (z_shr (m 251 29) (x : Int)) 1))) (by omega)
      refine ⟨m', v6, a1, (z_same.rf.upo (by (try unfold c_LH); (try unfold r_LHs); first | exact z_on_h rfl (by omega) (by omega) | exact z_on_t (z_on_h rfl (by omega) (by omega)) | exact z_on_t (z_on_t (z_on_h rfl (by omega) (by omega))) | exact z_on_t (z_on_t (z_on_t (z_on_h rfl (by omega) (by omega)))) | exact z_on_t (z_on_t (z_on_t (z_on_t (z_on_h rfl (by omega) (by omega))))) | exact z_on_t (z_on_t (z_on_t (z_on_t (z_on_t (z_on_h rfl (by omega) (by omega)))))) | exact z_on_t (z_on_t (z_on_t (z_on_t (z_on_t (z_on_t (z_on_h rfl (by omega) (by omega))))))) | exact z_on_t (z_on_t (z_on_t (z_on_t (z_on_t (z_on_t (z_on_t (z_on_h rfl (by omega) (by omega)))))))) | exact z_on_t (z_on_t (z_on_t (z_on_t (z_on_t (z_on_t (z_on_t (z_on_t (z_on_h rfl (by omega) (by omega))))))))) | exact z_on_t (z_on_t (z_on_t (z_on_t (z_on_t (z_on_t (z_on_t (z_on_t (z_on_t (z_on_h rfl (by omega) (by omega)))))))))) | exact z_on_t (z_on_t (z_on_t (z_on_t (z_on_t (z_on_t (z_on_t (z_on_t (z_on_t (z_on_t (z_on_h rfl (by omega) (by omega))))))))))) | exact z_on_t (z_on_t (z_on_t (z_on_t (z_on_t (z_on_t (z_on_t (z_on_t (z_on_t (z_on_t (z_on_t (z_on_h rfl (by omega) (by omega)))))))))))) | exact z_on_t (z_on_t (z_on_t (z_on_t (z_on_t (z_on_t (z_on_t (z_on_t (z_on_t (z_on_t (z_on_t (z_on_t (z_on_h rfl (by omega) (by omega))))))))))))))).tr a2, fun k hk => ?_⟩
      by_cases c : x + 1 ≤ k
      · rw [a3 k hk, if_pos c, if_pos (show x ≤ k by omega)]
        show z_add ((z_up m 274 x (z_add (m 274 x) (z_and (z_shr (m 251 29) (x : Int)) 1))) 274 k) (z_and (z_shr ((z_up m 274 x (z_add (m 274 x) (z_and (z_shr (m 251 29) (x : Int)) 1))) 251 29) (k : Int)) 1) = z_add (m 274 k) (z_and (z_shr (m 251 29) (k : Int)) 1)
        rw [zu_k (show ¬ k = x by omega), zu_p (by decide)]
      · rw [a3 k hk, if_neg c]
        by_cases e : k = x
        · subst e
          rw [zu_self, if_pos (Nat.le_refl _)]
          rfl
        · rw [zu_k e, if_neg (by omega)]
    rw [q_tse_138, if_neg (by omega), if_pos (show 0 ≤ (x : Int) ∧ (x : Int) < 9 by omega), Y_has, zb_v, q_tse_162, z_add_eq (x := (x : Int)) (by omega) (by omega), tc1]
    rcases z_a1 (z_shr (m 251 29) (x : Int)) with c1 | c1
    · rw [c1, if_pos rfl, if_pos (show 0 ≤ (x : Int) ∧ (x : Int) < 9 by omega), Int.toNat_natCast]
      exact nx 0 c1
    · rw [c1, if_neg (show ¬ (1 : Int) = 0 by decide), if_pos (show 0 ≤ (x : Int) ∧ (x : Int) < 9 by omega), Int.toNat_natCast]
      exact nx 1 c1
theorem Y_tse195 {C : Nat → Int} {x1 x2 x3 : Int} {v6 : z_V} : ∀ (f x : Nat) (b : Int) (m : z_M), (∀ k, k < 9 → m 274 k = C k) → x + f = 9 → 0 ≤ b ∧ b < 9 → ∃ x', z_R 257 (m, 195, [(2, 251), (0, x1), (0, x2), (0, x3), (0, b), (0, (x : Int)), v6], []) = ((z_R 210 (z_up m 251 10 0, 0, [(2, 251), (1, z_i2l (m 251 32)), (9, 0)], [])).bind fun qq => z_R 257 (qq.1, 243, [(2, 251), (0, x1), (0, x2), (0, x3), (0, so_p C f x b), (0, x'), v6], qq.2.toList ++ [])) ∧ 0 ≤ so_p C f x b ∧ so_p C f x b < 9 := by
  intro f
  induction f with
  | zero =>
    intro x b m hC hx hb
    rw [q_tse_195, if_pos (by omega)]
    exact ⟨_, rfl, hb⟩
  | succ f ih =>
    intro x b m hC hx hb
    rw [q_tse_195, if_neg (by omega), if_pos (show 0 ≤ (x : Int) ∧ (x : Int) < 9 by omega), if_pos hb, tc1, Int.toNat_natCast, hC x (by omega), hC b.toNat (by omega), so_p_s]
    by_cases c1 : C x ≤ C b.toNat
    · rw [if_pos c1, if_pos c1]; exact ih (x + 1) b m hC (by omega) hb
    · rw [if_neg c1, if_neg c1]; exact ih (x + 1) x m hC (by omega) (by omega)
theorem Y_sea1 {mz : z_M} (hN : w_N w h n heat D) {x1 : Int} {N : Nat} (hN6 : N ≤ 60) : ∀ (f k : Nat) (r : Int) (v5 v6 : z_V) (m : z_M) (B C : Nat → Int), (∀ j, j < 9 → m 274 j = C j) → (∀ j, j < 9 → 0 ≤ C j ∧ C j ≤ (k : Int)) → k + f = N → R_is w h n heat price D A c U kn KS cs (z_up m 251 23 (-1)) → rS m 264 n = B → hr_ok n B → -1 ≤ B 34 → 0 ≤ B 35 → B 35 + (f : Int) ≤ 2147483647 → ∃ m' v, z_R 257 (m, 54, [(2, 251), (0, x1), (0, (N : Int)), (0, r), (0, (k : Int)), v5, v6], []) = some (m', some (0, v)) ∧ r_rw mz m' (some (so_row (so_R w h n heat price cs D f r B (m 251 32) C))) := by
  intro f
  induction f with
  | zero =>
    intro k r v5 v6 m B C hC hb hk hi hB hok h34 ht ht2
    obtain ⟨x, a1, a2⟩ := Y_tse195 (C := C) (x1 := x1) (x2 := (N : Int)) (x3 := r) (v6 := v6) 8 1 0 (z_up m 251 23 (-1)) (fun j hj => (zu_p (by decide)).trans (hC j hj)) (by decide) (by decide)
    have a1 : z_R 257 (z_up m 251 23 (-1), 195, [(2, 251), (0, x1), (0, (N : Int)), (0, r), (0, 0), (0, 1), v6], []) = _ := a1
    have e32 : (z_up m 251 23 (-1)) 251 32 = m 251 32 := zu_k (by decide)
    have e274 : ∀ j, j < 9 → (z_up m 251 23 (-1)) 274 j = C j := fun j hj => (zu_p (by decide)).trans (hC j hj)
    show ∃ m' v, _ = some (m', some (0, v)) ∧ r_rw mz m' (some (so_row (m 251 32, C)))
    rw [q_tse_54, if_pos (by omega), a1, Y_so (fun j hj => (hb j hj).1)]
    generalize z_up m 251 23 (-1) = m0 at e32 e274 ⊢
    generalize so_p C 8 1 0 = p at a2 ⊢
    have g1 : (z_up (z_up (z_up m0 251 10 0) 255 0 (z_i2l (m0 251 32))) 251 10 1) 274 p.toNat = C p.toNat := (t_told1 (by omega) (by omega)).trans (e274 _ (by omega))
    rw [t_tell0, zb_n, q_tse_243, if_pos a2]
    by_cases c1 : C p.toNat = 0
    · rw [if_pos (g1.trans c1), t_tell1, zb_n, q_tse_266, if_pos a2, t_tell2, zb_n, q_tse_278, if_pos c1]
      exact ⟨_, _, rfl, r_rw_3 rfl (congrArg z_i2l e32) rfl (congrArg z_i2l ((t_told2 (by omega) (by omega)).trans (e274 _ (by omega))))⟩
    · rw [if_neg (fun z => c1 (g1.symm.trans z)), t_tell1, zb_n, q_tse_266, if_pos a2, t_tell2, zb_n, q_tse_278, if_neg c1]
      exact ⟨_, _, rfl, r_rw_3 rfl (congrArg z_i2l e32) rfl (congrArg z_i2l ((t_told2 (by omega) (by omega)).trans (e274 _ (by omega))))⟩
  | succ f ih =>
    intro k r v5 v6 m B C hC hb hk hi hB hok h34 ht ht2
    have h5 := hN.1.2.2
    have e3 : m 251 3 = (n : Int) := by
      have := hi.1.2.2.1
      rw [zu_k (by decide)] at this
      exact this
    obtain ⟨r1, hr1⟩ : ∃ r1, se_n r = r1 := ⟨_, rfl⟩
    obtain ⟨r2, hr2⟩ : ∃ r2, se_n r1 = r2 := ⟨_, rfl⟩
    have es : so_R w h n heat price cs D (f + 1) r B (m 251 32) C = so_R w h n heat price cs D f r2 (hr_A w h heat price (c_ml cs) (se_w D (z_rem (z_ush r2 16) ((n : Int) + 3)) (u_up B 36 (z_rem (z_ush r1 16) 10) 35)) n (u_up B 36 (z_rem (z_ush r1 16) 10))) (z_add (m 251 32) (hr_m w h heat (c_ml cs) (se_w D (z_rem (z_ush r2 16) ((n : Int) + 3)) (u_up B 36 (z_rem (z_ush r1 16) 10) 35)) n (u_up B 36 (z_rem (z_ush r1 16) 10)))) (so_f (hr_K w h heat price (c_ml cs) (se_w D (z_rem (z_ush r2 16) ((n : Int) + 3)) (u_up B 36 (z_rem (z_ush r1 16) 10) 35)) n (u_up B 36 (z_rem (z_ush r1 16) 10))).2.1 C) := by
      rw [← hr2, ← hr1]
      rfl
    have hF := z_draw r1 (y := 10) (by decide) (by decide)
    -- one hour with the one that is warm
    have key : ∀ (F W V x5 : Int), 0 ≤ F ∧ F ≤ 9 → (∀ y : Nat, y < n → ((y : Int) = V ↔ (y : Int) = W)) → ∃ m' v, ((z_R 207 (z_up (z_up m 264 36 F) 251 23 V, 0, [(2, 251), (2, 264), (0, 1), (9, 0)], [])).bind fun qq => z_R 257 (qq.1, 135, [(2, 251), (0, x1), (0, (N : Int)), (0, r2), (0, (k : Int)), (0, x5), v6], qq.2.toList ++ [])) = some (m', some (0, v)) ∧ r_rw mz m' (some (so_row (so_R w h n heat price cs D f r2 (hr_A w h heat price (c_ml cs) (se_w D W (u_up B 36 F 35)) n (u_up B 36 F)) (z_add (m 251 32) (hr_m w h heat (c_ml cs) (se_w D W (u_up B 36 F 35)) n (u_up B 36 F))) (so_f (hr_K w h heat price (c_ml cs) (se_w D W (u_up B 36 F 35)) n (u_up B 36 F)).2.1 C)))) := by
      intro F W V x5 hF hVW
      have hi2 : R_is w h n heat price D A c U kn KS cs (z_up (z_up (z_up m 264 36 F) 251 23 V) 251 23 (-1)) := R_f23 hi fun p k hk hn => by
        rw [X_up hn]
        exact X_up fun z => by
          unfold R_hit at hk
          have := of_decide_eq_true hk
          omega
      have hB2 : rS (z_up (z_up m 264 36 F) 251 23 V) 264 n = u_up B 36 F := by
        rw [rS_row (zu_rowne (by decide)), rS_up (by decide) (a_vis_hi (by decide)), hB]
      have lf : (z_up (z_up m 264 36 F) 251 23 V) 251 23 = V := zu_self
      have l32 : (z_up (z_up m 264 36 F) 251 23 V) 251 32 = m 251 32 := (zu_k (by decide)).trans (zu_p (by decide))
      have l274 : ∀ j, (z_up (z_up m 264 36 F) 251 23 V) 274 j = m 274 j := fun j => (zu_p (by decide)).trans (zu_p (by decide))
      generalize z_up (z_up m 264 36 F) 251 23 V = m2 at hi2 hB2 lf l32 l274 ⊢
      have hok2 : hr_ok n (u_up B 36 F) := hr_ok_up hok (by decide) (fun _ => hF) (fun p h1 h2 => by omega)
      have h342 : -1 ≤ u_up B 36 F 34 := by rw [u_up_ne (by decide)]; exact h34
      have h352 : u_up B 36 F 35 = B 35 := u_up_ne (by decide)
      have hnum : hr_nums n heat (c_ml cs) (se_w D V) := ⟨h5, hN.2.1, c_ml_ok cs, wmf_b hN.2.2⟩
      obtain ⟨m3, b1, b2, b3, b4⟩ := Y_goHours z_A_264 (Or.inr rfl) hN.1.1 hN.1.2.1 (price := price) hnum (N := 1) (by decide) m2 (R_cfgf hi2 lf) hB2 hok2 (by rw [h352]; exact ht) (by rw [h352]; omega)
      have b1 : z_R 207 (m2, 0, [(2, 251), (2, 264), (0, 1), (9, 0)], []) = some (m3, none) := b1
      obtain ⟨⟨o1, o2⟩, o3⟩ := hr_H_ok (price := price) hN.1.1 hN.1.2.1 hnum 1 (u_up B 36 F) (m2 251 32) (m2 251 33) (m2 251 34) (m2 251 35) hok2 h342 (by rw [h352]; exact ht) (by rw [h352]; omega)
      rw [← b2] at o1 o2 o3
      have o1 : hr_ok n (rS m3 264 n) := o1
      have o2 : -1 ≤ rS m3 264 n 34 := o2
      have o3 : rS m3 264 n 35 = B 35 + 1 := by
        have o3 : rS m3 264 n 35 = u_up B 36 F 35 + ((1 : Nat) : Int) := o3
        omega
      obtain ⟨m4, y6, c1, c2, c3⟩ := Y_tse138 (x1 := x1) (x2 := (N : Int)) (x3 := r2) (x4 := (k : Int)) (x5 := x5) 9 0 m3 (by decide)
      have c1 : z_R 257 (m3, 138, [(2, 251), (0, x1), (0, (N : Int)), (0, r2), (0, (k : Int)), (0, x5), (0, 0)], []) = z_R 257 (m4, 54, [(2, 251), (0, x1), (0, (N : Int)), (0, r2), (0, z_add (k : Int) 1), (0, x5), y6], []) := c1
      have hi4 : R_is w h n heat price D A c U kn KS cs (z_up m4 251 23 (-1)) := R_f23 hi2 fun p k hk hn => by
        have hk' := hk
        unfold R_hit at hk'
        have hk' := of_decide_eq_true hk'
        rw [c2.of (p := p) (k := k) (by (try unfold c_LH); (try unfold r_LHs); (repeat' (first | exact trivial | refine z_of_c ?_ ?_)) <;> omega)]
        exact b3.of (by (try unfold c_LH); (try unfold r_LHs); (repeat' (first | exact trivial | refine z_of_c ?_ ?_)) <;> omega)
      have e18 : rS m4 264 n = rS m3 264 n := rS_row (c2.ofr (by (try unfold c_LH); (try unfold r_LHs); (repeat' (first | exact trivial | refine z_ofr_c ?_ ?_)) <;> omega))
      have ew : ∀ y, y < n → se_w D V (u_up B 36 F 35) y = se_w D W (u_up B 36 F 35) y := fun y hy => by
        show (if (y : Int) = V then 9 else wmD D (u_up B 36 F 35) y) = (if (y : Int) = W then 9 else wmD D (u_up B 36 F 35) y)
        by_cases e : (y : Int) = V
        · rw [if_pos e, if_pos ((hVW y hy).mp e)]
        · rw [if_neg e, if_neg (fun z => e ((hVW y hy).mpr z))]
      have q2 : rS m3 264 n = hr_A w h heat price (c_ml cs) (se_w D W (u_up B 36 F 35)) n (u_up B 36 F) := Eq.trans (b := hr_A w h heat price (c_ml cs) (se_w D V (u_up B 36 F 35)) n (u_up B 36 F)) (congrArg Prod.fst b2) (hr_A_cg ew)
      have q3 : m3 251 32 = z_add (m2 251 32) (hr_m w h heat (c_ml cs) (se_w D W (u_up B 36 F 35)) n (u_up B 36 F)) := Eq.trans (b := z_add (m2 251 32) (hr_m w h heat (c_ml cs) (se_w D V (u_up B 36 F 35)) n (u_up B 36 F))) (congrArg (fun z => z.2.1) b2) (by rw [hr_m_cg ew])
      have q4 : m3 251 29 = (hr_K w h heat price (c_ml cs) (se_w D W (u_up B 36 F 35)) n (u_up B 36 F)).2.1 := b4.trans (by rw [hr_K_cg ew])
      have h274 : ∀ j, j < 9 → m3 274 j = C j := fun j hj => (b3.of (p := 274) (k := j) (by (try unfold c_LH); (try unfold r_LHs); (repeat' (first | exact trivial | refine z_of_c ?_ ?_)) <;> omega)).trans ((l274 j).trans (hC j hj))
      have hC4 : ∀ j, j < 9 → m4 274 j = so_f (m3 251 29) C j := fun j hj => by
        rw [c3 j hj, if_pos (Nat.zero_le j)]
        show z_add (m3 274 j) _ = _
        rw [h274 j hj]
        rfl
      have e32 : m4 251 32 = m3 251 32 := c2.of (by (try unfold c_LH); (try unfold r_LHs); (repeat' (first | exact trivial | refine z_of_c ?_ ?_)) <;> omega)
      rw [b1, zb_n, q_tse_135, c1, z_add_eq (by omega) (by omega), tc1]
      have z := ih (k + 1) r2 (0, x5) y6 m4 (rS m3 264 n) (so_f (m3 251 29) C) hC4 (fun j hj => by
        have z := so_f_b (g := m3 251 29) (hb j hj) (by omega)
        omega) (by omega) hi4 e18 o1 o2 (by omega) (by omega)
      rw [e32, q3, l32, q2, q4] at z
      exact z
    rw [q_tse_54, if_neg (by omega), e3, z_add_eq (x := (n : Int)) (y := 3) (by omega) (by omega), if_neg (show ¬ (n : Int) + 3 = 0 by omega), es, show z_add (z_mul r 1103515245) 12345 = r1 from hr1, show z_add (z_mul r1 1103515245) 12345 = r2 from hr2]
    have hV := z_draw r2 (y := (n : Int) + 3) (by omega) (by omega)
    by_cases c1 : (n : Int) ≤ z_rem (z_ush r2 16) ((n : Int) + 3)
    · rw [if_pos c1]
      exact key _ _ _ _ (by omega) (fun y hy => by omega)
    · rw [if_neg c1]
      exact key _ _ _ _ (by omega) (fun y hy => Iff.rfl)
theorem Y_season (hi : R_is w h n heat price D A c U kn KS cs m) (hN : w_N w h n heat D) (hok : hr_ok n A) (h34 : -1 ≤ A 34) (ht : 0 ≤ A 35 ∧ A 35 ≤ 1073741824) (s a : Int) : ∃ m' v, z_R 257 (m, 0, [(2, 251), (0, s), (0, a), (9, 0), (9, 0), (9, 0), (9, 0)], []) = some (m', some (0, v)) ∧ r_rw m m' (so_tv w h n heat price cs D A s a) := by
  have hu := R_upn (p0 := 251) (k0 := 11) (v := 0) hi (by decide)
  rw [q_tse_0]
  by_cases ok : 1 ≤ a ∧ a ≤ 60
  · have e : so_tv w h n heat price cs D A s a = some (so_row (so_R w h n heat price cs D a.toNat s A 0 (fun _ => 0))) := if_pos ok
    obtain ⟨N, rfl⟩ : ∃ N : Nat, a = (N : Int) := ⟨a.toNat, by omega⟩
    rw [Int.toNat_natCast] at e
    obtain ⟨m1, b1, b2, b3⟩ := R_lt hu
    have hR3 : R_is w h n heat price D A c U kn KS cs (z_up (z_up (z_up (z_up m1 251 32 0) 251 33 0) 251 34 0) 251 35 0) := R_upn (R_upn (R_upn (R_upn b2 (by decide)) (by decide)) (by decide)) (by decide)
    have f3 : ∀ p k, ¬ p = 251 → (z_up (z_up (z_up (z_up m1 251 32 0) 251 33 0) 251 34 0) 251 35 0) p k = m1 p k := fun p k hp => by rw [zu_p hp, zu_p hp, zu_p hp, zu_p hp]
    have k35 : (z_up (z_up (z_up (z_up m1 251 32 0) 251 33 0) 251 34 0) 251 35 0) 251 32 = 0 := by rw [zu_k (by decide), zu_k (by decide), zu_k (by decide), zu_self]
    rw [if_pos ok, b1, zb_n, q_tse_23]
    generalize z_up (z_up (z_up (z_up m1 251 32 0) 251 33 0) 251 34 0) 251 35 0 = m2 at hR3 f3 k35 ⊢
    obtain ⟨m3, c1, c2, c3⟩ := Y_tse30 (x1 := s) (x2 := (N : Int)) (x3 := s) 9 0 m2 (by decide)
    have c1 : z_R 257 (m2, 30, [(2, 251), (0, s), (0, (N : Int)), (0, s), (0, 0), (9, 0), (9, 0)], []) = z_R 257 (m3, 54, [(2, 251), (0, s), (0, (N : Int)), (0, s), (0, 0), (9, 0), (9, 0)], []) := c1
    have hR4 : R_is w h n heat price D A c U kn KS cs m3 := R_fr hR3 fun p k hk => by
      have hk' := hk
      unfold R_hit at hk'
      have hk' := of_decide_eq_true hk'
      exact c2.of (by (try unfold c_LH); (try unfold r_LHs); (repeat' (first | exact trivial | refine z_of_c ?_ ?_)) <;> omega)
    have hR5 : R_is w h n heat price D A c U kn KS cs (z_up m3 251 23 (-1)) := R_fr hR4 fun p k hk => by
      by_cases e : p = 251 ∧ k = 23
      · rw [e.1, e.2, zu_self]
        exact hR4.1.2.2.2.2.2.symm
      · exact X_up e
    have e264 : rS m3 264 n = A := by
      rw [rS_row (c2.ofr (by (try unfold c_LH); (try unfold r_LHs); (repeat' (first | exact trivial | refine z_ofr_c ?_ ?_)) <;> omega)), rS_row (funext fun k => f3 264 k (by decide))]
      exact b3
    have e35 : m3 251 32 = 0 := (c2.of (by (try unfold c_LH); (try unfold r_LHs); (repeat' (first | exact trivial | refine z_of_c ?_ ?_)) <;> omega)).trans k35
    obtain ⟨m5, v5, g1, g2⟩ := Y_sea1 (mz := m) hN (x1 := s) (N := N) (by omega) N 0 s (9, 0) (9, 0) m3 A (fun _ => 0) (fun j hj => (c3 j hj).trans (if_pos (Nat.zero_le j))) (fun j hj => by
      show (0 : Int) ≤ 0 ∧ (0 : Int) ≤ ((0 : Nat) : Int)
      decide) (by omega) hR5 e264 hok h34 ht.1 (by omega)
    have g1 : z_R 257 (m3, 54, [(2, 251), (0, s), (0, (N : Int)), (0, s), (0, 0), (9, 0), (9, 0)], []) = some (m5, some (0, v5)) := g1
    rw [e35] at g2
    rw [c1, g1, e]
    exact ⟨m5, _, rfl, g2⟩
  · rw [if_neg ok]
    exact ⟨_, _, rfl, r_rw_n (if_neg ok)⟩
end
end
section
/-! STRETCHES of fractions, with bounds done -/
theorem fr_tfr_0  (m : z_M) (a : Int) (b : Int) : z_R 122 (m, 0, [(2, 0), (1, a), (9, 0), (1, b), (9, 0), (9, 0), (9, 0), (9, 0), (9, 0), (9, 0), (9, 0), (9, 0)], []) = if z_lcmp a 0 = 0 then (z_R 77 (m, 0, [(2, 0), (1, 0), (9, 0), (1, 1), (9, 0)], [])).bind fun qq => z_R 122 (qq.1, 18, [(2, 0), (1, a), (9, 0), (1, b), (9, 0), (9, 0), (9, 0), (9, 0), (9, 0), (9, 0), (9, 0), (9, 0)], qq.2.toList ++ []) else if z_lcmp b 0 = 0 then (z_R 77 (m, 0, [(2, 0), (1, 0), (9, 0), (1, 1), (9, 0)], [])).bind fun qq => z_R 122 (qq.1, 18, [(2, 0), (1, a), (9, 0), (1, b), (9, 0), (9, 0), (9, 0), (9, 0), (9, 0), (9, 0), (9, 0), (9, 0)], qq.2.toList ++ []) else z_R 122 (m, 28, [(2, 0), (1, a), (9, 0), (1, b), (9, 0), (1, a), (9, 0), (1, b), (9, 0), (0, 0), (9, 0), (9, 0)], []) :=
  have hK : kt_at 122 = kt_122 := rfl
  (z_R_run hK (n := 3) (g' := (m, 3, [(2, 0), (1, a), (9, 0), (1, b), (9, 0), (9, 0), (9, 0), (9, 0), (9, 0), (9, 0), (9, 0), (9, 0)], [(0, z_lcmp a 0)])) rfl).trans (z_R_ifd hK (c := z_lcmp a 0 = 0) (p1 := 12) (p2 := 6) rfl rfl rfl (fun h1 => (z_R_run hK (n := 3) (g' := (m, 15, [(2, 0), (1, a), (9, 0), (1, b), (9, 0), (9, 0), (9, 0), (9, 0), (9, 0), (9, 0), (9, 0), (9, 0)], [(1, 1), (1, 0), (2, 0)])) rfl).trans (z_R_call hK rfl rfl rfl rfl rfl)) (fun h1 => (z_R_run hK (n := 3) (g' := (m, 9, [(2, 0), (1, a), (9, 0), (1, b), (9, 0), (9, 0), (9, 0), (9, 0), (9, 0), (9, 0), (9, 0), (9, 0)], [(0, z_lcmp b 0)])) rfl).trans (z_R_ifnd hK (c := z_lcmp b 0 = 0) (p1 := 19) (p2 := 12) rfl rfl rfl (fun h2 => (z_R_run hK (n := 6) (g' := (m, 28, [(2, 0), (1, a), (9, 0), (1, b), (9, 0), (1, a), (9, 0), (1, b), (9, 0), (0, 0), (9, 0), (9, 0)], [])) rfl).trans (rfl)) (fun h2 => (z_R_run hK (n := 3) (g' := (m, 15, [(2, 0), (1, a), (9, 0), (1, b), (9, 0), (9, 0), (9, 0), (9, 0), (9, 0), (9, 0), (9, 0), (9, 0)], [(1, 1), (1, 0), (2, 0)])) rfl).trans (z_R_call hK rfl rfl rfl rfl rfl)))))
theorem fr_tfr_18  (m : z_M) (x1 : Int) (x3 : Int) : z_R 122 (m, 18, [(2, 0), (1, x1), (9, 0), (1, x3), (9, 0), (9, 0), (9, 0), (9, 0), (9, 0), (9, 0), (9, 0), (9, 0)], []) = some (m, none) :=
  have hK : kt_at 122 = kt_122 := rfl
  z_R_ret hK rfl rfl rfl
theorem fr_tfr_28  (m : z_M) (x1 : Int) (x3 : Int) (x5 : Int) (x7 : Int) (x9 : Int) (v10 : z_V) : z_R 122 (m, 28, [(2, 0), (1, x1), (9, 0), (1, x3), (9, 0), (1, x5), (9, 0), (1, x7), (9, 0), (0, x9), v10, (9, 0)], []) = if 100 ≤ x9 then if z_lcmp x5 0 = 0 then (z_R 77 (m, 0, [(2, 0), (1, x1), (9, 0), (1, x3), (9, 0)], [])).bind fun qq => z_R 122 (qq.1, 97, [(2, 0), (1, x1), (9, 0), (1, x3), (9, 0), (1, x5), (9, 0), (1, x7), (9, 0), (0, x9), v10, (9, 0)], qq.2.toList ++ []) else if x5 = 0 then none else if z_lcmp x5 0 = 0 then (z_R 77 (m, 0, [(2, 0), (1, z_ldiv x1 x5), (9, 0), (1, x3), (9, 0)], [])).bind fun qq => z_R 122 (qq.1, 97, [(2, 0), (1, x1), (9, 0), (1, x3), (9, 0), (1, x5), (9, 0), (1, x7), (9, 0), (0, x9), v10, (9, 0)], qq.2.toList ++ []) else if x5 = 0 then none else (z_R 77 (m, 0, [(2, 0), (1, z_ldiv x1 x5), (9, 0), (1, z_ldiv x3 x5), (9, 0)], [])).bind fun qq => z_R 122 (qq.1, 97, [(2, 0), (1, x1), (9, 0), (1, x3), (9, 0), (1, x5), (9, 0), (1, x7), (9, 0), (0, x9), v10, (9, 0)], qq.2.toList ++ []) else if z_lcmp x7 0 = 0 then if z_lcmp x5 0 = 0 then (z_R 77 (m, 0, [(2, 0), (1, x1), (9, 0), (1, x3), (9, 0)], [])).bind fun qq => z_R 122 (qq.1, 97, [(2, 0), (1, x1), (9, 0), (1, x3), (9, 0), (1, x5), (9, 0), (1, x7), (9, 0), (0, x9), v10, (9, 0)], qq.2.toList ++ []) else if x5 = 0 then none else if z_lcmp x5 0 = 0 then (z_R 77 (m, 0, [(2, 0), (1, z_ldiv x1 x5), (9, 0), (1, x3), (9, 0)], [])).bind fun qq => z_R 122 (qq.1, 97, [(2, 0), (1, x1), (9, 0), (1, x3), (9, 0), (1, x5), (9, 0), (1, x7), (9, 0), (0, x9), v10, (9, 0)], qq.2.toList ++ []) else if x5 = 0 then none else (z_R 77 (m, 0, [(2, 0), (1, z_ldiv x1 x5), (9, 0), (1, z_ldiv x3 x5), (9, 0)], [])).bind fun qq => z_R 122 (qq.1, 97, [(2, 0), (1, x1), (9, 0), (1, x3), (9, 0), (1, x5), (9, 0), (1, x7), (9, 0), (0, x9), v10, (9, 0)], qq.2.toList ++ []) else if x7 = 0 then none else z_R 122 (m, 28, [(2, 0), (1, x1), (9, 0), (1, x3), (9, 0), (1, x7), (9, 0), (1, z_lrem x5 x7), (9, 0), (0, z_add x9 1), (1, z_lrem x5 x7), (9, 0)], []) :=
  have hK : kt_at 122 = kt_122 := rfl
  (z_R_run hK (n := 2) (g' := (m, 32, [(2, 0), (1, x1), (9, 0), (1, x3), (9, 0), (1, x5), (9, 0), (1, x7), (9, 0), (0, x9), v10, (9, 0)], [(0, 100), (0, x9)])) rfl).trans (z_R_ifd hK (c := 100 ≤ x9) (p1 := 63) (p2 := 35) rfl rfl rfl (fun h1 => (z_R_run hK (n := 4) (g' := (m, 68, [(2, 0), (1, x1), (9, 0), (1, x3), (9, 0), (1, x5), (9, 0), (1, x7), (9, 0), (0, x9), v10, (9, 0)], [(0, z_lcmp x5 0), (2, 0)])) rfl).trans (z_R_ifnd hK (c := z_lcmp x5 0 = 0) (p1 := 75) (p2 := 71) rfl rfl rfl (fun h2 => (z_R_run hK (n := 2) (g' := (m, 78, [(2, 0), (1, x1), (9, 0), (1, x3), (9, 0), (1, x5), (9, 0), (1, x7), (9, 0), (0, x9), v10, (9, 0)], [(1, x5), (1, x1), (2, 0)])) rfl).trans (z_R_dvD hK (d := x5) rfl rfl rfl (fun h3 => (z_R_run hK (n := 3) (g' := (m, 83, [(2, 0), (1, x1), (9, 0), (1, x3), (9, 0), (1, x5), (9, 0), (1, x7), (9, 0), (0, x9), v10, (9, 0)], [(0, z_lcmp x5 0), (1, z_ldiv x1 x5), (2, 0)])) rfl).trans (z_R_ifnd hK (c := z_lcmp x5 0 = 0) (p1 := 90) (p2 := 86) rfl rfl rfl (fun h4 => (z_R_run hK (n := 2) (g' := (m, 93, [(2, 0), (1, x1), (9, 0), (1, x3), (9, 0), (1, x5), (9, 0), (1, x7), (9, 0), (0, x9), v10, (9, 0)], [(1, x5), (1, x3), (1, z_ldiv x1 x5), (2, 0)])) rfl).trans (z_R_dvD hK (d := x5) rfl rfl rfl (fun h5 => z_R_call hK rfl rfl rfl rfl rfl))) (fun h4 => (z_R_run hK (n := 2) (g' := (m, 94, [(2, 0), (1, x1), (9, 0), (1, x3), (9, 0), (1, x5), (9, 0), (1, x7), (9, 0), (0, x9), v10, (9, 0)], [(1, x3), (1, z_ldiv x1 x5), (2, 0)])) rfl).trans (z_R_call hK rfl rfl rfl rfl rfl)))))) (fun h2 => (z_R_run hK (n := 5) (g' := (m, 83, [(2, 0), (1, x1), (9, 0), (1, x3), (9, 0), (1, x5), (9, 0), (1, x7), (9, 0), (0, x9), v10, (9, 0)], [(0, z_lcmp x5 0), (1, x1), (2, 0)])) rfl).trans (z_R_ifn1 hK (c := z_lcmp x5 0 = 0) (p1 := 90) (p2 := 86) rfl rfl rfl (show z_lcmp x5 0 = 0 by omega) ((z_R_run hK (n := 2) (g' := (m, 94, [(2, 0), (1, x1), (9, 0), (1, x3), (9, 0), (1, x5), (9, 0), (1, x7), (9, 0), (0, x9), v10, (9, 0)], [(1, x3), (1, x1), (2, 0)])) rfl).trans (z_R_call hK rfl rfl rfl rfl rfl)))))) (fun h1 => (z_R_run hK (n := 3) (g' := (m, 39, [(2, 0), (1, x1), (9, 0), (1, x3), (9, 0), (1, x5), (9, 0), (1, x7), (9, 0), (0, x9), v10, (9, 0)], [(0, z_lcmp x7 0)])) rfl).trans (z_R_ifd hK (c := z_lcmp x7 0 = 0) (p1 := 63) (p2 := 42) rfl rfl rfl (fun h6 => (z_R_run hK (n := 4) (g' := (m, 68, [(2, 0), (1, x1), (9, 0), (1, x3), (9, 0), (1, x5), (9, 0), (1, x7), (9, 0), (0, x9), v10, (9, 0)], [(0, z_lcmp x5 0), (2, 0)])) rfl).trans (z_R_ifnd hK (c := z_lcmp x5 0 = 0) (p1 := 75) (p2 := 71) rfl rfl rfl (fun h7 => (z_R_run hK (n := 2) (g' := (m, 78, [(2, 0), (1, x1), (9, 0), (1, x3), (9, 0), (1, x5), (9, 0), (1, x7), (9, 0), (0, x9), v10, (9, 0)], [(1, x5), (1, x1), (2, 0)])) rfl).trans (z_R_dvD hK (d := x5) rfl rfl rfl (fun h8 => (z_R_run hK (n := 3) (g' := (m, 83, [(2, 0), (1, x1), (9, 0), (1, x3), (9, 0), (1, x5), (9, 0), (1, x7), (9, 0), (0, x9), v10, (9, 0)], [(0, z_lcmp x5 0), (1, z_ldiv x1 x5), (2, 0)])) rfl).trans (z_R_ifnd hK (c := z_lcmp x5 0 = 0) (p1 := 90) (p2 := 86) rfl rfl rfl (fun h9 => (z_R_run hK (n := 2) (g' := (m, 93, [(2, 0), (1, x1), (9, 0), (1, x3), (9, 0), (1, x5), (9, 0), (1, x7), (9, 0), (0, x9), v10, (9, 0)], [(1, x5), (1, x3), (1, z_ldiv x1 x5), (2, 0)])) rfl).trans (z_R_dvD hK (d := x5) rfl rfl rfl (fun h10 => z_R_call hK rfl rfl rfl rfl rfl))) (fun h9 => (z_R_run hK (n := 2) (g' := (m, 94, [(2, 0), (1, x1), (9, 0), (1, x3), (9, 0), (1, x5), (9, 0), (1, x7), (9, 0), (0, x9), v10, (9, 0)], [(1, x3), (1, z_ldiv x1 x5), (2, 0)])) rfl).trans (z_R_call hK rfl rfl rfl rfl rfl)))))) (fun h7 => (z_R_run hK (n := 5) (g' := (m, 83, [(2, 0), (1, x1), (9, 0), (1, x3), (9, 0), (1, x5), (9, 0), (1, x7), (9, 0), (0, x9), v10, (9, 0)], [(0, z_lcmp x5 0), (1, x1), (2, 0)])) rfl).trans (z_R_ifn1 hK (c := z_lcmp x5 0 = 0) (p1 := 90) (p2 := 86) rfl rfl rfl (show z_lcmp x5 0 = 0 by omega) ((z_R_run hK (n := 2) (g' := (m, 94, [(2, 0), (1, x1), (9, 0), (1, x3), (9, 0), (1, x5), (9, 0), (1, x7), (9, 0), (0, x9), v10, (9, 0)], [(1, x3), (1, x1), (2, 0)])) rfl).trans (z_R_call hK rfl rfl rfl rfl rfl)))))) (fun h6 => (z_R_run hK (n := 2) (g' := (m, 46, [(2, 0), (1, x1), (9, 0), (1, x3), (9, 0), (1, x5), (9, 0), (1, x7), (9, 0), (0, x9), v10, (9, 0)], [(1, x7), (1, x5)])) rfl).trans (z_R_dvD hK (d := x7) rfl rfl rfl (fun h11 => (z_R_run hK (n := 7) (g' := (m, 28, [(2, 0), (1, x1), (9, 0), (1, x3), (9, 0), (1, x7), (9, 0), (1, z_lrem x5 x7), (9, 0), (0, z_add x9 1), (1, z_lrem x5 x7), (9, 0)], [])) rfl).trans (rfl)))))))
theorem fr_tfr_97  (m : z_M) (x1 : Int) (x3 : Int) (x5 : Int) (x7 : Int) (x9 : Int) (v10 : z_V) : z_R 122 (m, 97, [(2, 0), (1, x1), (9, 0), (1, x3), (9, 0), (1, x5), (9, 0), (1, x7), (9, 0), (0, x9), v10, (9, 0)], []) = some (m, none) :=
  have hK : kt_at 122 = kt_122 := rfl
  z_R_ret hK rfl rfl rfl
theorem fr_tpa_0  (m : z_M) (a : Int) (b : Int) : z_R 240 (m, 0, [(2, 251), (1, a), (9, 0), (1, b), (9, 0), (9, 0), (9, 0)], []) = (z_R 241 (m, 0, [(1, a), (9, 0), (1, b), (9, 0)], [])).bind fun qq => z_R 240 (qq.1, 5, [(2, 251), (1, a), (9, 0), (1, b), (9, 0), (9, 0), (9, 0)], qq.2.toList ++ []) :=
  have hK : kt_at 240 = kt_240 := rfl
  (z_R_run hK (n := 2) (g' := (m, 2, [(2, 251), (1, a), (9, 0), (1, b), (9, 0), (9, 0), (9, 0)], [(1, b), (1, a)])) rfl).trans (z_R_call hK rfl rfl rfl rfl rfl)
theorem fr_tpa_5  (m : z_M) (x1 : Int) (x3 : Int) (u : Int) : z_R 240 (m, 5, [(2, 251), (1, x1), (9, 0), (1, x3), (9, 0), (9, 0), (9, 0)], [(1, u)]) = if u = 0 then none else (z_R 210 (m, 0, [(2, 251), (1, z_ldiv x1 u), (9, 0)], [])).bind fun qq => z_R 240 (qq.1, 15, [(2, 251), (1, x1), (9, 0), (1, x3), (9, 0), (1, u), (9, 0)], qq.2.toList ++ []) :=
  have hK : kt_at 240 = kt_240 := rfl
  (z_R_run hK (n := 4) (g' := (m, 11, [(2, 251), (1, x1), (9, 0), (1, x3), (9, 0), (1, u), (9, 0)], [(1, u), (1, x1), (2, 251)])) rfl).trans (z_R_dvD hK (d := u) rfl rfl rfl (fun h1 => z_R_call hK rfl rfl rfl rfl rfl))
theorem fr_tpa_15  (m : z_M) (x1 : Int) (x3 : Int) (x5 : Int) : z_R 240 (m, 15, [(2, 251), (1, x1), (9, 0), (1, x3), (9, 0), (1, x5), (9, 0)], []) = if x5 = 0 then none else (z_R 210 (m, 0, [(2, 251), (1, z_ldiv x3 x5), (9, 0)], [])).bind fun qq => z_R 240 (qq.1, 23, [(2, 251), (1, x1), (9, 0), (1, x3), (9, 0), (1, x5), (9, 0)], qq.2.toList ++ []) :=
  have hK : kt_at 240 = kt_240 := rfl
  (z_R_run hK (n := 3) (g' := (m, 19, [(2, 251), (1, x1), (9, 0), (1, x3), (9, 0), (1, x5), (9, 0)], [(1, x5), (1, x3), (2, 251)])) rfl).trans (z_R_dvD hK (d := x5) rfl rfl rfl (fun h1 => z_R_call hK rfl rfl rfl rfl rfl))
theorem fr_tpa_23  (m : z_M) (x1 : Int) (x3 : Int) (x5 : Int) : z_R 240 (m, 23, [(2, 251), (1, x1), (9, 0), (1, x3), (9, 0), (1, x5), (9, 0)], []) = some (m, none) :=
  have hK : kt_at 240 = kt_240 := rfl
  z_R_ret hK rfl rfl rfl
theorem fr_com_0  (m : z_M) (a : Int) (b : Int) : z_R 241 (m, 0, [(1, a), (9, 0), (1, b), (9, 0)], []) = if z_lcmp b 0 = 0 then some (m, some (1, a)) else if b = 0 then none else (z_R 241 (m, 0, [(1, b), (9, 0), (1, z_lrem a b), (9, 0)], [])).bind fun qq => z_R 241 (qq.1, 17, [(1, a), (9, 0), (1, b), (9, 0)], qq.2.toList ++ []) :=
  have hK : kt_at 241 = kt_241 := rfl
  (z_R_run hK (n := 3) (g' := (m, 3, [(1, a), (9, 0), (1, b), (9, 0)], [(0, z_lcmp b 0)])) rfl).trans (z_R_ifnd hK (c := z_lcmp b 0 = 0) (p1 := 10) (p2 := 6) rfl rfl rfl (fun h1 => (z_R_run hK (n := 3) (g' := (m, 13, [(1, a), (9, 0), (1, b), (9, 0)], [(1, b), (1, a), (1, b)])) rfl).trans (z_R_dvD hK (d := b) rfl rfl rfl (fun h2 => z_R_call hK rfl rfl rfl rfl rfl))) (fun h1 => (z_R_run hK (n := 2) (g' := (m, 17, [(1, a), (9, 0), (1, b), (9, 0)], [(1, a)])) rfl).trans (z_R_ret hK rfl rfl rfl)))
theorem fr_com_17  (m : z_M) (x0 : Int) (x2 : Int) (u : Int) : z_R 241 (m, 17, [(1, x0), (9, 0), (1, x2), (9, 0)], [(1, u)]) = some (m, some (1, u)) :=
  have hK : kt_at 241 = kt_241 := rfl
  z_R_ret hK rfl rfl rfl
theorem fr_mi_0  (m : z_M) (r : Int) : z_R 117 (m, 0, [(2, 24), (2, 12), (0, r)], []) = (z_R 100 (m, 0, [(2, 3), (2, 12), (0, r), (9, 0), (9, 0)], [])).bind fun qq => z_R 117 (qq.1, 12, [(2, 24), (2, 12), (0, r)], qq.2.toList ++ [(0, r), (2, 12), (2, 24)]) :=
  have hK : kt_at 117 = kt_117 := rfl
  (z_R_run hK (n := 5) (g' := (m, 7, [(2, 24), (2, 12), (0, r)], [(2, 3), (0, r), (2, 12), (2, 24)])) rfl).trans ((z_R_run hK (n := 2) (g' := (m, 9, [(2, 24), (2, 12), (0, r)], [(0, r), (2, 12), (2, 3), (0, r), (2, 12), (2, 24)])) rfl).trans (z_R_call hK rfl rfl rfl rfl rfl))
theorem fr_mi_12  (m : z_M) (x2 : Int) (s0 : Int) (u : Int) : z_R 117 (m, 12, [(2, 24), (2, 12), (0, x2)], [(0, u), (0, s0), (2, 12), (2, 24)]) = (z_R 118 (m, 0, [(2, 24), (2, 12), (0, s0), (0, u)], [])).bind fun qq => z_R 117 (qq.1, 15, [(2, 24), (2, 12), (0, x2)], qq.2.toList ++ []) :=
  have hK : kt_at 117 = kt_117 := rfl
  z_R_call hK rfl rfl rfl rfl rfl
theorem fr_mi_15  (m : z_M) (x2 : Int) (u : Int) : z_R 117 (m, 15, [(2, 24), (2, 12), (0, x2)], [(0, u)]) = some (m, some (0, u)) :=
  have hK : kt_at 117 = kt_117 := rfl
  z_R_ret hK rfl rfl rfl
theorem fr_mbs_0  (m : z_M) (r : Int) (b : Int) : z_R 118 (m, 0, [(2, 24), (2, 12), (0, r), (0, b)], []) = (z_R 119 (m, 0, [(2, 24), (2, 12), (0, r), (0, b), (9, 0), (9, 0)], [])).bind fun qq => z_R 118 (qq.1, 10, [(2, 24), (2, 12), (0, r), (0, b)], qq.2.toList ++ [(0, r), (2, 12), (2, 24)]) :=
  have hK : kt_at 118 = kt_118 := rfl
  (z_R_run hK (n := 7) (g' := (m, 7, [(2, 24), (2, 12), (0, r), (0, b)], [(0, b), (0, r), (2, 12), (2, 24), (0, r), (2, 12), (2, 24)])) rfl).trans (z_R_call hK rfl rfl rfl rfl rfl)
theorem fr_mbs_10  (m : z_M) (x2 : Int) (x3 : Int) (s0 : Int) (u : Int) : z_R 118 (m, 10, [(2, 24), (2, 12), (0, x2), (0, x3)], [(0, u), (0, s0), (2, 12), (2, 24)]) = (z_R 101 (m, 0, [(0, x3)], [])).bind fun qq => z_R 118 (qq.1, 14, [(2, 24), (2, 12), (0, x2), (0, x3)], qq.2.toList ++ [(0, u), (0, s0), (2, 12), (2, 24)]) :=
  have hK : kt_at 118 = kt_118 := rfl
  (z_R_run hK (n := 1) (g' := (m, 11, [(2, 24), (2, 12), (0, x2), (0, x3)], [(0, x3), (0, u), (0, s0), (2, 12), (2, 24)])) rfl).trans (z_R_call hK rfl rfl rfl rfl rfl)
theorem fr_mbs_14  (m : z_M) (x2 : Int) (x3 : Int) (s0 : Int) (s1 : Int) (u : Int) : z_R 118 (m, 14, [(2, 24), (2, 12), (0, x2), (0, x3)], [(0, u), (0, s0), (0, s1), (2, 12), (2, 24)]) = (z_R 120 (m, 0, [(2, 24), (2, 12), (0, s1), (0, s0), (0, u)], [])).bind fun qq => z_R 118 (qq.1, 17, [(2, 24), (2, 12), (0, x2), (0, x3)], qq.2.toList ++ []) :=
  have hK : kt_at 118 = kt_118 := rfl
  z_R_call hK rfl rfl rfl rfl rfl
theorem fr_mbs_17  (m : z_M) (x2 : Int) (x3 : Int) (u : Int) : z_R 118 (m, 17, [(2, 24), (2, 12), (0, x2), (0, x3)], [(0, u)]) = some (m, some (0, u)) :=
  have hK : kt_at 118 = kt_118 := rfl
  z_R_ret hK rfl rfl rfl
end
section
/-! FRACTIONS: both take the same steps of Euclid's -/
def fr_g : Nat → Int → Int → Option Int
  | 0, _, _ => none
  | f + 1, a, b => if z_lcmp b 0 = 0 then some a else fr_g f b (z_lrem a b)
theorem fr_g_s {f : Nat} {a b : Int} : fr_g (f + 1) a b = if z_lcmp b 0 = 0 then some a else fr_g f b (z_lrem a b) := rfl
def fr_row (a b : Int) : List Int := if a = 0 then [0, 1] else if b = 0 then [0, 1] else [z_ldiv a ((fr_g 100 a b).getD 1), z_ldiv b ((fr_g 100 a b).getD 1)]
theorem z_ldiv_64 {a b : Nat} (ha : a ≤ 1000000000000) (hb : 0 < b) (hb2 : b ≤ 1000000000000) : Int64.ofInt (a : Int) / Int64.ofInt (b : Int) = Int64.ofInt ((a / b : Nat) : Int) := by
  have ex : (Int64.ofInt (a : Int)).toInt = (a : Int) := lw_of (by omega) (by omega)
  have ey : (Int64.ofInt (b : Int)).toInt = (b : Int) := lw_of (by omega) (by omega)
  have hne : Int64.ofInt (b : Int) ≠ -1 := fun z => by
    have z1 := congrArg Int64.toInt z
    have z2 : (-1 : Int64).toInt = -1 := by decide
    rw [ey, z2] at z1
    omega
  have hle := Nat.div_le_self a b
  have e : (Int64.ofInt ((a / b : Nat) : Int)).toInt = ((a / b : Nat) : Int) := lw_of (Int.natCast_nonneg _) (by omega)
  refine Int64.toInt_inj.mp ?_
  rw [Int64.toInt_div_of_ne_right _ _ hne, ex, ey, Int.tdiv_eq_ediv_of_nonneg (Int.natCast_nonneg a), e]
  rfl
theorem z_ldiv_n {a b : Nat} (ha : a ≤ 1000000000000) (hb : 0 < b) (hb2 : b ≤ 1000000000000) : z_ldiv (a : Int) (b : Int) = ((a / b : Nat) : Int) := by
  have hle := Nat.div_le_self a b
  unfold z_ldiv
  rw [z_ldiv_64 ha hb hb2]
  exact lw_of (Int.natCast_nonneg _) (by omega)
theorem z_lrem_n {a b : Nat} (ha : a ≤ 1000000000000) (hb : 0 < b) (hb2 : b ≤ 1000000000000) : z_lrem (a : Int) (b : Int) = ((a % b : Nat) : Int) := by
  have h : a / b * b + a % b = a := by
    rw [Nat.mul_comm]
    exact Nat.div_add_mod a b
  have hlt := Nat.mod_lt a hb
  have e : (a : Int) - ((a / b : Nat) : Int) * (b : Int) = ((a % b : Nat) : Int) := by
    have h3 : ((a / b : Nat) : Int) * (b : Int) = ((a / b * b : Nat) : Int) := rfl
    rw [h3]
    generalize a / b * b = y at h ⊢
    generalize a % b = z at h ⊢
    omega
  unfold z_lrem
  rw [z_ldiv_64 ha hb hb2, ← Int64.ofInt_mul, ← Int64.ofInt_sub, e]
  exact lw_of (by omega) (by omega)
theorem fr_half {a b : Nat} (h : b ≤ a) (hb : 0 < b) : 2 * (a % b) < a := by
  have h1 := Nat.mod_lt a hb
  have h2 : a % b = (a - b) % b := Nat.mod_eq_sub_mod h
  have h3 := Nat.mod_le (a - b) b
  omega
theorem fr_z {b : Nat} (hb : b ≤ 1000000000000) : z_lcmp (b : Int) 0 = 0 ↔ b = 0 := by
  have := z_lcmp_0 (x := (b : Int)) ⟨by omega, by omega⟩
  exact ⟨fun z => by have := this.mp z; omega, fun z => this.mpr (by omega)⟩
theorem fr_ex : ∀ (k f a b : Nat), 2 * k + 1 ≤ f → b ≤ a → 0 < a → a < 2 ^ k → a ≤ 1000000000000 → ∃ g : Int, fr_g f (a : Int) (b : Int) = some g ∧ 0 < g ∧ g ≤ 1000000000000 := by
  intro k
  induction k with
  | zero =>
    intro f a b hf h1 h2 h3 h4
    have h3 : a < 1 := h3
    omega
  | succ k ih =>
    intro f a b hf h1 h2 h3 h4
    obtain ⟨f, rfl⟩ : ∃ f', f = f' + 2 := ⟨f - 2, by omega⟩
    rw [Nat.pow_succ] at h3
    by_cases c1 : b = 0
    · exact ⟨(a : Int), by rw [fr_g_s (f := f + 1), if_pos ((fr_z (by omega)).mpr c1)], by omega, by omega⟩
    have hb : 0 < b := by omega
    have r1 := Nat.mod_lt a hb
    have r2 := fr_half h1 hb
    rw [fr_g_s (f := f + 1), if_neg (fun z => c1 ((fr_z (by omega)).mp z)), z_lrem_n h4 hb (by omega), fr_g_s]
    by_cases c2 : a % b = 0
    · exact ⟨(b : Int), if_pos ((fr_z (by omega)).mpr c2), by omega, by omega⟩
    · rw [if_neg (fun z => c2 ((fr_z (by omega)).mp z)), z_lrem_n (by omega) (by omega) (by omega)]
      have r3 := Nat.mod_lt b (show 0 < a % b by omega)
      exact ih f (a % b) (b % (a % b)) (by omega) (by omega) (by omega) (by omega) (by omega)
theorem fr_ex2 {a b : Nat} (ha : a ≤ 1000000000) (hb : b ≤ 1000000000) (h : 0 < a) : ∃ g : Int, fr_g 100 (a : Int) (b : Int) = some g ∧ 0 < g ∧ g ≤ 1000000000000 := by
  by_cases c : b ≤ a
  · exact fr_ex 40 100 a b (by decide) c h (Nat.lt_of_le_of_lt ha (by decide)) (by omega)
  · have hm : a % b = a := Nat.mod_eq_of_lt (by omega)
    have e : fr_g 100 (a : Int) (b : Int) = fr_g 99 (b : Int) (z_lrem (a : Int) (b : Int)) := (fr_g_s (f := 99)).trans (if_neg (fun z => absurd ((fr_z (by omega)).mp z) (by omega)))
    rw [e, z_lrem_n (by omega) (by omega) (by omega), hm]
    exact fr_ex 40 99 b a (by decide) (by omega) (by omega) (Nat.lt_of_le_of_lt hb (by decide)) (by omega)
theorem X_tfl {mz m : z_M} {a b g : Int} (hg : ¬ z_lcmp g 0 = 0) : ∀ (f x : Nat) (p q : Int) (v10 : z_V), x + f ≤ 100 → fr_g f p q = some g → ∃ m', z_R 122 (m, 28, [(2, 0), (1, a), (9, 0), (1, b), (9, 0), (1, p), (9, 0), (1, q), (9, 0), (0, (x : Int)), v10, (9, 0)], []) = some (m', none) ∧ c_rw mz m' (some [z_ldiv a g, z_ldiv b g]) := by
  intro f
  induction f with
  | zero =>
    intro x p q v10 hx h
    exact absurd (show (none : Option Int) = some g from h) (fun z => by cases z)
  | succ f ih =>
    intro x p q v10 hx h
    rw [fr_g_s] at h
    by_cases c : z_lcmp q 0 = 0
    · rw [if_pos c] at h
      have ep : p = g := Option.some.inj h
      subst ep
      have hp0 : ¬ p = 0 := fun z => hg (by rw [z]; decide +kernel)
      rw [fr_tfr_28, if_neg (show ¬ (100 : Int) ≤ (x : Int) by omega), if_pos c, if_neg hg, if_neg hp0, if_neg hg, if_neg hp0, c_tell2, zb_n, fr_tfr_97]
      exact ⟨_, rfl, c_rw_2⟩
    · rw [if_neg c] at h
      have hq0 : ¬ q = 0 := fun z => c (by rw [z]; decide +kernel)
      rw [fr_tfr_28, if_neg (show ¬ (100 : Int) ≤ (x : Int) by omega), if_neg c, if_neg hq0, z_add_eq (x := (x : Int)) (y := 1) (by omega) (by omega), tc1]
      exact ih (x + 1) q (z_lrem p q) _ (by omega) h
theorem X_tfr {mz m : z_M} {a b : Nat} (ha : a ≤ 1000000000) (hb : b ≤ 1000000000) : ∃ m', z_R 122 (m, 0, [(2, 0), (1, (a : Int)), (9, 0), (1, (b : Int)), (9, 0), (9, 0), (9, 0), (9, 0), (9, 0), (9, 0), (9, 0), (9, 0)], []) = some (m', none) ∧ c_rw mz m' (some (fr_row (a : Int) (b : Int))) := by
  rw [fr_tfr_0]
  by_cases c1 : a = 0
  · rw [if_pos ((fr_z (by omega)).mpr c1), c_tell2, zb_n, fr_tfr_18, show fr_row (a : Int) (b : Int) = [0, 1] from if_pos (show (a : Int) = 0 by omega)]
    exact ⟨_, rfl, c_rw_2⟩
  rw [if_neg (fun z => c1 ((fr_z (by omega)).mp z))]
  by_cases c2 : b = 0
  · rw [if_pos ((fr_z (by omega)).mpr c2), c_tell2, zb_n, fr_tfr_18, show fr_row (a : Int) (b : Int) = [0, 1] from (if_neg (show ¬ (a : Int) = 0 by omega)).trans (if_pos (show (b : Int) = 0 by omega))]
    exact ⟨_, rfl, c_rw_2⟩
  rw [if_neg (fun z => c2 ((fr_z (by omega)).mp z))]
  obtain ⟨g, e, g1, g2⟩ := fr_ex2 ha hb (by omega)
  have eR : fr_row (a : Int) (b : Int) = [z_ldiv (a : Int) g, z_ldiv (b : Int) g] := ((if_neg (show ¬ (a : Int) = 0 by omega)).trans (if_neg (show ¬ (b : Int) = 0 by omega))).trans (by rw [e]; rfl)
  rw [eR]
  have z := X_tfl (mz := mz) (m := m) (a := (a : Int)) (b := (b : Int)) (g := g) (fun z => absurd ((z_lcmp_0 ⟨by omega, g2⟩).mp z) (by omega)) 100 0 (a : Int) (b : Int) (9, 0) (by decide) e
  exact z
theorem Y_com {m : z_M} : ∀ (f : Nat) (a b g : Int), fr_g f a b = some g → z_R 241 (m, 0, [(1, a), (9, 0), (1, b), (9, 0)], []) = some (m, some (1, g)) := by
  intro f
  induction f with
  | zero =>
    intro a b g h
    exact absurd (show (none : Option Int) = some g from h) (fun z => by cases z)
  | succ f ih =>
    intro a b g h
    rw [fr_g_s] at h
    by_cases c : z_lcmp b 0 = 0
    · rw [if_pos c] at h
      rw [fr_com_0, if_pos c, Option.some.inj h]
    · rw [if_neg c] at h
      have hb0 : ¬ b = 0 := fun z => c (by rw [z]; decide +kernel)
      rw [fr_com_0, if_neg c, if_neg hb0, ih b _ g h, zb_v, fr_com_17]
theorem Y_tpa {mz m : z_M} {a b : Nat} (h10 : m 251 10 = ((0 : Nat) : Int)) (ha : a ≤ 1000000000) (hb : b ≤ 1000000000) (hb0 : 0 < b) : ∃ m', z_R 240 (m, 0, [(2, 251), (1, (a : Int)), (9, 0), (1, (b : Int)), (9, 0), (9, 0), (9, 0)], []) = some (m', none) ∧ r_rw mz m' (some (fr_row (a : Int) (b : Int))) := by
  obtain ⟨g, e, g1, eR⟩ : ∃ g : Int, fr_g 100 (a : Int) (b : Int) = some g ∧ 0 < g ∧ fr_row (a : Int) (b : Int) = [z_ldiv (a : Int) g, z_ldiv (b : Int) g] := by
    by_cases c1 : a = 0
    · subst c1
      refine ⟨(b : Int), ?_, by omega, ?_⟩
      · have e1 : fr_g 100 ((0 : Nat) : Int) (b : Int) = fr_g 99 (b : Int) (z_lrem ((0 : Nat) : Int) (b : Int)) := (fr_g_s (f := 99)).trans (if_neg (fun z => absurd ((fr_z (by omega)).mp z) (by omega)))
        rw [e1, z_lrem_n (by decide) hb0 (by omega), Nat.zero_mod]
        exact (fr_g_s (f := 98)).trans (if_pos (by decide +kernel))
      · rw [show fr_row ((0 : Nat) : Int) (b : Int) = [0, 1] from if_pos rfl, z_ldiv_n (by decide) hb0 (by omega), z_ldiv_n (by omega) hb0 (by omega), Nat.zero_div, Nat.div_self hb0]
        rfl
    · obtain ⟨g, e, g1, g2⟩ := fr_ex2 ha hb (by omega)
      exact ⟨g, e, g1, ((if_neg (show ¬ (a : Int) = 0 by omega)).trans (if_neg (show ¬ (b : Int) = 0 by omega))).trans (by rw [e]; rfl)⟩
  rw [fr_tpa_0, Y_com 100 _ _ g e, zb_v, fr_tpa_5, if_neg (show ¬ g = 0 by omega), t_tell (j := 0) m _ (by decide) h10, zb_n, fr_tpa_15, if_neg (show ¬ g = 0 by omega), t_tell (j := 1) _ _ (by decide) zu_self, zb_n, fr_tpa_23, eR]
  exact ⟨_, rfl, r_rw_2 rfl rfl rfl⟩
section
variable {w h n : Nat} {heat price : Int} {D A : Nat → Int} {c : Nat} {U : Nat → Nat → Int} {kn : Nat → Int} {KS : Nat → Nat → Int} {cs : List Int} {m : z_M}
/-! share -/
def fr_sh (w h n : Nat) (heat : Int) (cs : List Int) (D A : Nat → Int) (p : Int) : Option (List Int) := if 0 ≤ p ∧ p < (n : Int) then (if A (p.toNat + 18) = -1 then none else some (fr_row (o_mel n heat cs D A (A (p.toNat + 18)).toNat (hr_b (A (p.toNat + 18)) n 0 A 0) * wmD D (A 35) p.toNat) (hr_wb heat (wmD D (A 35)) n A (A (p.toNat + 18)) (hr_b (A (p.toNat + 18)) n 0 A 0)))) else none
theorem fr_sh_k {q : Nat} (c1 : 0 ≤ (q : Int) ∧ (q : Int) < (n : Int)) : fr_sh w h n heat cs D A (q : Int) = if A (q + 18) = -1 then none else some (fr_row (o_mel n heat cs D A (A (q + 18)).toNat (hr_b (A (q + 18)) n 0 A 0) * wmD D (A 35) q) (hr_wb heat (wmD D (A 35)) n A (A (q + 18)) (hr_b (A (q + 18)) n 0 A 0))) := (if_pos c1).trans (by rw [Int.toNat_natCast])
theorem fr_mw {M x : Int} (h1 : 0 ≤ M ∧ M ≤ 99) (h2 : 0 ≤ x ∧ x ≤ 9) : 0 ≤ M * x ∧ M * x ≤ 891 := ⟨Int.mul_nonneg h1.1 h2.1, Int.le_trans (Int.mul_le_mul h1.2 h2.2 h2.1 (by decide)) (by decide)⟩
theorem X_share (hi : C_is w h n heat price D A c U kn KS cs m) (hN : w_N w h n heat D) (hok : hr_ok n A) (ht : 0 ≤ A 35 ∧ A 35 ≤ 1073741824) (hw : wi w h n A) (p : Int) : ∃ m1 v, z_R 116 (m, 0, [(2, 0), (0, p), (9, 0), (9, 0)], []) = some (m1, some (0, v)) ∧ c_rw m m1 (fr_sh w h n heat cs D A p) := by
  have h5 := hN.1.2.2
  rw [x_sha_0, hi.1.1, hi.1.2.1, hi.1.2.2.1]
  by_cases c1 : 0 ≤ p ∧ p < (n : Int)
  · obtain ⟨q, rfl⟩ : ∃ q : Nat, p = (q : Int) := ⟨p.toNat, by omega⟩
    have e15 : m 15 q = A (q + 18) := C_A3 hi (by omega) h5
    rw [if_pos c1, if_pos (show 0 ≤ (q : Int) ∧ (q : Int) < 5 by omega), Int.toNat_natCast, e15, fr_sh_k c1]
    by_cases c2 : u_hs (w : Int) (h : Int) (A (q + 18)) = 0
    · have z := (hw.1 q (by omega)).resolve_right (not_not_intro c2)
      rw [if_neg (not_not_intro c2), if_pos z]
      exact ⟨m, _, rfl, c_rw_id⟩
    · have hr := u_hs_rng c2
      obtain ⟨r, er⟩ : ∃ r : Nat, A (q + 18) = (r : Int) := ⟨(A (q + 18)).toNat, by omega⟩
      have hr9 : r < 9 := by omega
      obtain ⟨m1, a1, a2⟩ := C_mbs hi hN ht (r := r) hr9 (hr_b (r : Int) n 0 A 0)
      have e7 : m1 12 7 = A 35 := by
        rw [← a2.2.2.1]
        exact (cS_at0 (s := 12) (j := 7) (by decide)).symm
      have wa : z_R 70 (m1, 0, [(2, 24), (0, (q : Int)), (0, A 35), (9, 0)], []) = some (m1, some (0, wmD D (A 35) q)) := by rw [c_wo m1 (by omega) ht.1 (by omega), cw_D a2.1.2.2.2.2.2.2.1 a2.1.2.2.2.2.2.2.2 a2.2.1 ht.1 (by omega)]
      have bM : 0 ≤ o_mel n heat cs D A r (hr_b (r : Int) n 0 A 0) ∧ o_mel n heat cs D A r (hr_b (r : Int) n 0 A 0) ≤ A r := c_ml_ok cs _ (A r) _ _ _ _ _ (hok.1 r hr9).1
      have bA := (hok.1 r hr9).2
      have ba := hN.2.2 (A 35) ht.1 q (by omega)
      have bW := hr_wb_b hN ht.1 (r : Int) (hr_b (r : Int) n 0 A 0)
      have ew := C_wmi a2 hN ht (r : Int)
      rw [if_pos c2, if_neg (show ¬ A (q + 18) = -1 by omega), er, Int.toNat_natCast, rm_min_0, C_b0 hi h5, zb_v, rm_min_12, a1, zb_v, rm_min_15, zb_v, x_sha_49, e7, wa, zb_v, x_sha_64, ew, zb_v, x_sha_81]
      generalize o_mel n heat cs D A r (hr_b (r : Int) n 0 A 0) = M at bM ⊢
      generalize wmD D (A 35) q = x at ba ⊢
      generalize hr_wb heat (wmD D (A 35)) n A (r : Int) (hr_b (r : Int) n 0 A 0) = W at bW ⊢
      have bp := fr_mw (M := M) (x := x) ⟨bM.1, by omega⟩ ba
      rw [z_mul_eq (by omega) (by omega)]
      obtain ⟨P, hP⟩ : ∃ P : Nat, M * x = (P : Int) := ⟨(M * x).toNat, by omega⟩
      obtain ⟨V, rfl⟩ : ∃ V : Nat, W = (V : Int) := ⟨W.toNat, by omega⟩
      rw [hP] at bp ⊢
      rw [z_i2l_eq (x := (P : Int)) (by omega) (by omega), z_i2l_eq (x := (V : Int)) (by omega) (by omega)]
      obtain ⟨m2, b1, b2⟩ := X_tfr (mz := m) (m := m1) (a := P) (b := V) (by omega) (by omega)
      rw [b1, zb_n, x_sha_85]
      exact ⟨m2, _, rfl, b2⟩
  · rw [if_neg c1]
    exact ⟨m, _, rfl, c_rw_n (if_neg c1)⟩
theorem Y_mbs10 (hi : R_is w h n heat price D A c U kn KS cs m) (hN : w_N w h n heat D) (hok : hr_ok n A) (ht : 0 ≤ A 35 ∧ A 35 ≤ 1073741824) {r : Nat} (hr : r < 9) (b : Int) : ∃ m1, z_R 188 (m, 0, [(2, 251), (2, 252), (0, (r : Int)), (0, b)], []) = some (m1, some (0, o_mel n heat cs D A r b)) ∧ R_is w h n heat price D A c U kn KS cs m1 ∧ m1 251 10 = m 251 10 := by
  have h5 := hN.1.2.2
  obtain ⟨c1, c2, c3, c4, c5, c6, c7⟩ := R_cfg hi
  have ea : ∀ k, k < 18 ∨ 33 ≤ k → k < 37 → m 252 k = A k := fun k hk h37 => R_A hi h37 (by
    rcases hk with hk | hk
    · exact a_vis_lo hk
    · exact a_vis_hi hk)
  have hrg : r_rg 252 m := by
    refine ⟨fun k hk => ?_, ?_, ?_⟩
    · have p1 := hok.1 k hk
      have p2 := hok.2.1 k hk
      rw [ea k (by omega) (by omega), ea (k + 9) (by omega) (by omega)]
      omega
    · rw [ea 36 (by omega) (by omega)]
      have := hok.2.2.2
      omega
    · rw [ea 35 (by omega) (by omega)]
      omega
  have hb := hN.2.1
  have hW : r_i (hr_wb heat (wmD D (A 35)) n (rS m 252 n) r b) := by
    unfold hr_wb r_i
    by_cases z : rS m 252 n 34 = (r : Int)
    · rw [if_pos z]
      have := hr_s_rg (b := b) (hN.2.2 (A 35) ht.1) n 0 heat (by omega) (by omega) (by omega)
      omega
    · rw [if_neg z]
      have := hr_s_rg (b := b) (hN.2.2 (A 35) ht.1) n 0 0 (by omega) (by omega) (by omega)
      omega
  have hP : r_i (hr_pc b) := by
    have := hr_pc_b b
    unfold r_i
    omega
  obtain ⟨m1, a1, a2⟩ := r_mb z_A_252 (Or.inl rfl) h5 (ml := c_ml cs) (b := b) (t := A 35) (heat := heat) (wm := wmD D (A 35)) ht.1 (by omega) m c3 c4 (ea 35 (by omega) (by omega)) (fun p hp => c6 (A 35) ht.1 p hp) c7 hr hrg hW hP
  rw [hi.2.2.1] at a1
  have a1 : z_R 188 (m, 0, [(2, 251), (2, 252), (0, (r : Int)), (0, b)], []) = some (m1, some (0, o_mel n heat cs D A r b)) := a1
  refine ⟨m1, a1, R_fr hi fun p k hk => ?_, a2.of (p := 251) (k := 10) (by (try unfold r_LHs); (repeat' (first | exact trivial | refine z_of_c ?_ ?_)) <;> omega)⟩
  have hk' := hk
  unfold R_hit at hk'
  have hk' := of_decide_eq_true hk'
  exact a2.of (by (try unfold r_LHs); (repeat' (first | exact trivial | refine z_of_c ?_ ?_)) <;> omega)
theorem Y_share (hi : R_is w h n heat price D A c U kn KS cs m) (hN : w_N w h n heat D) (hok : hr_ok n A) (ht : 0 ≤ A 35 ∧ A 35 ≤ 1073741824) (p : Int) : ∃ m1 v, z_R 239 (m, 0, [(2, 251), (0, p), (9, 0), (9, 0)], []) = some (m1, some (0, v)) ∧ r_rw m m1 (fr_sh w h n heat cs D A p) := by
  have h5 := hN.1.2.2
  have hu := R_upn (p0 := 251) (k0 := 11) (v := 0) hi (by decide)
  have hw0 : r_rw m (z_up m 251 11 0) none := r_rw_11
  rw [x_tsh_0 m p (by rw [hi.1.2.2.1]; omega), hi.1.2.2.1]
  by_cases c1 : 0 ≤ p ∧ p < (n : Int)
  · obtain ⟨q, rfl⟩ : ∃ q : Nat, p = (q : Int) := ⟨p.toNat, by omega⟩
    have e18 : m 252 (q + 18) = A (q + 18) := R_A hi (by omega) (a_vis_p (b := 18) (p := q) (by omega) (by omega) (by omega) (by omega))
    rw [if_pos c1, show ((q : Int) + 18).toNat = q + 18 by omega, e18, fr_sh_k c1]
    generalize z_up m 251 11 0 = m0 at hu hw0 ⊢
    by_cases z : A (q + 18) = -1
    · rw [if_pos z, if_pos z]
      exact ⟨_, _, rfl, hw0⟩
    · have hv := hok.2.2.1 q (by omega)
      obtain ⟨r, er⟩ : ∃ r : Nat, A (q + 18) = (r : Int) := ⟨(A (q + 18)).toNat, by omega⟩
      have hr9 : r < 9 := by omega
      have bW := hr_wb_b hN ht.1 (r : Int) (hr_b (r : Int) n 0 A 0)
      have hu1 := R_upn (p0 := 251) (k0 := 10) (v := 0) hu (by decide)
      have k10 : (z_up m0 251 10 0) 251 10 = ((0 : Nat) : Int) := zu_self
      rw [if_neg z, if_neg z, er, Int.toNat_natCast, R_b0 hu h5, zb_v, x_tsh_48, R_w0 hu h5 ht, zb_v, x_tsh_51]
      generalize z_up m0 251 10 0 = m1 at hu1 k10 ⊢
      by_cases c2 : hr_wb heat (wmD D (A 35)) n A (r : Int) (hr_b (r : Int) n 0 A 0) = 0
      · obtain ⟨m2, b1, b2⟩ := Y_tpa (mz := m) (m := m1) (a := 0) (b := 1) k10 (by decide) (by decide) (by decide)
        have b1 : z_R 240 (m1, 0, [(2, 251), (1, 0), (9, 0), (1, 1), (9, 0), (9, 0), (9, 0)], []) = some (m2, none) := b1
        have b2 : r_rw m m2 (some [0, 1]) := b2
        rw [if_pos c2, b1, zb_n, x_tsh_67, c2]
        refine ⟨m2, _, rfl, ?_⟩
        generalize o_mel n heat cs D A r (hr_b (r : Int) n 0 A 0) * wmD D (A 35) q = y
        by_cases c3 : y = 0
        · rw [show fr_row y 0 = [0, 1] from if_pos c3]
          exact b2
        · rw [show fr_row y 0 = [0, 1] from (if_neg c3).trans (if_pos rfl)]
          exact b2
      · obtain ⟨m3, d1, d2, d3⟩ := Y_mbs10 hu1 hN hok ht (r := r) hr9 (hr_b (r : Int) n 0 A 0)
        have bM : 0 ≤ o_mel n heat cs D A r (hr_b (r : Int) n 0 A 0) ∧ o_mel n heat cs D A r (hr_b (r : Int) n 0 A 0) ≤ A r := c_ml_ok cs _ (A r) _ _ _ _ _ (hok.1 r hr9).1
        have bA := (hok.1 r hr9).2
        have ba := hN.2.2 (A 35) ht.1 q (by omega)
        rw [if_neg c2, rm_mno_0, R_b0 hu1 h5, zb_v, rm_mno_9, d1, zb_v, rm_mno_12, zb_v, x_tsh_80, R_wmo d2 ht (by omega), zb_v, x_tsh_90]
        generalize o_mel n heat cs D A r (hr_b (r : Int) n 0 A 0) = M at bM ⊢
        generalize wmD D (A 35) q = x at ba ⊢
        generalize hr_wb heat (wmD D (A 35)) n A (r : Int) (hr_b (r : Int) n 0 A 0) = W at bW c2 ⊢
        have bp := fr_mw (M := M) (x := x) ⟨bM.1, by omega⟩ ba
        rw [z_i2l_eq (x := M) (by omega) (by omega), z_i2l_eq (x := x) (by omega) (by omega), z_lmul_lw, lw_of bp.1 (by omega)]
        obtain ⟨P, hP⟩ : ∃ P : Nat, M * x = (P : Int) := ⟨(M * x).toNat, by omega⟩
        obtain ⟨V, rfl⟩ : ∃ V : Nat, W = (V : Int) := ⟨W.toNat, by omega⟩
        rw [hP] at bp ⊢
        rw [z_i2l_eq (x := (V : Int)) (by omega) (by omega)]
        obtain ⟨m4, b1, b2⟩ := Y_tpa (mz := m) (m := m3) (a := P) (b := V) (d3.trans k10) (by omega) (by omega) (by omega)
        rw [b1, zb_n, x_tsh_97]
        exact ⟨m4, _, rfl, b2⟩
  · rw [if_neg c1]
    exact ⟨_, _, rfl, r_rw_n (if_neg c1)⟩
/-! thaw -/
def fr_th (w h n : Nat) (heat price : Int) (cs : List Int) (D A : Nat → Int) (a p : Int) : Option (List Int) := if (1 ≤ a ∧ a ≤ 8) ∧ 0 ≤ p ∧ p ≤ 10 then some (fr_row (tw_T w h n heat price cs D A p a.toNat A) (tw_e a.toNat)) else none
def tn_inv (w h n : Nat) (heat price : Int) (D A : Nat → Int) (c : Nat) (U : Nat → Nat → Int) (kn : Nat → Int) (KS : Nat → Nat → Int) (cs : List Int) (N : Nat) (p : Int) (m : z_M) : Prop := C_is w h n heat price D A c U kn KS cs m ∧ (m 193 4 = (N : Int) ∧ m 193 5 = p ∧ m 193 6 = A 36 ∧ m 193 7 = s_F w h A) ∧ (z_w (m 24 6) = m 24 6 ∧ z_w (m 24 9) = m 24 9) ∧ ∀ q, q ≤ 8 → lw (m 195 q) = m 195 q
theorem tn_gt {p : Int} (hN : w_N w h n heat D) {N : Nat} (hN8 : N ≤ 8) {k : Nat} (hk : k < N) (IH : ∀ (wt : Int) (m : z_M) (B : Nat → Int), 0 ≤ wt → wt ≤ tw_e (k + 1) → tn_inv w h n heat price D A c U kn KS cs N p m → cS m (196 + 6 * (k + 1)) n = B → hr_ok n B → 0 ≤ B 35 → B 35 + 10 ≤ 2147483647 + ((k + 1 : Nat) : Int) → ∃ m1, z_R 140 (m, 0, [(2, 193), (0, ((k + 1 : Nat) : Int)), (1, wt), (9, 0)], []) = some (m1, none) ∧ tn_inv w h n heat price D A c U kn KS cs N p m1 ∧ (∀ q, k + 1 ≤ q → q ≤ N → m1 195 q = lw (m 195 q + wt * tw_T w h n heat price cs D A p (q - (k + 1)) B)) ∧ (∀ q, q < k + 1 → m1 195 q = m 195 q) ∧ ∀ i, i ≤ k + 1 → cS m1 (196 + 6 * i) n = cS m (196 + 6 * i) n) (f wt : Int) (m : z_M) (B : Nat → Int) (hf : 0 ≤ f ∧ f ≤ 9) (h0 : 0 ≤ wt) (h1 : wt ≤ tw_e (k + 1)) (hv : tn_inv w h n heat price D A c U kn KS cs N p m) (hB : cS m (196 + 6 * k) n = B) (hok : hr_ok n B) (ht : 0 ≤ B 35) (ht2 : B 35 + 10 ≤ 2147483647 + (k : Int)) : ∃ m1, z_R 141 (m, 0, [(2, 193), (0, (k : Int)), (0, f), (1, wt), (9, 0), (9, 0)], []) = some (m1, none) ∧ tn_inv w h n heat price D A c U kn KS cs N p m1 ∧ (∀ q, k + 1 ≤ q → q ≤ N → m1 195 q = lw (m 195 q + wt * (if tw_ok w h (s_F w h A) (tw_St w h n heat price cs D B f) = true then tw_T w h n heat price cs D A p (q - (k + 1)) (tw_St w h n heat price cs D B f) else 0))) ∧ (∀ q, q < k + 1 → m1 195 q = m 195 q) ∧ ∀ i, i ≤ k → cS m1 (196 + 6 * i) n = cS m (196 + 6 * i) n := by
  have he := tw_e_b (k := k + 1) (by omega)
  have hz := z_lcmp_0 (x := wt) ⟨h0, by omega⟩
  rw [tw_gtU (show k < 8 by omega)]
  by_cases z : wt = 0
  · rw [if_pos (hz.mpr z)]
    refine ⟨m, rfl, hv, fun q _ hq => ?_, fun q _ => rfl, fun i _ => rfl⟩
    rw [z, Int.zero_mul, Int.add_zero, hv.2.2.2 q (Nat.le_trans hq hN8)]
  rw [if_neg (fun y => z (hz.mp y))]
  have hst := tw_zst (k := k) (by omega)
  have hst1 := tw_zst (k := k + 1) (by omega)
  obtain ⟨m2, b1, b2, b3⟩ := c_become hst hst1 (by omega) m
  obtain ⟨hi, ⟨i4, i5, i6, i7⟩, ⟨k6, k9⟩, hl⟩ := hv
  have hC2 : C_is w h n heat price D A c U kn KS cs m2 := C_fr hi fun p k hk => by
    have hk' := hk
    unfold C_hit at hk'
    have hk' := of_decide_eq_true hk'
    exact b3.of (by (try unfold r_LHs); (repeat' (first | exact trivial | refine z_of_c ?_ ?_)) <;> omega)
  have hA2 : cS m2 (196 + 6 * (k + 1)) n = B := (cS_cR b2).trans hB
  rw [b1, zb_n, tw_gtU38 (show k < 8 by omega)]
  have hC3 : C_is w h n heat price D A c U kn KS cs (z_up m2 (196 + 6 * (k + 1)) 8 f) := C_fr hC2 fun p j hk => zu_p fun z => by
    have hk' := hk
    unfold C_hit at hk'
    have hk' := of_decide_eq_true hk'
    omega
  have hA3 : cS (z_up m2 (196 + 6 * (k + 1)) 8 f) (196 + 6 * (k + 1)) n = u_up B 36 f := by rw [cS_frost, hA2]
  have s3 : ∀ p j, ¬ (196 + 6 * (k + 1) ≤ p ∧ p ≤ 196 + 6 * (k + 1) + 5) → (z_up m2 (196 + 6 * (k + 1)) 8 f) p j = m p j := fun p j hp => (zu_p (by omega)).trans (b3.of (by (try unfold r_LHs); (repeat' (first | exact trivial | refine z_of_c ?_ ?_)) <;> omega))
  generalize z_up m2 (196 + 6 * (k + 1)) 8 f = m3 at hC3 hA3 s3 ⊢
  have h35 : u_up B 36 f 35 = B 35 := u_up_ne (by decide)
  have hok3 : hr_ok n (u_up B 36 f) := hr_ok_up hok (by decide) (fun _ => hf) (fun p h1 h2 => by have := hN.1.2.2; omega)
  have j6 : m3 24 6 = m 24 6 := s3 24 6 (by omega)
  have j9 : m3 24 9 = m 24 9 := s3 24 9 (by omega)
  obtain ⟨m4, c1, c2, c3, c4, c5, c6, c7⟩ := tw_go1 hst1 hN hC3 hA3 hok3 (by rw [h35]; exact ht) (by rw [h35]; omega) (by rw [j6]; exact k6) (by rw [j9]; exact k9)
  rw [h35] at c2 c3 c6
  have e2 : hr_A w h heat price (c_ml cs) (wmD D (B 35)) n (u_up B 36 f) = tw_St w h n heat price cs D B f := rfl
  rw [e2] at c2 c3 c6
  rw [c1, zb_n, tw_gtU54 (show k < 8 by omega)]
  have s4 : ∀ p j, ¬ (196 + 6 * (k + 1) ≤ p ∧ p ≤ 196 + 6 * (k + 1) + 5) → ¬ p = 24 → ¬ p = 25 → ¬ p = 26 → ¬ p = 6 → ¬ p = 7 → m4 p j = m p j := fun p j hp h24 h25 h26 h6 h7 => (c7.of (by (try unfold r_LHs); (repeat' (first | exact trivial | refine z_of_c ?_ ?_)) <;> omega)).trans (s3 p j hp)
  have hC4 : C_is w h n heat price D A c U kn KS cs m4 := C_fr hC3 fun p k hk => by
    have hk' := hk
    unfold C_hit at hk'
    have hk' := of_decide_eq_true hk'
    exact c7.of (by (try unfold r_LHs); (repeat' (first | exact trivial | refine z_of_c ?_ ?_)) <;> omega)
  have l6 : z_w (m4 24 6) = m4 24 6 := by rw [c4, z_add_w]; exact z_w_w
  have v4 : ∀ j, m4 193 j = m 193 j := fun j => s4 193 j (by omega) (by decide) (by decide) (by decide) (by decide) (by decide)
  have w4 : ∀ j, m4 195 j = m 195 j := fun j => s4 195 j (by omega) (by decide) (by decide) (by decide) (by decide) (by decide)
  have u4 : ∀ i, i ≤ k → cS m4 (196 + 6 * i) n = cS m (196 + 6 * i) n := fun i hi => cS_fr fun j q hj _ => s4 _ q (by omega) (by omega) (by omega) (by omega) (by omega) (by omega)
  have hv4 : tn_inv w h n heat price D A c U kn KS cs N p m4 := ⟨hC4, ⟨by rw [v4]; exact i4, by rw [v4]; exact i5, by rw [v4]; exact i6, by rw [v4]; exact i7⟩, ⟨l6, c5⟩, fun q hq => by rw [w4]; exact hl q hq⟩
  rw [c3, hv4.2.1.2.2.2]
  have eo : tw_ok w h (s_F w h A) (tw_St w h n heat price cs D B f) = true ↔ z_and (s_G w h (tw_St w h n heat price cs D B f)) (s_F w h A) = 0 := decide_eq_true_iff
  by_cases y : z_and (s_G w h (tw_St w h n heat price cs D B f)) (s_F w h A) = 0
  · rw [if_pos y, z_add_eq (by omega) (by omega), tc1]
    obtain ⟨m5, d1, d2, d3, d4, d5⟩ := IH wt m4 (tw_St w h n heat price cs D B f) h0 h1 hv4 c2 c6.1 (by rw [c6.2]; omega) (by rw [c6.2]; omega)
    rw [d1, zb_n, tw_gtU77 (show k < 8 by omega)]
    refine ⟨m5, rfl, d2, fun q q1 q2 => ?_, fun q hq => (d4 q hq).trans (w4 q), fun i hi => (d5 i (by omega)).trans (u4 i hi)⟩
    rw [d3 q q1 q2, w4, if_pos (eo.mpr y)]
  · rw [if_neg y]
    refine ⟨m4, rfl, hv4, fun q _ q2 => ?_, fun q hq => w4 q, u4⟩
    rw [if_neg (fun x => y (eo.mp x)), Int.mul_zero, Int.add_zero, w4, hl q (Nat.le_trans q2 hN8)]
theorem tn_gf {p : Int} (hN : w_N w h n heat D) {N : Nat} (hN8 : N ≤ 8) (hp : 0 ≤ p ∧ p ≤ 10) (hfr : 0 ≤ A 36 ∧ A 36 ≤ 9) : ∀ (j k : Nat), k + j = N → ∀ (wt : Int) (m : z_M) (B : Nat → Int), 0 ≤ wt → wt ≤ tw_e k → tn_inv w h n heat price D A c U kn KS cs N p m → cS m (196 + 6 * k) n = B → hr_ok n B → 0 ≤ B 35 → B 35 + 10 ≤ 2147483647 + (k : Int) → ∃ m1, z_R 140 (m, 0, [(2, 193), (0, (k : Int)), (1, wt), (9, 0)], []) = some (m1, none) ∧ tn_inv w h n heat price D A c U kn KS cs N p m1 ∧ (∀ q, k ≤ q → q ≤ N → m1 195 q = lw (m 195 q + wt * tw_T w h n heat price cs D A p (q - k) B)) ∧ (∀ q, q < k → m1 195 q = m 195 q) ∧ ∀ i, i ≤ k → cS m1 (196 + 6 * i) n = cS m (196 + 6 * i) n := by
  intro j
  induction j with
  | zero =>
    intro k hk wt m B h0 h1 hv hB hok ht ht2
    obtain ⟨hi, hj, hkk, hl⟩ := hv
    rw [tw_gfU (show k < 9 by omega), hj.1, if_pos (show (N : Int) ≤ (k : Int) by omega), z_ladd_lw]
    refine ⟨_, rfl, ⟨C_upn hi (by unfold C_hit; exact decide_eq_false (by omega)), ?_, ?_, fun q hq => ?_⟩, fun q q1 q2 => ?_, fun q hq => zu_k (by omega), fun i hi => cS_fr fun j q hj _ => zu_p (by omega)⟩
    · rw [zu_p (by decide), zu_p (by decide), zu_p (by decide), zu_p (by decide)]
      exact hj
    · rw [zu_p (by decide), zu_p (by decide)]
      exact hkk
    · by_cases e : q = k
      · rw [e, zu_self, lw_lw]
      · rw [zu_k e]
        exact hl q hq
    · have e : q = k := by omega
      rw [e, zu_self, Nat.sub_self]
      show _ = lw (_ + wt * 1)
      rw [Int.mul_one]
  | succ j ih =>
    intro k hk wt m B h0 h1 hv hB hok ht ht2
    obtain ⟨hi, hj, hkk, hl⟩ := hv
    have he := tw_e_b (k := k) (by omega)
    have IH := ih (k + 1) (by omega)
    rw [tw_gfU (by omega), hj.1, if_neg (by omega), z_ladd_lw, hj.2.1]
    have hv0 : tn_inv w h n heat price D A c U kn KS cs N p (z_up m 195 k (lw (m 195 k + wt))) := by
      refine ⟨C_upn hi (by unfold C_hit; exact decide_eq_false (by omega)), ?_, ?_, fun q hq => ?_⟩
      · rw [zu_p (by decide), zu_p (by decide), zu_p (by decide), zu_p (by decide)]
        exact hj
      · rw [zu_p (by decide), zu_p (by decide)]
        exact hkk
      · by_cases e : q = k
        · rw [e, zu_self, lw_lw]
        · rw [zu_k e]
          exact hl q hq
    have g0 : ∀ q, ¬ q = k → (z_up m 195 k (lw (m 195 k + wt))) 195 q = m 195 q := fun q hq => zu_k hq
    have gk : (z_up m 195 k (lw (m 195 k + wt))) 195 k = lw (m 195 k + wt) := zu_self
    have gs : ∀ i, cS (z_up m 195 k (lw (m 195 k + wt))) (196 + 6 * i) n = cS m (196 + 6 * i) n := fun i => cS_fr fun j q hj _ => zu_p (by omega)
    generalize z_up m 195 k (lw (m 195 k + wt)) = m0 at hv0 g0 gk gs ⊢
    have w1 : 0 ≤ wt * p ∧ wt * p ≤ tw_e (k + 1) := by
      have a : wt * p ≤ wt * 10 := Int.mul_le_mul_of_nonneg_left hp.2 h0
      exact ⟨Int.mul_nonneg h0 hp.1, by show _ ≤ 10 * tw_e k; omega⟩
    have w2 : 0 ≤ wt * (10 - p) ∧ wt * (10 - p) ≤ tw_e (k + 1) := by
      have a : wt * (10 - p) ≤ wt * 10 := Int.mul_le_mul_of_nonneg_left (by omega) h0
      exact ⟨Int.mul_nonneg h0 (by omega), by show _ ≤ 10 * tw_e k; omega⟩
    have he1 := tw_e_b (k := k + 1) (by omega)
    have p1 : z_lmul wt (z_i2l p) = wt * p := by rw [z_i2l_eq (by omega) (by omega), z_lmul_lw, lw_of w1.1 (by omega)]
    have p2 : z_lmul wt (z_i2l (z_sub 10 p)) = wt * (10 - p) := by rw [z_sub_eq (by omega) (by omega), z_i2l_eq (by omega) (by omega), z_lmul_lw, lw_of w2.1 (by omega)]
    obtain ⟨m1, a1, a2, a3, a4, a5⟩ := tn_gt hN hN8 (by omega) IH 0 (wt * p) m0 B ⟨by decide, by decide⟩ w1.1 w1.2 hv0 ((gs k).trans hB) hok ht ht2
    rw [p1, a1, zb_n, tw_gf0_42, a2.2.1.2.2.1, a2.2.1.2.1, p2]
    obtain ⟨m2, b1, b2, b3, b4, b5⟩ := tn_gt hN hN8 (by omega) IH (A 36) (wt * (10 - p)) m1 B hfr w2.1 w2.2 a2 ((a5 k (Nat.le_refl k)).trans ((gs k).trans hB)) hok ht ht2
    rw [b1, zb_n, tw_gf0_61]
    refine ⟨m2, rfl, b2, fun q q1 q2 => ?_, fun q hq => ?_, fun i hi => (b5 i hi).trans ((a5 i hi).trans (gs i))⟩
    · by_cases e : q = k
      · rw [e, b4 k (by omega), a4 k (by omega), gk, Nat.sub_self]
        show _ = lw (_ + wt * 1)
        rw [Int.mul_one]
      · rw [b3 q (by omega) q2, a3 q (by omega) q2, g0 q e, lw_add, show q - k = (q - (k + 1)) + 1 by omega]
        congr 1
        show _ = _ + wt * (p * (if tw_ok w h (s_F w h A) (tw_St w h n heat price cs D B 0) = true then tw_T w h n heat price cs D A p (q - (k + 1)) (tw_St w h n heat price cs D B 0) else 0) + (10 - p) * (if tw_ok w h (s_F w h A) (tw_St w h n heat price cs D B (A 36)) = true then tw_T w h n heat price cs D A p (q - (k + 1)) (tw_St w h n heat price cs D B (A 36)) else 0))
        rw [Int.mul_add, ← Int.mul_assoc, ← Int.mul_assoc, Int.add_assoc]
    · rw [b4 q (by omega), a4 q (by omega), g0 q (by omega)]
theorem tn_sea (hi : C_is w h n heat price D A c U kn KS cs m) (hN : w_N w h n heat D) (hok : hr_ok n A) (ht : 0 ≤ A 35 ∧ A 35 ≤ 1073741824) (k6 : z_w (m 24 6) = m 24 6) (k9 : z_w (m 24 9) = m 24 9) {N : Nat} (hN8 : N ≤ 8) {p : Int} (hp : 0 ≤ p ∧ p ≤ 10) : ∃ m1, z_R 139 (m, 0, [(2, 193), (2, 12), (0, (N : Int)), (0, p), (9, 0)], []) = some (m1, none) ∧ C_is w h n heat price D A c U kn KS cs m1 ∧ ∀ q, q ≤ N → m1 195 q = tw_T w h n heat price cs D A p q A := by
  have e8 : m 12 8 = A 36 := by
    rw [← hi.2.2.1]
    exact (cS_at0 (s := 12) (j := 8) (by decide)).symm
  have hi0 : C_is w h n heat price D A c U kn KS cs (z_up (z_up (z_up m 193 4 (N : Int)) 193 5 p) 193 6 (A 36)) := C_upn (C_upn (C_upn hi (by decide)) (by decide)) (by decide)
  have g4 : (z_up (z_up (z_up m 193 4 (N : Int)) 193 5 p) 193 6 (A 36)) 193 4 = (N : Int) := by rw [zu_k (by decide), zu_k (by decide), zu_self]
  have g5 : (z_up (z_up (z_up m 193 4 (N : Int)) 193 5 p) 193 6 (A 36)) 193 5 = p := by rw [zu_k (by decide), zu_self]
  have g6 : (z_up (z_up (z_up m 193 4 (N : Int)) 193 5 p) 193 6 (A 36)) 193 6 = A 36 := zu_self
  have s0 : ∀ p' j, ¬ p' = 193 → (z_up (z_up (z_up m 193 4 (N : Int)) 193 5 p) 193 6 (A 36)) p' j = m p' j := fun p' j hp' => by rw [zu_p hp', zu_p hp', zu_p hp']
  rw [tw_sea_0, e8, if_neg (show ¬ (8 : Int) < (N : Int) by omega)]
  generalize z_up (z_up (z_up m 193 4 (N : Int)) 193 5 p) 193 6 (A 36) = m0 at hi0 g4 g5 g6 s0 ⊢
  have e := tw_floC (w := w) (h := h) (n := n) hi0.1.1 hi0.1.2.1 hi0.2.2.1 9 0 0 (by decide)
  have e : z_R 92 (m0, 4, [(2, 3), (2, 12), (0, 0), (0, 0)], []) = some (m0, some (0, s_F w h A)) := e
  rw [tw_flo_0, e, zb_v, tw_sea_32]
  have hi1 : C_is w h n heat price D A c U kn KS cs (z_up m0 193 7 (s_F w h A)) := C_upn hi0 (by decide)
  have f4 : (z_up m0 193 7 (s_F w h A)) 193 4 = (N : Int) := (zu_k (by decide)).trans g4
  have f5 : (z_up m0 193 7 (s_F w h A)) 193 5 = p := (zu_k (by decide)).trans g5
  have f6 : (z_up m0 193 7 (s_F w h A)) 193 6 = A 36 := (zu_k (by decide)).trans g6
  have f7 : (z_up m0 193 7 (s_F w h A)) 193 7 = s_F w h A := zu_self
  have s1 : ∀ p' j, ¬ p' = 193 → (z_up m0 193 7 (s_F w h A)) p' j = m p' j := fun p' j hp' => (zu_p hp').trans (s0 p' j hp')
  generalize z_up m0 193 7 (s_F w h A) = m1 at hi1 f4 f5 f6 f7 s1 ⊢
  obtain ⟨m2, a1, a2, a3⟩ := tw_zr (x2 := (N : Int)) (x3 := p) 9 0 m1 (by decide) (fun q hq => absurd hq (Nat.not_lt_zero q))
  have a1 : z_R 139 (m1, 38, [(2, 193), (2, 12), (0, (N : Int)), (0, p), (0, 0)], []) = ((z_R 61 (m2, 0, [(2, 196), (2, 12)], [])).bind fun qq => z_R 139 (qq.1, 69, [(2, 193), (2, 12), (0, (N : Int)), (0, p), (0, 9)], qq.2.toList ++ [])) := a1
  have hi2 : C_is w h n heat price D A c U kn KS cs m2 := C_fr hi1 fun p' j hk => a3 p' j fun z => by
    have hk' := hk
    unfold C_hit at hk'
    have hk' := of_decide_eq_true hk'
    omega
  obtain ⟨m3, b1, b2, b3⟩ := c_become z_st_12 (tw_zst (k := 0) (by decide)) (by decide) m2
  have b1 : z_R 61 (m2, 0, [(2, 196), (2, 12)], []) = some (m3, none) := b1
  have hi3 : C_is w h n heat price D A c U kn KS cs m3 := C_fr hi2 fun p k hk => by
    have hk' := hk
    unfold C_hit at hk'
    have hk' := of_decide_eq_true hk'
    exact b3.of (by (try unfold r_LHs); (repeat' (first | exact trivial | refine z_of_c ?_ ?_)) <;> omega)
  have t3 : ∀ p' j, ¬ (196 ≤ p' ∧ p' ≤ 201) → ¬ p' = 195 → m3 p' j = m1 p' j := fun p' j h1 h2 => (b3.of (by (try unfold r_LHs); (repeat' (first | exact trivial | refine z_of_c ?_ ?_)) <;> omega)).trans (a3 p' j h2)
  have w3 : ∀ q, q < 9 → m3 195 q = 0 := fun q hq => (b3.of (by (try unfold r_LHs); (repeat' (first | exact trivial | refine z_of_c ?_ ?_)) <;> omega)).trans (a2 q hq)
  have hv : tn_inv w h n heat price D A c U kn KS cs N p m3 := ⟨hi3, ⟨(t3 193 4 (by decide) (by decide)).trans f4, (t3 193 5 (by decide) (by decide)).trans f5, (t3 193 6 (by decide) (by decide)).trans f6, (t3 193 7 (by decide) (by decide)).trans f7⟩, ⟨by rw [t3 24 6 (by decide) (by decide), s1 24 6 (by decide)]; exact k6, by rw [t3 24 9 (by decide) (by decide), s1 24 9 (by decide)]; exact k9⟩, fun q hq => by rw [w3 q (by omega)]; exact lw_of (by decide) (by decide)⟩
  obtain ⟨m4, c1, c2, c3, -, -⟩ := tn_gf hN hN8 hp hok.2.2.2 N 0 (by omega) 1 m3 A (by decide) (by decide) hv ((cS_cR b2).trans hi2.2.2.1) hok ht.1 (by omega)
  have c1 : z_R 140 (m3, 0, [(2, 193), (0, 0), (1, 1), (9, 0)], []) = some (m4, none) := c1
  rw [a1, b1, zb_n, tw_sea_69, c1, zb_n, tw_sea_75]
  refine ⟨m4, rfl, c2.1, fun q hq => ?_⟩
  have hb := tw_th_b (tw_St w h n heat price cs D) (tw_ok w h (s_F w h A)) p (A 36) hp q A
  have he := tw_e_b (Nat.le_trans hq hN8)
  rw [c3 q (Nat.zero_le q) hq, w3 q (by omega), Nat.sub_zero, Int.zero_add, Int.one_mul]
  exact lw_of hb.1 (by unfold tw_T at *; omega)
theorem fr_nn {T : Int} {k : Nat} (hk : k ≤ 8) (h : 0 ≤ T ∧ T ≤ tw_e k) : ∃ P V : Nat, T = (P : Int) ∧ tw_e k = (V : Int) ∧ P ≤ 1000000000 ∧ V ≤ 1000000000 ∧ 0 < V := by
  have he := tw_e_b hk
  exact ⟨T.toNat, (tw_e k).toNat, by omega, by omega, by omega, by omega, by omega⟩
theorem X_thaw (hi : C_is w h n heat price D A c U kn KS cs m) (hN : w_N w h n heat D) (hok : hr_ok n A) (ht : 0 ≤ A 35 ∧ A 35 ≤ 1073741824) (k6 : z_w (m 24 6) = m 24 6) (k9 : z_w (m 24 9) = m 24 9) (a p : Int) : ∃ m1 v, z_R 138 (m, 0, [(2, 0), (0, a), (0, p)], []) = some (m1, some (0, v)) ∧ c_rw m m1 (fr_th w h n heat price cs D A a p) := by
  rw [h_thw_0]
  by_cases c : (1 ≤ a ∧ a ≤ 8) ∧ 0 ≤ p ∧ p ≤ 10
  · obtain ⟨k, rfl⟩ : ∃ k : Nat, a = (k : Int) := ⟨a.toNat, by omega⟩
    have e : fr_th w h n heat price cs D A (k : Int) p = some (fr_row (tw_T w h n heat price cs D A p (k : Int).toNat A) (tw_e (k : Int).toNat)) := if_pos c
    rw [Int.toNat_natCast] at e
    obtain ⟨m1, a1, a2, a3⟩ := tn_sea hi hN hok ht k6 k9 (N := k) (by omega) c.2
    obtain ⟨P, V, hP, hV, b1, b2, b3⟩ := fr_nn (show k ≤ 8 by omega) (tw_Tb (w := w) (h := h) (n := n) (heat := heat) (price := price) (cs := cs) (D := D) (A := A) c.2 k A)
    rw [if_neg (by omega), if_neg (by omega), if_neg (by omega), if_pos c.2.2, a1, zb_n, h_thw_36, if_pos (show 0 ≤ (k : Int) ∧ (k : Int) < 9 by omega), Int.toNat_natCast, tw_wh (by omega), zb_v, h_thw_50, a3 k (Nat.le_refl k), e, hP, hV]
    obtain ⟨m2, d1, d2⟩ := X_tfr (mz := m) (m := m1) (a := P) (b := V) b1 b2
    rw [d1, zb_n, h_thw_53]
    exact ⟨m2, _, rfl, d2⟩
  · have e : fr_th w h n heat price cs D A a p = none := if_neg c
    rw [e]
    by_cases c1 : a < 1
    · rw [if_pos c1]
      exact ⟨m, _, rfl, c_rw_id⟩
    rw [if_neg c1]
    by_cases c2 : 8 < a
    · rw [if_pos c2]
      exact ⟨m, _, rfl, c_rw_id⟩
    rw [if_neg c2]
    by_cases c3 : p < 0
    · rw [if_pos c3]
      exact ⟨m, _, rfl, c_rw_id⟩
    rw [if_neg c3, if_neg (by omega)]
    exact ⟨m, _, rfl, c_rw_id⟩
theorem Y_lt10 (hi : R_is w h n heat price D A c U kn KS cs m) : ∃ m1, z_R 219 (m, 0, [(2, 251)], []) = some (m1, none) ∧ R_is w h n heat price D A c U kn KS cs m1 ∧ rS m1 264 n = A ∧ m1 251 10 = m 251 10 := by
  obtain ⟨m1, b1, b2, b3⟩ := t_layd (a := 252) (q := 264) (B := 0) t_lay264_0 t_lay264_2 (by decide) (b := 0) (by decide) m
  have b1 : z_R 198 (m, 0, [(2, 252), (2, 264), (0, 0), (9, 0)], []) = some (m1, none) := b1
  rw [q_lt_0, b1, zb_n, q_lt_12]
  refine ⟨m1, rfl, R_fr hi fun p k hk => ?_, ?_, b3 251 10 (by omega)⟩
  · have hk' := hk
    unfold R_hit at hk'
    have hk' := of_decide_eq_true hk'
    exact b3 p k (by omega)
  · rw [← hi.2.2.1]
    refine rS_cp fun k hk => ?_
    have := b2 k hk
    rw [Nat.zero_add] at this
    exact this
theorem V_thin (hN : w_N w h n heat D) (hok : hr_ok n A) {N path : Nat} (hN8 : N ≤ 8) (hp : path < 256) {p acc : Int} : ∀ (f k : Nat) (m : z_M) (B : Nat → Int), k + f = N → R_is w h n heat price D A c U kn KS cs m → rS m 264 n = B → hr_ok n B → 0 ≤ B 35 → B 35 + 10 ≤ 2147483647 + (k : Int) → ∃ m1 x8, z_R 254 (m, 29, [(2, 251), (0, (N : Int)), (0, p), (1, acc), (9, 0), (0, (path : Int)), (0, s_F w h A), (0, 1), (0, (k : Int))], []) = ((z_R 101 (m1, 0, [(0, (path : Int))], [])).bind fun qq => z_R 254 (qq.1, 108, [(2, 251), (0, (N : Int)), (0, p), (1, acc), (9, 0), (0, (path : Int)), (0, s_F w h A), (0, if tw_is (tw_St w h n heat price cs D) (tw_ok w h (s_F w h A)) (A 36) f k path B = true then 1 else 0), (0, x8)], qq.2.toList ++ [])) ∧ R_is w h n heat price D A c U kn KS cs m1 ∧ m1 251 10 = m 251 10 := by
  intro f
  induction f with
  | zero =>
    intro k m B hk hi hB hB2 ht ht2
    refine ⟨m, (k : Int), ?_, hi, rfl⟩
    rw [tw_tha_29, if_pos (by omega)]
    rfl
  | succ f ih =>
    intro k m B hk hi hB hB2 ht ht2
    have go : ∀ fr : Int, (0 ≤ fr ∧ fr ≤ 9) → tw_nx (tw_St w h n heat price cs D) (A 36) k path B = tw_St w h n heat price cs D B fr → ∃ m1 x8, ((z_R 208 (z_up m 264 36 fr, 0, [(2, 251), (2, 264), (9, 0), (9, 0), (9, 0)], [])).bind fun qq => z_R 254 (qq.1, 76, [(2, 251), (0, (N : Int)), (0, p), (1, acc), (9, 0), (0, (path : Int)), (0, s_F w h A), (0, 1), (0, (k : Int))], qq.2.toList ++ [])) = ((z_R 101 (m1, 0, [(0, (path : Int))], [])).bind fun qq => z_R 254 (qq.1, 108, [(2, 251), (0, (N : Int)), (0, p), (1, acc), (9, 0), (0, (path : Int)), (0, s_F w h A), (0, if tw_is (tw_St w h n heat price cs D) (tw_ok w h (s_F w h A)) (A 36) (f + 1) k path B = true then 1 else 0), (0, x8)], qq.2.toList ++ [])) ∧ R_is w h n heat price D A c U kn KS cs m1 ∧ m1 251 10 = m 251 10 := by
      intro fr hfr hnx
      have hR3 : R_is w h n heat price D A c U kn KS cs (z_up m 264 36 fr) := R_upn hi (by decide)
      have hA3 : rS (z_up m 264 36 fr) 264 n = u_up B 36 fr := by rw [rS_up (by decide) (a_vis_hi (by decide)), hB]
      have g0 : (z_up m 264 36 fr) 251 10 = m 251 10 := zu_p (by decide)
      generalize z_up m 264 36 fr = m3 at hR3 hA3 g0 ⊢
      have h35 : u_up B 36 fr 35 = B 35 := u_up_ne (by decide)
      have hok3 : hr_ok n (u_up B 36 fr) := hr_ok_up hB2 (by decide) (fun _ => hfr) (fun p h1 h2 => by have := hN.1.2.2; omega)
      obtain ⟨m4, a1, a2, a3, a4, a5, a6, a7⟩ := r_hour (a := 264) z_A_264 (Or.inr rfl) hN.1.1 hN.1.2.1 (price := price) ⟨hN.1.2.2, hN.2.1, c_ml_ok cs, hN.2.2⟩ m3 (R_cfg hR3) hA3 hok3 (by rw [h35]; exact ht) (by rw [h35]; omega)
      have a1 : z_R 208 (m3, 0, [(2, 251), (2, 264), (9, 0), (9, 0), (9, 0)], []) = some (m4, none) := a1
      have s1 : z_same (r_LHs 264) m3 m4 := a7.subo (by (try unfold r_LHs); (repeat' (first | exact trivial | refine z_sbo_c ?_ ?_)) <;> (intro k h1 h2; first | exact z_on_h rfl (by omega) (by omega) | exact z_on_t (z_on_h rfl (by omega) (by omega)) | exact z_on_t (z_on_t (z_on_h rfl (by omega) (by omega))) | exact z_on_t (z_on_t (z_on_t (z_on_h rfl (by omega) (by omega)))) | exact z_on_t (z_on_t (z_on_t (z_on_t (z_on_h rfl (by omega) (by omega))))) | exact z_on_t (z_on_t (z_on_t (z_on_t (z_on_t (z_on_h rfl (by omega) (by omega)))))) | exact z_on_t (z_on_t (z_on_t (z_on_t (z_on_t (z_on_t (z_on_h rfl (by omega) (by omega))))))) | exact z_on_t (z_on_t (z_on_t (z_on_t (z_on_t (z_on_t (z_on_t (z_on_h rfl (by omega) (by omega)))))))) | exact z_on_t (z_on_t (z_on_t (z_on_t (z_on_t (z_on_t (z_on_t (z_on_t (z_on_h rfl (by omega) (by omega))))))))) | exact z_on_t (z_on_t (z_on_t (z_on_t (z_on_t (z_on_t (z_on_t (z_on_t (z_on_t (z_on_h rfl (by omega) (by omega)))))))))) | exact z_on_t (z_on_t (z_on_t (z_on_t (z_on_t (z_on_t (z_on_t (z_on_t (z_on_t (z_on_t (z_on_h rfl (by omega) (by omega))))))))))) | exact z_on_t (z_on_t (z_on_t (z_on_t (z_on_t (z_on_t (z_on_t (z_on_t (z_on_t (z_on_t (z_on_t (z_on_h rfl (by omega) (by omega)))))))))))) | exact z_on_t (z_on_t (z_on_t (z_on_t (z_on_t (z_on_t (z_on_t (z_on_t (z_on_t (z_on_t (z_on_t (z_on_t (z_on_h rfl (by omega) (by omega)))))))))))))))
      have hR4 := R_off264 hR3 s1
      have g4 : m4 251 10 = m 251 10 := (s1.of (p := 251) (k := 10) (by (try unfold r_LHs); (repeat' (first | exact trivial | refine z_of_c ?_ ?_)) <;> omega)).trans g0
      have hok4 := hr_A_ok (price := price) hN.1.1 hN.1.2.1 hN.1.2.2 hN.2.1 (c_ml_ok cs) (hN.2.2 (u_up B 36 fr 35) (by rw [h35]; exact ht)) hok3
      have e35 : hr_A w h heat price (c_ml cs) (wmD D (u_up B 36 fr 35)) n (u_up B 36 fr) 35 = u_up B 36 fr 35 + 1 := by rw [hr_A_35 hN.1.1 hN.1.2.1 hN.1.2.2, z_add_eq (by omega) (by omega)]
      rw [h35] at a2 hok4 e35
      have e2 : hr_A w h heat price (c_ml cs) (wmD D (B 35)) n (u_up B 36 fr) = tw_nx (tw_St w h n heat price cs D) (A 36) k path B := hnx.symm
      rw [e2] at a2 hok4 e35
      have hv := R_tha (w := w) (h := h) (n := n) hR4.1.1 hR4.1.2.1 a2 9 0 0 (by decide) (by decide +kernel)
      have hv : z_R 223 (m4, 4, [(2, 251), (2, 264), (0, 0), (0, 0)], []) = some (m4, some (0, s_G w h (tw_nx (tw_St w h n heat price cs D) (A 36) k path B))) := hv
      rw [a1, zb_n, tw_tha_76, q_tha_0, hv, zb_v, tw_tha_84, z_add_eq (by omega) (by omega), tc1]
      have eo : tw_ok w h (s_F w h A) (tw_nx (tw_St w h n heat price cs D) (A 36) k path B) = true ↔ z_and (s_G w h (tw_nx (tw_St w h n heat price cs D) (A 36) k path B)) (s_F w h A) = 0 := decide_eq_true_iff
      unfold tw_is
      by_cases y : z_and (s_G w h (tw_nx (tw_St w h n heat price cs D) (A 36) k path B)) (s_F w h A) = 0
      · rw [if_pos y, eo.mpr y, Bool.true_and]
        obtain ⟨m5, x8, d1, d2, d3⟩ := ih (k + 1) m4 _ (by omega) hR4 a2 hok4 (by omega) (by omega)
        exact ⟨m5, x8, d1, d2, d3.trans g4⟩
      · have eb : tw_ok w h (s_F w h A) (tw_nx (tw_St w h n heat price cs D) (A 36) k path B) = false := decide_eq_false y
        refine ⟨m4, ((k + 1 : Nat) : Int), ?_, hR4, g4⟩
        rw [if_neg y, eb, Bool.false_and, if_neg Bool.false_ne_true, tw_tha_29, if_pos (show (0 : Int) = 0 from rfl)]
        by_cases q : (N : Int) ≤ ((k + 1 : Nat) : Int)
        · rw [if_pos q]
        · rw [if_neg q]
    have hb := tw_bits path hp k (by omega)
    have e36 : m 252 36 = A 36 := R_A hi (by decide) (a_vis_hi (by decide))
    rw [tw_tha_29, if_neg (by omega), if_neg (show ¬ (1 : Int) = 0 by decide), t_has_0]
    by_cases y : z_and (z_shr (path : Int) (k : Int)) 1 = 1
    · have e : tw_nx (tw_St w h n heat price cs D) (A 36) k path B = tw_St w h n heat price cs D B 0 := by
        unfold tw_nx
        rw [if_pos (hb.mp y)]
      rw [if_pos y, zb_v, tw_tha_53, if_neg (show ¬ (1 : Int) = 0 by decide), if_pos (show (0 : Int) ≤ 36 ∧ (36 : Int) < 37 by decide)]
      exact go 0 (by decide) e
    · have e : tw_nx (tw_St w h n heat price cs D) (A 36) k path B = tw_St w h n heat price cs D B (A 36) := by
        unfold tw_nx
        rw [if_neg (fun z => y (hb.mpr z))]
      rw [if_neg y, zb_v, tw_tha_53, if_pos (show (0 : Int) = 0 from rfl), if_pos (show (0 : Int) ≤ 36 ∧ (36 : Int) < 37 by decide), e36]
      exact go (A 36) hok.2.2.2 e
theorem V_thout (hN : w_N w h n heat D) (hok : hr_ok n A) (ht : 0 ≤ A 35 ∧ A 35 ≤ 1073741824) {N : Nat} (hN8 : N ≤ 8) {p : Int} (hp : 0 ≤ p ∧ p ≤ 10) : ∀ (f x : Nat) (v6 v7 v8 : z_V) (m : z_M), x + f = 2 ^ N → R_is w h n heat price D A c U kn KS cs m → ∃ m1, z_R 254 (m, 5, [(2, 251), (0, (N : Int)), (0, p), (1, lw (tw_sm (fun q => tw_g (tw_St w h n heat price cs D) (tw_ok w h (s_F w h A)) p (A 36) N 0 q A) x)), (9, 0), (0, (x : Int)), v6, v7, v8], []) = some (m1, some (1, lw (tw_sm (fun q => tw_g (tw_St w h n heat price cs D) (tw_ok w h (s_F w h A)) p (A 36) N 0 q A) (2 ^ N)))) ∧ R_is w h n heat price D A c U kn KS cs m1 ∧ m1 251 10 = m 251 10 := by
  have e2 : z_shl 1 (N : Int) = ((2 ^ N : Nat) : Int) ∧ 2 ^ N ≤ 256 := by
    have : ∀ N, N < 9 → z_shl 1 ((N : Nat) : Int) = ((2 ^ N : Nat) : Int) ∧ 2 ^ N ≤ 256 := by decide +kernel
    exact this N (by omega)
  intro f
  induction f with
  | zero =>
    intro x v6 v7 v8 m hx hi
    obtain rfl : x = 2 ^ N := by omega
    rw [tw_tha_5, e2.1, if_pos (Int.le_refl _)]
    exact ⟨m, rfl, hi, rfl⟩
  | succ f ih =>
    intro x v6 v7 v8 m hx hi
    have e256 := e2.2
    obtain ⟨m2, b1, b2, b3, b4⟩ := Y_lt10 hi
    have hv := R_ice (w := w) (h := h) (n := n) b2.1.1 b2.1.2.1 b2.2.2.1 9 0 0 (by decide) (by decide +kernel)
    have hv : z_R 222 (m2, 4, [(2, 251), (0, 0), (0, 0)], []) = some (m2, some (0, s_F w h A)) := hv
    rw [tw_tha_5, e2.1, if_neg (by omega), b1, zb_n, tw_tha_17, q_ice_0, hv, zb_v, tw_tha_21]
    obtain ⟨m3, x8, c1, c2, c3⟩ := V_thin hN hok hN8 (path := x) (by omega) (p := p) (acc := lw (tw_sm (fun q => tw_g (tw_St w h n heat price cs D) (tw_ok w h (s_F w h A)) p (A 36) N 0 q A) x)) N 0 m2 A (by omega) b2 b3 hok ht.1 (by omega)
    have c1 : z_R 254 (m2, 29, [(2, 251), (0, (N : Int)), (0, p), (1, lw (tw_sm (fun q => tw_g (tw_St w h n heat price cs D) (tw_ok w h (s_F w h A)) p (A 36) N 0 q A) x)), (9, 0), (0, (x : Int)), (0, s_F w h A), (0, 1), (0, 0)], []) = _ := c1
    have hpc := tw_pcs N (by omega) x (by omega)
    have hct := tw_ct_le N 0 x
    have es : ∀ v, v = lw (tw_sm (fun q => tw_g (tw_St w h n heat price cs D) (tw_ok w h (s_F w h A)) p (A 36) N 0 q A) x + tw_g (tw_St w h n heat price cs D) (tw_ok w h (s_F w h A)) p (A 36) N 0 x A) → v = lw (tw_sm (fun q => tw_g (tw_St w h n heat price cs D) (tw_ok w h (s_F w h A)) p (A 36) N 0 q A) (x + 1)) := fun v hv => hv
    rw [c1, t_bc_0, zb_v, hpc, tw_tha_108, z_add_eq (x := (x : Int)) (y := 1) (by omega) (by omega), tc1]
    generalize hG : tw_sm (fun q => tw_g (tw_St w h n heat price cs D) (tw_ok w h (s_F w h A)) p (A 36) N 0 q A) x = S at es ⊢
    by_cases y : tw_is (tw_St w h n heat price cs D) (tw_ok w h (s_F w h A)) (A 36) N 0 x A = true
    · have eg : tw_g (tw_St w h n heat price cs D) (tw_ok w h (s_F w h A)) p (A 36) N 0 x A = tw_pw p (tw_ct N 0 x) * tw_pw (10 - p) (N - tw_ct N 0 x) := (if_pos y).trans (tw_pr_ct p N 0 x)
      have en := es (z_ladd (lw S) (z_lmul (tw_pw p (tw_ct N 0 x)) (tw_pw (10 - p) (N - tw_ct N 0 x)))) (by rw [z_ladd_lw, z_lmul_lw, lw_add, Int.add_comm, lw_add, Int.add_comm, eg])
      rw [if_pos y, if_neg (show ¬ (1 : Int) = 0 by decide), z_i2l_eq (x := p) (by omega) (by omega), tw_powR hp (by omega), zb_v, tw_tha_123, z_sub_eq (x := 10) (y := p) (by omega) (by omega), z_i2l_eq (x := 10 - p) (by omega) (by omega), z_sub_eq (x := (N : Int)) (by omega) (by omega), show (N : Int) - ((tw_ct N 0 x : Nat) : Int) = ((N - tw_ct N 0 x : Nat) : Int) by omega, tw_powR (v := 10 - p) ⟨by omega, by omega⟩ (by omega), zb_v, tw_tha_135, z_add_eq (x := (x : Int)) (y := 1) (by omega) (by omega), tc1, en]
      exact (ih (x + 1) _ _ _ m3 (by omega) c2).imp fun m5 z => ⟨z.1, z.2.1, z.2.2.trans (c3.trans b4)⟩
    · have eg : tw_g (tw_St w h n heat price cs D) (tw_ok w h (s_F w h A)) p (A 36) N 0 x A = 0 := if_neg y
      have en := es (z_ladd (lw S) 0) (by rw [z_ladd_lw, lw_add, eg])
      rw [if_neg y, if_pos (show (0 : Int) = 0 from rfl), en]
      exact (ih (x + 1) _ _ _ m3 (by omega) c2).imp fun m5 z => ⟨z.1, z.2.1, z.2.2.trans (c3.trans b4)⟩
theorem V_thR (hi : R_is w h n heat price D A c U kn KS cs m) (hN : w_N w h n heat D) (hok : hr_ok n A) (ht : 0 ≤ A 35 ∧ A 35 ≤ 1073741824) {N : Nat} (hN8 : N ≤ 8) {p : Int} (hp : 0 ≤ p ∧ p ≤ 10) : ∃ m1, z_R 254 (m, 0, [(2, 251), (0, (N : Int)), (0, p), (9, 0), (9, 0), (9, 0), (9, 0), (9, 0), (9, 0)], []) = some (m1, some (1, tw_T w h n heat price cs D A p N A)) ∧ R_is w h n heat price D A c U kn KS cs m1 ∧ m1 251 10 = m 251 10 := by
  obtain ⟨m1, a1, a2, a3⟩ := V_thout hN hok ht hN8 hp (2 ^ N) 0 (9, 0) (9, 0) (9, 0) m (by omega) hi
  have e0 : lw (tw_sm (fun q => tw_g (tw_St w h n heat price cs D) (tw_ok w h (s_F w h A)) p (A 36) N 0 q A) 0) = 0 := by
    show lw 0 = 0
    decide +kernel
  have hb := tw_Tb (w := w) (h := h) (n := n) (heat := heat) (price := price) (cs := cs) (D := D) (A := A) hp N A
  have he := tw_e_b hN8
  have e1 : lw (tw_sm (fun q => tw_g (tw_St w h n heat price cs D) (tw_ok w h (s_F w h A)) p (A 36) N 0 q A) (2 ^ N)) = tw_T w h n heat price cs D A p N A := by
    rw [tw_sum]
    exact lw_of hb.1 (Int.le_trans hb.2 (by omega))
  rw [e0, e1] at a1
  have a1 : z_R 254 (m, 5, [(2, 251), (0, (N : Int)), (0, p), (1, 0), (9, 0), (0, 0), (9, 0), (9, 0), (9, 0)], []) = some (m1, some (1, tw_T w h n heat price cs D A p N A)) := a1
  rw [tw_tha_0]
  exact ⟨m1, a1, a2, a3⟩
theorem Y_thaw (hi : R_is w h n heat price D A c U kn KS cs m) (hN : w_N w h n heat D) (hok : hr_ok n A) (ht : 0 ≤ A 35 ∧ A 35 ≤ 1073741824) (a p : Int) : ∃ m1 v, z_R 253 (m, 0, [(2, 251), (0, a), (0, p)], []) = some (m1, some (0, v)) ∧ r_rw m m1 (fr_th w h n heat price cs D A a p) := by
  have hu := R_upn (p0 := 251) (k0 := 11) (v := 0) hi (by decide)
  have hw0 : r_rw m (z_up m 251 11 0) none := r_rw_11
  rw [h_tht_0, r_in]
  generalize z_up m 251 11 0 = m0 at hu hw0 ⊢
  by_cases c1 : 1 ≤ a ∧ a ≤ 8
  · rw [if_pos c1, zb_v, h_tht_12, if_neg (show ¬ (1 : Int) = 0 by decide), r_in]
    by_cases c2 : 0 ≤ p ∧ p ≤ 10
    · obtain ⟨k, rfl⟩ : ∃ k : Nat, a = (k : Int) := ⟨a.toNat, by omega⟩
      have e : fr_th w h n heat price cs D A (k : Int) p = some (fr_row (tw_T w h n heat price cs D A p (k : Int).toNat A) (tw_e (k : Int).toNat)) := if_pos ⟨c1, c2⟩
      rw [Int.toNat_natCast] at e
      have hu1 := R_upn (p0 := 251) (k0 := 10) (v := 0) hu (by decide)
      have k10 : (z_up m0 251 10 0) 251 10 = ((0 : Nat) : Int) := zu_self
      rw [if_pos c2, zb_v, h_tht_22, if_neg (show ¬ (1 : Int) = 0 by decide)]
      generalize z_up m0 251 10 0 = m1 at hu1 k10 ⊢
      obtain ⟨m2, a1, a2, a3⟩ := V_thR hu1 hN hok ht (N := k) (by omega) c2
      obtain ⟨P, V, hP, hV, b1, b2, b3⟩ := fr_nn (show k ≤ 8 by omega) (tw_Tb (w := w) (h := h) (n := n) (heat := heat) (price := price) (cs := cs) (D := D) (A := A) c2 k A)
      rw [a1, zb_v, h_tht_39, tw_powR ⟨by decide, by decide⟩ (by omega), zb_v, h_tht_46, tw_pw_e, e, hP, hV]
      obtain ⟨m3, d1, d2⟩ := Y_tpa (mz := m) (m := m2) (a := P) (b := V) (a3.trans k10) b1 b2 b3
      rw [d1, zb_n, h_tht_49]
      exact ⟨m3, _, rfl, d2⟩
    · rw [if_neg c2, zb_v, h_tht_22, if_pos rfl]
      exact ⟨_, _, rfl, r_rw_m hw0 (if_neg (fun z => c2 z.2))⟩
  · rw [if_neg c1, zb_v, h_tht_12, if_pos rfl]
    exact ⟨_, _, rfl, r_rw_m hw0 (if_neg (fun z => c1 z.1))⟩
end
end
