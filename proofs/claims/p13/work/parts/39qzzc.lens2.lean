/-! HOW MANY NUMBERS ARE TOLD by carry, lodge, longest -/
section
variable {w h n : Nat} {heat price : Int} {D A : Nat → Int} {c : Nat} {U : Nat → Nat → Int} {kn : Nat → Int} {KS : Nat → Nat → Int} {cs : List Int} {m : z_M}
def ro_car (A : Nat → Int) (a : Int) : Option Nat := if ¬ (1 ≤ a ∧ a ≤ 5) then none else if A 34 = -1 then none else some a.toNat
theorem W_cyadd {N : Nat} (hN5 : N ≤ 5) {l : Int} : ∀ (f x : Nat) (m : z_M), x + f = N → m 0 13 = (x : Int) → m 153 6 = l → C_is w h n heat price D A c U kn KS cs m → ∃ m1, z_R 129 (m, 44, [(2, 0), (0, (N : Int)), (0, (x : Int))], []) = some (m1, some (0, l)) ∧ m1 0 13 = (N : Int) := by
  intro f
  induction f with
  | zero =>
    intro x m hx h13 hl hi
    rw [cy_car_44, if_pos (by omega), hl]
    exact ⟨m, rfl, h13.trans (by omega)⟩
  | succ f ih =>
    intro x m hx h13 hl hi
    rw [cy_car_44, if_neg (by omega), if_pos (by omega), c_add (j := x) m _ (by omega) h13, zb_n, cy_car_63, z_add_eq (x := (x : Int)) (y := 1) (by omega) (by omega), tc1]
    exact ih (x + 1) _ (by omega) zu_self (by rw [zu_p (by decide), zu_p (by decide)]; exact hl) (C_upn (C_upn hi (by unfold C_hit; exact decide_eq_false (by omega))) (by decide))
theorem W_carry (hi : C_is w h n heat price D A c U kn KS cs m) (hN : w_N w h n heat D) (hok : hr_ok n A) (ht : 0 ≤ A 35 ∧ A 35 ≤ 1073741824) (hw : wi w h n A) (k9 : z_w (m 24 9) = m 24 9) (a : Int) : ∃ m1, z_R 129 (m, 0, [(2, 0), (0, a), (9, 0)], []) = some (m1, some (0, cy_A w h n heat price cs D A a)) ∧ c_ln m m1 (ro_car A a) := by
  have e34 : m 12 6 = A 34 := by
    rw [← hi.2.2.1]
    exact (cS_at0 (s := 12) (j := 6) (by decide)).symm
  rw [cy_car_0]
  by_cases c1 : a < 1
  · have e : cy_A w h n heat price cs D A a = -1 := if_pos (by omega)
    rw [if_pos c1, e]
    exact ⟨m, rfl, c_ln_n (if_pos (by omega))⟩
  rw [if_neg c1]
  by_cases c2 : a ≤ 5
  · rw [if_pos c2, e34]
    by_cases c3 : A 34 = -1
    · have e : cy_A w h n heat price cs D A a = -2 := (if_neg (by omega)).trans (if_pos c3)
      rw [if_pos c3, e]
      exact ⟨m, rfl, c_ln_n ((if_neg (by omega)).trans (if_pos c3))⟩
    · have e : cy_A w h n heat price cs D A a = (cy_G w h n heat price cs D a.toNat 0 A 0 (fun _ => 0) (1000000, fun _ => 0)).1 := (if_neg (by omega)).trans (if_neg c3)
      obtain ⟨N, rfl⟩ : ∃ N : Nat, a = (N : Int) := ⟨a.toNat, by omega⟩
      rw [Int.toNat_natCast] at e
      rw [if_neg c3, cy_sea_0, if_neg (show ¬ (5 : Int) < (N : Int) by omega)]
      have hi0 : C_is w h n heat price D A c U kn KS cs (z_up (z_up m 153 5 (N : Int)) 153 6 (-1)) := C_upn (C_upn hi (by decide)) (by decide)
      have g5 : (z_up (z_up m 153 5 (N : Int)) 153 6 (-1)) 153 5 = (N : Int) := by rw [zu_k (by decide), zu_self]
      have g6 : (z_up (z_up m 153 5 (N : Int)) 153 6 (-1)) 153 6 = -1 := zu_self
      have g9 : (z_up (z_up m 153 5 (N : Int)) 153 6 (-1)) 24 9 = m 24 9 := by rw [zu_p (by decide), zu_p (by decide)]
      generalize z_up (z_up m 153 5 (N : Int)) 153 6 (-1) = m0 at hi0 g5 g6 g9 ⊢
      obtain ⟨m3, b1, b2, b3⟩ := c_become z_st_12 (cy_zst (k := 0) (by decide)) (by decide) m0
      have b1 : z_R 61 (m0, 0, [(2, 157), (2, 12)], []) = some (m3, none) := b1
      have hi3 : C_is w h n heat price D A c U kn KS cs m3 := C_fr hi0 fun p k hk => by
        have hk' := hk
        unfold C_hit at hk'
        have hk' := of_decide_eq_true hk'
        exact b3.of (by (repeat' (first | exact trivial | refine z_of_c ?_ ?_)) <;> omega)
      have hv : cy_iC w h n heat price D A c U kn KS cs N (1000000, fun _ => 0) m3 := ⟨hi3, (b3.of (by (repeat' (first | exact trivial | refine z_of_c ?_ ?_)) <;> omega)).trans g5, ((b3.of (by (repeat' (first | exact trivial | refine z_of_c ?_ ?_)) <;> omega)).trans g6).trans (if_pos rfl).symm, ⟨by decide, by decide⟩, Or.inl rfl, by rw [show m3 24 9 = m0 24 9 from b3.of (by (repeat' (first | exact trivial | refine z_of_c ?_ ?_)) <;> omega), g9]; exact k9⟩
      have hQ : cy_Q w h n 0 A := ⟨hok, ⟨ht.1, by omega⟩, hw⟩
      obtain ⟨m4, d1, d2, -, -⟩ := cy_gf (N := N) (by omega) hN N 0 (by omega) 0 m3 A (fun _ => 0) (1000000, fun _ => 0) (by decide) (by decide) hv ((cS_cR b2).trans hi0.2.2.1) hQ (fun i hi => absurd hi (Nat.not_lt_zero i))
      have d1 : z_R 131 (m3, 0, [(2, 153), (0, 0), (0, 0), (9, 0), (9, 0), (9, 0), (9, 0), (9, 0)], []) = some (m4, none) := d1
      have hfin : (cy_G w h n heat price cs D N 0 A 0 (fun _ => 0) (1000000, fun _ => 0)).1 ≤ 0 + 891 * (N : Int) := cy_fin (cy_Q_ok (price := price) (cs := cs) hN) (cy_Q_ne hN) N 0 A 0 (fun _ => 0) (1000000, fun _ => 0) (by omega) hQ
      have e6 : m4 153 6 = (if (cy_G w h n heat price cs D N 0 A 0 (fun _ => 0) (1000000, fun _ => 0)).1 = 1000000 then -1 else (cy_G w h n heat price cs D N 0 A 0 (fun _ => 0) (1000000, fun _ => 0)).1) := d2.2.2.1
      rw [if_neg (show ¬ (cy_G w h n heat price cs D N 0 A 0 (fun _ => 0) (1000000, fun _ => 0)).1 = 1000000 from fun z => by
        rw [z] at hfin
        omega)] at e6
      rw [b1, zb_n, cy_sea_24, d1, zb_n, cy_sea_30, zb_n, cy_car_38, s_tell0_0, zb_n, cy_car_42, e]
      obtain ⟨m5, k1, k2⟩ := W_cyadd (N := N) (by omega) N 0 _ (by omega) zu_self ((zu_p (by decide)).trans e6) (C_upn d2.1 (by decide))
      refine ⟨m5, k1, c_ln_s ((if_neg (by omega)).trans (if_neg c3)) ?_⟩
      rw [Int.toNat_natCast]
      exact k2
  · have e : cy_A w h n heat price cs D A a = -1 := if_pos (by omega)
    rw [if_neg c2, e]
    exact ⟨m, rfl, c_ln_n (if_pos (by omega))⟩
theorem V_cytel {N : Nat} (hN5 : N ≤ 5) {l : Int} : ∀ (f x : Nat) (m : z_M), x + f = N → m 251 10 = (x : Int) → m 251 49 = l → R_is w h n heat price D A c U kn KS cs m → ∃ m1, z_R 245 (m, 55, [(2, 251), (0, (N : Int)), (0, (x : Int))], []) = some (m1, some (0, l)) ∧ m1 251 10 = (N : Int) := by
  intro f
  induction f with
  | zero =>
    intro x m hx h10 hl hi
    rw [cy_tca_55, if_pos (by omega), hl]
    exact ⟨m, rfl, h10.trans (by omega)⟩
  | succ f ih =>
    intro x m hx h10 hl hi
    rw [cy_tca_55, if_neg (by omega), if_pos (by omega), t_tell (j := x) m _ (by omega) h10, zb_n, cy_tca_71, z_add_eq (x := (x : Int)) (y := 1) (by omega) (by omega), tc1]
    exact ih (x + 1) _ (by omega) zu_self (by rw [zu_k (by decide), zu_p (by decide)]; exact hl) (R_upn (R_upn hi (by unfold R_hit; exact decide_eq_false (by omega))) (by decide))
theorem V_carry (hi : R_is w h n heat price D A c U kn KS cs m) (hN : w_N w h n heat D) (hok : hr_ok n A) (ht : 0 ≤ A 35 ∧ A 35 ≤ 1073741824) (hw : wi w h n A) (a : Int) : ∃ m1, z_R 245 (m, 0, [(2, 251), (0, a), (9, 0)], []) = some (m1, some (0, cy_A w h n heat price cs D A a)) ∧ r_ln m m1 (ro_car A a) := by
  have e34 : m 252 34 = A 34 := R_A hi (by decide) (a_vis_hi (by decide))
  have hu := R_upn (p0 := 251) (k0 := 11) (v := 0) hi (by decide)
  have hw0 : (z_up m 251 11 0) 251 10 = m 251 10 := zu_k (by decide)
  rw [cy_tca_0, e34]
  generalize z_up m 251 11 0 = m0 at hu hw0 ⊢
  by_cases c1 : 1 ≤ a ∧ a ≤ 5
  · rw [if_pos c1]
    by_cases c3 : A 34 = -1
    · have e : cy_A w h n heat price cs D A a = -2 := (if_neg (not_not_intro c1)).trans (if_pos c3)
      rw [if_pos c3, e]
      exact ⟨_, rfl, r_ln_n hw0 ((if_neg (not_not_intro c1)).trans (if_pos c3))⟩
    · have e : cy_A w h n heat price cs D A a = (cy_G w h n heat price cs D a.toNat 0 A 0 (fun _ => 0) (1000000, fun _ => 0)).1 := (if_neg (not_not_intro c1)).trans (if_neg c3)
      obtain ⟨N, rfl⟩ : ∃ N : Nat, a = (N : Int) := ⟨a.toNat, by omega⟩
      rw [Int.toNat_natCast] at e
      obtain ⟨m1, b1, b2, b3⟩ := R_lt hu
      have hQ : cy_Q w h n 0 A := ⟨hok, ⟨ht.1, by omega⟩, hw⟩
      have hv : cy_iR w h n heat price D A c U kn KS cs N (1000000, fun _ => 0) (z_up m1 251 49 1000000) := ⟨R_upn b2 (by decide), zu_self, Or.inl rfl⟩
      obtain ⟨m4, d1, d2, -, -⟩ := cy_gc (N := N) (by omega) hN N 0 (by omega) 0 (z_up m1 251 49 1000000) A (fun _ => 0) (1000000, fun _ => 0) (by decide) (by decide) hv ((rS_row (zu_rowne (by decide))).trans b3) hQ (fun i hi => absurd hi (Nat.not_lt_zero i))
      have d1 : z_R 246 (z_up m1 251 49 1000000, 0, [(2, 251), (0, 0), (0, (N : Int)), (0, 0), (9, 0), (9, 0), (9, 0), (9, 0)], []) = some (m4, none) := d1
      rw [if_neg c3, b1, zb_n, cy_tca_34, d1, zb_n, cy_tca_48, e]
      obtain ⟨m5, k1, k2⟩ := V_cytel (N := N) (by omega) N 0 _ (by omega) zu_self ((zu_k (by decide)).trans d2.2.1) (R_upn d2.1 (by decide))
      refine ⟨m5, k1, r_ln_s ((if_neg (not_not_intro c1)).trans (if_neg c3)) ?_⟩
      rw [Int.toNat_natCast]
      exact k2
  · have e : cy_A w h n heat price cs D A a = -1 := if_pos c1
    rw [if_neg c1, e]
    exact ⟨_, rfl, r_ln_n hw0 (if_pos c1)⟩
def ro_lod (w h n : Nat) (heat price : Int) (cs : List Int) (D A : Nat → Int) (a : Int) : Option Nat := if a < 1 ∨ 40 < a then none else if 4 < (o_ls A n 0).length then none else some (if (lo_g (lo_V w h n heat price cs D A (o_ls A n 0) a.toNat) ((a.toNat : Nat) : Int) w h (o_ls A n 0).length 0 (fun _ => 0) (0, -1, fun _ => 0)).1 ≤ 0 then 0 else (o_ls A n 0).length)
theorem ro_lod_g {N : Nat} (h1 : 1 ≤ N) (h2 : N ≤ 40) (h3 : ¬ 4 < (o_ls A n 0).length) : ro_lod w h n heat price cs D A (N : Int) = some (if (lo_g (lo_V w h n heat price cs D A (o_ls A n 0) N) (N : Int) w h (o_ls A n 0).length 0 (fun _ => 0) (0, -1, fun _ => 0)).1 ≤ 0 then 0 else (o_ls A n 0).length) := by
  unfold ro_lod
  rw [if_neg (by omega), if_neg h3, Int.toNat_natCast]
def ro_lon (w h n : Nat) (A : Nat → Int) : Option Nat := if z_mul (w : Int) (h : Int) < ((o_ls A n 0).length : Int) ∨ 4 < (o_ls A n 0).length then none else some (o_ls A n 0).length
theorem W_telL {L : Nat} (hL : L ≤ 4) : ∀ (f x : Nat) (m : z_M), x + f = L → m 122 9 = (L : Int) → m 0 13 = (x : Int) → ∃ m1, z_R 108 (m, 2, [(2, 0), (0, (x : Int))], []) = some (m1, none) ∧ (∀ p k, ¬ p = 250 → ¬ (p = 0 ∧ k = 13) → m1 p k = m p k) ∧ m1 0 13 = (L : Int) := by
  intro f
  induction f with
  | zero =>
    intro x m hx h9 h13
    rw [lo_tel_2, h9, if_pos (by omega)]
    exact ⟨m, rfl, fun _ _ _ _ => rfl, h13.trans (by omega)⟩
  | succ f ih =>
    intro x m hx h9 h13
    rw [lo_tel_2, h9, if_neg (by omega), if_pos (by omega), c_add (j := x) m _ (by omega) h13, zb_n, lo_tel_27, z_add_eq (x := (x : Int)) (y := 1) (by omega) (by omega), tc1]
    obtain ⟨m1, a1, a2, a3⟩ := ih (x + 1) (z_up (z_up m 250 x (z_i2l (m 137 ((x : Nat) : Int).toNat))) 0 13 ((x + 1 : Nat) : Int)) (by omega) (by rw [zu_p (by decide), zu_p (by decide)]; exact h9) zu_self
    exact ⟨m1, a1, fun p k h1 h2 => by rw [a2 p k h1 h2, X_up h2, zu_p h1], a3⟩
theorem W_lodge (hi : C_is w h n heat price D A c U kn KS cs m) (hN : w_N w h n heat D) (hok : hr_ok n A) (ht : 0 ≤ A 35 ∧ A 35 ≤ 1073741824) (h138 : ∀ b, b < 3 → m 138 b = 0) (a : Int) : ∃ m1, z_R 98 (m, 0, [(2, 0), (0, a)], []) = some (m1, some (0, lo_A w h n heat price cs D A a)) ∧ c_ln m m1 (ro_lod w h n heat price cs D A a) := by
  have n5 := hN.1.2.2
  rw [lo_lod_0]
  by_cases c1 : a < 1
  · have e : lo_A w h n heat price cs D A a = -1 := if_pos (Or.inl c1)
    rw [if_pos c1, e]
    exact ⟨m, rfl, c_ln_n (if_pos (Or.inl c1))⟩
  rw [if_neg c1]
  by_cases c2 : 40 < a
  · have e : lo_A w h n heat price cs D A a = -1 := if_pos (Or.inr c2)
    rw [if_neg (by omega), e]
    exact ⟨m, rfl, c_ln_n (if_pos (Or.inr c2))⟩
  obtain ⟨N, rfl⟩ : ∃ N : Nat, a = (N : Int) := ⟨a.toNat, by omega⟩
  rw [if_pos (by omega), lo_inrL hi n5, zb_v, lo_lod_24]
  by_cases c3 : 4 < (o_ls A n 0).length
  · have e : lo_A w h n heat price cs D A (N : Int) = -3 := by
      unfold lo_A
      rw [if_neg (by omega), if_pos c3]
    rw [if_neg (by omega), e]
    exact ⟨m, rfl, c_ln_n ((if_neg (by omega)).trans (if_pos c3))⟩
  rw [lo_A_g (by omega) (by omega) c3, ro_lod_g (by omega) (by omega) c3]
  obtain ⟨m2, b1, b2, b3, b4, b5, b6, b7⟩ := lo_seaJ (N := N) (by omega) hN hok ht hi h138 (by omega) 1
  have hJ : lo_J w h n heat price D A c U kn KS cs (o_ls A n 0) N (0, -1, fun _ => 0) m2 := ⟨b2, b3, b4, b5, by decide +kernel, b6, Int.le_refl (-1), Or.inl rfl⟩
  obtain ⟨m3, d1, d2, d3, d4⟩ := lo_plaC (N := N) (by omega) hN hok ht (lo_ls_ok n A) (by omega) (o_ls A n 0).length 0 (by omega) 0 (fun _ => 0) (0, -1, fun _ => 0) m2 ⟨fun i hi => absurd hi (Nat.not_lt_zero i), fun i j _ hj => absurd hj (Nat.not_lt_zero j)⟩ (lo_tk_0 _) hJ (fun i hi => absurd hi (Nat.not_lt_zero i)) (fun b hb => b7 b hb)
  have d1 : z_R 106 (m2, 0, [(2, 122), (0, 0), (0, 0), (9, 0), (9, 0)], []) = some (m3, none) := d1
  rw [if_pos (by omega), b1, d1, zb_n, lo_sea_147, zb_n, lo_lod_44, s_tell0_0, zb_n, lo_lod_48]
  generalize lo_g (lo_V w h n heat price cs D A (o_ls A n 0) N) (N : Int) w h (o_ls A n 0).length 0 (fun _ => 0) (0, -1, fun _ => 0) = G at d2 ⊢
  have ez : (z_up m3 0 13 0) 122 12 = G.1 := (zu_p (by decide)).trans d2.2.2.2.1
  have hC4 : C_is w h n heat price D A c U kn KS cs (z_up m3 0 13 0) := C_upn d2.1.1 (by decide)
  have g138 : ∀ b, b < 3 → (z_up m3 0 13 0) 138 b = 0 := fun b hb => (zu_p (by decide)).trans ((d4 b hb).trans (b7 b hb))
  have e9 : (z_up m3 0 13 0) 122 9 = ((o_ls A n 0).length : Int) := (zu_p (by decide)).trans d2.1.2.1
  have e13 : (z_up m3 0 13 0) 0 13 = ((0 : Nat) : Int) := zu_self
  generalize z_up m3 0 13 0 = m4 at ez hC4 g138 e9 e13 ⊢
  rw [ez]
  by_cases c4 : G.1 ≤ 0
  · rw [if_pos c4, if_pos c4]
    exact ⟨m4, rfl, e13⟩
  · obtain ⟨m5, f1, f2, f3⟩ := W_telL (L := (o_ls A n 0).length) (by omega) (o_ls A n 0).length 0 m4 (by omega) e9 e13
    have f1 : z_R 108 (m4, 2, [(2, 0), (0, 0)], []) = some (m5, none) := f1
    rw [if_neg c4, if_neg c4, lo_tel_0, f1, zb_n, lo_lod_62, f2 122 12 (by decide) (by decide), ez]
    exact ⟨m5, rfl, f3⟩
theorem V_tteL {L : Nat} (hL : L ≤ 4) : ∀ (f x : Nat) (m : z_M), x + f = L → m 251 39 = (L : Int) → m 251 10 = (x : Int) → ∃ m1, z_R 231 (m, 2, [(2, 251), (0, (x : Int))], []) = some (m1, none) ∧ (∀ p k, ¬ p = 255 → ¬ (p = 251 ∧ k = 10) → m1 p k = m p k) ∧ m1 251 10 = (L : Int) := by
  intro f
  induction f with
  | zero =>
    intro x m hx h39 h10
    rw [lo_tte_2, h39, if_pos (by omega)]
    exact ⟨m, rfl, fun _ _ _ _ => rfl, h10.trans (by omega)⟩
  | succ f ih =>
    intro x m hx h39 h10
    rw [lo_tte_2, h39, if_neg (by omega), if_pos (by omega), t_tell (j := x) m _ (by omega) h10, zb_n, lo_tte_21, z_add_eq (x := (x : Int)) (y := 1) (by omega) (by omega), tc1]
    obtain ⟨m1, a1, a2, a3⟩ := ih (x + 1) (z_up (z_up m 255 x (z_i2l (m 267 ((x : Nat) : Int).toNat))) 251 10 ((x + 1 : Nat) : Int)) (by omega) (by rw [zu_k (by decide), zu_p (by decide)]; exact h39) zu_self
    exact ⟨m1, a1, fun p k h1 h2 => by rw [a2 p k h1 h2, X_up h2, zu_p h1], a3⟩
theorem V_lodge (hi : R_is w h n heat price D A c U kn KS cs m) (hN : w_N w h n heat D) (hok : hr_ok n A) (ht : 0 ≤ A 35 ∧ A 35 ≤ 1073741824) (a : Int) : ∃ m1, z_R 227 (m, 0, [(2, 251), (0, a)], []) = some (m1, some (0, lo_A w h n heat price cs D A a)) ∧ r_ln m m1 (ro_lod w h n heat price cs D A a) := by
  have n5 := hN.1.2.2
  rw [lo_tlo_0]
  by_cases c1 : ¬ (1 ≤ a ∧ a ≤ 40)
  · have e : lo_A w h n heat price cs D A a = -1 := if_pos (by omega)
    rw [if_neg c1, e]
    exact ⟨_, rfl, r_ln_n (zu_k (by decide)) (if_pos (by omega))⟩
  have c1 : 1 ≤ a ∧ a ≤ 40 := Decidable.not_not.mp c1
  obtain ⟨N, rfl⟩ : ∃ N : Nat, a = (N : Int) := ⟨a.toNat, by omega⟩
  have hu := R_upn (p0 := 251) (k0 := 39) (v := 0) (R_upn (p0 := 251) (k0 := 11) (v := 0) hi (by decide)) (by decide)
  have g0 : (z_up (z_up m 251 11 0) 251 39 0) 251 39 = ((0 : Nat) : Int) := zu_self
  have hw : (z_up (z_up m 251 11 0) 251 39 0) 251 10 = m 251 10 := (zu_k (by decide)).trans (zu_k (by decide))
  rw [if_pos c1, b_fl_0]
  generalize z_up (z_up m 251 11 0) 251 39 0 = m0 at hu g0 hw ⊢
  obtain ⟨m1, a1, a2, a3, a4⟩ := R_fl1 n5 n 0 0 m0 (by omega) (Nat.le_refl _) hu g0
  have a1 : z_R 228 (m0, 7, [(2, 251), (0, 0)], []) = some (m1, none) := a1
  rw [Nat.zero_add] at a2
  have hR1 : R_is w h n heat price D A c U kn KS cs m1 := R_fr hu fun p k hk => by
    have z := R_hit_no hk
    exact a4 p k (by omega) (by omega)
  rw [a1, zb_n, lo_tlo_21, a2]
  by_cases c3 : 4 < (o_ls A n 0).length
  · have e : lo_A w h n heat price cs D A (N : Int) = -3 := by
      unfold lo_A
      rw [if_neg (by omega), if_pos c3]
    rw [if_neg (by omega), e]
    exact ⟨m1, rfl, r_ln_n ((a4 251 10 (by decide) (by decide)).trans hw) ((if_neg (by omega)).trans (if_pos c3))⟩
  rw [lo_A_g (by omega) (by omega) c3, ro_lod_g (by omega) (by omega) c3, if_pos (by omega), lo_tla_0]
  have hK : lo_K w h n heat price D A c U kn KS cs (o_ls A n 0) (0, -1, fun _ => 0) (z_up (z_up m1 251 42 0) 251 43 (-1)) := by
    refine ⟨R_upn (R_upn hR1 (by decide)) (by decide), ?_, fun i hi => ?_, ?_, by decide +kernel, zu_self, Int.le_refl (-1), Or.inl rfl⟩
    · rw [zu_k (by decide), zu_k (by decide), a2]
    · have := lo_hl (l := []) (o_ls A n 0) 0 a3 i hi
      rw [Nat.zero_add] at this
      rw [zu_p (by decide), zu_p (by decide)]
      exact this
    · rw [zu_k (by decide), zu_self]
  generalize z_up (z_up m1 251 42 0) 251 43 (-1) = m2 at hK ⊢
  obtain ⟨m3, d1, d2, d3⟩ := lo_glL (N := N) (by omega) hN hok ht (lo_ls_ok n A) (by omega) (o_ls A n 0).length 0 (by omega) 0 (fun _ => 0) (0, -1, fun _ => 0) m2 (fun i hi => absurd hi (Nat.not_lt_zero i)) (lo_tk_0 _) hK (fun i hi => absurd hi (Nat.not_lt_zero i))
  have d1 : z_R 230 (m2, 0, [(2, 251), (0, 0), (0, 0), (0, (N : Int)), (9, 0), (9, 0)], []) = some (m3, none) := d1
  rw [d1, zb_n, lo_tla_17, zb_n, lo_tlo_37]
  generalize lo_g (lo_V w h n heat price cs D A (o_ls A n 0) N) (N : Int) w h (o_ls A n 0).length 0 (fun _ => 0) (0, -1, fun _ => 0) = G at d2 ⊢
  have e42 : m3 251 42 = G.1 := d2.2.2.2.1
  rw [e42]
  by_cases c4 : G.1 ≤ 0
  · rw [if_pos c4, if_pos c4]
    exact ⟨_, rfl, zu_self⟩
  · obtain ⟨m5, f1, f2, f3⟩ := V_tteL (L := (o_ls A n 0).length) (by omega) (o_ls A n 0).length 0 (z_up m3 251 10 0) (by omega) ((zu_k (by decide)).trans d2.2.1) zu_self
    have f1 : z_R 231 (z_up m3 251 10 0, 2, [(2, 251), (0, 0)], []) = some (m5, none) := f1
    rw [if_neg c4, if_neg c4, lo_tte_0, f1, zb_n, lo_tlo_53, f2 251 42 (by decide) (by decide), zu_k (by decide), e42]
    exact ⟨m5, rfl, f3⟩
theorem W_longest (hi : C_is w h n heat price D A c U kn KS cs m) (hN : w_N w h n heat D) (hok : hr_ok n A) (ht : 0 ≤ A 35 ∧ A 35 ≤ 1073741824) (h138 : ∀ b, b < 3 → m 138 b = 0) : ∃ m1 v, z_R 109 (m, 0, [(2, 0), (9, 0)], []) = some (m1, some (0, v)) ∧ c_ln m m1 (ro_lon w h n A) := by
  have n5 := hN.1.2.2
  rw [lo_lon_0, lo_inrL hi n5, zb_v, lo_lon_11, hi.1.1, hi.1.2.1]
  by_cases c1 : ((o_ls A n 0).length : Int) ≤ z_mul (w : Int) (h : Int)
  · rw [if_pos c1]
    by_cases c2 : 4 < (o_ls A n 0).length
    · rw [if_neg (by omega)]
      exact ⟨m, _, rfl, c_ln_n (if_pos (Or.inr c2))⟩
    obtain ⟨m2, b1, b2, b3, b4, b5, b6, b7⟩ := lo_seaJ (N := 100) (by omega) hN hok ht hi h138 (by omega) 0
    have b1 : z_R 102 (m, 0, [(2, 122), (2, 12), (0, 100), (0, 0), (9, 0)], []) = ((z_R 106 (m2, 0, [(2, 122), (0, 0), (0, 0), (9, 0), (9, 0)], [])).bind fun qq => z_R 102 (qq.1, 147, [(2, 122), (2, 12), (0, 100), (0, 0), (0, (w : Int))], qq.2.toList ++ [])) := b1
    obtain ⟨m3, d1, d2, d3⟩ := lo_plaF hN.1.1 (show (o_ls A n 0).length ≤ 4 by omega) (o_ls A n 0).length 0 (by omega) 0 m2 b2.1.1.1 b2.2.1 (fun b hb => by rw [b7 b hb]; decide +kernel)
    have d1 : z_R 106 (m2, 0, [(2, 122), (0, 0), (0, 0), (9, 0), (9, 0)], []) = some (m3, none) := d1
    have e9 : (z_up m3 0 13 0) 122 9 = ((o_ls A n 0).length : Int) := (zu_p (by decide)).trans ((d3 122 9 (by decide) (by decide) (by decide) (by decide)).trans b2.2.1)
    obtain ⟨m5, f1, f2, f3⟩ := W_telL (L := (o_ls A n 0).length) (by omega) (o_ls A n 0).length 0 (z_up m3 0 13 0) (by omega) e9 zu_self
    have f1 : z_R 108 (z_up m3 0 13 0, 2, [(2, 0), (0, 0)], []) = some (m5, none) := f1
    rw [if_pos (by omega), b1, d1, zb_n, lo_sea_147, zb_n, lo_lon_56, s_tell0_0, zb_n, lo_lon_60, lo_tel_0, f1, zb_n, lo_lon_64]
    exact ⟨m5, _, rfl, c_ln_s (if_neg (by omega)) f3⟩
  · rw [if_neg c1]
    exact ⟨m, _, rfl, c_ln_n (if_pos (Or.inl (by omega)))⟩
theorem V_longest (hi : R_is w h n heat price D A c U kn KS cs m) (hN : w_N w h n heat D) (hok : hr_ok n A) (ht : 0 ≤ A 35 ∧ A 35 ≤ 1073741824) : ∃ m1 v, z_R 232 (m, 0, [(2, 251)], []) = some (m1, some (0, v)) ∧ r_ln m m1 (ro_lon w h n A) := by
  have n5 := hN.1.2.2
  have hu := R_upn (p0 := 251) (k0 := 39) (v := 0) (R_upn (p0 := 251) (k0 := 11) (v := 0) hi (by decide)) (by decide)
  have g0 : (z_up (z_up m 251 11 0) 251 39 0) 251 39 = ((0 : Nat) : Int) := zu_self
  have hw : (z_up (z_up m 251 11 0) 251 39 0) 251 10 = m 251 10 := (zu_k (by decide)).trans (zu_k (by decide))
  rw [ll_tlo_0, b_fl_0]
  generalize z_up (z_up m 251 11 0) 251 39 0 = m0 at hu g0 hw ⊢
  obtain ⟨m1, a1, a2, a3, a4⟩ := R_fl1 n5 n 0 0 m0 (by omega) (Nat.le_refl _) hu g0
  have a1 : z_R 228 (m0, 7, [(2, 251), (0, 0)], []) = some (m1, none) := a1
  rw [Nat.zero_add] at a2
  have hR1 : R_is w h n heat price D A c U kn KS cs m1 := R_fr hu fun p k hk => by
    have z := R_hit_no hk
    exact a4 p k (by omega) (by omega)
  rw [a1, zb_n, ll_tlo_9, a2, hR1.1.1, hR1.1.2.1]
  by_cases c3 : 4 < (o_ls A n 0).length
  · rw [if_neg (by omega)]
    exact ⟨m1, _, rfl, r_ln_n ((a4 251 10 (by decide) (by decide)).trans hw) (if_pos (Or.inr c3))⟩
  rw [if_pos (by omega)]
  by_cases c2 : ((o_ls A n 0).length : Int) ≤ z_mul (w : Int) (h : Int)
  · rw [if_pos c2, lo_tla_0]
    have hK : lo_K w h n heat price D A c U kn KS cs (o_ls A n 0) (0, -1, fun _ => 0) (z_up (z_up m1 251 42 0) 251 43 (-1)) := by
      refine ⟨R_upn (R_upn hR1 (by decide)) (by decide), ?_, fun i hi => ?_, ?_, by decide +kernel, zu_self, Int.le_refl (-1), Or.inl rfl⟩
      · rw [zu_k (by decide), zu_k (by decide), a2]
      · have := lo_hl (l := []) (o_ls A n 0) 0 a3 i hi
        rw [Nat.zero_add] at this
        rw [zu_p (by decide), zu_p (by decide)]
        exact this
      · rw [zu_k (by decide), zu_self]
    generalize z_up (z_up m1 251 42 0) 251 43 (-1) = m2 at hK ⊢
    obtain ⟨m3, d1, d2, d3⟩ := lo_glL (N := 100) (by omega) hN hok ht (lo_ls_ok n A) (by omega) (o_ls A n 0).length 0 (by omega) 0 (fun _ => 0) (0, -1, fun _ => 0) m2 (fun i hi => absurd hi (Nat.not_lt_zero i)) (lo_tk_0 _) hK (fun i hi => absurd hi (Nat.not_lt_zero i))
    have d1 : z_R 230 (m2, 0, [(2, 251), (0, 0), (0, 0), (0, 100), (9, 0), (9, 0)], []) = some (m3, none) := d1
    obtain ⟨m5, f1, f2, f3⟩ := V_tteL (L := (o_ls A n 0).length) (by omega) (o_ls A n 0).length 0 (z_up m3 251 10 0) (by omega) ((zu_k (by decide)).trans d2.2.1) zu_self
    have f1 : z_R 231 (z_up m3 251 10 0, 2, [(2, 251), (0, 0)], []) = some (m5, none) := f1
    rw [d1, zb_n, lo_tla_17, zb_n, ll_tlo_45, lo_tte_0, f1, zb_n, ll_tlo_54]
    exact ⟨m5, _, rfl, r_ln_s (if_neg (by omega)) f3⟩
  · rw [if_neg c2]
    exact ⟨m1, _, rfl, r_ln_n ((a4 251 10 (by decide) (by decide)).trans hw) (if_pos (Or.inl (by omega)))⟩
end
theorem two_carry : l_two ln_Q (974, 148, 129, 1, false, 985, 151, 245) := by
  intro M1 M2 M3 σ σ1 σ2 as v1 v2 C1 C2 ρ1 ρ2 ha hR hh hM1 hC1 hp1 hE1 hC2 hp2 hE2
  obtain ⟨a, rfl⟩ := as_one ha
  have hE1 : z_R 129 (z_m σ, 0, [(2, 0), (0, a.toInt), (9, 0)], []) = some (z_m σ1, some (0, v1.toInt)) := z_R_iff.mpr hE1
  have hE2 : z_R 245 (z_m σ1, 0, [(2, 251), (0, a.toInt), (9, 0)], []) = some (z_m σ2, some (0, v2.toInt)) := z_R_iff.mpr hE2
  obtain ⟨w, h, n, heat, price, D, A, c, U, kn, KS, cs, cC, cR, cW⟩ := hR.2
  obtain ⟨b1, b2, -, -, hok, b35, -, b7⟩ := core_b hh hM1 cR
  have hN : w_N w h n heat D := ⟨b1, b2, b7⟩
  have kk := core_24 hh
  have f1 := R_off2_ok (y := 129) (by decide +kernel) hC1 hp1
  have cR1 := R_fr cR f1
  exact ln_do hE1 hE2 ((W_carry cC hN hok b35 cW.2.1 kk.2 a.toInt).imp fun _ h => ⟨_, h⟩) ((V_carry cR1 hN hok b35 cW.2.1 a.toInt).imp fun _ h => ⟨_, h⟩)
theorem two_lodge : l_twR Rel_L ln_Q (798, 116, 98, 1, false, 809, 119, 227) := by
  intro M1 M2 M3 σ σ1 σ2 as v1 v2 C1 C2 ρ1 ρ2 ha hR hh hM1 hC1 hp1 hE1 hC2 hp2 hE2
  obtain ⟨a, rfl⟩ := as_one ha
  have hE1 : z_R 98 (z_m σ, 0, [(2, 0), (0, a.toInt)], []) = some (z_m σ1, some (0, v1.toInt)) := z_R_iff.mpr hE1
  have hE2 : z_R 227 (z_m σ1, 0, [(2, 251), (0, a.toInt)], []) = some (z_m σ2, some (0, v2.toInt)) := z_R_iff.mpr hE2
  obtain ⟨w, h, n, heat, price, D, A, c, U, kn, KS, cs, cC, cR, cW⟩ := hR.1.2
  obtain ⟨b1, b2, -, -, hok, b35, -, b7⟩ := core_b hh hM1 cR
  have hN : w_N w h n heat D := ⟨b1, b2, b7⟩
  have f1 := R_off2_ok (y := 98) (by decide +kernel) hC1 hp1
  have cR1 := R_fr cR f1
  exact ln_do hE1 hE2 ((W_lodge cC hN hok b35 hR.2 a.toInt).imp fun _ h => ⟨_, h⟩) ((V_lodge cR1 hN hok b35 a.toInt).imp fun _ h => ⟨_, h⟩)
theorem two_longest : l_twR Rel_L ln_Q (817, 120, 109, 0, false, 822, 123, 232) := by
  intro M1 M2 M3 σ σ1 σ2 as v1 v2 C1 C2 ρ1 ρ2 ha hR hh hM1 hC1 hp1 hE1 hC2 hp2 hE2
  obtain rfl := as_nil ha
  have hE1 : z_R 109 (z_m σ, 0, [(2, 0), (9, 0)], []) = some (z_m σ1, some (0, v1.toInt)) := z_R_iff.mpr hE1
  have hE2 : z_R 232 (z_m σ1, 0, [(2, 251)], []) = some (z_m σ2, some (0, v2.toInt)) := z_R_iff.mpr hE2
  obtain ⟨w, h, n, heat, price, D, A, c, U, kn, KS, cs, cC, cR, cW⟩ := hR.1.2
  obtain ⟨b1, b2, -, -, hok, b35, -, b7⟩ := core_b hh hM1 cR
  have hN : w_N w h n heat D := ⟨b1, b2, b7⟩
  have f1 := R_off2_ok (y := 109) (by decide +kernel) hC1 hp1
  have cR1 := R_fr cR f1
  obtain ⟨m1, u1, x1, x2⟩ := W_longest cC hN hok b35 hR.2
  obtain ⟨m2, u2, y1, y2⟩ := V_longest cR1 hN hok b35
  exact ln_do hE1 hE2 ⟨m1, _, x1, x2⟩ ⟨m2, _, y1, y2⟩
