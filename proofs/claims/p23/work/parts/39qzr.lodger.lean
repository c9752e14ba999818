section
/-! LODGE: both, and what the class keeps between -/
theorem zb_one {k : Nat} (hk : k < 32) : zb 1 k = decide (k = 0) := by
  have e : z_shl 1 ((0 : Nat) : Int) = 1 := by decide +kernel
  have z := zb_shl (x := 0) (k := k) (by decide) hk
  rw [e] at z
  exact z
theorem z_and_01 (x : Int) : z_and x 1 = 0 ∨ z_and x 1 = 1 := by
  have hw : z_w (z_and x 1) = z_and x 1 := by
    unfold z_w z_and
    rw [Int32.ofInt_toInt]
  cases hz : zb x 0
  · refine Or.inl (zb_ext hw (by decide +kernel) fun k hk => ?_)
    rw [zb_and, zb_0, zb_one hk]
    by_cases e : k = 0
    · rw [e, hz, Bool.false_and]
    · rw [decide_eq_false e, Bool.and_false]
  · refine Or.inr (zb_ext hw (by decide +kernel) fun k hk => ?_)
    rw [zb_and, zb_one hk]
    by_cases e : k = 0
    · rw [e, hz, Bool.true_and]
    · rw [decide_eq_false e, Bool.and_false]
theorem lo_has (m : z_M) {t : Int} {r : Nat} (hr : r < 9) : z_R 185 (m, 0, [(0, t), (0, (r : Int))], []) = some (m, some (0, if zb t r = true then 1 else 0)) := by
  have e := zb_test (a := t) hr
  rw [t_has_0]
  rcases z_and_01 (z_shr t (r : Int)) with y | y
  · rw [y, if_neg (show ¬ (0 : Int) = 1 by decide), if_neg (show ¬ zb t r = true from fun q => by rw [e.mp y] at q; cases q)]
  · have q : zb t r = true := by
      cases q : zb t r
      · have := e.mpr q
        omega
      · rfl
    rw [y, if_pos rfl, if_pos q]
theorem lo_cnt {A : Nat → Int} : ∀ (f x : Nat), hr_t (fun p => if A (p + 18) = -1 then 1 else 0) f x + ((o_ls A f x).length : Int) = (f : Int) := by
  intro f
  induction f with
  | zero => intro x; rfl
  | succ f ih =>
    intro x
    have i := ih (x + 1)
    rw [hr_t_s]
    unfold o_ls
    show (if A (x + 18) = -1 then (1 : Int) else 0) + hr_t (fun p => if A (p + 18) = -1 then 1 else 0) f (x + 1) + _ = _
    by_cases z : A (x + 18) = -1
    · rw [if_pos z, if_pos z]
      omega
    · rw [if_neg z, if_neg z, List.length_cons]
      omega
theorem lo_or1 {y x : Nat} (hy : y < 32) (hx : x < 5) : 0 ≤ z_or (y : Int) (z_shl 1 (x : Int)) ∧ z_or (y : Int) (z_shl 1 (x : Int)) < 32 := by
  have : ∀ y, y < 32 → ∀ x, x < 5 → 0 ≤ z_or ((y : Nat) : Int) (z_shl 1 ((x : Nat) : Int)) ∧ z_or ((y : Nat) : Int) (z_shl 1 ((x : Nat) : Int)) < 32 := by decide +kernel
  exact this y hy x hx
theorem lo_or0 {y : Nat} (hy : y < 32) : z_or (y : Int) 0 = (y : Int) := by
  have : ∀ y, y < 32 → z_or ((y : Nat) : Int) 0 = ((y : Nat) : Int) := by decide +kernel
  exact this y hy
theorem lo_b0 {A : Nat → Int} : lo_b 0 A = A := funext fun j => if_neg (by omega)
/-- how many ways there are -/
def lo_A (w h n : Nat) (heat price : Int) (cs : List Int) (D A : Nat → Int) (a : Int) : Int := if a < 1 ∨ 40 < a then -1 else if 4 < (o_ls A n 0).length then -3 else (lo_g (lo_V w h n heat price cs D A (o_ls A n 0) a.toNat) ((a.toNat : Nat) : Int) w h (o_ls A n 0).length 0 (fun _ => 0) (0, -1, fun _ => 0)).1
theorem lo_A_g {w h n : Nat} {heat price : Int} {cs : List Int} {D A : Nat → Int} {N : Nat} (h1 : 1 ≤ N) (h2 : N ≤ 40) (h3 : ¬ 4 < (o_ls A n 0).length) : lo_A w h n heat price cs D A (N : Int) = (lo_g (lo_V w h n heat price cs D A (o_ls A n 0) N) (N : Int) w h (o_ls A n 0).length 0 (fun _ => 0) (0, -1, fun _ => 0)).1 := by
  unfold lo_A
  rw [if_neg (by omega), if_neg h3, Int.toNat_natCast]
theorem z_sub_add {x q : Int} (h : z_w x = x) : z_sub (z_add x q) q = x := by
  have e : z_sub (z_add x q) q = z_w x := by
    unfold z_sub z_add z_w
    rw [Int32.ofInt_toInt, Int32.add_sub_cancel]
  exact e.trans h
section
variable {w h n : Nat} {heat price : Int} {D A : Nat → Int} {c : Nat} {U : Nat → Nat → Int} {kn : Nat → Int} {KS : Nat → Nat → Int} {cs : List Int} {m : z_M}
/-! the class -/
theorem lo_bnL (hi : C_is w h n heat price D A c U kn KS cs m) (h5 : n ≤ 5) {r : Int} : ∀ (f x y : Nat), x + f = n → y < 32 → z_R 100 (m, 5, [(2, 3), (2, 12), (0, r), (0, (y : Int)), (0, (x : Int))], []) = some (m, some (0, hr_b r f x A (y : Int))) := by
  intro f
  induction f with
  | zero =>
    intro x y hx hy
    have e11 := hi.1.2.2.1
    rw [lo_bin_5 m r y x (by omega), e11, if_pos (by omega)]
    rfl
  | succ f ih =>
    intro x y hx hy
    have e11 := hi.1.2.2.1
    have e15 : m 15 x = A (x + 18) := C_A3 hi (by omega) h5
    rw [lo_bin_5 m r y x (by omega), e11, if_neg (by omega), if_pos (show 0 ≤ (x : Int) ∧ (x : Int) < 5 by omega), Int.toNat_natCast, e15, tc1]
    unfold hr_b
    by_cases z : A (x + 18) = r
    · have b := lo_or1 hy (show x < 5 by omega)
      obtain ⟨y', hy'⟩ : ∃ y' : Nat, z_or (y : Int) (z_shl 1 (x : Int)) = (y' : Int) := ⟨(z_or (y : Int) (z_shl 1 (x : Int))).toNat, by omega⟩
      rw [if_pos z, if_pos z, hy']
      exact ih (x + 1) y' (by omega) (by omega)
    · rw [if_neg z, if_neg z, lo_or0 hy]
      exact ih (x + 1) y (by omega) hy
theorem lo_inrL (hi : C_is w h n heat price D A c U kn KS cs m) (h5 : n ≤ 5) : z_R 99 (m, 0, [(2, 3), (2, 12)], []) = some (m, some (0, ((o_ls A n 0).length : Int))) := by
  have a1 := lo_bnL hi h5 (r := -1) n 0 0 (by omega) (by decide)
  have a1 : z_R 100 (m, 5, [(2, 3), (2, 12), (0, -1), (0, 0), (0, 0)], []) = some (m, some (0, hr_b (-1) n 0 A 0)) := a1
  have e := (hr_b_ok h5 A (-1)).2.1
  have a2 : z_R 101 (m, 0, [(0, hr_b (-1) n 0 A 0)], []) = some (m, some (0, hr_pc (hr_b (-1) n 0 A 0))) := q_bc_0 m _
  have hc := lo_cnt (A := A) n 0
  have e11 := hi.1.2.2.1
  have ef : z_sub (m 3 11) (hr_pc (hr_b (-1) n 0 A 0)) = ((o_ls A n 0).length : Int) := by
    have hl := (o_ls_len (A := A) n 0).1
    rw [e, e11]
    generalize hr_t (fun p => if A (p + 18) = -1 then 1 else 0) n 0 = T at hc ⊢
    rw [z_sub_eq (by omega) (by omega)]
    omega
  rw [lo_inr_0, lo_bin_0, a1, zb_v, lo_inr_10, a2, zb_v, lo_inr_13, ef]
theorem lo_seaJ {N : Nat} (hN40 : N ≤ 100) (hN : w_N w h n heat D) (hok : hr_ok n A) (ht : 0 ≤ A 35 ∧ A 35 ≤ 1073741824) (hi : C_is w h n heat price D A c U kn KS cs m) (h138 : ∀ b, b < 3 → m 138 b = 0) (hl4 : (o_ls A n 0).length ≤ 4) (x3 : Int) : ∃ m2, z_R 102 (m, 0, [(2, 122), (2, 12), (0, (N : Int)), (0, x3), (9, 0)], []) = ((z_R 106 (m2, 0, [(2, 122), (0, 0), (0, 0), (9, 0), (9, 0)], [])).bind fun qq => z_R 102 (qq.1, 147, [(2, 122), (2, 12), (0, (N : Int)), (0, x3), (0, (w : Int))], qq.2.toList ++ [])) ∧ lo_I w h n heat price D A c U kn KS cs (o_ls A n 0) N m2 ∧ (∀ b, b < w → lo_tab w h n heat price cs D A (o_ls A n 0) N b m2) ∧ m2 122 11 = x3 ∧ m2 122 12 = 0 ∧ m2 122 13 = -1 ∧ ∀ b, b < 3 → m2 138 b = 0 := by
  have n5 := hN.1.2.2
  obtain ⟨m0, b1, b2, b3⟩ := c_become z_st_12 lo_st1 (by decide) m
  have b1 : z_R 61 (m, 0, [(2, 123), (2, 12)], []) = some (m0, none) := b1
  have hC0 : C_is w h n heat price D A c U kn KS cs m0 := C_fr hi fun p k hk => by
    have hk' := hk
    unfold C_hit at hk'
    have hk' := of_decide_eq_true hk'
    exact b3.of (by (try unfold r_LHs); (repeat' (first | exact trivial | refine z_of_c ?_ ?_)) <;> omega)
  have hS0 : cS m0 123 n = A := (cS_cR b2).trans hi.2.2.1
  have g0 : ∀ b, m0 138 b = m 138 b := fun b => b3.of (by (try unfold r_LHs); (repeat' (first | exact trivial | refine z_of_c ?_ ?_)) <;> omega)
  have hC1 : C_is w h n heat price D A c U kn KS cs (z_up m0 122 9 0) := C_upn hC0 (by decide)
  have hS1 : cS (z_up m0 122 9 0) 123 n = lo_b 0 A := by
    rw [lo_b0, cS_fr (m := m0) (fun j q hj _ => zu_p (by omega))]
    exact hS0
  obtain ⟨m1, a1, a2, a3, a4, a5, a6, a7⟩ := lo_seaL (x2 := (N : Int)) (x3 := x3) n5 n 0 0 (z_up m0 122 9 0) (by omega) (by omega) hC1 zu_self hS1
  have a1 : z_R 102 (z_up m0 122 9 0, 16, [(2, 122), (2, 12), (0, (N : Int)), (0, x3), (0, 0)], []) = z_R 102 (z_up (z_up (z_up (z_up m1 122 10 (N : Int)) 122 11 x3) 122 12 0) 122 13 (-1), 111, [(2, 122), (2, 12), (0, (N : Int)), (0, x3), (0, 0)], []) := a1
  have hI : lo_I w h n heat price D A c U kn KS cs (o_ls A n 0) N (z_up (z_up (z_up (z_up m1 122 10 (N : Int)) 122 11 x3) 122 12 0) 122 13 (-1)) := by
    refine ⟨C_upn (C_upn (C_upn (C_upn a2 (by decide)) (by decide)) (by decide)) (by decide), ?_, ?_, fun i hi => ?_, ?_⟩
    · rw [zu_k (by decide), zu_k (by decide), zu_k (by decide), zu_k (by decide), a3, Nat.zero_add]
    · rw [zu_k (by decide), zu_k (by decide), zu_k (by decide), zu_self]
    · have := a4 i hi
      rw [Nat.zero_add] at this
      rw [zu_p (by decide), zu_p (by decide), zu_p (by decide), zu_p (by decide)]
      exact this
    · rw [cS_fr (m := m1) (fun j q hj _ => by rw [zu_p (by omega), zu_p (by omega), zu_p (by omega), zu_p (by omega)])]
      exact a6
  have g11 : (z_up (z_up (z_up (z_up m1 122 10 (N : Int)) 122 11 x3) 122 12 0) 122 13 (-1)) 122 11 = x3 := by rw [zu_k (by decide), zu_k (by decide), zu_self]
  have g12 : (z_up (z_up (z_up (z_up m1 122 10 (N : Int)) 122 11 x3) 122 12 0) 122 13 (-1)) 122 12 = 0 := by rw [zu_k (by decide), zu_self]
  have g13 : (z_up (z_up (z_up (z_up m1 122 10 (N : Int)) 122 11 x3) 122 12 0) 122 13 (-1)) 122 13 = -1 := zu_self
  have g138 : ∀ b, b < 3 → (z_up (z_up (z_up (z_up m1 122 10 (N : Int)) 122 11 x3) 122 12 0) 122 13 (-1)) 138 b = 0 := fun b hb => by
    rw [zu_p (by decide), zu_p (by decide), zu_p (by decide), zu_p (by decide), a7 b, zu_p (by decide), g0 b]
    exact h138 b hb
  rw [lo_sea_0, b1, zb_n, lo_sea_8, a1]
  generalize z_up (z_up (z_up (z_up m1 122 10 (N : Int)) 122 11 x3) 122 12 0) 122 13 (-1) = m1' at hI g11 g12 g13 g138 ⊢
  obtain ⟨m2, c1, c2, c3, c4, c5⟩ := lo_colL (x2 := (N : Int)) (x3 := x3) hN40 hN hok ht (lo_ls_ok n A) hl4 w 0 m1' (by omega) hI (fun b' hb' => absurd hb' (Nat.not_lt_zero b'))
  have c1 : z_R 102 (m1', 111, [(2, 122), (2, 12), (0, (N : Int)), (0, x3), (0, 0)], []) = ((z_R 106 (m2, 0, [(2, 122), (0, 0), (0, 0), (9, 0), (9, 0)], [])).bind fun qq => z_R 102 (qq.1, 147, [(2, 122), (2, 12), (0, (N : Int)), (0, x3), (0, (w : Int))], qq.2.toList ++ [])) := c1
  exact ⟨m2, c1, c2, c3, (c4 11).trans g11, (c4 12).trans g12, (c4 13).trans g13, fun b hb => (c5 b).trans (g138 b hb)⟩
theorem lo_telL {L : Nat} (hL : L ≤ 4) : ∀ (f x : Nat) (m : z_M), x + f = L → m 122 9 = (L : Int) → m 0 13 = (x : Int) → ∃ m1, z_R 108 (m, 2, [(2, 0), (0, (x : Int))], []) = some (m1, none) ∧ ∀ p k, ¬ p = 250 → ¬ (p = 0 ∧ k = 13) → m1 p k = m p k := by
  intro f
  induction f with
  | zero =>
    intro x m hx h9 h13
    rw [lo_tel_2, h9, if_pos (by omega)]
    exact ⟨m, rfl, fun _ _ _ _ => rfl⟩
  | succ f ih =>
    intro x m hx h9 h13
    rw [lo_tel_2, h9, if_neg (by omega), if_pos (by omega), c_add (j := x) m _ (by omega) h13, zb_n, lo_tel_27, z_add_eq (x := (x : Int)) (y := 1) (by omega) (by omega), tc1]
    obtain ⟨m1, a1, a2⟩ := ih (x + 1) (z_up (z_up m 250 x (z_i2l (m 137 ((x : Nat) : Int).toNat))) 0 13 ((x + 1 : Nat) : Int)) (by omega) (by rw [zu_p (by decide), zu_p (by decide)]; exact h9) zu_self
    exact ⟨m1, a1, fun p k h1 h2 => by rw [a2 p k h1 h2, X_up h2, zu_p h1]⟩
theorem C_lodge (hi : C_is w h n heat price D A c U kn KS cs m) (hN : w_N w h n heat D) (hok : hr_ok n A) (ht : 0 ≤ A 35 ∧ A 35 ≤ 1073741824) (h138 : ∀ b, b < 3 → m 138 b = 0) (a : Int) : ∃ m1, z_R 98 (m, 0, [(2, 0), (0, a)], []) = some (m1, some (0, lo_A w h n heat price cs D A a)) ∧ C_is w h n heat price D A c U kn KS cs m1 ∧ ∀ b, b < 3 → m1 138 b = 0 := by
  have n5 := hN.1.2.2
  rw [lo_lod_0]
  by_cases c1 : a < 1
  · have e : lo_A w h n heat price cs D A a = -1 := if_pos (Or.inl c1)
    rw [if_pos c1, e]
    exact ⟨m, rfl, hi, h138⟩
  rw [if_neg c1]
  by_cases c2 : 40 < a
  · have e : lo_A w h n heat price cs D A a = -1 := if_pos (Or.inr c2)
    rw [if_neg (by omega), e]
    exact ⟨m, rfl, hi, h138⟩
  obtain ⟨N, rfl⟩ : ∃ N : Nat, a = (N : Int) := ⟨a.toNat, by omega⟩
  rw [if_pos (by omega), lo_inrL hi n5, zb_v, lo_lod_24]
  by_cases c3 : 4 < (o_ls A n 0).length
  · have e : lo_A w h n heat price cs D A (N : Int) = -3 := by
      unfold lo_A
      rw [if_neg (by omega), if_pos c3]
    rw [if_neg (by omega), e]
    exact ⟨m, rfl, hi, h138⟩
  rw [lo_A_g (by omega) (by omega) c3]
  obtain ⟨m2, b1, b2, b3, b4, b5, b6, b7⟩ := lo_seaJ (N := N) (by omega) hN hok ht hi h138 (by omega) 1
  have hJ : lo_J w h n heat price D A c U kn KS cs (o_ls A n 0) N (0, -1, fun _ => 0) m2 := ⟨b2, b3, b4, b5, by decide +kernel, b6, Int.le_refl (-1), Or.inl rfl⟩
  obtain ⟨m3, d1, d2, d3, d4⟩ := lo_plaC (N := N) (by omega) hN hok ht (lo_ls_ok n A) (by omega) (o_ls A n 0).length 0 (by omega) 0 (fun _ => 0) (0, -1, fun _ => 0) m2 ⟨fun i hi => absurd hi (Nat.not_lt_zero i), fun i j _ hj => absurd hj (Nat.not_lt_zero j)⟩ (lo_tk_0 _) hJ (fun i hi => absurd hi (Nat.not_lt_zero i)) (fun b hb => b7 b hb)
  have d1 : z_R 106 (m2, 0, [(2, 122), (0, 0), (0, 0), (9, 0), (9, 0)], []) = some (m3, none) := d1
  rw [if_pos (by omega), b1, d1, zb_n, lo_sea_147, zb_n, lo_lod_44, s_tell0_0, zb_n, lo_lod_48]
  generalize lo_g (lo_V w h n heat price cs D A (o_ls A n 0) N) (N : Int) w h (o_ls A n 0).length 0 (fun _ => 0) (0, -1, fun _ => 0) = G at d2 ⊢
  have ez : (z_up m3 0 13 0) 122 12 = G.1 := (zu_p (by decide)).trans d2.2.2.2.1
  have hC4 : C_is w h n heat price D A c U kn KS cs (z_up m3 0 13 0) := C_upn d2.1.1 (by decide)
  have g138 : ∀ b, b < 3 → (z_up m3 0 13 0) 138 b = 0 := fun b hb => (zu_p (by decide)).trans ((d4 b hb).trans (b7 b hb))
  have e9 : (z_up m3 0 13 0) 122 9 = ((o_ls A n 0).length : Int) := (zu_p (by decide)).trans d2.1.2.1
  have e13 : (z_up m3 0 13 0) 0 13 = ((0 : Nat) : Int) := zu_self
  generalize z_up m3 0 13 0 = m4 at ez hC4 g138 e9 e13 ⊢
  rw [ez]
  by_cases c4 : G.1 ≤ 0
  · rw [if_pos c4]
    exact ⟨m4, rfl, hC4, g138⟩
  · obtain ⟨m5, f1, f2⟩ := lo_telL (L := (o_ls A n 0).length) (by omega) (o_ls A n 0).length 0 m4 (by omega) e9 e13
    have f1 : z_R 108 (m4, 2, [(2, 0), (0, 0)], []) = some (m5, none) := f1
    rw [if_neg c4, lo_tel_0, f1, zb_n, lo_lod_62, f2 122 12 (by decide) (by decide), ez]
    refine ⟨m5, rfl, C_fr hC4 fun p k hk => f2 p k ?_ ?_, fun b hb => (f2 138 b (by decide) (by omega)).trans (g138 b hb)⟩
    · have hk' := hk
      unfold C_hit at hk'
      have hk' := of_decide_eq_true hk'
      omega
    · have hk' := hk
      unfold C_hit at hk'
      have hk' := of_decide_eq_true hk'
      omega
/-! longest: what it leaves -/
theorem lo_weiF (hw : w ≤ 3) {m : z_M} (h8 : m 3 8 = (w : Int)) : ∃ m1, z_R 107 (m, 0, [(2, 122), (9, 0), (9, 0), (9, 0)], []) = some (m1, none) ∧ ∀ p k, ¬ p = 137 → ¬ (p = 122 ∧ 12 ≤ k) → m1 p k = m p k := by
  have lp : ∀ (f b : Nat) (x1 : Int) (v3 : z_V), b + f = w → ∃ x1' v3', z_R 107 (m, 7, [(2, 122), (0, x1), (0, (b : Int)), v3], []) = z_R 107 (m, 7, [(2, 122), (0, x1'), (0, (w : Int)), v3'], []) := by
    intro f
    induction f with
    | zero =>
      intro b x1 v3 hb
      obtain rfl : b = w := by omega
      exact ⟨x1, v3, rfl⟩
    | succ f ih =>
      intro b x1 v3 hb
      rw [lo_wei_7, h8, if_neg (by omega), if_neg (by omega), if_pos (by omega), tc1]
      by_cases z1 : z_add (z_mul (b : Int) 125) (m 138 ((b : Nat) : Int).toNat) < 0
      · rw [if_pos z1]
        exact ih (b + 1) _ _ (by omega)
      rw [if_neg z1]
      by_cases z2 : 375 ≤ z_add (z_mul (b : Int) 125) (m 138 ((b : Nat) : Int).toNat)
      · rw [if_pos z2]
        exact ih (b + 1) _ _ (by omega)
      · rw [if_neg z2]
        exact ih (b + 1) _ _ (by omega)
  obtain ⟨x1, v3, e0⟩ := lp w 0 (m 122 10) (9, 0) (by omega)
  have e0 : z_R 107 (m, 7, [(2, 122), (0, m 122 10), (0, 0), (9, 0)], []) = z_R 107 (m, 7, [(2, 122), (0, x1), (0, (w : Int)), v3], []) := e0
  rw [lo_wei_0, e0, lo_wei_7, h8, if_pos (Int.le_refl _)]
  by_cases z1 : x1 ≤ m 122 13
  · rw [if_pos z1]
    by_cases z2 : x1 = m 122 10
    · rw [if_pos z2]
      exact ⟨_, rfl, fun p k _ h2 => X_up (fun z => h2 ⟨z.1, by omega⟩)⟩
    · rw [if_neg z2]
      exact ⟨_, rfl, fun p k _ _ => rfl⟩
  · rw [if_neg z1]
    by_cases z2 : x1 = m 122 10
    · rw [if_pos z2]
      exact ⟨_, rfl, fun p k h1 h2 => by rw [X_up (fun z => h2 ⟨z.1, by omega⟩), zc_p h1, X_up (fun z => h2 ⟨z.1, by omega⟩)]⟩
    · rw [if_neg z2]
      exact ⟨_, rfl, fun p k h1 h2 => by rw [zc_p h1, X_up (fun z => h2 ⟨z.1, by omega⟩)]⟩
theorem lo_plaF (hw : w ≤ 3) {L : Nat} (hL : L ≤ 4) : ∀ (j k : Nat), k + j = L → ∀ (t : Int) (m : z_M), m 3 8 = (w : Int) → m 122 9 = (L : Int) → (∀ b, b < 3 → z_w (m 138 b) = m 138 b) → ∃ m1, z_R 106 (m, 0, [(2, 122), (0, (k : Int)), (0, t), (9, 0), (9, 0)], []) = some (m1, none) ∧ (∀ b, b < 3 → m1 138 b = m 138 b) ∧ ∀ p i, ¬ p = 136 → ¬ p = 137 → ¬ p = 138 → ¬ (p = 122 ∧ 12 ≤ i) → m1 p i = m p i := by
  intro j
  induction j with
  | zero =>
    intro k hk t m h8 h9 h138
    obtain ⟨m1, a1, a2⟩ := lo_weiF hw h8
    rw [lo_pla_0, h9, if_pos (by omega), a1, zb_n, lo_pla_17]
    exact ⟨m1, rfl, fun b _ => a2 138 b (by decide) (by omega), fun p i _ h2 _ h4 => a2 p i h2 h4⟩
  | succ j ih =>
    intro k hk t m h8 h9 h138
    have IH := ih (k + 1) (by omega)
    have lp : ∀ (f r : Nat) (v4 : z_V) (m' : z_M), r + f = 9 → (∀ b, b < 3 → m' 138 b = m 138 b) → (∀ p i, ¬ p = 136 → ¬ p = 137 → ¬ p = 138 → ¬ (p = 122 ∧ 12 ≤ i) → m' p i = m p i) → ∃ m1, z_R 106 (m', 20, [(2, 122), (0, (k : Int)), (0, t), (0, (r : Int)), v4], []) = some (m1, none) ∧ (∀ b, b < 3 → m1 138 b = m 138 b) ∧ ∀ p i, ¬ p = 136 → ¬ p = 137 → ¬ p = 138 → ¬ (p = 122 ∧ 12 ≤ i) → m1 p i = m p i := by
      intro f
      induction f with
      | zero =>
        intro r v4 m' hr h1 h2
        rw [lo_pla_20, if_pos (by omega)]
        exact ⟨m', rfl, h1, h2⟩
      | succ f ihf =>
        intro r v4 m' hr h1 h2
        have nx : ∃ m1, (if ¬ u_hs (m' 3 8) (m' 3 9) (r : Int) = 0 then if z_and (z_shr t (r : Int)) 1 = 0 then if 0 ≤ (k : Int) ∧ (k : Int) < 4 then (z_R 106 (z_up (z_up m' 136 ((k : Nat) : Int).toNat (r : Int)) 138 ((r : Int) % 3).toNat (z_add (m' 138 ((r : Int) % 3).toNat) (z_mul (z_add (k : Int) 1) (z_rd m' 1000000 ((r : Int) / 3).toNat))), 0, [(2, 122), (0, (k : Int) + 1), (0, z_or t (z_shl 1 (r : Int))), (9, 0), (9, 0)], [])).bind fun qq => z_R 106 (qq.1, 104, [(2, 122), (0, (k : Int)), (0, t), (0, (r : Int)), (0, z_mul (z_add (k : Int) 1) (z_rd m' 1000000 ((r : Int) / 3).toNat))], qq.2.toList ++ []) else none else z_R 106 (m', 20, [(2, 122), (0, (k : Int)), (0, t), (0, (r : Int) + 1), v4], []) else z_R 106 (m', 20, [(2, 122), (0, (k : Int)), (0, t), (0, z_add (r : Int) 1), v4], [])) = some (m1, none) ∧ (∀ b, b < 3 → m1 138 b = m 138 b) ∧ ∀ p i, ¬ p = 136 → ¬ p = 137 → ¬ p = 138 → ¬ (p = 122 ∧ 12 ≤ i) → m1 p i = m p i := by
          rw [z_add_eq (x := (r : Int)) (y := 1) (by omega) (by omega), tc1]
          by_cases cu : ¬ u_hs (m' 3 8) (m' 3 9) (r : Int) = 0
          · rw [if_pos cu]
            by_cases cb : z_and (z_shr t (r : Int)) 1 = 0
            · have er3 : ((r : Int) % 3).toNat = r % 3 := by omega
              rw [if_pos cb, if_pos (by omega), er3]
              generalize z_mul (z_add (k : Int) 1) (z_rd m' 1000000 ((r : Int) / 3).toNat) = q
              have hx : z_w (m' 138 (r % 3)) = m' 138 (r % 3) := by
                rw [h1 _ (by omega)]
                exact h138 _ (by omega)
              have g138 : ∀ b, b < 3 → (z_up (z_up m' 136 ((k : Nat) : Int).toNat (r : Int)) 138 (r % 3) (z_add (m' 138 (r % 3)) q)) 138 b = if b = r % 3 then z_add (m' 138 (r % 3)) q else m 138 b := fun b hb => by
                by_cases e : b = r % 3
                · rw [if_pos e, e, zu_self]
                · rw [if_neg e, zu_k e, zu_p (by decide)]
                  exact h1 b hb
              have gf : ∀ p i, ¬ p = 136 → ¬ p = 137 → ¬ p = 138 → ¬ (p = 122 ∧ 12 ≤ i) → (z_up (z_up m' 136 ((k : Nat) : Int).toNat (r : Int)) 138 (r % 3) (z_add (m' 138 (r % 3)) q)) p i = m p i := fun p i a1 a2 a3 a4 => by
                rw [zu_p a3, zu_p a1]
                exact h2 p i a1 a2 a3 a4
              generalize z_up (z_up m' 136 ((k : Nat) : Int).toNat (r : Int)) 138 (r % 3) (z_add (m' 138 (r % 3)) q) = m0 at g138 gf ⊢
              obtain ⟨m2, b1, b2, b3⟩ := IH (z_or t (z_shl 1 (r : Int))) m0 ((gf 3 8 (by decide) (by decide) (by decide) (by decide)).trans h8) ((gf 122 9 (by decide) (by decide) (by decide) (by decide)).trans h9) (fun b hb => by
                rw [g138 b hb]
                by_cases e : b = r % 3
                · rw [if_pos e, z_add_w]
                  exact z_w_w
                · rw [if_neg e]
                  exact h138 b hb)
              rw [b1, zb_n, lo_pla_104, z_rem_nn (x := (r : Int)) (by omega) (by omega) (by decide) (by decide), if_pos (by omega), er3, z_add_eq (x := (r : Int)) (y := 1) (by omega) (by omega), tc1]
              refine ihf (r + 1) _ _ (by omega) (fun b hb => ?_) (fun p i a1 a2 a3 a4 => ?_)
              · by_cases e : b = r % 3
                · rw [e, zu_self, b2 _ (by omega), g138 _ (by omega), if_pos rfl, z_sub_add hx]
                  exact h1 _ (by omega)
                · rw [zu_k e, b2 b hb, g138 b hb, if_neg e]
              · rw [zu_p a3, b3 p i a1 a2 a3 a4]
                exact gf p i a1 a2 a3 a4
            · rw [if_neg cb]
              exact ihf (r + 1) _ m' (by omega) h1 h2
          · rw [if_neg cu]
            exact ihf (r + 1) _ m' (by omega) h1 h2
        rw [lo_pla_20, if_neg (by omega)]
        by_cases c1 : m' 122 11 = 0
        · rw [if_pos c1]
          by_cases c2 : m' 122 12 = 0
          · rw [if_pos c2]
            exact nx
          · rw [if_neg c2]
            exact ⟨m', rfl, h1, h2⟩
        · rw [if_neg c1]
          exact nx
    obtain ⟨m1, a1, a2, a3⟩ := lp 9 0 (9, 0) m (by decide) (fun _ _ => rfl) (fun _ _ _ _ _ _ => rfl)
    have a1 : z_R 106 (m, 20, [(2, 122), (0, (k : Int)), (0, t), (0, 0), (9, 0)], []) = some (m1, none) := a1
    rw [lo_pla_0, h9, if_neg (by omega), if_pos (by omega), a1]
    exact ⟨m1, rfl, a2, a3⟩
theorem C_longest (hi : C_is w h n heat price D A c U kn KS cs m) (hN : w_N w h n heat D) (hok : hr_ok n A) (ht : 0 ≤ A 35 ∧ A 35 ≤ 1073741824) (h138 : ∀ b, b < 3 → m 138 b = 0) : ∃ m1 v, z_R 109 (m, 0, [(2, 0), (9, 0)], []) = some (m1, some (0, v)) ∧ ∀ b, b < 3 → m1 138 b = 0 := by
  have n5 := hN.1.2.2
  rw [lo_lon_0, lo_inrL hi n5, zb_v, lo_lon_11]
  by_cases c1 : ((o_ls A n 0).length : Int) ≤ z_mul (m 3 8) (m 3 9)
  · rw [if_pos c1]
    by_cases c2 : 4 < (o_ls A n 0).length
    · rw [if_neg (by omega)]
      exact ⟨m, _, rfl, h138⟩
    obtain ⟨m2, b1, b2, b3, b4, b5, b6, b7⟩ := lo_seaJ (N := 100) (by omega) hN hok ht hi h138 (by omega) 0
    have b1 : z_R 102 (m, 0, [(2, 122), (2, 12), (0, 100), (0, 0), (9, 0)], []) = ((z_R 106 (m2, 0, [(2, 122), (0, 0), (0, 0), (9, 0), (9, 0)], [])).bind fun qq => z_R 102 (qq.1, 147, [(2, 122), (2, 12), (0, 100), (0, 0), (0, (w : Int))], qq.2.toList ++ [])) := b1
    obtain ⟨m3, d1, d2, d3⟩ := lo_plaF hN.1.1 (show (o_ls A n 0).length ≤ 4 by omega) (o_ls A n 0).length 0 (by omega) 0 m2 b2.1.1.1 b2.2.1 (fun b hb => by rw [b7 b hb]; decide +kernel)
    have d1 : z_R 106 (m2, 0, [(2, 122), (0, 0), (0, 0), (9, 0), (9, 0)], []) = some (m3, none) := d1
    have e9 : (z_up m3 0 13 0) 122 9 = ((o_ls A n 0).length : Int) := (zu_p (by decide)).trans ((d3 122 9 (by decide) (by decide) (by decide) (by decide)).trans b2.2.1)
    obtain ⟨m5, f1, f2⟩ := lo_telL (L := (o_ls A n 0).length) (by omega) (o_ls A n 0).length 0 (z_up m3 0 13 0) (by omega) e9 zu_self
    have f1 : z_R 108 (z_up m3 0 13 0, 2, [(2, 0), (0, 0)], []) = some (m5, none) := f1
    rw [if_pos (by omega), b1, d1, zb_n, lo_sea_147, zb_n, lo_lon_56, s_tell0_0, zb_n, lo_lon_60, lo_tel_0, f1, zb_n, lo_lon_64]
    exact ⟨m5, _, rfl, fun b hb => (f2 138 b (by decide) (by omega)).trans ((zu_p (by decide)).trans ((d2 b hb).trans (b7 b hb)))⟩
  · rw [if_neg c1]
    exact ⟨m, _, rfl, h138⟩
/-! the reference -/
theorem lo_hl {l : List Nat} : ∀ (l : List Nat) (k : Nat), o_hl m k l → ∀ i, i < l.length → m 265 (k + i) = (lo_P l i : Int) := by
  intro l
  induction l with
  | nil => intro k _ i hi; exact absurd hi (Nat.not_lt_zero i)
  | cons p l ih =>
    intro k hc i hi
    cases i with
    | zero => exact hc.1
    | succ i =>
      have := ih (k + 1) hc.2 i (Nat.lt_of_succ_lt_succ hi)
      rw [show k + 1 + i = k + (i + 1) by omega] at this
      exact this
/-- what the reference's search holds, and what was found -/
def lo_K (w h n : Nat) (heat price : Int) (D A : Nat → Int) (c : Nat) (U : Nat → Nat → Int) (kn : Nat → Int) (KS : Nat → Nat → Int) (cs : List Int) (l : List Nat) (a : lo_a) (m : z_M) : Prop := R_is w h n heat price D A c U kn KS cs m ∧ m 251 39 = (l.length : Int) ∧ (∀ i, i < l.length → m 265 i = (lo_P l i : Int)) ∧ m 251 42 = a.1 ∧ z_w a.1 = a.1 ∧ m 251 43 = a.2.1 ∧ -1 ≤ a.2.1 ∧ (a.2.1 = -1 ∨ ∀ i, i < l.length → m 267 i = (a.2.2 i : Int))
theorem R_hit_no {p k : Nat} (hk : R_hit p k k = true) : ¬ p = 255 ∧ ¬ p = 264 ∧ ¬ p = 265 ∧ ¬ p = 266 ∧ ¬ p = 267 ∧ ¬ (p = 251 ∧ (k = 10 ∨ k = 39 ∨ k = 42 ∨ k = 43)) := by
  have hk' := hk
  unfold R_hit at hk'
  have hk' := of_decide_eq_true hk'
  omega
theorem lo_K_fr {l : List Nat} {a : lo_a} {m m' : z_M} (hv : lo_K w h n heat price D A c U kn KS cs l a m) (hf : ∀ p k, ¬ p = 264 → ¬ p = 266 → m' p k = m p k) : lo_K w h n heat price D A c U kn KS cs l a m' := by
  obtain ⟨a1, a2, a3, a4, a5, a6, a7, a8⟩ := hv
  exact ⟨R_fr a1 fun p k hk => hf p k (R_hit_no hk).2.1 (R_hit_no hk).2.2.2.1, (hf _ _ (by decide) (by decide)).trans a2, fun i hi => (hf _ _ (by decide) (by decide)).trans (a3 i hi), (hf _ _ (by decide) (by decide)).trans a4, a5, (hf _ _ (by decide) (by decide)).trans a6, a7, a8.imp id (fun z i hi => (hf _ _ (by decide) (by decide)).trans (z i hi))⟩
theorem lo_ltf (hi : R_is w h n heat price D A c U kn KS cs m) : ∃ m1, z_R 219 (m, 0, [(2, 251)], []) = some (m1, none) ∧ rS m1 264 n = A ∧ ∀ q j, ¬ q = 264 → m1 q j = m q j := by
  obtain ⟨m1, b1, b2, b3⟩ := t_layd (a := 252) (q := 264) (B := 0) t_lay264_0 t_lay264_2 (by decide) (b := 0) (by decide) m
  have b1 : z_R 198 (m, 0, [(2, 252), (2, 264), (0, 0), (9, 0)], []) = some (m1, none) := b1
  rw [q_lt_0, b1, zb_n, q_lt_12]
  refine ⟨m1, rfl, ?_, fun q j hq => b3 q j (fun z => hq z.1)⟩
  rw [← hi.2.2.1]
  refine rS_cp fun k hk => ?_
  have := b2 k hk
  rw [Nat.zero_add] at this
  exact this
theorem lo_std {B : Nat → Int} (hN : w_N w h n heat D) (hok : hr_ok n B) (ht : 0 ≤ B 35 ∧ B 35 ≤ 1073741824) (hi : R_is w h n heat price D A c U kn KS cs m) (hB : rS m 264 n = B) {N : Nat} (hN6 : N ≤ 1000) : ∃ m1, z_R 221 (m, 0, [(2, 251), (0, (N : Int)), (9, 0), (9, 0)], []) = some (m1, some (0, s_sta w h n heat price cs D (s_F w h A) N N 0 B)) ∧ z_same (r_LHs 264) m m1 := by
  have hv := R_ice (w := w) (h := h) (n := n) hi.1.1 hi.1.2.1 hi.2.2.1 9 0 0 (by decide) (by decide +kernel)
  have hv : z_R 222 (m, 4, [(2, 251), (0, 0), (0, 0)], []) = some (m, some (0, s_F w h A)) := hv
  obtain ⟨m1, a1, a2⟩ := R_sta1 (F := s_F w h A) (N := N) hN6 hN N 0 m B (by omega) hi hB hok ht.1 (by omega)
  have a1 : z_R 221 (m, 7, [(2, 251), (0, (N : Int)), (0, s_F w h A), (0, 0)], []) = some (m1, some (0, s_sta w h n heat price cs D (s_F w h A) N N 0 B)) := a1
  rw [q_sta_0, q_ice_0, hv, zb_v, q_sta_4, a1]
  exact ⟨m1, rfl, a2⟩
theorem lo_put {l : List Nat} (n5 : n ≤ 5) (hl : lo_ok n A l) (hl4 : l.length ≤ 4) {rr : Nat → Nat} {x1 x2 x3 : Int} : ∀ (f i : Nat) (m : z_M), i + f = l.length → m 251 39 = (l.length : Int) → (∀ i, i < l.length → m 265 i = (lo_P l i : Int)) → (∀ i, i < l.length → m 266 i = (rr i : Int)) → rS m 264 n = lo_pl l rr i A → ∃ m1, z_R 230 (m, 15, [(2, 251), (0, x1), (0, x2), (0, x3), (0, (i : Int)), (9, 0)], []) = ((z_R 221 (m1, 0, [(2, 251), (0, x3), (9, 0), (9, 0)], [])).bind fun qq => z_R 230 (qq.1, 57, [(2, 251), (0, x1), (0, x2), (0, x3), (0, (l.length : Int)), (9, 0)], qq.2.toList ++ [])) ∧ rS m1 264 n = lo_pl l rr l.length A ∧ ∀ q j, ¬ q = 264 → m1 q j = m q j := by
  intro f
  induction f with
  | zero =>
    intro i m hi h39 h265 h266 hS
    obtain rfl : i = l.length := by omega
    rw [lo_tgl_15, h39, if_pos (Int.le_refl _)]
    exact ⟨m, rfl, hS, fun _ _ _ => rfl⟩
  | succ f ih =>
    intro i m hi h39 h265 h266 hS
    have hP := hl.1 i (by omega)
    rw [lo_tgl_15, h39, if_neg (by omega), if_pos (show 0 ≤ (i : Int) ∧ (i : Int) < 5 by omega), Int.toNat_natCast, h265 i (by omega), z_add_eq (x := 18) (y := (lo_P l i : Int)) (by omega) (by omega), if_pos (show 0 ≤ 18 + (lo_P l i : Int) ∧ 18 + (lo_P l i : Int) < 37 by omega), show (18 + (lo_P l i : Int)).toNat = lo_P l i + 18 by omega, h266 i (by omega), tc1]
    obtain ⟨m1, a1, a2, a3⟩ := ih (i + 1) (z_up m 264 (lo_P l i + 18) (rr i : Int)) (by omega) ((zu_p (by decide)).trans h39) (fun q hq => (zu_p (by decide)).trans (h265 q hq)) (fun q hq => (zu_p (by decide)).trans (h266 q hq)) (by
      rw [rS_up (by omega) (a_vis_p (b := 18) (p := lo_P l i) (by omega) (by omega) (by omega) (by omega)), hS]
      rfl)
    exact ⟨m1, a1, a2, fun q j hq => (a3 q j hq).trans (zu_p hq)⟩
theorem lo_cp98 {L : Nat} (hL : L ≤ 5) {x1 x2 x3 x4 : Int} : ∀ (f i : Nat) (m : z_M), i + f = L → m 251 39 = (L : Int) → ∃ m1, z_R 230 (m, 98, [(2, 251), (0, x1), (0, x2), (0, x3), (0, x4), (0, (i : Int))], []) = some (m1, none) ∧ (∀ j, i ≤ j → j < L → m1 267 j = m 266 j) ∧ ∀ p k, ¬ (p = 267 ∧ i ≤ k) → m1 p k = m p k := by
  intro f
  induction f with
  | zero =>
    intro i m hi h39
    rw [lo_tgl_98, h39, if_pos (by omega)]
    exact ⟨m, rfl, fun j h1 h2 => by omega, fun _ _ _ => rfl⟩
  | succ f ih =>
    intro i m hi h39
    rw [lo_tgl_98, h39, if_neg (by omega), if_pos (by omega), Int.toNat_natCast, tc1]
    obtain ⟨m1, a1, a2, a3⟩ := ih (i + 1) (z_up m 267 i (m 266 i)) (by omega) ((zu_p (by decide)).trans h39)
    refine ⟨m1, a1, fun j h1 h2 => ?_, fun p k hp => (a3 p k (by omega)).trans (X_up (by omega))⟩
    by_cases e : j = i
    · rw [e, a3 267 i (by omega), zu_self]
    · rw [a2 j (by omega) h2, zu_p (by decide)]
theorem lo_leaf {l : List Nat} {N : Nat} (hN6 : N ≤ 1000) (hN : w_N w h n heat D) (hok : hr_ok n A) (ht : 0 ≤ A 35 ∧ A 35 ≤ 1073741824) (hl : lo_ok n A l) (hl4 : l.length ≤ 4) {rr : Nat → Nat} (hr : ∀ i, i < l.length → rr i < 9) {a : lo_a} {m : z_M} (hK : lo_K w h n heat price D A c U kn KS cs l a m) (h266 : ∀ i, i < l.length → m 266 i = (rr i : Int)) {t : Int} : ∃ m1, z_R 230 (m, 0, [(2, 251), (0, (l.length : Int)), (0, t), (0, (N : Int)), (9, 0), (9, 0)], []) = some (m1, none) ∧ lo_K w h n heat price D A c U kn KS cs l (lo_w (N : Int) (lo_V w h n heat price cs D A l N rr) rr a) m1 ∧ ∀ i, m1 266 i = m 266 i := by
  have n5 := hN.1.2.2
  obtain ⟨k1, k2, k3, k4, k5, k6, k7, k8⟩ := hK
  obtain ⟨m1, a1, a2, a3⟩ := lo_ltf k1
  obtain ⟨m2, b1, b2, b3⟩ := lo_put (x1 := (l.length : Int)) (x2 := t) (x3 := (N : Int)) (rr := rr) n5 hl hl4 l.length 0 m1 (by omega) ((a3 _ _ (by decide)).trans k2) (fun i hi => (a3 _ _ (by decide)).trans (k3 i hi)) (fun i hi => (a3 _ _ (by decide)).trans (h266 i hi)) a2
  have b1 : z_R 230 (m1, 15, [(2, 251), (0, (l.length : Int)), (0, t), (0, (N : Int)), (0, 0), (9, 0)], []) = ((z_R 221 (m2, 0, [(2, 251), (0, (N : Int)), (9, 0), (9, 0)], [])).bind fun qq => z_R 230 (qq.1, 57, [(2, 251), (0, (l.length : Int)), (0, t), (0, (N : Int)), (0, (l.length : Int)), (9, 0)], qq.2.toList ++ [])) := b1
  have f2 : ∀ q j, ¬ q = 264 → m2 q j = m q j := fun q j hq => (b3 q j hq).trans (a3 q j hq)
  have hR2 : R_is w h n heat price D A c U kn KS cs m2 := R_fr k1 fun p k hk => f2 p k (R_hit_no hk).2.1
  have hoP := lo_plok hok n5 hl l.length (Nat.le_refl _) hr
  have e35 : lo_pl l rr l.length A 35 = A 35 := lo_pl_ne _ (fun i hi => by have := hl.1 i hi; omega)
  obtain ⟨m3, c1, c2⟩ := lo_std hN hoP (by rw [e35]; exact ht) hR2 b2 hN6
  have c1 : z_R 221 (m2, 0, [(2, 251), (0, (N : Int)), (9, 0), (9, 0)], []) = some (m3, some (0, lo_V w h n heat price cs D A l N rr)) := c1
  have hR3 := R_off264 hR2 c2
  have g39 : m3 251 39 = m 251 39 := (c2.of (p := 251) (k := 39) (by (try unfold r_LHs); (repeat' (first | exact trivial | refine z_of_c ?_ ?_)) <;> omega)).trans (f2 _ _ (by decide))
  have g42 : m3 251 42 = m 251 42 := (c2.of (p := 251) (k := 42) (by (try unfold r_LHs); (repeat' (first | exact trivial | refine z_of_c ?_ ?_)) <;> omega)).trans (f2 _ _ (by decide))
  have g43 : m3 251 43 = m 251 43 := (c2.of (p := 251) (k := 43) (by (try unfold r_LHs); (repeat' (first | exact trivial | refine z_of_c ?_ ?_)) <;> omega)).trans (f2 _ _ (by decide))
  have g265 : ∀ j, m3 265 j = m 265 j := fun j => (c2.of (by (try unfold r_LHs); (repeat' (first | exact trivial | refine z_of_c ?_ ?_)) <;> omega)).trans (f2 265 j (by decide))
  have g266 : ∀ j, m3 266 j = m 266 j := fun j => (c2.of (by (try unfold r_LHs); (repeat' (first | exact trivial | refine z_of_c ?_ ?_)) <;> omega)).trans (f2 266 j (by decide))
  have g267 : ∀ j, m3 267 j = m 267 j := fun j => (c2.of (by (try unfold r_LHs); (repeat' (first | exact trivial | refine z_of_c ?_ ?_)) <;> omega)).trans (f2 267 j (by decide))
  rw [lo_tgl_0, k2, if_pos rfl, a1, zb_n, lo_tgl_12, b1, c1, zb_v, lo_tgl_57, g43, g42, k6, k4]
  generalize lo_V w h n heat price cs D A l N rr = v
  have fin : ∀ W : Int, z_w W = W → ∃ m1, (if a.2.1 < v then z_R 230 (z_up (z_up m3 251 42 W) 251 43 v, 98, [(2, 251), (0, (l.length : Int)), (0, t), (0, (N : Int)), (0, v), (0, 0)], []) else some (z_up m3 251 42 W, none)) = some (m1, none) ∧ lo_K w h n heat price D A c U kn KS cs l (W, if a.2.1 < v then v else a.2.1, if a.2.1 < v then rr else a.2.2) m1 ∧ ∀ i, m1 266 i = m 266 i := by
    intro W hW
    by_cases z1 : a.2.1 < v
    · rw [if_pos z1, if_pos z1, if_pos z1]
      obtain ⟨m4, d1, d2, d3⟩ := lo_cp98 (L := l.length) (x1 := (l.length : Int)) (x2 := t) (x3 := (N : Int)) (x4 := v) (by omega) l.length 0 (z_up (z_up m3 251 42 W) 251 43 v) (by omega) (by rw [zu_k (by decide), zu_k (by decide), g39, k2])
      have d1 : z_R 230 (z_up (z_up m3 251 42 W) 251 43 v, 98, [(2, 251), (0, (l.length : Int)), (0, t), (0, (N : Int)), (0, v), (0, 0)], []) = some (m4, none) := d1
      have f4 : ∀ p k, ¬ p = 267 → ¬ (p = 251 ∧ (k = 42 ∨ k = 43)) → m4 p k = m3 p k := fun p k h1 h2 => by rw [d3 p k (by omega), X_up (by omega), X_up (by omega)]
      refine ⟨m4, d1, ⟨R_fr hR3 (fun p k hk => ?_), (f4 251 39 (by decide) (by decide)).trans (g39.trans k2), fun i hi => (f4 265 i (by decide) (by omega)).trans ((g265 i).trans (k3 i hi)), ?_, hW, ?_, ?_, Or.inr fun i hi => ?_⟩, fun i => (f4 266 i (by decide) (by omega)).trans (g266 i)⟩
      · have z := R_hit_no hk
        exact f4 p k (by omega) (by omega)
      · rw [d3 251 42 (by omega), zu_k (by decide), zu_self]
      · rw [d3 251 43 (by omega), zu_self]
      · show -1 ≤ v
        omega
      · show m4 267 i = (rr i : Int)
        rw [d2 i (Nat.zero_le i) hi, zu_p (by decide), zu_p (by decide), g266 i]
        exact h266 i hi
    · rw [if_neg z1, if_neg z1, if_neg z1]
      exact ⟨_, rfl, ⟨R_upn hR3 (by decide), (zu_k (by decide)).trans (g39.trans k2), fun i hi => (zu_p (by decide)).trans ((g265 i).trans (k3 i hi)), zu_self, hW, (zu_k (by decide)).trans (g43.trans k6), k7, k8.imp id (fun q i hi => (zu_p (by decide)).trans ((g267 i).trans (q i hi)))⟩, fun i => (zu_p (by decide)).trans (g266 i)⟩
  unfold lo_w
  by_cases z2 : v = (N : Int)
  · rw [if_pos z2, if_pos z2]
    exact fin (z_add a.1 1) (by rw [z_add_w]; exact z_w_w)
  · rw [if_neg z2, if_neg z2, z_add0 k5]
    exact fin a.1 k5
theorem lo_glL {l : List Nat} {N : Nat} (hN6 : N ≤ 1000) (hN : w_N w h n heat D) (hok : hr_ok n A) (ht : 0 ≤ A 35 ∧ A 35 ≤ 1073741824) (hl : lo_ok n A l) (hl4 : l.length ≤ 4) : ∀ (j k : Nat), k + j = l.length → ∀ (t : Int) (rr : Nat → Nat) (a : lo_a) (m : z_M), (∀ i, i < k → rr i < 9) → lo_tk k rr t → lo_K w h n heat price D A c U kn KS cs l a m → (∀ i, i < k → m 266 i = (rr i : Int)) → ∃ m1, z_R 230 (m, 0, [(2, 251), (0, (k : Int)), (0, t), (0, (N : Int)), (9, 0), (9, 0)], []) = some (m1, none) ∧ lo_K w h n heat price D A c U kn KS cs l (lo_g (lo_V w h n heat price cs D A l N) (N : Int) w h j k rr a) m1 ∧ ∀ i, i < k → m1 266 i = m 266 i := by
  intro j
  induction j with
  | zero =>
    intro k hk t rr a m hrr htk hK h266
    obtain rfl : k = l.length := by omega
    obtain ⟨m1, a1, a2, a3⟩ := lo_leaf hN6 hN hok ht hl hl4 hrr hK h266 (t := t)
    exact ⟨m1, a1, a2, fun i _ => a3 i⟩
  | succ j ih =>
    intro k hk t rr a m hrr htk hK h266
    have IH := ih (k + 1) (by omega)
    have lp : ∀ (f r : Nat) (a' : lo_a) (m' : z_M), r + f = 9 → lo_K w h n heat price D A c U kn KS cs l a' m' → (∀ i, i < k → m' 266 i = m 266 i) → ∃ m1, z_R 230 (m', 131, [(2, 251), (0, (k : Int)), (0, t), (0, (N : Int)), (0, (r : Int)), (9, 0)], []) = some (m1, none) ∧ lo_K w h n heat price D A c U kn KS cs l ((lo_rs f r).foldl (fun a r => if lo_can w h k rr r = true then lo_g (lo_V w h n heat price cs D A l N) (N : Int) w h j (k + 1) (lo_up rr k r) a else a) a') m1 ∧ ∀ i, i < k → m1 266 i = m 266 i := by
      intro f
      induction f with
      | zero =>
        intro r a' m' hr hK' h1
        rw [lo_tgl_131, if_pos (by omega)]
        exact ⟨m', rfl, hK', h1⟩
      | succ f ihf =>
        intro r a' m' hr hK' h1
        have hcan := lo_can_tk (w := w) (h := h) htk (show r < 9 by omega)
        rw [lo_tgl_131, if_neg (by omega), hK'.1.1.1, hK'.1.1.2.1, z_add_eq (x := (r : Int)) (y := 1) (by omega) (by omega), tc1]
        unfold lo_rs
        show ∃ m1, _ ∧ lo_K w h n heat price D A c U kn KS cs l ((lo_rs f (r + 1)).foldl (fun a r => if lo_can w h k rr r = true then lo_g (lo_V w h n heat price cs D A l N) (N : Int) w h j (k + 1) (lo_up rr k r) a else a) (if lo_can w h k rr r = true then lo_g (lo_V w h n heat price cs D A l N) (N : Int) w h j (k + 1) (lo_up rr k r) a' else a')) m1 ∧ _
        by_cases cu : u_hs (w : Int) (h : Int) (r : Int) = 0
        · rw [if_neg (not_not_intro cu), if_neg (show ¬ lo_can w h k rr r = true from fun z => (hcan.mp z).1 cu)]
          exact ihf (r + 1) a' m' (by omega) hK' h1
        rw [if_pos cu, lo_has m' (show r < 9 by omega), zb_v, lo_tgl_153]
        by_cases cb : zb t r = true
        · rw [if_pos cb, if_neg (show ¬ (1 : Int) = 0 by decide), z_add_eq (x := (r : Int)) (y := 1) (by omega) (by omega), tc1, if_neg (show ¬ lo_can w h k rr r = true from fun z => by rw [(hcan.mp z).2] at cb; cases cb)]
          exact ihf (r + 1) a' m' (by omega) hK' h1
        have cb' : zb t r = false := by
          cases y : zb t r
          · rfl
          · exact absurd y cb
        have hc : lo_can w h k rr r = true := hcan.mpr ⟨cu, cb'⟩
        rw [if_neg cb, if_pos (show (0 : Int) = 0 from rfl), if_pos (show 0 ≤ (k : Int) ∧ (k : Int) < 5 by omega), Int.toNat_natCast, tc1, if_pos hc]
        obtain ⟨m2, b1, b2, b3⟩ := IH (z_or t (z_shl 1 (r : Int))) (lo_up rr k r) a' (z_up m' 266 k (r : Int)) (fun i hi => by
          unfold lo_up
          by_cases e : i = k
          · rw [if_pos e]
            omega
          · rw [if_neg e]
            exact hrr i (by omega)) (lo_tk_s htk (by omega)) (lo_K_fr hK' (fun p i h264 h266' => zu_p h266')) (fun i hi => by
          unfold lo_up
          by_cases e : i = k
          · rw [e, zu_self, if_pos rfl]
          · rw [zu_k e, if_neg e, h1 i (by omega), h266 i (by omega)])
        rw [b1, zb_n, lo_tgl_181, z_add_eq (x := (r : Int)) (y := 1) (by omega) (by omega), tc1]
        exact ihf (r + 1) _ m2 (by omega) b2 (fun i hi => (b3 i (by omega)).trans ((zu_k (by omega)).trans (h1 i hi)))
    obtain ⟨m1, a1, a2, a3⟩ := lp 9 0 a m (by decide) hK (fun _ _ => rfl)
    have a1 : z_R 230 (m, 131, [(2, 251), (0, (k : Int)), (0, t), (0, (N : Int)), (0, 0), (9, 0)], []) = some (m1, none) := a1
    rw [lo_tgl_0, hK.2.1, if_neg (by omega), a1]
    exact ⟨m1, rfl, a2, a3⟩
theorem lo_tteL {L : Nat} (hL : L ≤ 4) : ∀ (f x : Nat) (m : z_M), x + f = L → m 251 39 = (L : Int) → m 251 10 = (x : Int) → ∃ m1, z_R 231 (m, 2, [(2, 251), (0, (x : Int))], []) = some (m1, none) ∧ ∀ p k, ¬ p = 255 → ¬ (p = 251 ∧ k = 10) → m1 p k = m p k := by
  intro f
  induction f with
  | zero =>
    intro x m hx h39 h10
    rw [lo_tte_2, h39, if_pos (by omega)]
    exact ⟨m, rfl, fun _ _ _ _ => rfl⟩
  | succ f ih =>
    intro x m hx h39 h10
    rw [lo_tte_2, h39, if_neg (by omega), if_pos (by omega), t_tell (j := x) m _ (by omega) h10, zb_n, lo_tte_21, z_add_eq (x := (x : Int)) (y := 1) (by omega) (by omega), tc1]
    obtain ⟨m1, a1, a2⟩ := ih (x + 1) (z_up (z_up m 255 x (z_i2l (m 267 ((x : Nat) : Int).toNat))) 251 10 ((x + 1 : Nat) : Int)) (by omega) (by rw [zu_k (by decide), zu_p (by decide)]; exact h39) zu_self
    exact ⟨m1, a1, fun p k h1 h2 => by rw [a2 p k h1 h2, X_up h2, zu_p h1]⟩
theorem R_lodge (hi : R_is w h n heat price D A c U kn KS cs m) (hN : w_N w h n heat D) (hok : hr_ok n A) (ht : 0 ≤ A 35 ∧ A 35 ≤ 1073741824) (a : Int) : ∃ m1, z_R 227 (m, 0, [(2, 251), (0, a)], []) = some (m1, some (0, lo_A w h n heat price cs D A a)) ∧ R_is w h n heat price D A c U kn KS cs m1 := by
  have n5 := hN.1.2.2
  rw [lo_tlo_0]
  by_cases c1 : ¬ (1 ≤ a ∧ a ≤ 40)
  · have e : lo_A w h n heat price cs D A a = -1 := if_pos (by omega)
    rw [if_neg c1, e]
    exact ⟨_, rfl, R_upn hi (by decide)⟩
  have c1 : 1 ≤ a ∧ a ≤ 40 := Decidable.not_not.mp c1
  obtain ⟨N, rfl⟩ : ∃ N : Nat, a = (N : Int) := ⟨a.toNat, by omega⟩
  have hu := R_upn (p0 := 251) (k0 := 39) (v := 0) (R_upn (p0 := 251) (k0 := 11) (v := 0) hi (by decide)) (by decide)
  have g0 : (z_up (z_up m 251 11 0) 251 39 0) 251 39 = ((0 : Nat) : Int) := zu_self
  rw [if_pos c1, b_fl_0]
  generalize z_up (z_up m 251 11 0) 251 39 0 = m0 at hu g0 ⊢
  obtain ⟨m1, a1, a2, a3, a4⟩ := R_fl1 n5 n 0 0 m0 (by omega) (Nat.le_refl _) hu g0
  have a1 : z_R 228 (m0, 7, [(2, 251), (0, 0)], []) = some (m1, none) := a1
  rw [Nat.zero_add] at a2
  have hR1 : R_is w h n heat price D A c U kn KS cs m1 := R_fr hu fun p k hk => by
    have z := R_hit_no hk
    exact a4 p k (by omega) (by omega)
  rw [a1, zb_n, lo_tlo_21, a2]
  by_cases c3 : 4 < (o_ls A n 0).length
  · have e : lo_A w h n heat price cs D A (N : Int) = -3 := by
      unfold lo_A
      rw [if_neg (by omega), if_pos c3]
    rw [if_neg (by omega), e]
    exact ⟨m1, rfl, hR1⟩
  rw [lo_A_g (by omega) (by omega) c3, if_pos (by omega), lo_tla_0]
  have hK : lo_K w h n heat price D A c U kn KS cs (o_ls A n 0) (0, -1, fun _ => 0) (z_up (z_up m1 251 42 0) 251 43 (-1)) := by
    refine ⟨R_upn (R_upn hR1 (by decide)) (by decide), ?_, fun i hi => ?_, ?_, by decide +kernel, zu_self, Int.le_refl (-1), Or.inl rfl⟩
    · rw [zu_k (by decide), zu_k (by decide), a2]
    · have := lo_hl (l := []) (o_ls A n 0) 0 a3 i hi
      rw [Nat.zero_add] at this
      rw [zu_p (by decide), zu_p (by decide)]
      exact this
    · rw [zu_k (by decide), zu_self]
  generalize z_up (z_up m1 251 42 0) 251 43 (-1) = m2 at hK ⊢
  obtain ⟨m3, d1, d2, d3⟩ := lo_glL (N := N) (by omega) hN hok ht (lo_ls_ok n A) (by omega) (o_ls A n 0).length 0 (by omega) 0 (fun _ => 0) (0, -1, fun _ => 0) m2 (fun i hi => absurd hi (Nat.not_lt_zero i)) (lo_tk_0 _) hK (fun i hi => absurd hi (Nat.not_lt_zero i))
  have d1 : z_R 230 (m2, 0, [(2, 251), (0, 0), (0, 0), (0, (N : Int)), (9, 0), (9, 0)], []) = some (m3, none) := d1
  rw [d1, zb_n, lo_tla_17, zb_n, lo_tlo_37]
  generalize lo_g (lo_V w h n heat price cs D A (o_ls A n 0) N) (N : Int) w h (o_ls A n 0).length 0 (fun _ => 0) (0, -1, fun _ => 0) = G at d2 ⊢
  have e42 : m3 251 42 = G.1 := d2.2.2.2.1
  rw [e42]
  by_cases c4 : G.1 ≤ 0
  · rw [if_pos c4]
    exact ⟨_, rfl, R_upn d2.1 (by decide)⟩
  · obtain ⟨m5, f1, f2⟩ := lo_tteL (L := (o_ls A n 0).length) (by omega) (o_ls A n 0).length 0 (z_up m3 251 10 0) (by omega) ((zu_k (by decide)).trans d2.2.1) zu_self
    have f1 : z_R 231 (z_up m3 251 10 0, 2, [(2, 251), (0, 0)], []) = some (m5, none) := f1
    rw [if_neg c4, lo_tte_0, f1, zb_n, lo_tlo_53, f2 251 42 (by decide) (by decide), zu_k (by decide), e42]
    refine ⟨m5, rfl, R_fr d2.1 fun p k hk => ?_⟩
    have z := R_hit_no hk
    rw [f2 p k (by omega) (by omega), X_up (by omega)]
end
/-! the relation, with what the class keeps -/
def lo_0 (m : z_M) : Prop := ∀ b, b < 3 → m 138 b = 0
def Rel_L (σ : m_H) : Prop := Rel_C σ ∧ lo_0 (z_m σ)
noncomputable def lo_offb (y : Nat) : Bool := md_off y 138 0 && (md_off y 138 1 && md_off y 138 2)
theorem lo_off_ok {y : Nat} (h : lo_offb y = true) {C : A_C} (hC : C ∈ cs_at y) {alts : List A_A} {T : Int} {ρ : List Int} {σ σ' : m_H} {r : Option Value} (hp : c_post alts C.2.2.2.2.1 T ρ σ r σ') (hK : lo_0 (z_m σ)) : lo_0 (z_m σ') := by
  obtain ⟨h1, h2⟩ := Bool.and_eq_true _ _ |>.mp h
  obtain ⟨h2, h3⟩ := Bool.and_eq_true _ _ |>.mp h2
  intro b hb
  rcases (show b = 0 ∨ b = 1 ∨ b = 2 by omega) with rfl | rfl | rfl
  · exact (md_off_ok h1 hC hp).trans (hK 0 (by decide))
  · exact (md_off_ok h2 hC hp).trans (hK 1 (by decide))
  · exact (md_off_ok h3 hC hp).trans (hK 2 (by decide))
theorem lo_start : ∀ σ, xs_is σ → Rel_L σ := fun σ hx => ⟨core_start σ hx, fun b hb => by
  have V := V_ck_ok (xs_ck_ok (f := fun σ => V_ck [(138, 0, 3, 0)] σ) (by decide +kernel) hx)
  have z : z_m σ 138 (0 + b) = 0 := V (138, 0, 3, 0) List.mem_cons_self b hb
  rw [Nat.zero_add] at z
  exact z⟩
theorem lo_q {c : l_C} (h1 : l_rel2 Rel_C c) (h : (lo_offb c.2.2.1 && lo_offb c.2.2.2.2.2.2.2) = true) : l_rel2 Rel_L c := by
  obtain ⟨g1, g2⟩ := Bool.and_eq_true _ _ |>.mp h
  intro M1 M2 M3 σ σ1 σ2 as v1 v2 C1 C2 ρ1 ρ2 ha hR hh hM1 hC1 hp1 hE1 hC2 hp2 hE2
  have z := h1 M1 M2 M3 σ σ1 σ2 as v1 v2 C1 C2 ρ1 ρ2 ha hR.1 hh hM1 hC1 hp1 hE1 hC2 hp2 hE2
  exact ⟨⟨z.1, lo_off_ok g2 hC2 hp2 (lo_off_ok g1 hC1 hp1 hR.2)⟩, z.2⟩
theorem lo_q3 {y n : Nat} (h1 : l_rel3 Rel_C y n) (h : lo_offb y = true) : l_rel3 Rel_L y n := by
  intro M1 M2 M3 σ σ1 σ2 as v C2 ρ2 ha hR hh hM1 hf hh1 hC2 hp2 hE2
  have hz : ∀ p k, (¬ p = 6 ∧ ¬ p = 7 ∧ ¬ p = 278) → z_m σ1 p k = z_m σ p k := fun p k hp => by
    have e := hf p k (fun ⟨q, q1, q2, _⟩ => by
      simp only [List.mem_cons, List.not_mem_nil, or_false] at q1
      rcases q1 with rfl | rfl | rfl <;> simp only at q2 <;> omega)
    unfold z_m
    rw [e]
  exact ⟨h1 M1 M2 M3 σ σ1 σ2 as v C2 ρ2 ha hR.1 hh hM1 hf hh1 hC2 hp2 hE2, lo_off_ok h hC2 hp2 (fun b hb => (hz 138 b (by decide)).trans (hR.2 b hb))⟩
theorem core_lodge : l_rel2 Rel_L (798, 116, 98, 1, true, 808, 119, 227) := by
  intro M1 M2 M3 σ σ1 σ2 as v1 v2 C1 C2 ρ1 ρ2 ha hR hh hM1 hC1 hp1 hE1 hC2 hp2 hE2
  obtain ⟨a, rfl⟩ := as_one ha
  have hE1 : z_R 98 (z_m σ, 0, [(2, 0), (0, a.toInt)], []) = some (z_m σ1, some (0, v1.toInt)) := z_R_iff.mpr hE1
  have hE2 : z_R 227 (z_m σ1, 0, [(2, 251), (0, a.toInt)], []) = some (z_m σ2, some (0, v2.toInt)) := z_R_iff.mpr hE2
  have hT := T_two (y1 := 98) (y2 := 227) (by decide +kernel) (by decide +kernel) hC1 hC2 hp1 hp2 hR.1.1
  obtain ⟨w, h, n, heat, price, D, A, c, U, kn, KS, cs, cC, cR, cW⟩ := hR.1.2
  obtain ⟨b1, b2, -, -, hok, b35, -, b7⟩ := core_b hh hM1 cR
  have hN : w_N w h n heat D := ⟨b1, b2, b7⟩
  have f1 := R_off2_ok (y := 98) (by decide +kernel) hC1 hp1
  have f2 := C_off_ok (y := 227) (by decide +kernel) hC2 hp2
  have f3 : lo_0 (z_m σ1) → lo_0 (z_m σ2) := lo_off_ok (y := 227) (by decide +kernel) hC2 hp2
  have cR1 := R_fr cR f1
  have z := core_do (Cp := fun m => C_is w h n heat price D A c U kn KS cs m ∧ lo_0 m) cR1 (fun q => ⟨C_fr q.1 f2, f3 q.2⟩) (C_lodge cC hN hok b35 hR.2 a.toInt) (fun q => R_lodge q hN hok b35 a.toInt) hE1 hE2
  exact ⟨⟨⟨hT, Core_mk z.1.1.1 z.1.2 cW⟩, z.1.1.2⟩, fun _ => z.2⟩
theorem lo_longest (h0 : l_rel2 Rel_C (817, 120, 109, 0, false, 822, 123, 232)) : l_rel2 Rel_L (817, 120, 109, 0, false, 822, 123, 232) := by
  intro M1 M2 M3 σ σ1 σ2 as v1 v2 C1 C2 ρ1 ρ2 ha hR hh hM1 hC1 hp1 hE1 hC2 hp2 hE2
  have z := h0 M1 M2 M3 σ σ1 σ2 as v1 v2 C1 C2 ρ1 ρ2 ha hR.1 hh hM1 hC1 hp1 hE1 hC2 hp2 hE2
  obtain rfl := as_nil ha
  have hE1 : z_R 109 (z_m σ, 0, [(2, 0), (9, 0)], []) = some (z_m σ1, some (0, v1.toInt)) := z_R_iff.mpr hE1
  obtain ⟨w, h, n, heat, price, D, A, c, U, kn, KS, cs, cC, cR, cW⟩ := hR.1.2
  obtain ⟨b1, b2, -, -, hok, b35, -, b7⟩ := core_b hh hM1 cR
  obtain ⟨m1, v, d1, d2⟩ := C_longest cC ⟨b1, b2, b7⟩ hok b35 hR.2
  obtain ⟨e1, -⟩ := R_inj d1 hE1
  rw [e1] at d2
  exact ⟨⟨z.1, lo_off_ok (y := 232) (by decide +kernel) hC2 hp2 d2⟩, z.2⟩
end
section
/-! WHAT IS KEPT: both texts alike, both are in one and the same, and no code is left -/
def Rel_0 (σ : m_H) : Prop := Rel_L σ
theorem rel_start : ∀ σ, xs_is σ → Rel_0 σ := lo_start
theorem rel_offc {c : l_C} (h : ((core_offb c.2.2.1 && core_offb c.2.2.2.2.2.2.2) && (rel_offb c.2.2.1 && (rel_offb c.2.2.2.2.2.2.2 && !c.2.2.2.2.1))) = true) : l_rel2 Rel_C c := by
  obtain ⟨h1, h2⟩ := Bool.and_eq_true _ _ |>.mp h
  exact core_q (R_off h2) h1
theorem rel_off {c : l_C} (h : (((core_offb c.2.2.1 && core_offb c.2.2.2.2.2.2.2) && (rel_offb c.2.2.1 && (rel_offb c.2.2.2.2.2.2.2 && !c.2.2.2.2.1))) && (lo_offb c.2.2.1 && lo_offb c.2.2.2.2.2.2.2)) = true) : l_rel2 Rel_0 c := by
  obtain ⟨h1, h2⟩ := Bool.and_eq_true _ _ |>.mp h
  exact lo_q (rel_offc h1) h2
theorem rl_0 : l_rel2 Rel_0 (219, 26, 14, 1, false, 230, 30, 160) := lo_q (c := (219, 26, 14, 1, false, 230, 30, 160)) (core_q R_sign (by decide +kernel)) (by decide +kernel)
theorem rl_1 : l_rel2 Rel_0 (244, 31, 16, 1, false, 255, 35, 161) := lo_q (c := (244, 31, 16, 1, false, 255, 35, 161)) (core_q R_end (by decide +kernel)) (by decide +kernel)
theorem rl_2 : l_rel2 Rel_0 (263, 36, 18, 0, false, 268, 40, 163) := lo_q (c := (263, 36, 18, 0, false, 268, 40, 163)) (core_house) (by decide +kernel)
theorem rl_3 : l_rel2 Rel_0 (276, 41, 35, 0, false, 281, 44, 172) := lo_q (c := (276, 41, 35, 0, false, 281, 44, 172)) (core_people) (by decide +kernel)
theorem rl_4 : l_rel2 Rel_0 (289, 45, 39, 0, false, 294, 48, 175) := lo_q (c := (289, 45, 39, 0, false, 294, 48, 175)) (core_rule) (by decide +kernel)
theorem rl_7 : l_rel2 Rel_0 (394, 58, 53, 2, false, 411, 61, 192) := lo_q (c := (394, 58, 53, 2, false, 411, 61, 192)) (core_set) (by decide +kernel)
theorem rl_8 : l_rel2 Rel_0 (437, 62, 54, 3, false, 460, 66, 193) := lo_q (c := (437, 62, 54, 3, false, 460, 66, 193)) (core_doing) (by decide +kernel)
theorem rl_9 : l_rel2 Rel_0 (492, 67, 56, 4, false, 521, 71, 194) := lo_q (c := (492, 67, 56, 4, false, 521, 71, 194)) (core_sheet) (by decide +kernel)
theorem rl_10 : l_rel2 Rel_0 (541, 72, 58, 2, false, 558, 75, 195) := lo_q (c := (541, 72, 58, 2, false, 558, 75, 195)) (core_move) (by decide +kernel)
theorem rl_11 : l_rel2 Rel_0 (572, 76, 62, 1, false, 583, 79, 201) := lo_q (c := (572, 76, 62, 1, false, 583, 79, 201)) (core_stove) (by decide +kernel)
theorem rl_12 : l_rel2 Rel_0 (591, 80, 64, 0, false, 596, 83, 204) := lo_q (c := (591, 80, 64, 0, false, 596, 83, 204)) (core_hour) (by decide +kernel)
theorem rl_13 : l_rel2 Rel_0 (610, 84, 80, 1, false, 621, 87, 205) := lo_q (c := (610, 84, 80, 1, false, 621, 87, 205)) (core_hours) (by decide +kernel)
theorem rl_14 : l_rel2 Rel_0 (641, 88, 81, 2, false, 658, 91, 211) := lo_q (c := (641, 88, 81, 2, false, 658, 91, 211)) (core_pay) (by decide +kernel)
theorem rl_15 : l_rel2 Rel_0 (666, 92, 82, 0, false, 671, 95, 212) := lo_q (c := (666, 92, 82, 0, false, 671, 95, 212)) (core_winter) (by decide +kernel)
theorem rl_16 : l_rel2 Rel_0 (679, 96, 87, 0, false, 684, 99, 216) := lo_q (c := (679, 96, 87, 0, false, 684, 99, 216)) (core_undo) (by decide +kernel)
theorem rl_23 : l_rel2 Rel_0 (836, 124, 110, 1, false, 847, 127, 233) := lo_q (c := (836, 124, 110, 1, false, 847, 127, 233)) (core_quiet2) (by decide +kernel)
theorem rl_35 : l_rel2 Rel_0 (1166, 172, 144, 2, false, 1183, 175, 257) := lo_q (c := (1166, 172, 144, 2, false, 1183, 175, 257)) (core_season) (by decide +kernel)
theorem rl_36 : l_rel2 Rel_0 (1197, 176, 150, 1, false, 1208, 179, 258) := lo_q (c := (1197, 176, 150, 1, false, 1208, 179, 258)) (core_keep) (by decide +kernel)
theorem rl_37 : l_rel2 Rel_0 (1222, 180, 152, 1, false, 1233, 183, 259) := lo_q (c := (1222, 180, 152, 1, false, 1233, 183, 259)) (core_again) (by decide +kernel)
theorem rl_22 : l_rel2 Rel_0 (817, 120, 109, 0, false, 822, 123, 232) := lo_longest (rel_offc (by decide +kernel))
theorem rel_cases : ∀ c ∈ law_cs, l_rel2 Rel_0 c := by
  unfold law_cs
  refine List.forall_mem_cons.mpr ⟨rl_0, ?_⟩
  refine List.forall_mem_cons.mpr ⟨rl_1, ?_⟩
  refine List.forall_mem_cons.mpr ⟨rl_2, ?_⟩
  refine List.forall_mem_cons.mpr ⟨rl_3, ?_⟩
  refine List.forall_mem_cons.mpr ⟨rl_4, ?_⟩
  refine List.forall_mem_cons.mpr ⟨rl_7, ?_⟩
  refine List.forall_mem_cons.mpr ⟨rl_8, ?_⟩
  refine List.forall_mem_cons.mpr ⟨rl_9, ?_⟩
  refine List.forall_mem_cons.mpr ⟨rl_10, ?_⟩
  refine List.forall_mem_cons.mpr ⟨rl_11, ?_⟩
  refine List.forall_mem_cons.mpr ⟨rl_12, ?_⟩
  refine List.forall_mem_cons.mpr ⟨rl_13, ?_⟩
  refine List.forall_mem_cons.mpr ⟨rl_14, ?_⟩
  refine List.forall_mem_cons.mpr ⟨rl_15, ?_⟩
  refine List.forall_mem_cons.mpr ⟨rl_16, ?_⟩
  refine List.forall_mem_cons.mpr ⟨rel_off (by decide +kernel), ?_⟩
  refine List.forall_mem_cons.mpr ⟨rel_off (by decide +kernel), ?_⟩
  refine List.forall_mem_cons.mpr ⟨rel_off (by decide +kernel), ?_⟩
  refine List.forall_mem_cons.mpr ⟨rel_off (by decide +kernel), ?_⟩
  refine List.forall_mem_cons.mpr ⟨core_lodge, ?_⟩
  refine List.forall_mem_cons.mpr ⟨rl_22, ?_⟩
  refine List.forall_mem_cons.mpr ⟨rl_23, ?_⟩
  refine List.forall_mem_cons.mpr ⟨rel_off (by decide +kernel), ?_⟩
  refine List.forall_mem_cons.mpr ⟨rel_off (by decide +kernel), ?_⟩
  refine List.forall_mem_cons.mpr ⟨rel_off (by decide +kernel), ?_⟩
  refine List.forall_mem_cons.mpr ⟨rel_off (by decide +kernel), ?_⟩
  refine List.forall_mem_cons.mpr ⟨rel_off (by decide +kernel), ?_⟩
  refine List.forall_mem_cons.mpr ⟨rel_off (by decide +kernel), ?_⟩
  refine List.forall_mem_cons.mpr ⟨rel_off (by decide +kernel), ?_⟩
  refine List.forall_mem_cons.mpr ⟨rel_off (by decide +kernel), ?_⟩
  refine List.forall_mem_cons.mpr ⟨rel_off (by decide +kernel), ?_⟩
  refine List.forall_mem_cons.mpr ⟨rel_off (by decide +kernel), ?_⟩
  refine List.forall_mem_cons.mpr ⟨rel_off (by decide +kernel), ?_⟩
  refine List.forall_mem_cons.mpr ⟨rl_35, ?_⟩
  refine List.forall_mem_cons.mpr ⟨rl_36, ?_⟩
  refine List.forall_mem_cons.mpr ⟨rl_37, ?_⟩
  refine List.forall_mem_cons.mpr ⟨rel_off (by decide +kernel), ?_⟩
  exact fun _ h => absurd h List.not_mem_nil
theorem rel_5 : l_rel3 Rel_0 181 2 := lo_q3 (core_q3 (R3_off (by decide +kernel)) (by decide +kernel)) (by decide +kernel)
theorem rel_6 : l_rel3 Rel_0 190 2 := lo_q3 (core_q3 (R3_off (by decide +kernel)) (by decide +kernel)) (by decide +kernel)
theorem rel_39 : l_rel3 Rel_0 261 1 := lo_q3 (core_q3 (R3_off (by decide +kernel)) (by decide +kernel)) (by decide +kernel)
end
