section
/-! warm, of what both are in -/
theorem z_a63 (a : Int) : 0 ≤ z_and a 63 ∧ z_and a 63 ≤ 63 := by
  have : z_and a 63 = (Int32.ofInt a).toInt % 64 := i32_and63 _
  omega
theorem hr_pc_b (b : Int) : 0 ≤ hr_pc b ∧ hr_pc b ≤ 63 := z_a63 _
theorem i32_and1 (y : Int32) : (y &&& Int32.ofInt 1).toInt = y.toInt % 2 := by
  have h1 : (y &&& Int32.ofInt 1).toBitVec.toNat = y.toBitVec.toNat % 2 := by
    show (y.toBitVec &&& 1#32).toNat = _
    rw [BitVec.toNat_and]
    exact Nat.and_two_pow_sub_one_eq_mod _ 1
  have h2 := i32_ofNat (x := y &&& Int32.ofInt 1) (by rw [h1]; omega)
  have h3 : y.toInt = y.toBitVec.toInt := rfl
  rw [h2, h1, h3, BitVec.toInt_eq_toNat_cond]
  have := y.toBitVec.isLt
  split <;> omega
theorem z_a1 (a : Int) : z_and a 1 = 0 ∨ z_and a 1 = 1 := by
  have : z_and a 1 = (Int32.ofInt a).toInt % 2 := i32_and1 _
  omega
theorem z_add0 {s : Int} (h : z_w s = s) : z_add s 0 = s := by
  rw [z_add_w, Int.add_zero]
  exact h
theorem hr_s_rg {wm : Nat → Int} {b : Int} (hwm : ∀ p, p < 5 → 0 ≤ wm p ∧ wm p ≤ 9) : ∀ (f x : Nat) (s : Int), x + f ≤ 5 → 0 ≤ s → s ≤ 9 + 9 * (x : Int) → 0 ≤ hr_s wm b f x s ∧ hr_s wm b f x s ≤ 54 := by
  intro f
  induction f with
  | zero => intro x s hx h0 h1; exact ⟨h0, show s ≤ 54 by omega⟩
  | succ f ih =>
    intro x s hx h0 h1
    have hw := hwm x (by omega)
    unfold hr_s
    by_cases c : z_and (z_shr b (x : Int)) 1 = 1
    · rw [if_pos c, z_add_eq (by omega) (by omega)]
      exact ih (x + 1) _ (by omega) (by omega) (by omega)
    · rw [if_neg c, z_add_eq (by omega) (by omega)]
      exact ih (x + 1) _ (by omega) (by omega) (by omega)
/-- in how many sets it melts v -/
def o_cnt (M : Int → Int) (v : Int) : Nat → Nat → Int → Int
  | 0, _, k => k
  | f + 1, x, k => o_cnt M v f (x + 1) (if M (x : Int) = v then k + 1 else k)
def o_mel (n : Nat) (heat : Int) (cs : List Int) (D A : Nat → Int) (r : Nat) (b : Int) : Int := hr_mB heat (c_ml cs) (wmD D (A 35)) n A r b
def o_warm (w h n : Nat) (heat : Int) (cs : List Int) (D A : Nat → Int) (r v : Int) : Int := if (¬ u_hs (w : Int) (h : Int) r = 0) ∧ 0 ≤ v ∧ v ≤ 99 then o_cnt (o_mel n heat cs D A r.toNat) v (2 ^ n) 0 0 else -1
section
variable {w h n : Nat} {heat price : Int} {D A : Nat → Int} {c : Nat} {U : Nat → Nat → Int} {kn : Nat → Int} {KS : Nat → Nat → Int} {cs : List Int} {m : z_M}
theorem z_p2 (h5 : n ≤ 5) : z_shl 1 (n : Int) = ((2 ^ n : Nat) : Int) := by
  have : ∀ n, n < 6 → z_shl 1 ((n : Nat) : Int) = ((2 ^ n : Nat) : Int) := by decide +kernel
  exact this n (by omega)
theorem z_p32 (h5 : n ≤ 5) : 2 ^ n ≤ 32 := by
  have : ∀ n, n < 6 → 2 ^ n ≤ 32 := by decide +kernel
  exact this n (by omega)
theorem C_wof (hi : C_is w h n heat price D A c U kn KS cs m) (h5 : n ≤ 5) (ht : 0 ≤ A 35 ∧ A 35 ≤ 1073741824) {r b : Int} : ∀ (f x : Nat) (s : Int), x + f = n → z_w s = s → z_R 119 (m, 24, [(2, 24), (2, 12), (0, r), (0, b), (0, s), (0, (x : Int))], []) = some (m, some (0, hr_s (wmD D (A 35)) b f x s)) := by
  have e11 := hi.1.2.2.1
  have e7 : m 12 7 = A 35 := by
    rw [← hi.2.2.1]
    exact (cS_at0 (s := 12) (j := 7) (by decide)).symm
  intro f
  induction f with
  | zero =>
    intro x s hx hs
    rw [u_wof_24 m r b s x (by omega), e11, if_pos (by omega)]
    rfl
  | succ f ih =>
    intro x s hx hs
    rw [u_wof_24 m r b s x (by omega), e11, if_neg (by omega), z_add_eq (x := (x : Int)) (y := 1) (by omega) (by omega), tc1]
    unfold hr_s
    rcases z_a1 (z_shr b (x : Int)) with z | z
    · rw [if_pos z, if_neg (by omega), z_add0 hs]
      exact ih (x + 1) s (by omega) hs
    · have ec : cw m x (A 35) = wmD D (A 35) x := cw_D hi.1.2.2.2.2.2.2.1 hi.1.2.2.2.2.2.2.2 hi.2.1 ht.1 (by omega)
      rw [if_neg (by omega), if_pos z, e7, c_wo m (by omega) ht.1 (by omega), zb_v, u_wof_57, z_add_eq (x := (x : Int)) (y := 1) (by omega) (by omega), tc1, ec]
      exact ih (x + 1) _ (by omega) (by rw [z_add_w]; exact z_w_w)
theorem C_mbs (hi : C_is w h n heat price D A c U kn KS cs m) (hN : w_N w h n heat D) (ht : 0 ≤ A 35 ∧ A 35 ≤ 1073741824) {r : Nat} (hr : r < 9) (b : Int) : ∃ m1, z_R 118 (m, 0, [(2, 24), (2, 12), (0, (r : Int)), (0, b)], []) = some (m1, some (0, o_mel n heat cs D A r b)) ∧ C_is w h n heat price D A c U kn KS cs m1 := by
  have h5 := hN.1.2.2
  have e6 : m 12 6 = A 34 := by
    rw [← hi.2.2.1]
    exact (cS_at0 (s := 12) (j := 6) (by decide)).symm
  have e7 : m 12 7 = A 35 := by
    rw [← hi.2.2.1]
    exact (cS_at0 (s := 12) (j := 7) (by decide)).symm
  have e8 : m 12 8 = A 36 := by
    rw [← hi.2.2.1]
    exact (cS_at0 (s := 12) (j := 8) (by decide)).symm
  have e13 : m 13 r = A r := by
    rw [← hi.2.2.1]
    exact (cS_at1 (s := 12) hr).symm
  have e14 : m 14 r = A (r + 9) := by
    rw [← hi.2.2.1]
    exact (cS_at2 (s := 12) hr).symm
  have ew : z_R 119 (m, 0, [(2, 24), (2, 12), (0, (r : Int)), (0, b), (9, 0), (9, 0)], []) = some (m, some (0, hr_wb heat (wmD D (A 35)) n A r b)) := by
    rw [u_wof_0, e6, hi.1.2.2.2.1]
    unfold hr_wb
    have hb := hN.2.1
    by_cases z : A 34 = (r : Int)
    · rw [if_pos z, if_pos z]
      exact C_wof hi h5 ht n 0 heat (by omega) (z_w_of (by omega) (by omega))
    · rw [if_neg z, if_neg z]
      exact C_wof hi h5 ht n 0 0 (by omega) (by decide +kernel)
  obtain ⟨m1, a1, a2⟩ := (C_cfg hi).2.2.2.2.2.2.1 m rfl rfl (hr_wb heat (wmD D (A 35)) n A r b) (A r) (A (r + 9)) (A 36) ((r : Int) / 3) (hr_pc b) (A 35)
  have hC1 : C_is w h n heat price D A c U kn KS cs m1 := C_fr hi fun p k hk => by
    have hk' := hk
    unfold C_hit at hk'
    have hk' := of_decide_eq_true hk'
    exact a2.of (by (repeat' (first | exact trivial | refine z_of_c ?_ ?_)) <;> omega)
  rw [u_mbs_0, ew, zb_v, u_mbs_10, t_bc_0, zb_v, u_mbs_14, u_mby_0 m r _ _ (by omega), Int.toNat_natCast, e13, e14, e8, e7, a1, zb_v, u_mby_48, zb_v, u_mbs_17]
  exact ⟨m1, rfl, hC1⟩
theorem C_wrm1 (hN : w_N w h n heat D) (ht : 0 ≤ A 35 ∧ A 35 ≤ 1073741824) {r : Nat} (hr : r < 9) {v : Int} : ∀ (f x : Nat) (y3 y4 k : Int) (m : z_M), x + f = 2 ^ n → 0 ≤ k → k ≤ (x : Int) → C_is w h n heat price D A c U kn KS cs m → ∃ m1, z_R 125 (m, 34, [(2, 0), (0, (r : Int)), (0, v), (0, y3), (0, y4), (0, k), (0, (x : Int))], []) = some (m1, some (0, o_cnt (o_mel n heat cs D A r) v f x k)) ∧ C_is w h n heat price D A c U kn KS cs m1 := by
  have h5 := hN.1.2.2
  have h32 := z_p32 h5
  intro f
  induction f with
  | zero =>
    intro x y3 y4 k m hx h0 h1 hi
    rw [u_wrm_34, hi.1.2.2.1, z_p2 h5, if_pos (by omega), c_tell2, zb_n, u_wrm_113]
    exact ⟨_, rfl, C_tell2 hi _ _⟩
  | succ f ih =>
    intro x y3 y4 k m hx h0 h1 hi
    obtain ⟨m1, a1, a2⟩ := C_mbs hi hN ht hr (x : Int)
    rw [u_wrm_34, hi.1.2.2.1, z_p2 h5, if_neg (by omega), a1, zb_v, u_wrm_62, z_add_eq (x := (x : Int)) (y := 1) (by omega) (by omega), tc1, z_add_eq (x := k) (y := 1) (by omega) (by omega)]
    unfold o_cnt
    by_cases z : o_mel n heat cs D A r (x : Int) = v
    · rw [if_pos z, if_pos z]
      by_cases z0 : k = 0
      · rw [if_pos z0]
        exact ih (x + 1) _ _ _ m1 (by omega) (by omega) (by omega) a2
      · rw [if_neg z0, if_neg z0]
        exact ih (x + 1) _ _ _ m1 (by omega) (by omega) (by omega) a2
    · rw [if_neg z, if_neg z]
      exact ih (x + 1) _ _ _ m1 (by omega) h0 (by omega) a2
theorem C_warm (hi : C_is w h n heat price D A c U kn KS cs m) (hN : w_N w h n heat D) (ht : 0 ≤ A 35 ∧ A 35 ≤ 1073741824) (r v : Int) : ∃ m1, z_R 125 (m, 0, [(2, 0), (0, r), (0, v), (9, 0), (9, 0), (9, 0), (9, 0)], []) = some (m1, some (0, o_warm w h n heat cs D A r v)) ∧ C_is w h n heat price D A c U kn KS cs m1 := by
  rw [u_wrm_0, hi.1.1, hi.1.2.1]
  by_cases c1 : u_hs (w : Int) (h : Int) r = 0
  · have e : o_warm w h n heat cs D A r v = -1 := if_neg (fun z => z.1 c1)
    rw [if_neg (not_not_intro c1), e]
    exact ⟨m, rfl, hi⟩
  rw [if_pos c1]
  by_cases c2 : v < 0
  · have e : o_warm w h n heat cs D A r v = -1 := if_neg (fun z => by have := z.2; omega)
    rw [if_pos c2, e]
    exact ⟨m, rfl, hi⟩
  rw [if_neg c2]
  by_cases c3 : v ≤ 99
  · have hr := u_hs_rng c1
    have e : o_warm w h n heat cs D A r v = o_cnt (o_mel n heat cs D A r.toNat) v (2 ^ n) 0 0 := if_pos ⟨c1, by omega, c3⟩
    obtain ⟨q, rfl⟩ : ∃ q : Nat, r = (q : Int) := ⟨r.toNat, by omega⟩
    rw [Int.toNat_natCast] at e
    rw [if_pos c3, e]
    exact C_wrm1 hN ht (by omega) (2 ^ n) 0 (-1) 0 0 m (by omega) (by decide) (by decide) hi
  · have e : o_warm w h n heat cs D A r v = -1 := if_neg (fun z => by have := z.2; omega)
    rw [if_neg c3, e]
    exact ⟨m, rfl, hi⟩
/-! the reference -/
theorem R_mbs (hi : R_is w h n heat price D A c U kn KS cs m) (hN : w_N w h n heat D) (hok : hr_ok n A) (ht : 0 ≤ A 35 ∧ A 35 ≤ 1073741824) {r : Nat} (hr : r < 9) (b : Int) : ∃ m1, z_R 188 (m, 0, [(2, 251), (2, 252), (0, (r : Int)), (0, b)], []) = some (m1, some (0, o_mel n heat cs D A r b)) ∧ R_is w h n heat price D A c U kn KS cs m1 := by
  have h5 := hN.1.2.2
  obtain ⟨c1, c2, c3, c4, c5, c6, c7⟩ := R_cfg hi
  have ea : ∀ k, k < 18 ∨ 33 ≤ k → k < 37 → m 252 k = A k := fun k hk h37 => R_A hi h37 (by
    rcases hk with hk | hk
    · exact a_vis_lo hk
    · exact a_vis_hi hk)
  have hrg : r_rg 252 m := by
    refine ⟨fun k hk => ?_, ?_, ?_⟩
    · have p1 := hok.1 k hk
      have p2 := hok.2.1 k hk
      rw [ea k (by omega) (by omega), ea (k + 9) (by omega) (by omega)]
      omega
    · rw [ea 36 (by omega) (by omega)]
      have := hok.2.2.2
      omega
    · rw [ea 35 (by omega) (by omega)]
      omega
  have hb := hN.2.1
  have hW : r_i (hr_wb heat (wmD D (A 35)) n (rS m 252 n) r b) := by
    unfold hr_wb r_i
    by_cases z : rS m 252 n 34 = (r : Int)
    · rw [if_pos z]
      have := hr_s_rg (b := b) (hN.2.2 (A 35) ht.1) n 0 heat (by omega) (by omega) (by omega)
      omega
    · rw [if_neg z]
      have := hr_s_rg (b := b) (hN.2.2 (A 35) ht.1) n 0 0 (by omega) (by omega) (by omega)
      omega
  have hP : r_i (hr_pc b) := by
    have := hr_pc_b b
    unfold r_i
    omega
  obtain ⟨m1, a1, a2⟩ := r_mb z_A_252 (Or.inl rfl) h5 (ml := c_ml cs) (b := b) (t := A 35) (heat := heat) (wm := wmD D (A 35)) ht.1 (by omega) m c3 c4 (ea 35 (by omega) (by omega)) (fun p hp => c6 (A 35) ht.1 p hp) c7 hr hrg hW hP
  rw [hi.2.2.1] at a1
  have a1 : z_R 188 (m, 0, [(2, 251), (2, 252), (0, (r : Int)), (0, b)], []) = some (m1, some (0, o_mel n heat cs D A r b)) := a1
  refine ⟨m1, a1, R_fr hi fun p k hk => ?_⟩
  have hk' := hk
  unfold R_hit at hk'
  have hk' := of_decide_eq_true hk'
  exact a2.of (by (repeat' (first | exact trivial | refine z_of_c ?_ ?_)) <;> omega)
theorem R_wrm1 (hN : w_N w h n heat D) (hok : hr_ok n A) (ht : 0 ≤ A 35 ∧ A 35 ≤ 1073741824) {r : Nat} (hr : r < 9) {v : Int} : ∀ (f x : Nat) (k y4 y5 : Int) (m : z_M), x + f = 2 ^ n → 0 ≤ k → k ≤ (x : Int) → R_is w h n heat price D A c U kn KS cs m → ∃ m1, z_R 243 (m, 43, [(2, 251), (0, (r : Int)), (0, v), (0, k), (0, y4), (0, y5), (0, (x : Int))], []) = some (m1, some (0, o_cnt (o_mel n heat cs D A r) v f x k)) ∧ R_is w h n heat price D A c U kn KS cs m1 := by
  have h5 := hN.1.2.2
  have h32 := z_p32 h5
  intro f
  induction f with
  | zero =>
    intro x k y4 y5 m hx h0 h1 hi
    rw [u_twr_43, hi.1.2.2.1, z_p2 h5, if_pos (by omega), t_tell0, zb_n, u_twr_113]
    by_cases z : k = 0
    · rw [if_pos z, t_tell1, zb_n, u_twr_128]
      exact ⟨_, rfl, R_upn (R_upn (R_upn (R_upn (R_upn hi (by decide)) (by decide)) (by decide)) (by decide)) (by decide)⟩
    · rw [if_neg z, t_tell1, zb_n, u_twr_128]
      exact ⟨_, rfl, R_upn (R_upn (R_upn (R_upn (R_upn hi (by decide)) (by decide)) (by decide)) (by decide)) (by decide)⟩
  | succ f ih =>
    intro x k y4 y5 m hx h0 h1 hi
    obtain ⟨m1, a1, a2⟩ := R_mbs hi hN hok ht hr (x : Int)
    rw [u_twr_43, hi.1.2.2.1, z_p2 h5, if_neg (by omega), a1, zb_v, u_twr_65, z_add_eq (x := (x : Int)) (y := 1) (by omega) (by omega), tc1, z_add_eq (x := k) (y := 1) (by omega) (by omega)]
    unfold o_cnt
    by_cases z : o_mel n heat cs D A r (x : Int) = v
    · rw [if_pos z, if_pos z]
      by_cases z0 : k = 0
      · rw [if_pos z0]
        exact ih (x + 1) _ _ _ m1 (by omega) (by omega) (by omega) a2
      · rw [if_neg z0]
        exact ih (x + 1) _ _ _ m1 (by omega) (by omega) (by omega) a2
    · rw [if_neg z, if_neg z]
      exact ih (x + 1) _ _ _ m1 (by omega) h0 (by omega) a2
theorem R_warm (hi : R_is w h n heat price D A c U kn KS cs m) (hN : w_N w h n heat D) (hok : hr_ok n A) (ht : 0 ≤ A 35 ∧ A 35 ≤ 1073741824) (r v : Int) : ∃ m1, z_R 243 (m, 0, [(2, 251), (0, r), (0, v), (9, 0), (9, 0), (9, 0), (9, 0)], []) = some (m1, some (0, o_warm w h n heat cs D A r v)) ∧ R_is w h n heat price D A c U kn KS cs m1 := by
  have hu := R_upn (p0 := 251) (k0 := 11) (v := 0) hi (by decide)
  rw [u_twr_0, hi.1.1, hi.1.2.1]
  by_cases c1 : u_hs (w : Int) (h : Int) r = 0
  · have e : o_warm w h n heat cs D A r v = -1 := if_neg (fun z => z.1 c1)
    rw [if_neg (not_not_intro c1), e]
    exact ⟨_, rfl, hu⟩
  rw [if_pos c1]
  by_cases c2 : 0 ≤ v ∧ v ≤ 99
  · have hr := u_hs_rng c1
    have e : o_warm w h n heat cs D A r v = o_cnt (o_mel n heat cs D A r.toNat) v (2 ^ n) 0 0 := if_pos ⟨c1, c2⟩
    obtain ⟨q, rfl⟩ : ∃ q : Nat, r = (q : Int) := ⟨r.toNat, by omega⟩
    rw [Int.toNat_natCast] at e
    rw [if_pos c2, e]
    exact R_wrm1 hN hok ht (by omega) (2 ^ n) 0 0 _ _ _ (by omega) (by decide) (by decide) hu
  · have e : o_warm w h n heat cs D A r v = -1 := if_neg (fun z => c2 z.2)
    rw [if_neg c2, e]
    exact ⟨_, rfl, hu⟩
end
theorem core_warm : l_rel2 Rel_C (930, 140, 125, 2, false, 947, 143, 243) := by
  intro M1 M2 M3 σ σ1 σ2 as v1 v2 C1 C2 ρ1 ρ2 ha hR hh hM1 hC1 hp1 hE1 hC2 hp2 hE2
  obtain ⟨r, v, rfl⟩ := as_two ha
  have hE1 : z_R 125 (z_m σ, 0, [(2, 0), (0, r.toInt), (0, v.toInt), (9, 0), (9, 0), (9, 0), (9, 0)], []) = some (z_m σ1, some (0, v1.toInt)) := z_R_iff.mpr hE1
  have hE2 : z_R 243 (z_m σ1, 0, [(2, 251), (0, r.toInt), (0, v.toInt), (9, 0), (9, 0), (9, 0), (9, 0)], []) = some (z_m σ2, some (0, v2.toInt)) := z_R_iff.mpr hE2
  have hT := T_two (y1 := 125) (y2 := 243) (by decide +kernel) (by decide +kernel) hC1 hC2 hp1 hp2 hR.1
  obtain ⟨w, h, n, heat, price, D, A, c, U, kn, KS, cs, cC, cR, cW⟩ := hR.2
  obtain ⟨b1, b2, -, -, hok, b35, -, b7⟩ := core_b hh hM1 cR
  have hN : w_N w h n heat D := ⟨b1, b2, b7⟩
  have f1 := R_off2_ok (y := 125) (by decide +kernel) hC1 hp1
  have f2 := C_off_ok (y := 243) (by decide +kernel) hC2 hp2
  have cR1 := R_fr cR f1
  have z := core_do cR1 (fun q => C_fr q f2) (C_warm cC hN b35 r.toInt v.toInt) (fun q => R_warm q hN hok b35 r.toInt v.toInt) hE1 hE2
  exact ⟨⟨hT, Core_mk z.1.1 z.1.2 cW⟩, fun _ => z.2⟩
end
section
/-! STRETCHES of look, with bounds done -/
theorem k_bc_0  (m : z_M) (x : Int) : z_R 128 (m, 0, [(1, x), (9, 0)], []) = z_R 128 (m, 10, [(1, z_lsub x (z_land (z_lush x 1) 6148914691236517205)), (9, 0)], []) :=
  have hK : kt_at 128 = kt_128 := rfl
  (z_R_run hK (n := 8) (g' := (m, 10, [(1, z_lsub x (z_land (z_lush x 1) 6148914691236517205)), (9, 0)], [])) rfl).trans (rfl)
theorem k_bc_10  (m : z_M) (x0 : Int) : z_R 128 (m, 10, [(1, x0), (9, 0)], []) = z_R 128 (m, 24, [(1, z_ladd (z_land x0 3689348814741910323) (z_land (z_lush x0 2) 3689348814741910323)), (9, 0)], []) :=
  have hK : kt_at 128 = kt_128 := rfl
  (z_R_run hK (n := 10) (g' := (m, 24, [(1, z_ladd (z_land x0 3689348814741910323) (z_land (z_lush x0 2) 3689348814741910323)), (9, 0)], [])) rfl).trans (rfl)
theorem k_bc_24  (m : z_M) (x0 : Int) : z_R 128 (m, 24, [(1, x0), (9, 0)], []) = z_R 128 (m, 34, [(1, z_land (z_ladd x0 (z_lush x0 4)) 1085102592571150095), (9, 0)], []) :=
  have hK : kt_at 128 = kt_128 := rfl
  (z_R_run hK (n := 8) (g' := (m, 34, [(1, z_land (z_ladd x0 (z_lush x0 4)) 1085102592571150095), (9, 0)], [])) rfl).trans (rfl)
theorem k_bc_34  (m : z_M) (x0 : Int) : z_R 128 (m, 34, [(1, x0), (9, 0)], []) = z_R 128 (m, 41, [(1, z_ladd x0 (z_lush x0 8)), (9, 0)], []) :=
  have hK : kt_at 128 = kt_128 := rfl
  (z_R_run hK (n := 6) (g' := (m, 41, [(1, z_ladd x0 (z_lush x0 8)), (9, 0)], [])) rfl).trans (rfl)
theorem k_bc_41  (m : z_M) (x0 : Int) : z_R 128 (m, 41, [(1, x0), (9, 0)], []) = z_R 128 (m, 48, [(1, z_ladd x0 (z_lush x0 16)), (9, 0)], []) :=
  have hK : kt_at 128 = kt_128 := rfl
  (z_R_run hK (n := 6) (g' := (m, 48, [(1, z_ladd x0 (z_lush x0 16)), (9, 0)], [])) rfl).trans (rfl)
theorem k_bc_48  (m : z_M) (x0 : Int) : z_R 128 (m, 48, [(1, x0), (9, 0)], []) = z_R 128 (m, 55, [(1, z_ladd x0 (z_lush x0 32)), (9, 0)], []) :=
  have hK : kt_at 128 = kt_128 := rfl
  (z_R_run hK (n := 6) (g' := (m, 55, [(1, z_ladd x0 (z_lush x0 32)), (9, 0)], [])) rfl).trans (rfl)
theorem k_bc_55  (m : z_M) (x0 : Int) : z_R 128 (m, 55, [(1, x0), (9, 0)], []) = some (m, some (0, z_and (z_l2i x0) 127)) :=
  have hK : kt_at 128 = kt_128 := rfl
  (z_R_run hK (n := 4) (g' := (m, 60, [(1, x0), (9, 0)], [(0, z_and (z_l2i x0) 127)])) rfl).trans (z_R_ret hK rfl rfl rfl)
theorem k_cm_0  (m : z_M) (r : Int) : z_R 127 (m, 0, [(2, 24), (2, 12), (0, r), (9, 0), (9, 0), (9, 0), (9, 0), (9, 0), (9, 0)], []) = z_R 127 (z_up m 24 13 0, 13, [(2, 24), (2, 12), (0, r), (1, 0), (9, 0), (1, 0), (9, 0), (0, 0), (9, 0)], []) :=
  have hK : kt_at 127 = kt_127 := rfl
  (z_R_run hK (n := 9) (g' := (z_up m 24 13 0, 13, [(2, 24), (2, 12), (0, r), (1, 0), (9, 0), (1, 0), (9, 0), (0, 0), (9, 0)], [])) rfl).trans (rfl)
theorem k_cm_13  (m : z_M) (x2 : Int) (x3 : Int) (x5 : Int) (x7 : Int) (v8 : z_V) (h_n : 0 ≤ m 3 11 ∧ m 3 11 ≤ 5) : z_R 127 (m, 13, [(2, 24), (2, 12), (0, x2), (1, x3), (9, 0), (1, x5), (9, 0), (0, x7), v8], []) = if z_shl 1 (m 3 11) ≤ x7 then (z_R 128 (m, 0, [(1, x3), (9, 0)], [])).bind fun qq => z_R 127 (qq.1, 90, [(2, 24), (2, 12), (0, x2), (1, x3), (9, 0), (1, x5), (9, 0), (0, x7), v8], qq.2.toList ++ [(2, 24)]) else (z_R 118 (m, 0, [(2, 24), (2, 12), (0, x2), (0, x7)], [])).bind fun qq => z_R 127 (qq.1, 35, [(2, 24), (2, 12), (0, x2), (1, x3), (9, 0), (1, x5), (9, 0), (0, x7), v8], qq.2.toList ++ []) :=
  have hK : kt_at 127 = kt_127 := rfl
  (z_R_run hK (n := 4) (g' := (m, 20, [(2, 24), (2, 12), (0, x2), (1, x3), (9, 0), (1, x5), (9, 0), (0, x7), v8], [(2, 3), (0, 1), (0, x7)])) rfl).trans ((z_R_run hK (n := 2) (g' := (m, 24, [(2, 24), (2, 12), (0, x2), (1, x3), (9, 0), (1, x5), (9, 0), (0, x7), v8], [(0, z_shl 1 (m 3 11)), (0, x7)])) rfl).trans (z_R_ifd hK (c := z_shl 1 (m 3 11) ≤ x7) (p1 := 85) (p2 := 27) rfl rfl rfl (fun h1 => (z_R_run hK (n := 2) (g' := (m, 87, [(2, 24), (2, 12), (0, x2), (1, x3), (9, 0), (1, x5), (9, 0), (0, x7), v8], [(1, x3), (2, 24)])) rfl).trans (z_R_call hK rfl rfl rfl rfl rfl)) (fun h1 => (z_R_run hK (n := 4) (g' := (m, 32, [(2, 24), (2, 12), (0, x2), (1, x3), (9, 0), (1, x5), (9, 0), (0, x7), v8], [(0, x7), (0, x2), (2, 12), (2, 24)])) rfl).trans (z_R_call hK rfl rfl rfl rfl rfl))))
theorem k_cm_35  (m : z_M) (x2 : Int) (x3 : Int) (x5 : Int) (x7 : Int) (v8 : z_V) (u : Int) : z_R 127 (m, 35, [(2, 24), (2, 12), (0, x2), (1, x3), (9, 0), (1, x5), (9, 0), (0, x7), v8], [(0, u)]) = if 64 ≤ u then z_R 127 (z_up m 24 13 (if (m 24 13) < u then u else (m 24 13)), 13, [(2, 24), (2, 12), (0, x2), (1, x3), (9, 0), (1, z_lor x5 (z_lshl 1 (z_sub u 64))), (9, 0), (0, z_add x7 1), (0, u)], []) else z_R 127 (z_up m 24 13 (if (m 24 13) < u then u else (m 24 13)), 13, [(2, 24), (2, 12), (0, x2), (1, z_lor x3 (z_lshl 1 u)), (9, 0), (1, x5), (9, 0), (0, z_add x7 1), (0, u)], []) :=
  have hK : kt_at 127 = kt_127 := rfl
  (z_R_run hK (n := 9) (g' := (z_up m 24 13 (if (m 24 13) < u then u else (m 24 13)), 54, [(2, 24), (2, 12), (0, x2), (1, x3), (9, 0), (1, x5), (9, 0), (0, x7), (0, u)], [(0, 64), (0, u)])) rfl).trans (z_R_ifd hK (c := 64 ≤ u) (p1 := 67) (p2 := 57) rfl rfl rfl (fun h1 => (z_R_run hK (n := 10) (g' := (z_up m 24 13 (if (m 24 13) < u then u else (m 24 13)), 13, [(2, 24), (2, 12), (0, x2), (1, x3), (9, 0), (1, z_lor x5 (z_lshl 1 (z_sub u 64))), (9, 0), (0, z_add x7 1), (0, u)], [])) rfl).trans (rfl)) (fun h1 => (z_R_run hK (n := 9) (g' := (z_up m 24 13 (if (m 24 13) < u then u else (m 24 13)), 13, [(2, 24), (2, 12), (0, x2), (1, z_lor x3 (z_lshl 1 u)), (9, 0), (1, x5), (9, 0), (0, z_add x7 1), (0, u)], [])) rfl).trans (rfl)))
theorem k_cm_90  (m : z_M) (x2 : Int) (x3 : Int) (x5 : Int) (x7 : Int) (v8 : z_V) (u : Int) : z_R 127 (m, 90, [(2, 24), (2, 12), (0, x2), (1, x3), (9, 0), (1, x5), (9, 0), (0, x7), v8], [(0, u), (2, 24)]) = (z_R 128 (m, 0, [(1, x5), (9, 0)], [])).bind fun qq => z_R 127 (qq.1, 95, [(2, 24), (2, 12), (0, x2), (1, x3), (9, 0), (1, x5), (9, 0), (0, x7), v8], qq.2.toList ++ [(0, u), (2, 24)]) :=
  have hK : kt_at 127 = kt_127 := rfl
  (z_R_run hK (n := 1) (g' := (m, 92, [(2, 24), (2, 12), (0, x2), (1, x3), (9, 0), (1, x5), (9, 0), (0, x7), v8], [(1, x5), (0, u), (2, 24)])) rfl).trans (z_R_call hK rfl rfl rfl rfl rfl)
theorem k_cm_95  (m : z_M) (x2 : Int) (x3 : Int) (x5 : Int) (x7 : Int) (v8 : z_V) (s0 : Int) (u : Int) : z_R 127 (m, 95, [(2, 24), (2, 12), (0, x2), (1, x3), (9, 0), (1, x5), (9, 0), (0, x7), v8], [(0, u), (0, s0), (2, 24)]) = some (z_up m 24 12 (z_add s0 u), none) :=
  have hK : kt_at 127 = kt_127 := rfl
  (z_R_run hK (n := 2) (g' := (z_up m 24 12 (z_add s0 u), 99, [(2, 24), (2, 12), (0, x2), (1, x3), (9, 0), (1, x5), (9, 0), (0, x7), v8], [])) rfl).trans (z_R_ret hK rfl rfl rfl)
theorem k_loo_0  (m : z_M) : z_R 126 (m, 0, [(2, 0), (9, 0), (9, 0), (9, 0), (9, 0)], []) = z_R 126 (m, 9, [(2, 0), (0, (-1)), (0, 0), (0, 0), (0, 0)], []) :=
  have hK : kt_at 126 = kt_126 := rfl
  (z_R_run hK (n := 8) (g' := (m, 9, [(2, 0), (0, (-1)), (0, 0), (0, 0), (0, 0)], [])) rfl).trans (rfl)
theorem k_loo_9  (m : z_M) (x1 : Int) (x2 : Int) (x3 : Int) (x4 : Int) : z_R 126 (m, 9, [(2, 0), (0, x1), (0, x2), (0, x3), (0, x4)], []) = if 9 ≤ x4 then if x1 = (-1) then some (m, some (0, (-2))) else (z_R 77 (m, 0, [(2, 0), (1, z_i2l x2), (9, 0), (1, z_i2l x3), (9, 0)], [])).bind fun qq => z_R 126 (qq.1, 93, [(2, 0), (0, x1), (0, x2), (0, x3), (0, x4)], qq.2.toList ++ []) else if ¬ u_hs (m 3 8) (m 3 9) x4 = 0 then (z_R 127 (m, 0, [(2, 24), (2, 12), (0, x4), (9, 0), (9, 0), (9, 0), (9, 0), (9, 0), (9, 0)], [])).bind fun qq => z_R 126 (qq.1, 41, [(2, 0), (0, x1), (0, x2), (0, x3), (0, x4)], qq.2.toList ++ []) else z_R 126 (m, 9, [(2, 0), (0, x1), (0, x2), (0, x3), (0, z_add x4 1)], []) :=
  have hK : kt_at 126 = kt_126 := rfl
  (z_R_run hK (n := 2) (g' := (m, 13, [(2, 0), (0, x1), (0, x2), (0, x3), (0, x4)], [(0, 9), (0, x4)])) rfl).trans (z_R_ifd hK (c := 9 ≤ x4) (p1 := 77) (p2 := 16) rfl rfl rfl (fun h1 => (z_R_run hK (n := 2) (g' := (m, 79, [(2, 0), (0, x1), (0, x2), (0, x3), (0, x4)], [(0, (-1)), (0, x1)])) rfl).trans (z_R_ifnd hK (c := x1 = (-1)) (p1 := 85) (p2 := 82) rfl rfl rfl (fun h2 => (z_R_run hK (n := 5) (g' := (m, 90, [(2, 0), (0, x1), (0, x2), (0, x3), (0, x4)], [(1, z_i2l x3), (1, z_i2l x2), (2, 0)])) rfl).trans (z_R_call hK rfl rfl rfl rfl rfl)) (fun h2 => (z_R_run hK (n := 1) (g' := (m, 84, [(2, 0), (0, x1), (0, x2), (0, x3), (0, x4)], [(0, (-2))])) rfl).trans (z_R_ret hK rfl rfl rfl)))) (fun h1 => (z_R_run hK (n := 2) (g' := (m, 20, [(2, 0), (0, x1), (0, x2), (0, x3), (0, x4)], [(2, 3)])) rfl).trans ((z_R_run hK (n := 1) (g' := (m, 22, [(2, 0), (0, x1), (0, x2), (0, x3), (0, x4)], [(0, x4), (2, 3)])) rfl).trans (z_R_cif hK rfl rfl rfl rfl rfl (c_ifhas _ _ rfl rfl) (fun h3 => have h4 := u_hs_rng h3; (z_R_run hK (n := 3) (g' := (m, 32, [(2, 0), (0, x1), (0, x2), (0, x3), (0, x4)], [(2, 24)])) rfl).trans ((z_R_run hK (n := 2) (g' := (m, 36, [(2, 0), (0, x1), (0, x2), (0, x3), (0, x4)], [(2, 12), (2, 24)])) rfl).trans ((z_R_run hK (n := 1) (g' := (m, 38, [(2, 0), (0, x1), (0, x2), (0, x3), (0, x4)], [(0, x4), (2, 12), (2, 24)])) rfl).trans (z_R_call hK rfl rfl rfl rfl rfl)))) (fun h3 => (z_R_run hK (n := 3) (g' := (m, 9, [(2, 0), (0, x1), (0, x2), (0, x3), (0, z_add x4 1)], [])) rfl).trans (rfl))))))
theorem k_loo_41  (m : z_M) (x1 : Int) (x2 : Int) (x3 : Int) (x4 : Int) : z_R 126 (m, 41, [(2, 0), (0, x1), (0, x2), (0, x3), (0, x4)], []) = if m 24 12 ≤ x2 then z_R 126 (m, 9, [(2, 0), (0, x1), (0, x2), (0, x3), (0, z_add x4 1)], []) else z_R 126 (m, 9, [(2, 0), (0, x4), (0, m 24 12), (0, m 24 13), (0, z_add x4 1)], []) :=
  have hK : kt_at 126 = kt_126 := rfl
  (z_R_run hK (n := 2) (g' := (m, 45, [(2, 0), (0, x1), (0, x2), (0, x3), (0, x4)], [(2, 24)])) rfl).trans ((z_R_run hK (n := 2) (g' := (m, 49, [(2, 0), (0, x1), (0, x2), (0, x3), (0, x4)], [(0, x2), (0, m 24 12)])) rfl).trans (z_R_ifd hK (c := m 24 12 ≤ x2) (p1 := 71) (p2 := 52) rfl rfl rfl (fun h1 => (z_R_run hK (n := 2) (g' := (m, 9, [(2, 0), (0, x1), (0, x2), (0, x3), (0, z_add x4 1)], [])) rfl).trans (rfl)) (fun h1 => (z_R_run hK (n := 4) (g' := (m, 59, [(2, 0), (0, x4), (0, x2), (0, x3), (0, x4)], [(2, 24)])) rfl).trans ((z_R_run hK (n := 4) (g' := (m, 67, [(2, 0), (0, x4), (0, m 24 12), (0, x3), (0, x4)], [(2, 24)])) rfl).trans ((z_R_run hK (n := 4) (g' := (m, 9, [(2, 0), (0, x4), (0, m 24 12), (0, m 24 13), (0, z_add x4 1)], [])) rfl).trans (rfl))))))
theorem k_loo_93  (m : z_M) (x1 : Int) (x2 : Int) (x3 : Int) (x4 : Int) : z_R 126 (m, 93, [(2, 0), (0, x1), (0, x2), (0, x3), (0, x4)], []) = some (m, some (0, x1)) :=
  have hK : kt_at 126 = kt_126 := rfl
  (z_R_run hK (n := 1) (g' := (m, 94, [(2, 0), (0, x1), (0, x2), (0, x3), (0, x4)], [(0, x1)])) rfl).trans (z_R_ret hK rfl rfl rfl)
theorem k_tlo_0  (m : z_M) : z_R 244 (m, 0, [(2, 251), (9, 0), (9, 0), (9, 0), (9, 0), (9, 0), (9, 0), (9, 0), (9, 0)], []) = if m 251 1 = 0 then some (z_up m 251 11 0, some (0, (-2))) else z_R 244 (z_up m 251 11 0, 24, [(2, 251), (0, (-1)), (0, 0), (0, 0), (0, 0), (9, 0), (9, 0), (9, 0), (9, 0)], []) :=
  have hK : kt_at 244 = kt_244 := rfl
  (z_R_run hK (n := 5) (g' := (z_up m 251 11 0, 9, [(2, 251), (9, 0), (9, 0), (9, 0), (9, 0), (9, 0), (9, 0), (9, 0), (9, 0)], [(0, (z_up m 251 11 0) 251 1)])) rfl).trans ((congrArg (fun vv => z_R 244 (z_up m 251 11 0, 9, [(2, 251), (9, 0), (9, 0), (9, 0), (9, 0), (9, 0), (9, 0), (9, 0), (9, 0)], [(0, vv)])) (zu_k (by decide))).trans (z_R_ifnd hK (c := m 251 1 = 0) (p1 := 15) (p2 := 12) rfl rfl rfl (fun h1 => (z_R_run hK (n := 8) (g' := (z_up m 251 11 0, 24, [(2, 251), (0, (-1)), (0, 0), (0, 0), (0, 0), (9, 0), (9, 0), (9, 0), (9, 0)], [])) rfl).trans (rfl)) (fun h1 => (z_R_run hK (n := 1) (g' := (z_up m 251 11 0, 14, [(2, 251), (9, 0), (9, 0), (9, 0), (9, 0), (9, 0), (9, 0), (9, 0), (9, 0)], [(0, (-2))])) rfl).trans (z_R_ret hK rfl rfl rfl))))
theorem k_tlo_24  (m : z_M) (x1 : Int) (x2 : Int) (x3 : Int) (x4 : Int) (v5 : z_V) (v6 : z_V) (v7 : z_V) (v8 : z_V) : z_R 244 (m, 24, [(2, 251), (0, x1), (0, x2), (0, x3), (0, x4), v5, v6, v7, v8], []) = if 9 ≤ x4 then (z_R 210 (z_up m 251 10 0, 0, [(2, 251), (1, z_i2l x2), (9, 0)], [])).bind fun qq => z_R 244 (qq.1, 179, [(2, 251), (0, x1), (0, x2), (0, x3), (0, x4), v5, v6, v7, v8], qq.2.toList ++ []) else if ¬ u_hs (m 251 1) (m 251 2) x4 = 0 then z_R 244 (m, 46, [(2, 251), (0, x1), (0, x2), (0, x3), (0, x4), (0, 0), v6, v7, v8], []) else z_R 244 (m, 24, [(2, 251), (0, x1), (0, x2), (0, x3), (0, z_add x4 1), v5, v6, v7, v8], []) :=
  have hK : kt_at 244 = kt_244 := rfl
  (z_R_run hK (n := 2) (g' := (m, 28, [(2, 251), (0, x1), (0, x2), (0, x3), (0, x4), v5, v6, v7, v8], [(0, 9), (0, x4)])) rfl).trans (z_R_ifd hK (c := 9 ≤ x4) (p1 := 168) (p2 := 31) rfl rfl rfl (fun h1 => (z_R_run hK (n := 6) (g' := (z_up m 251 10 0, 176, [(2, 251), (0, x1), (0, x2), (0, x3), (0, x4), v5, v6, v7, v8], [(1, z_i2l x2), (2, 251)])) rfl).trans (z_R_call hK rfl rfl rfl rfl rfl)) (fun h1 => (z_R_run hK (n := 2) (g' := (m, 34, [(2, 251), (0, x1), (0, x2), (0, x3), (0, x4), v5, v6, v7, v8], [(0, x4), (2, 251)])) rfl).trans (z_R_cif hK rfl rfl rfl rfl rfl (t_ifroom _ _ rfl rfl) (fun h2 => have h3 := u_hs_rng h2; (z_R_run hK (n := 3) (g' := (m, 46, [(2, 251), (0, x1), (0, x2), (0, x3), (0, x4), (0, 0), v6, v7, v8], [])) rfl).trans (rfl)) (fun h2 => (z_R_run hK (n := 4) (g' := (m, 24, [(2, 251), (0, x1), (0, x2), (0, x3), (0, z_add x4 1), v5, v6, v7, v8], [])) rfl).trans (rfl)))))
theorem k_tlo_46  (m : z_M) (x1 : Int) (x2 : Int) (x3 : Int) (x4 : Int) (x5 : Int) (v6 : z_V) (v7 : z_V) (v8 : z_V) : z_R 244 (m, 46, [(2, 251), (0, x1), (0, x2), (0, x3), (0, x4), (0, x5), v6, v7, v8], []) = if 99 < x5 then z_R 244 (m, 76, [(2, 251), (0, x1), (0, x2), (0, x3), (0, x4), (0, 0), (0, 0), (0, 0), v8], []) else if 0 ≤ x5 ∧ x5 < 100 then z_R 244 (z_up m 269 (x5).toNat 0, 46, [(2, 251), (0, x1), (0, x2), (0, x3), (0, x4), (0, x5 + 1), v6, v7, v8], []) else none :=
  have hK : kt_at 244 = kt_244 := rfl
  (z_R_run hK (n := 2) (g' := (m, 50, [(2, 251), (0, x1), (0, x2), (0, x3), (0, x4), (0, x5), v6, v7, v8], [(0, 99), (0, x5)])) rfl).trans (z_R_ifd hK (c := 99 < x5) (p1 := 67) (p2 := 53) rfl rfl rfl (fun h1 => (z_R_run hK (n := 6) (g' := (m, 76, [(2, 251), (0, x1), (0, x2), (0, x3), (0, x4), (0, 0), (0, 0), (0, 0), v8], [])) rfl).trans (rfl)) (fun h1 => (z_R_run hK (n := 2) (g' := (m, 57, [(2, 251), (0, x1), (0, x2), (0, x3), (0, x4), (0, x5), v6, v7, v8], [(2, 269)])) rfl).trans ((z_R_run hK (n := 2) (g' := (m, 60, [(2, 251), (0, x1), (0, x2), (0, x3), (0, x4), (0, x5), v6, v7, v8], [(0, 0), (0, x5), (2, 269)])) rfl).trans (z_R_ixD hK (n := 100) (g' := (z_up m 269 (x5).toNat (z_bo 0), 61, [(2, 251), (0, x1), (0, x2), (0, x3), (0, x4), (0, x5), v6, v7, v8], [])) rfl rfl rfl (fun h2 => (congrArg (fun vv => z_R 244 (z_up m 269 (x5).toNat vv, 61, [(2, 251), (0, x1), (0, x2), (0, x3), (0, x4), (0, x5), v6, v7, v8], [])) (show z_bo 0 = 0 by decide +kernel)).trans ((z_R_run hK (n := 1) (g' := (z_up m 269 (x5).toNat 0, 64, [(2, 251), (0, x1), (0, x2), (0, x3), (0, x4), (0, z_add x5 1), v6, v7, v8], [])) rfl).trans ((congrArg (fun vv => z_R 244 (z_up m 269 (x5).toNat 0, 64, [(2, 251), (0, x1), (0, x2), (0, x3), (0, x4), (0, vv), v6, v7, v8], [])) (z_add_eq (by omega) (by omega))).trans ((z_R_run hK (n := 1) (g' := (z_up m 269 (x5).toNat 0, 46, [(2, 251), (0, x1), (0, x2), (0, x3), (0, x4), (0, x5 + 1), v6, v7, v8], [])) rfl).trans (rfl)))))))))
theorem k_tlo_76  (m : z_M) (x1 : Int) (x2 : Int) (x3 : Int) (x4 : Int) (x5 : Int) (x6 : Int) (x7 : Int) (v8 : z_V) : z_R 244 (m, 76, [(2, 251), (0, x1), (0, x2), (0, x3), (0, x4), (0, x5), (0, x6), (0, x7), v8], []) = if z_shl 1 (m 251 3) ≤ x7 then if x2 < x5 then z_R 244 (m, 24, [(2, 251), (0, x4), (0, x5), (0, x6), (0, z_add x4 1), (0, x5), (0, x6), (0, x7), v8], []) else z_R 244 (m, 24, [(2, 251), (0, x1), (0, x2), (0, x3), (0, z_add x4 1), (0, x5), (0, x6), (0, x7), v8], []) else (z_R 188 (m, 0, [(2, 251), (2, 252), (0, x4), (0, x7)], [])).bind fun qq => z_R 244 (qq.1, 99, [(2, 251), (0, x1), (0, x2), (0, x3), (0, x4), (0, x5), (0, x6), (0, x7), v8], qq.2.toList ++ []) :=
  have hK : kt_at 244 = kt_244 := rfl
  (z_R_run hK (n := 5) (g' := (m, 84, [(2, 251), (0, x1), (0, x2), (0, x3), (0, x4), (0, x5), (0, x6), (0, x7), v8], [(0, z_shl 1 (m 251 3)), (0, x7)])) rfl).trans (z_R_ifd hK (c := z_shl 1 (m 251 3) ≤ x7) (p1 := 144) (p2 := 87) rfl rfl rfl (fun h1 => (z_R_run hK (n := 2) (g' := (m, 147, [(2, 251), (0, x1), (0, x2), (0, x3), (0, x4), (0, x5), (0, x6), (0, x7), v8], [(0, x2), (0, x5)])) rfl).trans (z_R_ifd hK (c := x2 < x5) (p1 := 153) (p2 := 150) rfl rfl rfl (fun h2 => (z_R_run hK (n := 8) (g' := (m, 24, [(2, 251), (0, x4), (0, x5), (0, x6), (0, z_add x4 1), (0, x5), (0, x6), (0, x7), v8], [])) rfl).trans (rfl)) (fun h2 => (z_R_run hK (n := 3) (g' := (m, 24, [(2, 251), (0, x1), (0, x2), (0, x3), (0, z_add x4 1), (0, x5), (0, x6), (0, x7), v8], [])) rfl).trans (rfl)))) (fun h1 => (z_R_run hK (n := 3) (g' := (m, 92, [(2, 251), (0, x1), (0, x2), (0, x3), (0, x4), (0, x5), (0, x6), (0, x7), v8], [(2, 252), (2, 251)])) rfl).trans ((z_R_run hK (n := 2) (g' := (m, 96, [(2, 251), (0, x1), (0, x2), (0, x3), (0, x4), (0, x5), (0, x6), (0, x7), v8], [(0, x7), (0, x4), (2, 252), (2, 251)])) rfl).trans (z_R_call hK rfl rfl rfl rfl rfl))))
theorem k_tlo_99  (m : z_M) (x1 : Int) (x2 : Int) (x3 : Int) (x4 : Int) (x5 : Int) (x6 : Int) (x7 : Int) (v8 : z_V) (u : Int) : z_R 244 (m, 99, [(2, 251), (0, x1), (0, x2), (0, x3), (0, x4), (0, x5), (0, x6), (0, x7), v8], [(0, u)]) = if 0 ≤ u ∧ u < 100 then if m 269 (u).toNat = 0 then z_R 244 (z_up m 269 (u).toNat 1, 76, [(2, 251), (0, x1), (0, x2), (0, x3), (0, x4), (0, z_add x5 1), (0, if x6 < u then u else x6), (0, z_add x7 1), (0, u)], []) else z_R 244 (z_up m 269 (u).toNat 1, 76, [(2, 251), (0, x1), (0, x2), (0, x3), (0, x4), (0, z_add x5 0), (0, if x6 < u then u else x6), (0, z_add x7 1), (0, u)], []) else none :=
  have hK : kt_at 244 = kt_244 := rfl
  (z_R_run hK (n := 4) (g' := (m, 107, [(2, 251), (0, x1), (0, x2), (0, x3), (0, x4), (0, x5), (0, x6), (0, x7), (0, u)], [(2, 269), (0, x5)])) rfl).trans ((z_R_run hK (n := 1) (g' := (m, 109, [(2, 251), (0, x1), (0, x2), (0, x3), (0, x4), (0, x5), (0, x6), (0, x7), (0, u)], [(0, u), (2, 269), (0, x5)])) rfl).trans (z_R_ixD hK (n := 100) (g' := (m, 110, [(2, 251), (0, x1), (0, x2), (0, x3), (0, x4), (0, x5), (0, x6), (0, x7), (0, u)], [(0, m 269 (u).toNat), (0, x5)])) rfl rfl rfl  (fun h1 => z_R_ifd hK (c := m 269 (u).toNat = 0) (p1 := 117) (p2 := 113) rfl rfl rfl (fun h2 => (z_R_run hK (n := 5) (g' := (m, 125, [(2, 251), (0, x1), (0, x2), (0, x3), (0, x4), (0, z_add x5 1), (0, x6), (0, x7), (0, u)], [(2, 269)])) rfl).trans ((z_R_run hK (n := 2) (g' := (m, 128, [(2, 251), (0, x1), (0, x2), (0, x3), (0, x4), (0, z_add x5 1), (0, x6), (0, x7), (0, u)], [(0, 1), (0, u), (2, 269)])) rfl).trans (z_R_ixT hK (n := 100) (g' := (z_up m 269 (u).toNat (z_bo 1), 129, [(2, 251), (0, x1), (0, x2), (0, x3), (0, x4), (0, z_add x5 1), (0, x6), (0, x7), (0, u)], [])) rfl rfl rfl (show 0 ≤ u ∧ u < 100 by omega) ((congrArg (fun vv => z_R 244 (z_up m 269 (u).toNat vv, 129, [(2, 251), (0, x1), (0, x2), (0, x3), (0, x4), (0, z_add x5 1), (0, x6), (0, x7), (0, u)], [])) (show z_bo 1 = 1 by decide +kernel)).trans ((z_R_run hK (n := 6) (g' := (z_up m 269 (u).toNat 1, 76, [(2, 251), (0, x1), (0, x2), (0, x3), (0, x4), (0, z_add x5 1), (0, if x6 < u then u else x6), (0, z_add x7 1), (0, u)], [])) rfl).trans (rfl)))))) (fun h2 => (z_R_run hK (n := 6) (g' := (m, 125, [(2, 251), (0, x1), (0, x2), (0, x3), (0, x4), (0, z_add x5 0), (0, x6), (0, x7), (0, u)], [(2, 269)])) rfl).trans ((z_R_run hK (n := 2) (g' := (m, 128, [(2, 251), (0, x1), (0, x2), (0, x3), (0, x4), (0, z_add x5 0), (0, x6), (0, x7), (0, u)], [(0, 1), (0, u), (2, 269)])) rfl).trans (z_R_ixT hK (n := 100) (g' := (z_up m 269 (u).toNat (z_bo 1), 129, [(2, 251), (0, x1), (0, x2), (0, x3), (0, x4), (0, z_add x5 0), (0, x6), (0, x7), (0, u)], [])) rfl rfl rfl (show 0 ≤ u ∧ u < 100 by omega) ((congrArg (fun vv => z_R 244 (z_up m 269 (u).toNat vv, 129, [(2, 251), (0, x1), (0, x2), (0, x3), (0, x4), (0, z_add x5 0), (0, x6), (0, x7), (0, u)], [])) (show z_bo 1 = 1 by decide +kernel)).trans ((z_R_run hK (n := 6) (g' := (z_up m 269 (u).toNat 1, 76, [(2, 251), (0, x1), (0, x2), (0, x3), (0, x4), (0, z_add x5 0), (0, if x6 < u then u else x6), (0, z_add x7 1), (0, u)], [])) rfl).trans (rfl)))))))))
theorem k_tlo_179  (m : z_M) (x1 : Int) (x2 : Int) (x3 : Int) (x4 : Int) (v5 : z_V) (v6 : z_V) (v7 : z_V) (v8 : z_V) : z_R 244 (m, 179, [(2, 251), (0, x1), (0, x2), (0, x3), (0, x4), v5, v6, v7, v8], []) = (z_R 210 (m, 0, [(2, 251), (1, z_i2l x3), (9, 0)], [])).bind fun qq => z_R 244 (qq.1, 185, [(2, 251), (0, x1), (0, x2), (0, x3), (0, x4), v5, v6, v7, v8], qq.2.toList ++ []) :=
  have hK : kt_at 244 = kt_244 := rfl
  (z_R_run hK (n := 3) (g' := (m, 182, [(2, 251), (0, x1), (0, x2), (0, x3), (0, x4), v5, v6, v7, v8], [(1, z_i2l x3), (2, 251)])) rfl).trans (z_R_call hK rfl rfl rfl rfl rfl)
theorem k_tlo_185  (m : z_M) (x1 : Int) (x2 : Int) (x3 : Int) (x4 : Int) (v5 : z_V) (v6 : z_V) (v7 : z_V) (v8 : z_V) : z_R 244 (m, 185, [(2, 251), (0, x1), (0, x2), (0, x3), (0, x4), v5, v6, v7, v8], []) = some (m, some (0, x1)) :=
  have hK : kt_at 244 = kt_244 := rfl
  (z_R_run hK (n := 1) (g' := (m, 186, [(2, 251), (0, x1), (0, x2), (0, x3), (0, x4), v5, v6, v7, v8], [(0, x1)])) rfl).trans (z_R_ret hK rfl rfl rfl)
end
section
/-! HOW MANY BITS OF A LONG -/
def lv (x : Int) : Nat := (Int64.ofInt x).toBitVec.toNat
theorem l6_t (a : Int64) : lv a.toInt = a.toBitVec.toNat := by
  unfold lv
  rw [Int64.ofInt_toInt]
theorem l6_lt (x : Int) : lv x < 2 ^ 64 := (Int64.ofInt x).toBitVec.isLt
theorem l6_and (x y : Int) : lv (z_land x y) = lv x &&& lv y := by
  unfold z_land
  rw [l6_t]
  exact BitVec.toNat_and _ _
theorem l6_or (x y : Int) : lv (z_lor x y) = lv x ||| lv y := by
  unfold z_lor
  rw [l6_t]
  exact BitVec.toNat_or _ _
theorem l6_add (x y : Int) : lv (z_ladd x y) = (lv x + lv y) % 2 ^ 64 := by
  unfold z_ladd
  rw [l6_t]
  exact BitVec.toNat_add _ _
theorem l6_sub (x y : Int) : lv (z_lsub x y) = (2 ^ 64 - lv y + lv x) % 2 ^ 64 := by
  unfold z_lsub
  rw [l6_t]
  exact BitVec.toNat_sub _ _
theorem l6_ush1 {x y : Int} {s : UInt64} {k : Nat} (e : ((Int32.ofInt y).toInt64.toUInt64 &&& Int64.toUInt64 63) = s) (hk : s.toNat % 64 = k) : lv (z_lush x y) = lv x / 2 ^ k := by
  unfold z_lush
  rw [l6_t, e]
  show ((Int64.ofInt x).toUInt64 >>> s).toNat = _
  rw [UInt64.toNat_shiftRight, hk, Nat.shiftRight_eq_div_pow]
  rfl
theorem l6_ush (x : Int) : lv (z_lush x 1) = lv x / 2 ∧ lv (z_lush x 2) = lv x / 4 ∧ lv (z_lush x 4) = lv x / 16 ∧ lv (z_lush x 8) = lv x / 256 ∧ lv (z_lush x 16) = lv x / 65536 ∧ lv (z_lush x 32) = lv x / 4294967296 :=
  ⟨l6_ush1 (s := 1) (k := 1) (by decide +kernel) (by decide +kernel), l6_ush1 (s := 2) (k := 2) (by decide +kernel) (by decide +kernel), l6_ush1 (s := 4) (k := 4) (by decide +kernel) (by decide +kernel), l6_ush1 (s := 8) (k := 8) (by decide +kernel) (by decide +kernel), l6_ush1 (s := 16) (k := 16) (by decide +kernel) (by decide +kernel), l6_ush1 (s := 32) (k := 32) (by decide +kernel) (by decide +kernel)⟩
theorem l6_shl {k : Nat} (hk : k < 64) : lv (z_lshl 1 (k : Int)) = 2 ^ k := by
  have : ∀ k, k < 64 → lv (z_lshl 1 ((k : Nat) : Int)) = 2 ^ k := by decide +kernel
  exact this k hk
theorem l6_127 (x : Int) : z_and (z_l2i x) 127 = ((lv x % 128 : Nat) : Int) := by
  have e : Int32.ofInt (z_l2i x) = (Int64.ofInt x).toInt32 := by
    unfold z_l2i
    exact Int32.ofInt_toInt _
  have h0 : (Int64.ofInt x).toInt32.toBitVec.toNat = lv x % 2 ^ 32 := by
    rw [Int64.toBitVec_toInt32, BitVec.signExtend_eq_setWidth_of_le _ (by decide), BitVec.toNat_setWidth]
    rfl
  have h1 : ((Int64.ofInt x).toInt32 &&& Int32.ofInt 127).toBitVec.toNat = lv x % 128 := by
    show ((Int64.ofInt x).toInt32.toBitVec &&& 127#32).toNat = _
    rw [BitVec.toNat_and, h0]
    have : (lv x % 2 ^ 32) &&& (2 ^ 7 - 1) = lv x % 2 ^ 32 % 2 ^ 7 := Nat.and_two_pow_sub_one_eq_mod _ 7
    refine Eq.trans this ?_
    omega
  unfold z_and
  rw [e, i32_ofNat (x := (Int64.ofInt x).toInt32 &&& Int32.ofInt 127) (by rw [h1]; omega), h1]
/-! byte by byte -/
def bk (c : Nat) : Nat → Nat
  | 0 => 0
  | n + 1 => c + 256 * bk c n
def bm (g : Nat → Nat) : Nat → Nat → Nat
  | 0, _ => 0
  | n + 1, X => g (X % 256) + 256 * bm g n (X / 256)
theorem bb_and {a A c C : Nat} (ha : a < 256) (hc : c < 256) : (a + 256 * A) &&& (c + 256 * C) = (a &&& c) + 256 * (A &&& C) := by
  apply Nat.eq_of_testBit_eq
  intro i
  have ha : a < 2 ^ 8 := ha
  have hc : c < 2 ^ 8 := hc
  have hac : a &&& c < 2 ^ 8 := Nat.lt_of_le_of_lt Nat.and_le_left ha
  rw [Nat.testBit_and, Nat.add_comm a, Nat.add_comm c, Nat.add_comm (a &&& c)]
  show ((2 ^ 8 * A + a).testBit i && (2 ^ 8 * C + c).testBit i) = (2 ^ 8 * (A &&& C) + (a &&& c)).testBit i
  rw [Nat.testBit_two_pow_mul_add A ha, Nat.testBit_two_pow_mul_add C hc, Nat.testBit_two_pow_mul_add _ hac]
  split
  · exact (Nat.testBit_and _ _ _).symm
  · exact (Nat.testBit_and _ _ _).symm
theorem bm_lt {g : Nat → Nat} (hg : ∀ b, b < 256 → g b < 256) : ∀ n X, bm g n X < 256 ^ n
  | 0, _ => Nat.one_pos
  | n + 1, X => by
    have h1 := bm_lt hg n (X / 256)
    have h2 := hg (X % 256) (Nat.mod_lt _ (by decide))
    unfold bm
    rw [Nat.pow_succ]
    omega
theorem bm_cg {g g' : Nat → Nat} (h : ∀ b, b < 256 → g b = g' b) : ∀ n X, bm g n X = bm g' n X
  | 0, _ => rfl
  | n + 1, X => by
    unfold bm
    rw [h _ (Nat.mod_lt _ (by decide)), bm_cg h n]
theorem bm_bm {g g' : Nat → Nat} (hg : ∀ b, b < 256 → g' b < 256) : ∀ n X, bm g n (bm g' n X) = bm (fun b => g (g' b)) n X
  | 0, _ => rfl
  | n + 1, X => by
    have h1 := hg (X % 256) (Nat.mod_lt _ (by decide))
    show g ((g' (X % 256) + 256 * bm g' n (X / 256)) % 256) + 256 * bm g n ((g' (X % 256) + 256 * bm g' n (X / 256)) / 256) = g (g' (X % 256)) + 256 * bm (fun b => g (g' b)) n (X / 256)
    rw [show (g' (X % 256) + 256 * bm g' n (X / 256)) % 256 = g' (X % 256) by omega, show (g' (X % 256) + 256 * bm g' n (X / 256)) / 256 = bm g' n (X / 256) by omega, bm_bm hg n]
theorem bm_add (g g' : Nat → Nat) : ∀ n X, bm g n X + bm g' n X = bm (fun b => g b + g' b) n X
  | 0, _ => rfl
  | n + 1, X => by
    have := bm_add g g' n (X / 256)
    unfold bm
    omega
theorem bm_sub {g : Nat → Nat} (h : ∀ b, b < 256 → g b ≤ b) : ∀ n X, X < 256 ^ n → bm g n X ≤ X ∧ X - bm g n X = bm (fun b => b - g b) n X
  | 0, X, hX => by
    have : X = 0 := by
      have : X < 1 := hX
      omega
    subst this
    exact ⟨Nat.le_refl _, rfl⟩
  | n + 1, X, hX => by
    rw [Nat.pow_succ] at hX
    obtain ⟨h1, h2⟩ := bm_sub h n (X / 256) (by omega)
    have h3 := h (X % 256) (Nat.mod_lt _ (by decide))
    unfold bm
    omega
/-- a shift and a mask that lets nothing over from byte to byte -/
theorem bk_sh {k q c : Nat} (hkq : k * q = 256) (hk : 0 < k) (hc : c < 256) (h : ∀ b, b < 256 → ∀ t, t < k → (b / k + q * t) &&& c = b / k &&& c) : ∀ n X, X < 256 ^ n → X / k &&& bk c n = bm (fun b => b / k &&& c) n X
  | 0, X, hX => by
    show X / k &&& 0 = 0
    exact Nat.and_zero _
  | n + 1, X, hX => by
    rw [Nat.pow_succ] at hX
    have ih := bk_sh hkq hk hc h n (X / 256) (by omega)
    have hb : X % 256 < 256 := Nat.mod_lt _ (by decide)
    have ht : X / 256 % k < k := Nat.mod_lt _ hk
    have e1 : X / k = X % 256 / k + q * (X / 256) := by
      have e0 : X = X % 256 + k * (q * (X / 256)) := by
        rw [← Nat.mul_assoc, hkq]
        omega
      conv => lhs; rw [e0]
      rw [Nat.add_mul_div_left _ _ hk]
    have e2 : q * (X / 256) = q * (X / 256 % k) + 256 * (X / 256 / k) := by
      conv => lhs; rw [← Nat.mod_add_div (X / 256) k]
      rw [Nat.mul_add, ← Nat.mul_assoc, Nat.mul_comm q k, hkq]
    have hlt : X % 256 / k + q * (X / 256 % k) < 256 := by
      have a1 : X % 256 / k < q := (Nat.div_lt_iff_lt_mul hk).mpr (by rw [Nat.mul_comm, hkq]; exact hb)
      have a2 : q * (X / 256 % k) + q ≤ q * k := by
        rw [← Nat.mul_succ]
        exact Nat.mul_le_mul_left q ht
      rw [Nat.mul_comm q k, hkq] at a2
      omega
    show X / k &&& (c + 256 * bk c n) = (X % 256 / k &&& c) + 256 * bm (fun b => b / k &&& c) n (X / 256)
    rw [e1, e2, ← Nat.add_assoc, bb_and hlt hc, h _ hb _ ht, ih]
theorem bk_and {c : Nat} (hc : c < 256) : ∀ n X, X < 256 ^ n → X &&& bk c n = bm (fun b => b &&& c) n X
  | 0, X, hX => Nat.and_zero _
  | n + 1, X, hX => by
    rw [Nat.pow_succ] at hX
    have ih := bk_and hc n (X / 256) (by omega)
    have e : X = X % 256 + 256 * (X / 256) := by omega
    show X &&& (c + 256 * bk c n) = (X % 256 &&& c) + 256 * bm (fun b => b &&& c) n (X / 256)
    conv => lhs; rw [e]
    rw [bb_and (Nat.mod_lt _ (by decide)) hc, ih]
theorem bm_nib {f : Nat → Nat} (hf : ∀ b, b < 256 → f b % 16 ≤ 4 ∧ f b / 16 ≤ 4) : ∀ n X, (bm f n X + bm f n X / 16) &&& bk 15 n = bm (fun b => f b % 16 + f b / 16) n X ∧ bm f n X % 16 ≤ 4
  | 0, X => ⟨by show ((0 + 0 / 16 : Nat) &&& 0) = 0; rfl, Nat.zero_le _⟩
  | n + 1, X => by
    obtain ⟨ih, h4⟩ := bm_nib hf n (X / 256)
    have hb := hf (X % 256) (Nat.mod_lt _ (by decide))
    show ((f (X % 256) + 256 * bm f n (X / 256)) + (f (X % 256) + 256 * bm f n (X / 256)) / 16) &&& (15 + 256 * bk 15 n) = (f (X % 256) % 16 + f (X % 256) / 16) + 256 * bm (fun b => f b % 16 + f b / 16) n (X / 256) ∧ (f (X % 256) + 256 * bm f n (X / 256)) % 16 ≤ 4
    generalize bm f n (X / 256) = B at ih h4 ⊢
    generalize f (X % 256) = b at hb ⊢
    refine ⟨?_, by omega⟩
    rw [show (b + 256 * B) + (b + 256 * B) / 16 = (b + b / 16 + 16 * (B % 16)) + 256 * (B + B / 16) by omega, bb_and (by omega) (by decide), ih]
    have e : (b + b / 16 + 16 * (B % 16)) &&& (2 ^ 4 - 1) = (b + b / 16 + 16 * (B % 16)) % 2 ^ 4 := Nat.and_two_pow_sub_one_eq_mod _ 4
    have e : (b + b / 16 + 16 * (B % 16)) &&& 15 = (b + b / 16 + 16 * (B % 16)) % 16 := e
    rw [e]
    omega
/-! so many bits -/
def pcN : Nat → Nat → Nat
  | 0, _ => 0
  | f + 1, X => X % 2 + pcN f (X / 2)
def bf1 (b : Nat) : Nat := b - (b / 2 &&& 85)
def bf2 (b : Nat) : Nat := (b &&& 51) + (b / 4 &&& 51)
def bf3 (b : Nat) : Nat := b % 16 + b / 16
theorem bf_lt : ∀ b, b < 256 → bf1 b < 256 ∧ (bf2 (bf1 b) % 16 ≤ 4 ∧ bf2 (bf1 b) / 16 ≤ 4) ∧ bf3 (bf2 (bf1 b)) = pcN 8 b ∧ b / 2 &&& 85 ≤ b := by decide +kernel
theorem pcN_8 (f X : Nat) : pcN (f + 8) X = pcN 8 (X % 256) + pcN f (X / 256) := by
  have e : X / 2 / 2 / 2 / 2 / 2 / 2 / 2 / 2 = X / 256 := by omega
  simp only [pcN]
  rw [e]
  omega
theorem pc_le {b : Nat} (h : b < 256) : pcN 8 b ≤ 8 := by
  have : ∀ b, b < 256 → pcN 8 b ≤ 8 := by decide +kernel
  exact this b h
theorem pc_q {a b c d R : Nat} (h0 : a < 256) (h1 : b < 256) (h2 : c < 256) (h3 : d < 256) : (a + 256 * (b + 256 * (c + 256 * (d + 256 * R)))) / 4294967296 = R := by omega
theorem pc_r {a b c d : Nat} : (a + 256 * b + (c + 256 * d)) % 128 = (a + c) % 128 := by omega
theorem pc_sum {Z : Nat} (X : Nat) (hZ : Z = bm (pcN 8) 8 X) : ((Z + Z / 256 + (Z + Z / 256) / 65536) + ((Z + Z / 256) + (Z + Z / 256) / 65536) / 4294967296) % 128 = pcN 64 X ∧ Z < 2 ^ 60 := by
  have e : pcN 64 X = pcN 8 (X % 256) + (pcN 8 (X / 256 % 256) + (pcN 8 (X / 256 / 256 % 256) + (pcN 8 (X / 256 / 256 / 256 % 256) + (pcN 8 (X / 256 / 256 / 256 / 256 % 256) + (pcN 8 (X / 256 / 256 / 256 / 256 / 256 % 256) + (pcN 8 (X / 256 / 256 / 256 / 256 / 256 / 256 % 256) + (pcN 8 (X / 256 / 256 / 256 / 256 / 256 / 256 / 256 % 256) + 0))))))) := by
    rw [pcN_8 56, pcN_8 48, pcN_8 40, pcN_8 32, pcN_8 24, pcN_8 16, pcN_8 8, pcN_8 0 (X / 256 / 256 / 256 / 256 / 256 / 256 / 256)]
    rfl
  have z : Z = pcN 8 (X % 256) + 256 * (pcN 8 (X / 256 % 256) + 256 * (pcN 8 (X / 256 / 256 % 256) + 256 * (pcN 8 (X / 256 / 256 / 256 % 256) + 256 * (pcN 8 (X / 256 / 256 / 256 / 256 % 256) + 256 * (pcN 8 (X / 256 / 256 / 256 / 256 / 256 % 256) + 256 * (pcN 8 (X / 256 / 256 / 256 / 256 / 256 / 256 % 256) + 256 * (pcN 8 (X / 256 / 256 / 256 / 256 / 256 / 256 / 256 % 256) + 256 * 0))))))) := hZ
  rw [e]
  have c0 := pc_le (b := X % 256) (Nat.mod_lt _ (by decide))
  have c1 := pc_le (b := X / 256 % 256) (Nat.mod_lt _ (by decide))
  have c2 := pc_le (b := X / 256 / 256 % 256) (Nat.mod_lt _ (by decide))
  have c3 := pc_le (b := X / 256 / 256 / 256 % 256) (Nat.mod_lt _ (by decide))
  have c4 := pc_le (b := X / 256 / 256 / 256 / 256 % 256) (Nat.mod_lt _ (by decide))
  have c5 := pc_le (b := X / 256 / 256 / 256 / 256 / 256 % 256) (Nat.mod_lt _ (by decide))
  have c6 := pc_le (b := X / 256 / 256 / 256 / 256 / 256 / 256 % 256) (Nat.mod_lt _ (by decide))
  have c7 := pc_le (b := X / 256 / 256 / 256 / 256 / 256 / 256 / 256 % 256) (Nat.mod_lt _ (by decide))
  clear e hZ
  generalize pcN 8 (X % 256) = d0 at *
  generalize pcN 8 (X / 256 % 256) = d1 at *
  generalize pcN 8 (X / 256 / 256 % 256) = d2 at *
  generalize pcN 8 (X / 256 / 256 / 256 % 256) = d3 at *
  generalize pcN 8 (X / 256 / 256 / 256 / 256 % 256) = d4 at *
  generalize pcN 8 (X / 256 / 256 / 256 / 256 / 256 % 256) = d5 at *
  generalize pcN 8 (X / 256 / 256 / 256 / 256 / 256 / 256 % 256) = d6 at *
  generalize pcN 8 (X / 256 / 256 / 256 / 256 / 256 / 256 / 256 % 256) = d7 at *
  have q1 : Z / 256 = d1 + 256 * (d2 + 256 * (d3 + 256 * (d4 + 256 * (d5 + 256 * (d6 + 256 * d7))))) := by omega
  have s1 : Z + Z / 256 = (d0 + d1) + 256 * ((d1 + d2) + 256 * ((d2 + d3) + 256 * ((d3 + d4) + 256 * ((d4 + d5) + 256 * ((d5 + d6) + 256 * ((d6 + d7) + 256 * d7)))))) := by omega
  have hz : Z < 2 ^ 60 := by omega
  refine ⟨?_, hz⟩
  rw [s1]
  clear s1 q1 hz z
  have q2 : ((d0 + d1) + 256 * ((d1 + d2) + 256 * ((d2 + d3) + 256 * ((d3 + d4) + 256 * ((d4 + d5) + 256 * ((d5 + d6) + 256 * ((d6 + d7) + 256 * d7))))))) / 65536 = (d2 + d3) + 256 * ((d3 + d4) + 256 * ((d4 + d5) + 256 * ((d5 + d6) + 256 * ((d6 + d7) + 256 * d7)))) := by omega
  rw [q2]
  clear q2
  have s2 : ((d0 + d1) + 256 * ((d1 + d2) + 256 * ((d2 + d3) + 256 * ((d3 + d4) + 256 * ((d4 + d5) + 256 * ((d5 + d6) + 256 * ((d6 + d7) + 256 * d7))))))) + ((d2 + d3) + 256 * ((d3 + d4) + 256 * ((d4 + d5) + 256 * ((d5 + d6) + 256 * ((d6 + d7) + 256 * d7))))) = (d0 + d1 + d2 + d3) + 256 * ((d1 + d2 + d3 + d4) + 256 * ((d2 + d3 + d4 + d5) + 256 * ((d3 + d4 + d5 + d6) + 256 * ((d4 + d5 + d6 + d7) + 256 * ((d5 + d6 + d7) + 256 * ((d6 + d7) + 256 * d7)))))) := by omega
  rw [s2]
  clear s2
  rw [pc_q (by omega) (by omega) (by omega) (by omega), pc_r]
  omega
/-- the machine's way to count them -/
def l_f1 (x : Int) : Int := z_lsub x (z_land (z_lush x 1) 6148914691236517205)
def l_f2 (x : Int) : Int := z_ladd (z_land x 3689348814741910323) (z_land (z_lush x 2) 3689348814741910323)
def l_f3 (x : Int) : Int := z_land (z_ladd x (z_lush x 4)) 1085102592571150095
def l_f4 (x : Int) : Int := z_ladd x (z_lush x 8)
def l_f5 (x : Int) : Int := z_ladd x (z_lush x 16)
def l_f6 (x : Int) : Int := z_ladd x (z_lush x 32)
theorem l_masks : lv 6148914691236517205 = bk 85 8 ∧ lv 3689348814741910323 = bk 51 8 ∧ lv 1085102592571150095 = bk 15 8 := by decide +kernel
theorem l_f1_ok (x : Int) : lv (l_f1 x) = bm bf1 8 (lv x) := by
  have hx : lv x < 256 ^ 8 := l6_lt x
  have e := bk_sh (k := 2) (q := 128) (c := 85) rfl (by decide) (by decide) (by decide +kernel) 8 (lv x) hx
  obtain ⟨h1, h2⟩ := bm_sub (g := fun b => b / 2 &&& 85) (fun b hb => (bf_lt b hb).2.2.2) 8 (lv x) hx
  unfold l_f1
  rw [l6_sub, l6_and, (l6_ush x).1, l_masks.1, e, show 2 ^ 64 - bm (fun b => b / 2 &&& 85) 8 (lv x) + lv x = 2 ^ 64 + (lv x - bm (fun b => b / 2 &&& 85) 8 (lv x)) by omega, h2, Nat.add_mod_left]
  exact Nat.mod_eq_of_lt (bm_lt (g := bf1) (fun b hb => (bf_lt b hb).1) 8 (lv x))
theorem l_f2_ok {x : Int} {g : Nat → Nat} {X : Nat} (hx : lv x = bm g 8 X) (hg : ∀ b, b < 256 → g b < 256) (hs : ∀ b, b < 256 → bf2 (g b) < 256) : lv (l_f2 x) = bm (fun b => bf2 (g b)) 8 X := by
  have hX : bm g 8 X < 256 ^ 8 := bm_lt hg 8 X
  have e1 := bk_and (c := 51) (by decide) 8 _ hX
  have e2 := bk_sh (k := 4) (q := 64) (c := 51) rfl (by decide) (by decide) (by decide +kernel) 8 _ hX
  have h2 : bm (fun b => bf2 (g b)) 8 X < 2 ^ 64 := bm_lt hs 8 X
  unfold l_f2
  rw [l6_add, l6_and, l6_and, (l6_ush x).2.1, l_masks.2.1, hx, e1, e2, bm_bm hg, bm_bm hg, bm_add]
  exact Nat.mod_eq_of_lt h2
theorem l_f3_ok {x : Int} {g : Nat → Nat} {X : Nat} (hx : lv x = bm g 8 X) (hg : ∀ b, b < 256 → g b % 16 ≤ 4 ∧ g b / 16 ≤ 4) : lv (l_f3 x) = bm (fun b => bf3 (g b)) 8 X := by
  have hb : bm (fun b => g b % 69) 8 X = bm g 8 X := bm_cg (fun b hb => by have := hg b hb; omega) 8 X
  have hX : bm g 8 X < 2 ^ 63 := by
    have h := bm_lt (g := g) (fun b hb => by have := hg b hb; omega) 7 (X / 256)
    have h7 : ∀ n Y, bm g n Y ≤ 68 * bk 1 n := fun n => by
      induction n with
      | zero => intro Y; exact Nat.le_refl _
      | succ n ih =>
        intro Y
        have h1 := hg (Y % 256) (Nat.mod_lt _ (by decide))
        have h2 := ih (Y / 256)
        show g (Y % 256) + 256 * bm g n (Y / 256) ≤ 68 * (1 + 256 * bk 1 n)
        omega
    have h8 := h7 8 X
    have h9 : 68 * bk 1 8 < 2 ^ 63 := by decide +kernel
    omega
  have e := (bm_nib hg 8 X).1
  unfold l_f3
  rw [l6_and, l6_add, (l6_ush x).2.2.1, l_masks.2.2, hx, Nat.mod_eq_of_lt (show bm g 8 X + bm g 8 X / 16 < 2 ^ 64 by omega), e]
  rfl
theorem l_pc (x : Int) : z_and (z_l2i (l_f6 (l_f5 (l_f4 (l_f3 (l_f2 (l_f1 x))))))) 127 = ((pcN 64 (lv x) : Nat) : Int) := by
  have e1 := l_f1_ok x
  have e2 := l_f2_ok e1 (fun b hb => (bf_lt b hb).1) (fun b hb => by have := (bf_lt b hb).2.1; omega)
  have e3 := l_f3_ok e2 (fun b hb => (bf_lt b hb).2.1)
  have e3 : lv (l_f3 (l_f2 (l_f1 x))) = bm (pcN 8) 8 (lv x) := e3.trans (bm_cg (fun b hb => (bf_lt b hb).2.2.1) 8 (lv x))
  obtain ⟨p1, p2⟩ := pc_sum (lv x) e3
  generalize l_f3 (l_f2 (l_f1 x)) = y at e3 p1 p2 ⊢
  have a4 : lv (l_f4 y) = lv y + lv y / 256 := by
    unfold l_f4
    rw [l6_add, (l6_ush y).2.2.2.1]
    exact Nat.mod_eq_of_lt (by omega)
  have a5 : lv (l_f5 (l_f4 y)) = lv y + lv y / 256 + (lv y + lv y / 256) / 65536 := by
    unfold l_f5
    rw [l6_add, (l6_ush (l_f4 y)).2.2.2.2.1, a4]
    exact Nat.mod_eq_of_lt (by omega)
  have a6 : lv (l_f6 (l_f5 (l_f4 y))) = (lv y + lv y / 256 + (lv y + lv y / 256) / 65536) + (lv y + lv y / 256 + (lv y + lv y / 256) / 65536) / 4294967296 := by
    unfold l_f6
    rw [l6_add, (l6_ush (l_f5 (l_f4 y))).2.2.2.2.2, a5]
    exact Nat.mod_eq_of_lt (by omega)
  rw [l6_127, a6, p1]
/-- one bit more -/
theorem pcN_or : ∀ (f X k : Nat), k < f → pcN f (X ||| 2 ^ k) = pcN f X + (if X.testBit k = true then 0 else 1)
  | 0, _, _, h => absurd h (Nat.not_lt_zero _)
  | f + 1, X, 0, _ => by
    have h1 : (X ||| 2 ^ 0) % 2 = 1 := Nat.or_mod_two_eq_one.mpr (Or.inr rfl)
    have h2 : (X ||| 2 ^ 0) / 2 = X / 2 := by
      rw [Nat.or_div_two, show (2 ^ 0 / 2 : Nat) = 0 from rfl, Nat.or_zero]
    unfold pcN
    rw [h1, h2, Nat.testBit_zero]
    by_cases c : X % 2 = 1
    · rw [if_pos (decide_eq_true c)]
      omega
    · rw [if_neg (by rw [decide_eq_false c]; decide)]
      omega
  | f + 1, X, k + 1, h => by
    have h1 : (X ||| 2 ^ (k + 1)) % 2 = X % 2 := by
      have a : (X ||| 2 ^ (k + 1)) % 2 = 1 ↔ X % 2 = 1 ∨ 2 ^ (k + 1) % 2 = 1 := Nat.or_mod_two_eq_one
      have b : 2 ^ (k + 1) % 2 = 0 := by
        rw [Nat.pow_succ]
        omega
      omega
    have h2 : (X ||| 2 ^ (k + 1)) / 2 = X / 2 ||| 2 ^ k := by
      rw [Nat.or_div_two, show 2 ^ (k + 1) / 2 = 2 ^ k by rw [Nat.pow_succ]; omega]
    unfold pcN
    rw [h1, h2, pcN_or f (X / 2) k (by omega), Nat.testBit_add_one, Nat.add_assoc]
theorem bit_or (X : Nat) {k v : Nat} : (X ||| 2 ^ k).testBit v = (X.testBit v || decide (k = v)) := by
  rw [Nat.testBit_or, Nat.testBit_two_pow]
end
section
/-! LOOK, of what both are in -/
theorem k_bc (m : z_M) (x : Int) : z_R 128 (m, 0, [(1, x), (9, 0)], []) = some (m, some (0, ((pcN 64 (lv x) : Nat) : Int))) := by
  have e1 : z_R 128 (m, 0, [(1, x), (9, 0)], []) = z_R 128 (m, 10, [(1, l_f1 x), (9, 0)], []) := k_bc_0 m x
  have e2 : ∀ y, z_R 128 (m, 10, [(1, y), (9, 0)], []) = z_R 128 (m, 24, [(1, l_f2 y), (9, 0)], []) := fun y => k_bc_10 m y
  have e3 : ∀ y, z_R 128 (m, 24, [(1, y), (9, 0)], []) = z_R 128 (m, 34, [(1, l_f3 y), (9, 0)], []) := fun y => k_bc_24 m y
  have e4 : ∀ y, z_R 128 (m, 34, [(1, y), (9, 0)], []) = z_R 128 (m, 41, [(1, l_f4 y), (9, 0)], []) := fun y => k_bc_34 m y
  have e5 : ∀ y, z_R 128 (m, 41, [(1, y), (9, 0)], []) = z_R 128 (m, 48, [(1, l_f5 y), (9, 0)], []) := fun y => k_bc_41 m y
  have e6 : ∀ y, z_R 128 (m, 48, [(1, y), (9, 0)], []) = z_R 128 (m, 55, [(1, l_f6 y), (9, 0)], []) := fun y => k_bc_48 m y
  rw [e1, e2, e3, e4, e5, e6, k_bc_55, l_pc]
/-- so many unlike numbers, and the greatest -/
def o_lk (M : Int → Int) : Nat → Nat → (Int → Bool) → Int → Int → Int × Int
  | 0, _, _, k, g => (k, g)
  | f + 1, x, S, k, g => o_lk M f (x + 1) (fun v => S v || decide (v = M (x : Int))) (if S (M (x : Int)) = true then k else k + 1) (if g < M (x : Int) then M (x : Int) else g)
def o_lr (w h : Nat) (F : Nat → Int × Int) : Nat → Nat → Int → Int → Int → Int × Int × Int
  | 0, _, b, k, g => (b, k, g)
  | f + 1, r, b, k, g => if (¬ u_hs (w : Int) (h : Int) (r : Int) = 0) ∧ k < (F r).1 then o_lr w h F f (r + 1) (r : Int) (F r).1 (F r).2 else o_lr w h F f (r + 1) b k g
def o_F (n : Nat) (heat : Int) (cs : List Int) (D A : Nat → Int) (r : Nat) : Int × Int := o_lk (o_mel n heat cs D A r) (2 ^ n) 0 (fun _ => false) 0 0
def o_look (w h n : Nat) (heat : Int) (cs : List Int) (D A : Nat → Int) : Int := if w = 0 then -2 else (o_lr w h (o_F n heat cs D A) 9 0 (-1) 0 0).1
theorem o_lk_le {M : Int → Int} : ∀ (f x : Nat) (S : Int → Bool) (k g : Int), k ≤ (o_lk M f x S k g).1
  | 0, _, _, k, _ => Int.le_refl k
  | f + 1, x, S, k, g => by
    unfold o_lk
    refine Int.le_trans ?_ (o_lk_le f (x + 1) _ _ _)
    split <;> omega
theorem o_F_pos {n : Nat} {heat : Int} {cs : List Int} {D A : Nat → Int} (r : Nat) : 1 ≤ (o_F n heat cs D A r).1 := by
  unfold o_F
  obtain ⟨f, hf⟩ : ∃ f, 2 ^ n = f + 1 := ⟨2 ^ n - 1, by have := Nat.two_pow_pos n; omega⟩
  rw [hf]
  exact o_lk_le (M := o_mel n heat cs D A r) f 1 (fun v => false || decide (v = o_mel n heat cs D A r ((0 : Nat) : Int))) 1 _
theorem o_lr_b {w h : Nat} {F : Nat → Int × Int} : ∀ (f r : Nat) (b k g : Int), 0 ≤ b → 0 ≤ (o_lr w h F f r b k g).1
  | 0, _, _, _, _, hb => hb
  | f + 1, r, b, k, g, hb => by
    unfold o_lr
    split
    · exact o_lr_b f (r + 1) _ _ _ (by omega)
    · exact o_lr_b f (r + 1) _ _ _ hb
theorem o_lr_no {w h : Nat} {F : Nat → Int × Int} (hz : ∀ r : Nat, u_hs (w : Int) (h : Int) (r : Int) = 0) : ∀ (f r : Nat) (b k g : Int), o_lr w h F f r b k g = (b, k, g)
  | 0, _, _, _, _ => rfl
  | f + 1, r, b, k, g => by
    unfold o_lr
    rw [if_neg (fun z => z.1 (hz r))]
    exact o_lr_no hz f (r + 1) b k g
theorem o_lr_w {w h n : Nat} {heat : Int} {cs : List Int} {D A : Nat → Int} (hw : w ≤ 3) (hh : h ≤ 3) (h0 : w = 0 ↔ h = 0) : (o_lr w h (o_F n heat cs D A) 9 0 (-1) 0 0).1 = -1 ↔ w = 0 := by
  constructor
  · intro z
    refine Decidable.byContradiction fun c => ?_
    have hr : ¬ u_hs (w : Int) (h : Int) ((0 : Nat) : Int) = 0 := by
      have e : ∀ w, w < 4 → ∀ h, h < 4 → ¬ w = 0 → ¬ h = 0 → ¬ u_hs ((w : Nat) : Int) ((h : Nat) : Int) ((0 : Nat) : Int) = 0 := by decide +kernel
      exact e w (by omega) h (by omega) c (by omega)
    have hp := o_F_pos (n := n) (heat := heat) (cs := cs) (D := D) (A := A) 0
    unfold o_lr at z
    rw [if_pos ⟨hr, by omega⟩] at z
    have := o_lr_b (w := w) (h := h) (F := o_F n heat cs D A) 8 (0 + 1) ((0 : Nat) : Int) (o_F n heat cs D A 0).1 (o_F n heat cs D A 0).2 (by decide)
    have z : (o_lr w h (o_F n heat cs D A) 8 (0 + 1) ((0 : Nat) : Int) (o_F n heat cs D A 0).1 (o_F n heat cs D A 0).2).1 = -1 := z
    omega
  · intro z
    have hz : ∀ r : Nat, u_hs (w : Int) (h : Int) (r : Int) = 0 := fun r => Decidable.byContradiction fun c => by
      have := u_hs_rng c
      have e : ∀ h, h < 4 → ∀ r, r < 9 → u_hs ((0 : Nat) : Int) ((h : Nat) : Int) ((r : Nat) : Int) = 0 := by decide +kernel
      rw [z] at c
      exact c (e h (by omega) r (by omega))
    rw [o_lr_no hz]
/-- the bits of both longs, what they are of -/
def l_inv (lo hi : Int) (S : Int → Bool) (k : Int) : Prop := (∀ v : Nat, v < 64 → (lv lo).testBit v = S (v : Int)) ∧ (∀ v : Nat, v < 36 → (lv hi).testBit v = S ((v + 64 : Nat) : Int)) ∧ ((pcN 64 (lv lo) + pcN 64 (lv hi) : Nat) : Int) = k
theorem l_inv_0 : l_inv 0 0 (fun _ => false) 0 := by
  have e0 : lv 0 = 0 := by decide +kernel
  have e1 : pcN 64 0 = 0 := by decide +kernel
  unfold l_inv
  rw [e0, e1]
  exact ⟨fun v _ => Nat.zero_testBit v, fun v _ => Nat.zero_testBit v, rfl⟩
theorem l_inv_lo {lo hi k : Int} {S : Int → Bool} (h : l_inv lo hi S k) {u : Nat} (hu : u < 64) : l_inv (z_lor lo (z_lshl 1 (u : Int))) hi (fun v => S v || decide (v = (u : Int))) (if S (u : Int) = true then k else k + 1) := by
  obtain ⟨h1, h2, h3⟩ := h
  have e : lv (z_lor lo (z_lshl 1 (u : Int))) = lv lo ||| 2 ^ u := by rw [l6_or, l6_shl hu]
  refine ⟨fun v hv => ?_, fun v hv => ?_, ?_⟩
  · rw [e, bit_or, h1 v hv]
    congr 1
    exact decide_eq_decide.mpr ⟨fun z => by omega, fun z => by omega⟩
  · rw [h2 v hv]
    show S ((v + 64 : Nat) : Int) = (S ((v + 64 : Nat) : Int) || decide (((v + 64 : Nat) : Int) = (u : Int)))
    rw [decide_eq_false (by omega), Bool.or_false]
  · rw [e, pcN_or 64 (lv lo) u hu, h1 u hu]
    split <;> omega
theorem l_inv_hi {lo hi k : Int} {S : Int → Bool} (h : l_inv lo hi S k) {u : Nat} (hu : u < 36) : l_inv lo (z_lor hi (z_lshl 1 (u : Int))) (fun v => S v || decide (v = ((u + 64 : Nat) : Int))) (if S ((u + 64 : Nat) : Int) = true then k else k + 1) := by
  obtain ⟨h1, h2, h3⟩ := h
  have e : lv (z_lor hi (z_lshl 1 (u : Int))) = lv hi ||| 2 ^ u := by rw [l6_or, l6_shl (by omega)]
  refine ⟨fun v hv => ?_, fun v hv => ?_, ?_⟩
  · rw [h1 v hv]
    show S (v : Int) = (S (v : Int) || decide ((v : Int) = ((u + 64 : Nat) : Int)))
    rw [decide_eq_false (by omega), Bool.or_false]
  · rw [e, bit_or, h2 v hv]
    congr 1
    exact decide_eq_decide.mpr ⟨fun z => by omega, fun z => by omega⟩
  · rw [e, pcN_or 64 (lv hi) u (by omega), h2 u hu]
    split <;> omega
section
variable {w h n : Nat} {heat price : Int} {D A : Nat → Int} {c : Nat} {U : Nat → Nat → Int} {kn : Nat → Int} {KS : Nat → Nat → Int} {cs : List Int} {m : z_M}
theorem o_mel_b (hok : hr_ok n A) {r : Nat} (hr : r < 9) (b : Int) : 0 ≤ o_mel n heat cs D A r b ∧ o_mel n heat cs D A r b ≤ 99 := by
  have h1 := hok.1 r hr
  have h2 := c_ml_ok cs (hr_wb heat (wmD D (A 35)) n A r b) (A r) (A (r + 9)) (A 36) ((r : Int) / 3) (hr_pc b) (A 35) h1.1
  unfold o_mel hr_mB
  omega
theorem C_mbs2 (hi : C_is w h n heat price D A c U kn KS cs m) (hN : w_N w h n heat D) (ht : 0 ≤ A 35 ∧ A 35 ≤ 1073741824) {r : Nat} (hr : r < 9) (b : Int) : ∃ m1, z_R 118 (m, 0, [(2, 24), (2, 12), (0, (r : Int)), (0, b)], []) = some (m1, some (0, o_mel n heat cs D A r b)) ∧ C_is w h n heat price D A c U kn KS cs m1 ∧ m1 24 13 = m 24 13 := by
  have h5 := hN.1.2.2
  have e6 : m 12 6 = A 34 := by
    rw [← hi.2.2.1]
    exact (cS_at0 (s := 12) (j := 6) (by decide)).symm
  have e7 : m 12 7 = A 35 := by
    rw [← hi.2.2.1]
    exact (cS_at0 (s := 12) (j := 7) (by decide)).symm
  have e8 : m 12 8 = A 36 := by
    rw [← hi.2.2.1]
    exact (cS_at0 (s := 12) (j := 8) (by decide)).symm
  have e13 : m 13 r = A r := by
    rw [← hi.2.2.1]
    exact (cS_at1 (s := 12) hr).symm
  have e14 : m 14 r = A (r + 9) := by
    rw [← hi.2.2.1]
    exact (cS_at2 (s := 12) hr).symm
  have ew : z_R 119 (m, 0, [(2, 24), (2, 12), (0, (r : Int)), (0, b), (9, 0), (9, 0)], []) = some (m, some (0, hr_wb heat (wmD D (A 35)) n A r b)) := by
    rw [u_wof_0, e6, hi.1.2.2.2.1]
    unfold hr_wb
    have hb := hN.2.1
    by_cases z : A 34 = (r : Int)
    · rw [if_pos z, if_pos z]
      exact C_wof hi h5 ht n 0 heat (by omega) (z_w_of (by omega) (by omega))
    · rw [if_neg z, if_neg z]
      exact C_wof hi h5 ht n 0 0 (by omega) (by decide +kernel)
  obtain ⟨m1, a1, a2⟩ := (C_cfg hi).2.2.2.2.2.2.1 m rfl rfl (hr_wb heat (wmD D (A 35)) n A r b) (A r) (A (r + 9)) (A 36) ((r : Int) / 3) (hr_pc b) (A 35)
  have hC1 : C_is w h n heat price D A c U kn KS cs m1 := C_fr hi fun p k hk => by
    have hk' := hk
    unfold C_hit at hk'
    have hk' := of_decide_eq_true hk'
    exact a2.of (by (repeat' (first | exact trivial | refine z_of_c ?_ ?_)) <;> omega)
  rw [u_mbs_0, ew, zb_v, u_mbs_10, t_bc_0, zb_v, u_mbs_14, u_mby_0 m r _ _ (by omega), Int.toNat_natCast, e13, e14, e8, e7, a1, zb_v, u_mby_48, zb_v, u_mbs_17]
  exact ⟨m1, rfl, hC1, a2.of (by (repeat' (first | exact trivial | refine z_of_c ?_ ?_)) <;> omega)⟩
theorem C_cm1 (hN : w_N w h n heat D) (hok : hr_ok n A) (ht : 0 ≤ A 35 ∧ A 35 ≤ 1073741824) {r : Nat} (hr : r < 9) : ∀ (f x : Nat) (lo hi2 : Int) (v8 : z_V) (S : Int → Bool) (k g : Int) (m : z_M), x + f = 2 ^ n → l_inv lo hi2 S k → (0 ≤ k ∧ k ≤ (x : Int)) → m 24 13 = g → C_is w h n heat price D A c U kn KS cs m → ∃ m1, z_R 127 (m, 13, [(2, 24), (2, 12), (0, (r : Int)), (1, lo), (9, 0), (1, hi2), (9, 0), (0, (x : Int)), v8], []) = some (m1, none) ∧ C_is w h n heat price D A c U kn KS cs m1 ∧ m1 24 12 = (o_lk (o_mel n heat cs D A r) f x S k g).1 ∧ m1 24 13 = (o_lk (o_mel n heat cs D A r) f x S k g).2 := by
  have h5 := hN.1.2.2
  have h32 := z_p32 h5
  intro f
  induction f with
  | zero =>
    intro x lo hi2 v8 S k g m hx hI hk hg hi
    have e11 := hi.1.2.2.1
    rw [k_cm_13 m _ _ _ _ _ (by omega), e11, z_p2 h5, if_pos (by omega), k_bc, zb_v, k_cm_90, k_bc, zb_v, k_cm_95]
    have h3 := hI.2.2
    refine ⟨_, rfl, C_upn hi (by decide), ?_, ?_⟩
    · rw [zu_self, z_add_eq (by omega) (by omega)]
      show _ = k
      omega
    · rw [zu_k (by decide)]
      exact hg
  | succ f ih =>
    intro x lo hi2 v8 S k g m hx hI hk hg hi
    have e11 := hi.1.2.2.1
    obtain ⟨m1, a1, a2, a3⟩ := C_mbs2 hi hN ht hr (x : Int)
    have hb := o_mel_b (heat := heat) (cs := cs) (D := D) hok hr (x : Int)
    rw [k_cm_13 m _ _ _ _ _ (by omega), e11, z_p2 h5, if_neg (by omega), a1, zb_v, k_cm_35, z_add_eq (x := (x : Int)) (y := 1) (by omega) (by omega), tc1, a3, hg]
    unfold o_lk
    have hC2 : ∀ v, C_is w h n heat price D A c U kn KS cs (z_up m1 24 13 v) := fun v => C_upn a2 (by decide)
    generalize o_mel n heat cs D A r (x : Int) = u at hb ⊢
    obtain ⟨q, rfl⟩ : ∃ q : Nat, u = (q : Int) := ⟨u.toNat, by omega⟩
    have hk2 : 0 ≤ (if S (q : Int) = true then k else k + 1) ∧ (if S (q : Int) = true then k else k + 1) ≤ ((x + 1 : Nat) : Int) := by
      split <;> omega
    by_cases z : 64 ≤ (q : Int)
    · obtain ⟨j, rfl⟩ : ∃ j, q = j + 64 := ⟨q - 64, by omega⟩
      rw [if_pos z, z_sub_eq (by omega) (by omega), show (((j + 64 : Nat) : Int) - 64) = (j : Int) by omega]
      exact ih (x + 1) _ _ _ _ _ _ _ (by omega) (l_inv_hi hI (by omega)) hk2 zu_self (hC2 _)
    · rw [if_neg z]
      exact ih (x + 1) _ _ _ _ _ _ _ (by omega) (l_inv_lo hI (by omega)) hk2 zu_self (hC2 _)
theorem C_cm (hi : C_is w h n heat price D A c U kn KS cs m) (hN : w_N w h n heat D) (hok : hr_ok n A) (ht : 0 ≤ A 35 ∧ A 35 ≤ 1073741824) {r : Nat} (hr : r < 9) : ∃ m1, z_R 127 (m, 0, [(2, 24), (2, 12), (0, (r : Int)), (9, 0), (9, 0), (9, 0), (9, 0), (9, 0), (9, 0)], []) = some (m1, none) ∧ C_is w h n heat price D A c U kn KS cs m1 ∧ m1 24 12 = (o_F n heat cs D A r).1 ∧ m1 24 13 = (o_F n heat cs D A r).2 := by
  rw [k_cm_0]
  exact C_cm1 hN hok ht hr (2 ^ n) 0 0 0 (9, 0) (fun _ => false) 0 0 _ (by omega) l_inv_0 ⟨by decide, by decide⟩ zu_self (C_upn hi (by decide))
theorem C_look1 (hN : w_N w h n heat D) (hok : hr_ok n A) (ht : 0 ≤ A 35 ∧ A 35 ≤ 1073741824) : ∀ (f r : Nat) (b k g : Int) (m : z_M), r + f = 9 → C_is w h n heat price D A c U kn KS cs m → ∃ m1, z_R 126 (m, 9, [(2, 0), (0, b), (0, k), (0, g), (0, (r : Int))], []) = some (m1, some (0, if (o_lr w h (o_F n heat cs D A) f r b k g).1 = -1 then -2 else (o_lr w h (o_F n heat cs D A) f r b k g).1)) ∧ C_is w h n heat price D A c U kn KS cs m1 := by
  intro f
  induction f with
  | zero =>
    intro r b k g m hr hi
    rw [k_loo_9, if_pos (by omega)]
    show ∃ m1, _ = some (m1, some (0, if b = -1 then -2 else b)) ∧ _
    by_cases z : b = -1
    · rw [if_pos z, if_pos z]
      exact ⟨m, rfl, hi⟩
    · rw [if_neg z, if_neg z, c_tell2, zb_n, k_loo_93]
      exact ⟨_, rfl, C_tell2 hi _ _⟩
  | succ f ih =>
    intro r b k g m hr hi
    rw [k_loo_9, if_neg (by omega), hi.1.1, hi.1.2.1, z_add_eq (x := (r : Int)) (y := 1) (by omega) (by omega), tc1]
    have eo : o_lr w h (o_F n heat cs D A) (f + 1) r b k g = if (¬ u_hs (w : Int) (h : Int) (r : Int) = 0) ∧ k < (o_F n heat cs D A r).1 then o_lr w h (o_F n heat cs D A) f (r + 1) (r : Int) (o_F n heat cs D A r).1 (o_F n heat cs D A r).2 else o_lr w h (o_F n heat cs D A) f (r + 1) b k g := rfl
    rw [eo]
    by_cases z : u_hs (w : Int) (h : Int) (r : Int) = 0
    · rw [if_neg (not_not_intro z), if_neg (show ¬ ((¬ u_hs (w : Int) (h : Int) (r : Int) = 0) ∧ k < (o_F n heat cs D A r).1) from fun q => q.1 z)]
      exact ih (r + 1) b k g m (by omega) hi
    · obtain ⟨m1, a1, a2, a3, a4⟩ := C_cm hi hN hok ht (r := r) (by omega)
      rw [if_pos z, a1, zb_n, k_loo_41, a3, a4, z_add_eq (x := (r : Int)) (y := 1) (by omega) (by omega), tc1]
      by_cases y : k < (o_F n heat cs D A r).1
      · rw [if_neg (by omega), if_pos (show (¬ u_hs (w : Int) (h : Int) (r : Int) = 0) ∧ k < (o_F n heat cs D A r).1 from ⟨z, y⟩)]
        exact ih (r + 1) _ _ _ m1 (by omega) a2
      · rw [if_pos (by omega), if_neg (show ¬ ((¬ u_hs (w : Int) (h : Int) (r : Int) = 0) ∧ k < (o_F n heat cs D A r).1) from fun q => y q.2)]
        exact ih (r + 1) b k g m1 (by omega) a2
theorem C_look (hi : C_is w h n heat price D A c U kn KS cs m) (hN : w_N w h n heat D) (hok : hr_ok n A) (ht : 0 ≤ A 35 ∧ A 35 ≤ 1073741824) (h0 : w = 0 ↔ h = 0) : ∃ m1, z_R 126 (m, 0, [(2, 0), (9, 0), (9, 0), (9, 0), (9, 0)], []) = some (m1, some (0, o_look w h n heat cs D A)) ∧ C_is w h n heat price D A c U kn KS cs m1 := by
  obtain ⟨m1, a1, a2⟩ := C_look1 hN hok ht 9 0 (-1) 0 0 m (by omega) hi
  have e := o_lr_w (n := n) (heat := heat) (cs := cs) (D := D) (A := A) hN.1.1 hN.1.2.1 h0
  rw [k_loo_0]
  refine ⟨m1, a1.trans ?_, a2⟩
  unfold o_look
  by_cases z : w = 0
  · rw [if_pos (e.mpr z), if_pos z]
  · rw [if_neg (fun y => z (e.mp y)), if_neg z]
/-! the reference -/
theorem R_mbs3 (hi : R_is w h n heat price D A c U kn KS cs m) (hN : w_N w h n heat D) (hok : hr_ok n A) (ht : 0 ≤ A 35 ∧ A 35 ≤ 1073741824) {r : Nat} (hr : r < 9) (b : Int) : ∃ m1, z_R 188 (m, 0, [(2, 251), (2, 252), (0, (r : Int)), (0, b)], []) = some (m1, some (0, o_mel n heat cs D A r b)) ∧ R_is w h n heat price D A c U kn KS cs m1 ∧ ∀ v, m1 269 v = m 269 v := by
  have h5 := hN.1.2.2
  obtain ⟨c1, c2, c3, c4, c5, c6, c7⟩ := R_cfg hi
  have ea : ∀ k, k < 18 ∨ 33 ≤ k → k < 37 → m 252 k = A k := fun k hk h37 => R_A hi h37 (by
    rcases hk with hk | hk
    · exact a_vis_lo hk
    · exact a_vis_hi hk)
  have hrg : r_rg 252 m := by
    refine ⟨fun k hk => ?_, ?_, ?_⟩
    · have p1 := hok.1 k hk
      have p2 := hok.2.1 k hk
      rw [ea k (by omega) (by omega), ea (k + 9) (by omega) (by omega)]
      omega
    · rw [ea 36 (by omega) (by omega)]
      have := hok.2.2.2
      omega
    · rw [ea 35 (by omega) (by omega)]
      omega
  have hb := hN.2.1
  have hW : r_i (hr_wb heat (wmD D (A 35)) n (rS m 252 n) r b) := by
    unfold hr_wb r_i
    by_cases z : rS m 252 n 34 = (r : Int)
    · rw [if_pos z]
      have := hr_s_rg (b := b) (hN.2.2 (A 35) ht.1) n 0 heat (by omega) (by omega) (by omega)
      omega
    · rw [if_neg z]
      have := hr_s_rg (b := b) (hN.2.2 (A 35) ht.1) n 0 0 (by omega) (by omega) (by omega)
      omega
  have hP : r_i (hr_pc b) := by
    have := hr_pc_b b
    unfold r_i
    omega
  obtain ⟨m1, a1, a2⟩ := r_mb z_A_252 (Or.inl rfl) h5 (ml := c_ml cs) (b := b) (t := A 35) (heat := heat) (wm := wmD D (A 35)) ht.1 (by omega) m c3 c4 (ea 35 (by omega) (by omega)) (fun p hp => c6 (A 35) ht.1 p hp) c7 hr hrg hW hP
  rw [hi.2.2.1] at a1
  have a1 : z_R 188 (m, 0, [(2, 251), (2, 252), (0, (r : Int)), (0, b)], []) = some (m1, some (0, o_mel n heat cs D A r b)) := a1
  refine ⟨m1, a1, R_fr hi fun p k hk => ?_, fun v => a2.of (by (repeat' (first | exact trivial | refine z_of_c ?_ ?_)) <;> omega)⟩
  have hk' := hk
  unfold R_hit at hk'
  have hk' := of_decide_eq_true hk'
  exact a2.of (by (repeat' (first | exact trivial | refine z_of_c ?_ ?_)) <;> omega)
theorem R_clr : ∀ (f x : Nat) (x1 x2 x3 x4 : Int) (v6 v7 v8 : z_V) (m : z_M), x + f = 100 → (∀ v : Nat, v < x → m 269 v = 0) → R_is w h n heat price D A c U kn KS cs m → ∃ m1, z_R 244 (m, 46, [(2, 251), (0, x1), (0, x2), (0, x3), (0, x4), (0, (x : Int)), v6, v7, v8], []) = z_R 244 (m1, 76, [(2, 251), (0, x1), (0, x2), (0, x3), (0, x4), (0, 0), (0, 0), (0, 0), v8], []) ∧ (∀ v : Nat, v < 100 → m1 269 v = 0) ∧ R_is w h n heat price D A c U kn KS cs m1 := by
  intro f
  induction f with
  | zero =>
    intro x x1 x2 x3 x4 v6 v7 v8 m hx h0 hi
    rw [k_tlo_46, if_pos (by omega)]
    exact ⟨m, rfl, fun v hv => h0 v (by omega), hi⟩
  | succ f ih =>
    intro x x1 x2 x3 x4 v6 v7 v8 m hx h0 hi
    rw [k_tlo_46, if_neg (by omega), if_pos (by omega), tc1, Int.toNat_natCast]
    refine ih (x + 1) x1 x2 x3 x4 v6 v7 v8 _ (by omega) (fun v hv => ?_) (R_fr hi fun p k hk => zu_p ?_)
    · by_cases z : v = x
      · rw [z]
        exact zu_self
      · rw [zu_k z]
        exact h0 v (by omega)
    · intro z
      have hk' := hk
      unfold R_hit at hk'
      have hk' := of_decide_eq_true hk'
      omega
theorem R_lset (hN : w_N w h n heat D) (hok : hr_ok n A) (ht : 0 ≤ A 35 ∧ A 35 ≤ 1073741824) {r : Nat} (hr : r < 9) {x1 x2 x3 : Int} : ∀ (f x : Nat) (v8 : z_V) (S : Int → Bool) (k g : Int) (m : z_M), x + f = 2 ^ n → (∀ v : Nat, v < 100 → m 269 v = if S (v : Int) = true then 1 else 0) → (0 ≤ k ∧ k ≤ (x : Int)) → R_is w h n heat price D A c U kn KS cs m → ∃ m1 v5 v6 v7 v8', z_R 244 (m, 76, [(2, 251), (0, x1), (0, x2), (0, x3), (0, (r : Int)), (0, k), (0, g), (0, (x : Int)), v8], []) = (if x2 < (o_lk (o_mel n heat cs D A r) f x S k g).1 then z_R 244 (m1, 24, [(2, 251), (0, (r : Int)), (0, (o_lk (o_mel n heat cs D A r) f x S k g).1), (0, (o_lk (o_mel n heat cs D A r) f x S k g).2), (0, ((r + 1 : Nat) : Int)), v5, v6, v7, v8'], []) else z_R 244 (m1, 24, [(2, 251), (0, x1), (0, x2), (0, x3), (0, ((r + 1 : Nat) : Int)), v5, v6, v7, v8'], [])) ∧ R_is w h n heat price D A c U kn KS cs m1 := by
  have h5 := hN.1.2.2
  have h32 := z_p32 h5
  intro f
  induction f with
  | zero =>
    intro x v8 S k g m hx h269 hk hi
    refine ⟨m, (0, k), (0, g), (0, (x : Int)), v8, ?_, hi⟩
    rw [k_tlo_76, hi.1.2.2.1, z_p2 h5, if_pos (by omega), z_add_eq (x := (r : Int)) (y := 1) (by omega) (by omega), tc1]
    rfl
  | succ f ih =>
    intro x v8 S k g m hx h269 hk hi
    obtain ⟨m1, a1, a2⟩ := R_mbs3 hi hN hok ht hr (x : Int)
    obtain ⟨a2, a3⟩ := a2
    have hb := o_mel_b (heat := heat) (cs := cs) (D := D) hok hr (x : Int)
    rw [k_tlo_76, hi.1.2.2.1, z_p2 h5, if_neg (by omega), a1, zb_v, k_tlo_99, if_pos (by omega), z_add_eq (x := (x : Int)) (y := 1) (by omega) (by omega), tc1]
    unfold o_lk
    generalize o_mel n heat cs D A r (x : Int) = u at hb ⊢
    obtain ⟨q, rfl⟩ : ∃ q : Nat, u = (q : Int) := ⟨u.toNat, by omega⟩
    rw [Int.toNat_natCast, a3 q, h269 q (by omega), z_add_eq (x := k) (y := 1) (by omega) (by omega), z_add_eq (x := k) (y := 0) (by omega) (by omega), Int.add_zero]
    have h2 : ∀ v : Nat, v < 100 → (z_up m1 269 q 1) 269 v = if (S (v : Int) || decide ((v : Int) = (q : Int))) = true then 1 else 0 := fun v hv => by
      by_cases z : v = q
      · rw [z, zu_self, decide_eq_true rfl, Bool.or_true, if_pos rfl]
      · rw [zu_k z, a3 v, h269 v hv, decide_eq_false (by omega), Bool.or_false]
    have hR2 : R_is w h n heat price D A c U kn KS cs (z_up m1 269 q 1) := R_fr a2 fun p j hk => zu_p fun z => by
      have hk' := hk
      unfold R_hit at hk'
      have hk' := of_decide_eq_true hk'
      omega
    by_cases y : S (q : Int) = true
    · rw [if_pos y, if_pos y, if_neg (by decide)]
      exact ih (x + 1) _ _ k _ _ (by omega) h2 (by omega) hR2
    · rw [if_neg y, if_neg y, if_pos rfl]
      exact ih (x + 1) _ _ (k + 1) _ _ (by omega) h2 (by omega) hR2
theorem R_look1 (hN : w_N w h n heat D) (hok : hr_ok n A) (ht : 0 ≤ A 35 ∧ A 35 ≤ 1073741824) : ∀ (f r : Nat) (b k g : Int) (v5 v6 v7 v8 : z_V) (m : z_M), r + f = 9 → R_is w h n heat price D A c U kn KS cs m → ∃ m1, z_R 244 (m, 24, [(2, 251), (0, b), (0, k), (0, g), (0, (r : Int)), v5, v6, v7, v8], []) = some (m1, some (0, (o_lr w h (o_F n heat cs D A) f r b k g).1)) ∧ R_is w h n heat price D A c U kn KS cs m1 := by
  intro f
  induction f with
  | zero =>
    intro r b k g v5 v6 v7 v8 m hr hi
    rw [k_tlo_24, if_pos (by omega), t_tell0, zb_n, k_tlo_179, t_tell1, zb_n, k_tlo_185]
    exact ⟨_, rfl, R_upn (R_upn (R_upn (R_upn (R_upn hi (by decide)) (by decide)) (by decide)) (by decide)) (by decide)⟩
  | succ f ih =>
    intro r b k g v5 v6 v7 v8 m hr hi
    rw [k_tlo_24, if_neg (by omega), hi.1.1, hi.1.2.1, z_add_eq (x := (r : Int)) (y := 1) (by omega) (by omega), tc1]
    unfold o_lr
    by_cases z : u_hs (w : Int) (h : Int) (r : Int) = 0
    · rw [if_neg (not_not_intro z), if_neg (fun q => q.1 z)]
      exact ih (r + 1) b k g _ _ _ _ m (by omega) hi
    · rw [if_pos z]
      obtain ⟨m1, a1, a2, a3⟩ := R_clr 100 0 b k g (r : Int) v6 v7 v8 m (by omega) (fun v hv => absurd hv (Nat.not_lt_zero v)) hi
      obtain ⟨m2, w5, w6, w7, w8, b1, b2⟩ := R_lset hN hok ht (r := r) (by omega) (x1 := b) (x2 := k) (x3 := g) (2 ^ n) 0 v8 (fun _ => false) 0 0 m1 (by omega) (fun v hv => (a2 v hv).trans (if_neg Bool.false_ne_true).symm) ⟨by decide, by decide⟩ a3
      have a1 : z_R 244 (m, 46, [(2, 251), (0, b), (0, k), (0, g), (0, (r : Int)), (0, 0), v6, v7, v8], []) = z_R 244 (m1, 76, [(2, 251), (0, b), (0, k), (0, g), (0, (r : Int)), (0, 0), (0, 0), (0, 0), v8], []) := a1
      have b1 : z_R 244 (m1, 76, [(2, 251), (0, b), (0, k), (0, g), (0, (r : Int)), (0, 0), (0, 0), (0, 0), v8], []) = (if k < (o_F n heat cs D A r).1 then z_R 244 (m2, 24, [(2, 251), (0, (r : Int)), (0, (o_F n heat cs D A r).1), (0, (o_F n heat cs D A r).2), (0, ((r + 1 : Nat) : Int)), w5, w6, w7, w8], []) else z_R 244 (m2, 24, [(2, 251), (0, b), (0, k), (0, g), (0, ((r + 1 : Nat) : Int)), w5, w6, w7, w8], [])) := b1
      rw [a1, b1]
      by_cases y : k < (o_F n heat cs D A r).1
      · rw [if_pos y, if_pos ⟨z, y⟩]
        exact ih (r + 1) _ _ _ _ _ _ _ m2 (by omega) b2
      · rw [if_neg y, if_neg (fun q => y q.2)]
        exact ih (r + 1) b k g _ _ _ _ m2 (by omega) b2
theorem R_look (hi : R_is w h n heat price D A c U kn KS cs m) (hN : w_N w h n heat D) (hok : hr_ok n A) (ht : 0 ≤ A 35 ∧ A 35 ≤ 1073741824) : ∃ m1, z_R 244 (m, 0, [(2, 251), (9, 0), (9, 0), (9, 0), (9, 0), (9, 0), (9, 0), (9, 0), (9, 0)], []) = some (m1, some (0, o_look w h n heat cs D A)) ∧ R_is w h n heat price D A c U kn KS cs m1 := by
  have hu := R_upn (p0 := 251) (k0 := 11) (v := 0) hi (by decide)
  rw [k_tlo_0, hi.1.1]
  unfold o_look
  by_cases z : w = 0
  · rw [if_pos (by omega), if_pos z]
    exact ⟨_, rfl, hu⟩
  · rw [if_neg (by omega), if_neg z]
    exact R_look1 hN hok ht 9 0 (-1) 0 0 _ _ _ _ _ (by omega) hu
end
theorem core_look : l_rel2 Rel_C (955, 144, 126, 0, true, 959, 147, 244) := by
  intro M1 M2 M3 σ σ1 σ2 as v1 v2 C1 C2 ρ1 ρ2 ha hR hh hM1 hC1 hp1 hE1 hC2 hp2 hE2
  obtain rfl := as_nil ha
  have hE1 : z_R 126 (z_m σ, 0, [(2, 0), (9, 0), (9, 0), (9, 0), (9, 0)], []) = some (z_m σ1, some (0, v1.toInt)) := z_R_iff.mpr hE1
  have hE2 : z_R 244 (z_m σ1, 0, [(2, 251), (9, 0), (9, 0), (9, 0), (9, 0), (9, 0), (9, 0), (9, 0), (9, 0)], []) = some (z_m σ2, some (0, v2.toInt)) := z_R_iff.mpr hE2
  have hT := T_two (y1 := 126) (y2 := 244) (by decide +kernel) (by decide +kernel) hC1 hC2 hp1 hp2 hR.1
  obtain ⟨w, h, n, heat, price, D, A, c, U, kn, KS, cs, cC, cR, cW⟩ := hR.2
  obtain ⟨b1, b2, -, -, hok, b35, -, b7⟩ := core_b hh hM1 cR
  have hN : w_N w h n heat D := ⟨b1, b2, b7⟩
  have f1 := R_off2_ok (y := 126) (by decide +kernel) hC1 hp1
  have f2 := C_off_ok (y := 244) (by decide +kernel) hC2 hp2
  have cR1 := R_fr cR f1
  have z := core_do cR1 (fun q => C_fr q f2) (C_look cC hN hok b35 cW.1) (fun q => R_look q hN hok b35) hE1 hE2
  exact ⟨⟨hT, Core_mk z.1.1 z.1.2 cW⟩, fun _ => z.2⟩
end
section
/-! WHAT IS KEPT: both texts alike, and both are in one and the same -/
def Rel_0 (σ : m_H) : Prop := Rel_C σ
theorem rel_start : ∀ σ, xs_is σ → Rel_0 σ := core_start
theorem rel_off {c : l_C} (h : ((core_offb c.2.2.1 && core_offb c.2.2.2.2.2.2.2) && (rel_offb c.2.2.1 && (rel_offb c.2.2.2.2.2.2.2 && !c.2.2.2.2.1))) = true) : l_rel2 Rel_0 c := by
  obtain ⟨h1, h2⟩ := Bool.and_eq_true _ _ |>.mp h
  exact core_q (R_off h2) h1
theorem rel_sign : l_rel2 Rel_0 (219, 26, 14, 1, false, 230, 30, 160) := core_q R_sign (by decide +kernel)
theorem rel_end : l_rel2 Rel_0 (244, 31, 16, 1, false, 255, 35, 161) := core_q R_end (by decide +kernel)
theorem rel_quiet : l_rel2 Rel_0 (836, 124, 110, 1, false, 847, 127, 233) := core_quiet rfl
theorem rel_cases : ∀ c ∈ law_cs, l_rel2 Rel_0 c := by
  unfold law_cs
  refine List.forall_mem_cons.mpr ⟨rel_sign, ?_⟩
  refine List.forall_mem_cons.mpr ⟨rel_end, ?_⟩
  refine List.forall_mem_cons.mpr ⟨core_house, ?_⟩
  refine List.forall_mem_cons.mpr ⟨core_people, ?_⟩
  refine List.forall_mem_cons.mpr ⟨core_rule, ?_⟩
  refine List.forall_mem_cons.mpr ⟨core_set, ?_⟩
  refine List.forall_mem_cons.mpr ⟨core_doing, ?_⟩
  refine List.forall_mem_cons.mpr ⟨core_sheet, ?_⟩
  refine List.forall_mem_cons.mpr ⟨core_move, ?_⟩
  refine List.forall_mem_cons.mpr ⟨core_stove, ?_⟩
  refine List.forall_mem_cons.mpr ⟨core_hour, ?_⟩
  refine List.forall_mem_cons.mpr ⟨core_hours, ?_⟩
  refine List.forall_mem_cons.mpr ⟨core_pay, ?_⟩
  refine List.forall_mem_cons.mpr ⟨core_winter, ?_⟩
  refine List.forall_mem_cons.mpr ⟨core_undo, ?_⟩
  refine List.forall_mem_cons.mpr ⟨rel_off (by decide +kernel), ?_⟩
  refine List.forall_mem_cons.mpr ⟨rel_off (by decide +kernel), ?_⟩
  refine List.forall_mem_cons.mpr ⟨rel_off (by decide +kernel), ?_⟩
  refine List.forall_mem_cons.mpr ⟨rel_off (by decide +kernel), ?_⟩
  refine List.forall_mem_cons.mpr ⟨rel_off (by decide +kernel), ?_⟩
  refine List.forall_mem_cons.mpr ⟨rel_off (by decide +kernel), ?_⟩
  refine List.forall_mem_cons.mpr ⟨rel_quiet, ?_⟩
  refine List.forall_mem_cons.mpr ⟨rel_off (by decide +kernel), ?_⟩
  refine List.forall_mem_cons.mpr ⟨rel_off (by decide +kernel), ?_⟩
  refine List.forall_mem_cons.mpr ⟨rel_off (by decide +kernel), ?_⟩
  refine List.forall_mem_cons.mpr ⟨rel_off (by decide +kernel), ?_⟩
  refine List.forall_mem_cons.mpr ⟨core_look, ?_⟩
  refine List.forall_mem_cons.mpr ⟨rel_off (by decide +kernel), ?_⟩
  refine List.forall_mem_cons.mpr ⟨rel_off (by decide +kernel), ?_⟩
  refine List.forall_mem_cons.mpr ⟨rel_off (by decide +kernel), ?_⟩
  refine List.forall_mem_cons.mpr ⟨rel_off (by decide +kernel), ?_⟩
  refine List.forall_mem_cons.mpr ⟨rel_off (by decide +kernel), ?_⟩
  refine List.forall_mem_cons.mpr ⟨rel_off (by decide +kernel), ?_⟩
  refine List.forall_mem_cons.mpr ⟨core_season, ?_⟩
  refine List.forall_mem_cons.mpr ⟨core_keep, ?_⟩
  refine List.forall_mem_cons.mpr ⟨core_again, ?_⟩
  refine List.forall_mem_cons.mpr ⟨rel_off (by decide +kernel), ?_⟩
  exact fun _ h => absurd h List.not_mem_nil
theorem rel_5 : l_rel3 Rel_0 181 2 := core_q3 (R3_off (by decide +kernel)) (by decide +kernel)
theorem rel_6 : l_rel3 Rel_0 190 2 := core_q3 (R3_off (by decide +kernel)) (by decide +kernel)
theorem rel_39 : l_rel3 Rel_0 261 1 := core_q3 (R3_off (by decide +kernel)) (by decide +kernel)
end
