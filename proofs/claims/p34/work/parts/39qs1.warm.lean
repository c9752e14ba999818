section
/-! warm, of what both are in -/
theorem z_a63 (a : Int) : 0 ≤ z_and a 63 ∧ z_and a 63 ≤ 63 := by
  have : z_and a 63 = (Int32.ofInt a).toInt % 64 := i32_and63 _
  omega
theorem hr_pc_b (b : Int) : 0 ≤ hr_pc b ∧ hr_pc b ≤ 63 := z_a63 _
theorem i32_and1 (y : Int32) : (y &&& Int32.ofInt 1).toInt = y.toInt % 2 := by
  have h1 : (y &&& Int32.ofInt 1).toBitVec.toNat = y.toBitVec.toNat % 2 := by
    show (y.toBitVec &&& 1#32).toNat = _
    rw [BitVec.toNat_and]
    exact Nat.and_two_pow_sub_one_eq_mod _ 1
  have h2 := i32_ofNat (x := y &&& Int32.ofInt 1) (by rw [h1]; omega)
  have h3 : y.toInt = y.toBitVec.toInt := rfl
  rw [h2, h1, h3, BitVec.toInt_eq_toNat_cond]
  have := y.toBitVec.isLt
  split <;> omega
theorem z_a1 (a : Int) : z_and a 1 = 0 ∨ z_and a 1 = 1 := by
  have : z_and a 1 = (Int32.ofInt a).toInt % 2 := i32_and1 _
  omega
theorem z_add0 {s : Int} (h : z_w s = s) : z_add s 0 = s := by
  rw [z_add_w, Int.add_zero]
  exact h
theorem hr_s_rg {wm : Nat → Int} {b : Int} (hwm : ∀ p, p < 5 → 0 ≤ wm p ∧ wm p ≤ 9) : ∀ (f x : Nat) (s : Int), x + f ≤ 5 → 0 ≤ s → s ≤ 9 + 9 * (x : Int) → 0 ≤ hr_s wm b f x s ∧ hr_s wm b f x s ≤ 54 := by
  intro f
  induction f with
  | zero => intro x s hx h0 h1; exact ⟨h0, show s ≤ 54 by omega⟩
  | succ f ih =>
    intro x s hx h0 h1
    have hw := hwm x (by omega)
    unfold hr_s
    by_cases c : z_and (z_shr b (x : Int)) 1 = 1
    · rw [if_pos c, z_add_eq (by omega) (by omega)]
      exact ih (x + 1) _ (by omega) (by omega) (by omega)
    · rw [if_neg c, z_add_eq (by omega) (by omega)]
      exact ih (x + 1) _ (by omega) (by omega) (by omega)
/-- in how many sets it melts v -/
def o_cnt (M : Int → Int) (v : Int) : Nat → Nat → Int → Int
  | 0, _, k => k
  | f + 1, x, k => o_cnt M v f (x + 1) (if M (x : Int) = v then k + 1 else k)
def o_mel (n : Nat) (heat : Int) (cs : List Int) (D A : Nat → Int) (r : Nat) (b : Int) : Int := hr_mB heat (c_ml cs) (wmD D (A 35)) n A r b
def o_warm (w h n : Nat) (heat : Int) (cs : List Int) (D A : Nat → Int) (r v : Int) : Int := if (¬ u_hs (w : Int) (h : Int) r = 0) ∧ 0 ≤ v ∧ v ≤ 99 then o_cnt (o_mel n heat cs D A r.toNat) v (2 ^ n) 0 0 else -1
section
variable {w h n : Nat} {heat price : Int} {D A : Nat → Int} {c : Nat} {U : Nat → Nat → Int} {kn : Nat → Int} {KS : Nat → Nat → Int} {cs : List Int} {m : z_M}
theorem z_p2 (h5 : n ≤ 5) : z_shl 1 (n : Int) = ((2 ^ n : Nat) : Int) := by
  have : ∀ n, n < 6 → z_shl 1 ((n : Nat) : Int) = ((2 ^ n : Nat) : Int) := by decide +kernel
  exact this n (by omega)
theorem z_p32 (h5 : n ≤ 5) : 2 ^ n ≤ 32 := by
  have : ∀ n, n < 6 → 2 ^ n ≤ 32 := by decide +kernel
  exact this n (by omega)
theorem C_wof (hi : C_is w h n heat price D A c U kn KS cs m) (h5 : n ≤ 5) (ht : 0 ≤ A 35 ∧ A 35 ≤ 1073741824) {r b : Int} : ∀ (f x : Nat) (s : Int), x + f = n → z_w s = s → z_R 119 (m, 24, [(2, 24), (2, 12), (0, r), (0, b), (0, s), (0, (x : Int))], []) = some (m, some (0, hr_s (wmD D (A 35)) b f x s)) := by
  have e11 := hi.1.2.2.1
  have e7 : m 12 7 = A 35 := by
    rw [← hi.2.2.1]
    exact (cS_at0 (s := 12) (j := 7) (by decide)).symm
  intro f
  induction f with
  | zero =>
    intro x s hx hs
    rw [u_wof_24 m r b s x (by omega), e11, if_pos (by omega)]
    rfl
  | succ f ih =>
    intro x s hx hs
    rw [u_wof_24 m r b s x (by omega), e11, if_neg (by omega), z_add_eq (x := (x : Int)) (y := 1) (by omega) (by omega), tc1]
    unfold hr_s
    rcases z_a1 (z_shr b (x : Int)) with z | z
    · rw [if_pos z, if_neg (by omega), z_add0 hs]
      exact ih (x + 1) s (by omega) hs
    · have ec : cw m x (A 35) = wmD D (A 35) x := cw_D hi.1.2.2.2.2.2.2.1 hi.1.2.2.2.2.2.2.2 hi.2.1 ht.1 (by omega)
      rw [if_neg (by omega), if_pos z, e7, c_wo m (by omega) ht.1 (by omega), zb_v, u_wof_57, z_add_eq (x := (x : Int)) (y := 1) (by omega) (by omega), tc1, ec]
      exact ih (x + 1) _ (by omega) (by rw [z_add_w]; exact z_w_w)
theorem C_mbs (hi : C_is w h n heat price D A c U kn KS cs m) (hN : w_N w h n heat D) (ht : 0 ≤ A 35 ∧ A 35 ≤ 1073741824) {r : Nat} (hr : r < 9) (b : Int) : ∃ m1, z_R 118 (m, 0, [(2, 24), (2, 12), (0, (r : Int)), (0, b)], []) = some (m1, some (0, o_mel n heat cs D A r b)) ∧ C_is w h n heat price D A c U kn KS cs m1 := by
  have h5 := hN.1.2.2
  have e6 : m 12 6 = A 34 := by
    rw [← hi.2.2.1]
    exact (cS_at0 (s := 12) (j := 6) (by decide)).symm
  have e7 : m 12 7 = A 35 := by
    rw [← hi.2.2.1]
    exact (cS_at0 (s := 12) (j := 7) (by decide)).symm
  have e8 : m 12 8 = A 36 := by
    rw [← hi.2.2.1]
    exact (cS_at0 (s := 12) (j := 8) (by decide)).symm
  have e13 : m 13 r = A r := by
    rw [← hi.2.2.1]
    exact (cS_at1 (s := 12) hr).symm
  have e14 : m 14 r = A (r + 9) := by
    rw [← hi.2.2.1]
    exact (cS_at2 (s := 12) hr).symm
  have ew : z_R 119 (m, 0, [(2, 24), (2, 12), (0, (r : Int)), (0, b), (9, 0), (9, 0)], []) = some (m, some (0, hr_wb heat (wmD D (A 35)) n A r b)) := by
    rw [u_wof_0, e6, hi.1.2.2.2.1]
    unfold hr_wb
    have hb := hN.2.1
    by_cases z : A 34 = (r : Int)
    · rw [if_pos z, if_pos z]
      exact C_wof hi h5 ht n 0 heat (by omega) (z_w_of (by omega) (by omega))
    · rw [if_neg z, if_neg z]
      exact C_wof hi h5 ht n 0 0 (by omega) (by decide +kernel)
  obtain ⟨m1, a1, a2⟩ := (C_cfg hi).2.2.2.2.2.2.1 m rfl rfl (hr_wb heat (wmD D (A 35)) n A r b) (A r) (A (r + 9)) (A 36) ((r : Int) / 3) (hr_pc b) (A 35)
  have hC1 : C_is w h n heat price D A c U kn KS cs m1 := C_fr hi fun p k hk => by
    have hk' := hk
    unfold C_hit at hk'
    have hk' := of_decide_eq_true hk'
    exact a2.of (by (repeat' (first | exact trivial | refine z_of_c ?_ ?_)) <;> omega)
  rw [u_mbs_0, ew, zb_v, u_mbs_10, t_bc_0, zb_v, u_mbs_14, u_mby_0 m r _ _ (by omega), Int.toNat_natCast, e13, e14, e8, e7, a1, zb_v, u_mby_48, zb_v, u_mbs_17]
  exact ⟨m1, rfl, hC1⟩
theorem C_wrm1 (hN : w_N w h n heat D) (ht : 0 ≤ A 35 ∧ A 35 ≤ 1073741824) {r : Nat} (hr : r < 9) {v : Int} : ∀ (f x : Nat) (y3 y4 k : Int) (m : z_M), x + f = 2 ^ n → 0 ≤ k → k ≤ (x : Int) → C_is w h n heat price D A c U kn KS cs m → ∃ m1, z_R 125 (m, 34, [(2, 0), (0, (r : Int)), (0, v), (0, y3), (0, y4), (0, k), (0, (x : Int))], []) = some (m1, some (0, o_cnt (o_mel n heat cs D A r) v f x k)) ∧ C_is w h n heat price D A c U kn KS cs m1 := by
  have h5 := hN.1.2.2
  have h32 := z_p32 h5
  intro f
  induction f with
  | zero =>
    intro x y3 y4 k m hx h0 h1 hi
    rw [u_wrm_34, hi.1.2.2.1, z_p2 h5, if_pos (by omega), c_tell2, zb_n, u_wrm_113]
    exact ⟨_, rfl, C_tell2 hi _ _⟩
  | succ f ih =>
    intro x y3 y4 k m hx h0 h1 hi
    obtain ⟨m1, a1, a2⟩ := C_mbs hi hN ht hr (x : Int)
    rw [u_wrm_34, hi.1.2.2.1, z_p2 h5, if_neg (by omega), a1, zb_v, u_wrm_62, z_add_eq (x := (x : Int)) (y := 1) (by omega) (by omega), tc1, z_add_eq (x := k) (y := 1) (by omega) (by omega)]
    unfold o_cnt
    by_cases z : o_mel n heat cs D A r (x : Int) = v
    · rw [if_pos z, if_pos z]
      by_cases z0 : k = 0
      · rw [if_pos z0]
        exact ih (x + 1) _ _ _ m1 (by omega) (by omega) (by omega) a2
      · rw [if_neg z0, if_neg z0]
        exact ih (x + 1) _ _ _ m1 (by omega) (by omega) (by omega) a2
    · rw [if_neg z, if_neg z]
      exact ih (x + 1) _ _ _ m1 (by omega) h0 (by omega) a2
theorem C_warm (hi : C_is w h n heat price D A c U kn KS cs m) (hN : w_N w h n heat D) (ht : 0 ≤ A 35 ∧ A 35 ≤ 1073741824) (r v : Int) : ∃ m1, z_R 125 (m, 0, [(2, 0), (0, r), (0, v), (9, 0), (9, 0), (9, 0), (9, 0)], []) = some (m1, some (0, o_warm w h n heat cs D A r v)) ∧ C_is w h n heat price D A c U kn KS cs m1 := by
  rw [u_wrm_0, hi.1.1, hi.1.2.1]
  by_cases c1 : u_hs (w : Int) (h : Int) r = 0
  · have e : o_warm w h n heat cs D A r v = -1 := if_neg (fun z => z.1 c1)
    rw [if_neg (not_not_intro c1), e]
    exact ⟨m, rfl, hi⟩
  rw [if_pos c1]
  by_cases c2 : v < 0
  · have e : o_warm w h n heat cs D A r v = -1 := if_neg (fun z => by have := z.2; omega)
    rw [if_pos c2, e]
    exact ⟨m, rfl, hi⟩
  rw [if_neg c2]
  by_cases c3 : v ≤ 99
  · have hr := u_hs_rng c1
    have e : o_warm w h n heat cs D A r v = o_cnt (o_mel n heat cs D A r.toNat) v (2 ^ n) 0 0 := if_pos ⟨c1, by omega, c3⟩
    obtain ⟨q, rfl⟩ : ∃ q : Nat, r = (q : Int) := ⟨r.toNat, by omega⟩
    rw [Int.toNat_natCast] at e
    rw [if_pos c3, e]
    exact C_wrm1 hN ht (by omega) (2 ^ n) 0 (-1) 0 0 m (by omega) (by decide) (by decide) hi
  · have e : o_warm w h n heat cs D A r v = -1 := if_neg (fun z => by have := z.2; omega)
    rw [if_neg c3, e]
    exact ⟨m, rfl, hi⟩
/-! the reference -/
theorem R_mbs (hi : R_is w h n heat price D A c U kn KS cs m) (hN : w_N w h n heat D) (hok : hr_ok n A) (ht : 0 ≤ A 35 ∧ A 35 ≤ 1073741824) {r : Nat} (hr : r < 9) (b : Int) : ∃ m1, z_R 188 (m, 0, [(2, 251), (2, 252), (0, (r : Int)), (0, b)], []) = some (m1, some (0, o_mel n heat cs D A r b)) ∧ R_is w h n heat price D A c U kn KS cs m1 := by
  have h5 := hN.1.2.2
  obtain ⟨c1, c2, c3, c4, c5, c6, c7⟩ := R_cfg hi
  have ea : ∀ k, k < 18 ∨ 33 ≤ k → k < 37 → m 252 k = A k := fun k hk h37 => R_A hi h37 (by
    rcases hk with hk | hk
    · exact a_vis_lo hk
    · exact a_vis_hi hk)
  have hrg : r_rg 252 m := by
    refine ⟨fun k hk => ?_, ?_, ?_⟩
    · have p1 := hok.1 k hk
      have p2 := hok.2.1 k hk
      rw [ea k (by omega) (by omega), ea (k + 9) (by omega) (by omega)]
      omega
    · rw [ea 36 (by omega) (by omega)]
      have := hok.2.2.2
      omega
    · rw [ea 35 (by omega) (by omega)]
      omega
  have hb := hN.2.1
  have hW : r_i (hr_wb heat (wmD D (A 35)) n (rS m 252 n) r b) := by
    unfold hr_wb r_i
    by_cases z : rS m 252 n 34 = (r : Int)
    · rw [if_pos z]
      have := hr_s_rg (b := b) (hN.2.2 (A 35) ht.1) n 0 heat (by omega) (by omega) (by omega)
      omega
    · rw [if_neg z]
      have := hr_s_rg (b := b) (hN.2.2 (A 35) ht.1) n 0 0 (by omega) (by omega) (by omega)
      omega
  have hP : r_i (hr_pc b) := by
    have := hr_pc_b b
    unfold r_i
    omega
  obtain ⟨m1, a1, a2⟩ := r_mb z_A_252 (Or.inl rfl) h5 (ml := c_ml cs) (b := b) (t := A 35) (heat := heat) (wm := wmD D (A 35)) ht.1 (by omega) m c3 c4 (ea 35 (by omega) (by omega)) (fun p hp => c6 (A 35) ht.1 p hp) c7 hr hrg hW hP
  rw [hi.2.2.1] at a1
  have a1 : z_R 188 (m, 0, [(2, 251), (2, 252), (0, (r : Int)), (0, b)], []) = some (m1, some (0, o_mel n heat cs D A r b)) := a1
  refine ⟨m1, a1, R_fr hi fun p k hk => ?_⟩
  have hk' := hk
  unfold R_hit at hk'
  have hk' := of_decide_eq_true hk'
  exact a2.of (by (repeat' (first | exact trivial | refine z_of_c ?_ ?_)) <;> omega)
theorem R_wrm1 (hN : w_N w h n heat D) (hok : hr_ok n A) (ht : 0 ≤ A 35 ∧ A 35 ≤ 1073741824) {r : Nat} (hr : r < 9) {v : Int} : ∀ (f x : Nat) (k y4 y5 : Int) (m : z_M), x + f = 2 ^ n → 0 ≤ k → k ≤ (x : Int) → R_is w h n heat price D A c U kn KS cs m → ∃ m1, z_R 243 (m, 43, [(2, 251), (0, (r : Int)), (0, v), (0, k), (0, y4), (0, y5), (0, (x : Int))], []) = some (m1, some (0, o_cnt (o_mel n heat cs D A r) v f x k)) ∧ R_is w h n heat price D A c U kn KS cs m1 := by
  have h5 := hN.1.2.2
  have h32 := z_p32 h5
  intro f
  induction f with
  | zero =>
    intro x k y4 y5 m hx h0 h1 hi
    rw [u_twr_43, hi.1.2.2.1, z_p2 h5, if_pos (by omega), t_tell0, zb_n, u_twr_113]
    by_cases z : k = 0
    · rw [if_pos z, t_tell1, zb_n, u_twr_128]
      exact ⟨_, rfl, R_upn (R_upn (R_upn (R_upn (R_upn hi (by decide)) (by decide)) (by decide)) (by decide)) (by decide)⟩
    · rw [if_neg z, t_tell1, zb_n, u_twr_128]
      exact ⟨_, rfl, R_upn (R_upn (R_upn (R_upn (R_upn hi (by decide)) (by decide)) (by decide)) (by decide)) (by decide)⟩
  | succ f ih =>
    intro x k y4 y5 m hx h0 h1 hi
    obtain ⟨m1, a1, a2⟩ := R_mbs hi hN hok ht hr (x : Int)
    rw [u_twr_43, hi.1.2.2.1, z_p2 h5, if_neg (by omega), a1, zb_v, u_twr_65, z_add_eq (x := (x : Int)) (y := 1) (by omega) (by omega), tc1, z_add_eq (x := k) (y := 1) (by omega) (by omega)]
    unfold o_cnt
    by_cases z : o_mel n heat cs D A r (x : Int) = v
    · rw [if_pos z, if_pos z]
      by_cases z0 : k = 0
      · rw [if_pos z0]
        exact ih (x + 1) _ _ _ m1 (by omega) (by omega) (by omega) a2
      · rw [if_neg z0]
        exact ih (x + 1) _ _ _ m1 (by omega) (by omega) (by omega) a2
    · rw [if_neg z, if_neg z]
      exact ih (x + 1) _ _ _ m1 (by omega) h0 (by omega) a2
theorem R_warm (hi : R_is w h n heat price D A c U kn KS cs m) (hN : w_N w h n heat D) (hok : hr_ok n A) (ht : 0 ≤ A 35 ∧ A 35 ≤ 1073741824) (r v : Int) : ∃ m1, z_R 243 (m, 0, [(2, 251), (0, r), (0, v), (9, 0), (9, 0), (9, 0), (9, 0)], []) = some (m1, some (0, o_warm w h n heat cs D A r v)) ∧ R_is w h n heat price D A c U kn KS cs m1 := by
  have hu := R_upn (p0 := 251) (k0 := 11) (v := 0) hi (by decide)
  rw [u_twr_0, hi.1.1, hi.1.2.1]
  by_cases c1 : u_hs (w : Int) (h : Int) r = 0
  · have e : o_warm w h n heat cs D A r v = -1 := if_neg (fun z => z.1 c1)
    rw [if_neg (not_not_intro c1), e]
    exact ⟨_, rfl, hu⟩
  rw [if_pos c1]
  by_cases c2 : 0 ≤ v ∧ v ≤ 99
  · have hr := u_hs_rng c1
    have e : o_warm w h n heat cs D A r v = o_cnt (o_mel n heat cs D A r.toNat) v (2 ^ n) 0 0 := if_pos ⟨c1, c2⟩
    obtain ⟨q, rfl⟩ : ∃ q : Nat, r = (q : Int) := ⟨r.toNat, by omega⟩
    rw [Int.toNat_natCast] at e
    rw [if_pos c2, e]
    exact R_wrm1 hN hok ht (by omega) (2 ^ n) 0 0 _ _ _ (by omega) (by decide) (by decide) hu
  · have e : o_warm w h n heat cs D A r v = -1 := if_neg (fun z => c2 z.2)
    rw [if_neg c2, e]
    exact ⟨_, rfl, hu⟩
end
theorem core_warm : l_rel2 Rel_C (930, 140, 125, 2, false, 947, 143, 243) := by
  intro M1 M2 M3 σ σ1 σ2 as v1 v2 C1 C2 ρ1 ρ2 ha hR hh hM1 hC1 hp1 hE1 hC2 hp2 hE2
  obtain ⟨r, v, rfl⟩ := as_two ha
  have hE1 : z_R 125 (z_m σ, 0, [(2, 0), (0, r.toInt), (0, v.toInt), (9, 0), (9, 0), (9, 0), (9, 0)], []) = some (z_m σ1, some (0, v1.toInt)) := z_R_iff.mpr hE1
  have hE2 : z_R 243 (z_m σ1, 0, [(2, 251), (0, r.toInt), (0, v.toInt), (9, 0), (9, 0), (9, 0), (9, 0)], []) = some (z_m σ2, some (0, v2.toInt)) := z_R_iff.mpr hE2
  have hT := T_two (y1 := 125) (y2 := 243) (by decide +kernel) (by decide +kernel) hC1 hC2 hp1 hp2 hR.1
  obtain ⟨w, h, n, heat, price, D, A, c, U, kn, KS, cs, cC, cR, cW⟩ := hR.2
  obtain ⟨b1, b2, -, -, hok, b35, -, b7⟩ := core_b hh hM1 cR
  have hN : w_N w h n heat D := ⟨b1, b2, b7⟩
  have f1 := R_off2_ok (y := 125) (by decide +kernel) hC1 hp1
  have f2 := C_off_ok (y := 243) (by decide +kernel) hC2 hp2
  have cR1 := R_fr cR f1
  have z := core_do cR1 (fun q => C_fr q f2) (C_warm cC hN b35 r.toInt v.toInt) (fun q => R_warm q hN hok b35 r.toInt v.toInt) hE1 hE2
  exact ⟨⟨hT, Core_mk z.1.1 z.1.2 cW⟩, fun _ => z.2⟩
end
section
/-! STRETCHES of share, water, with bounds done -/
theorem x_sha_0  (m : z_M) (p : Int) : z_R 116 (m, 0, [(2, 0), (0, p), (9, 0), (9, 0)], []) = if 0 ≤ p ∧ p < m 3 11 then if 0 ≤ p ∧ p < 5 then if ¬ u_hs (m 3 8) (m 3 9) (m 15 (p).toNat) = 0 then (z_R 117 (m, 0, [(2, 24), (2, 12), (0, m 15 (p).toNat)], [])).bind fun qq => z_R 116 (qq.1, 49, [(2, 0), (0, p), (0, m 15 (p).toNat), (9, 0)], qq.2.toList ++ []) else some (m, some (0, (-2))) else none else some (m, some (0, (-1))) :=
  have hK : kt_at 116 = kt_116 := rfl
  (z_R_run hK (n := 2) (g' := (m, 4, [(2, 0), (0, p), (9, 0), (9, 0)], [(2, 3)])) rfl).trans ((z_R_run hK (n := 1) (g' := (m, 5, [(2, 0), (0, p), (9, 0), (9, 0)], [(0, p), (2, 3)])) rfl).trans (z_R_cif hK rfl rfl rfl rfl rfl (c_ifknows _ _ rfl) (fun h1 => (z_R_run hK (n := 3) (g' := (m, 17, [(2, 0), (0, p), (9, 0), (9, 0)], [(2, 12)])) rfl).trans ((z_R_run hK (n := 1) (g' := (m, 20, [(2, 0), (0, p), (9, 0), (9, 0)], [(2, 15)])) rfl).trans ((z_R_run hK (n := 1) (g' := (m, 21, [(2, 0), (0, p), (9, 0), (9, 0)], [(0, p), (2, 15)])) rfl).trans (z_R_ixD hK (n := 5) (g' := (m, 22, [(2, 0), (0, p), (9, 0), (9, 0)], [(0, m 15 (p).toNat)])) rfl rfl rfl  (fun h2 => (z_R_run hK (n := 3) (g' := (m, 27, [(2, 0), (0, p), (0, m 15 (p).toNat), (9, 0)], [(2, 3)])) rfl).trans ((z_R_run hK (n := 1) (g' := (m, 28, [(2, 0), (0, p), (0, m 15 (p).toNat), (9, 0)], [(0, m 15 (p).toNat), (2, 3)])) rfl).trans (z_R_cif hK rfl rfl rfl rfl rfl (c_ifhas _ _ rfl rfl) (fun h3 => have h4 := u_hs_rng h3; (z_R_run hK (n := 3) (g' := (m, 41, [(2, 0), (0, p), (0, m 15 (p).toNat), (9, 0)], [(2, 24)])) rfl).trans ((z_R_run hK (n := 2) (g' := (m, 45, [(2, 0), (0, p), (0, m 15 (p).toNat), (9, 0)], [(2, 12), (2, 24)])) rfl).trans ((z_R_run hK (n := 1) (g' := (m, 46, [(2, 0), (0, p), (0, m 15 (p).toNat), (9, 0)], [(0, m 15 (p).toNat), (2, 12), (2, 24)])) rfl).trans (z_R_call hK rfl rfl rfl rfl rfl)))) (fun h3 => (z_R_run hK (n := 2) (g' := (m, 36, [(2, 0), (0, p), (0, m 15 (p).toNat), (9, 0)], [(0, (-2))])) rfl).trans (z_R_ret hK rfl rfl rfl))))))))) (fun h1 => (z_R_run hK (n := 2) (g' := (m, 12, [(2, 0), (0, p), (9, 0), (9, 0)], [(0, (-1))])) rfl).trans (z_R_ret hK rfl rfl rfl))))
theorem x_sha_49  (m : z_M) (x1 : Int) (x2 : Int) (u : Int) : z_R 116 (m, 49, [(2, 0), (0, x1), (0, x2), (9, 0)], [(0, u)]) = (z_R 70 (m, 0, [(2, 24), (0, x1), (0, m 12 7), (9, 0)], [])).bind fun qq => z_R 116 (qq.1, 64, [(2, 0), (0, x1), (0, x2), (9, 0)], qq.2.toList ++ [(0, u)]) :=
  have hK : kt_at 116 = kt_116 := rfl
  (z_R_run hK (n := 2) (g' := (m, 53, [(2, 0), (0, x1), (0, x2), (9, 0)], [(2, 24), (0, u)])) rfl).trans ((z_R_run hK (n := 3) (g' := (m, 58, [(2, 0), (0, x1), (0, x2), (9, 0)], [(2, 12), (0, x1), (2, 24), (0, u)])) rfl).trans ((z_R_run hK (n := 1) (g' := (m, 61, [(2, 0), (0, x1), (0, x2), (9, 0)], [(0, m 12 7), (0, x1), (2, 24), (0, u)])) rfl).trans (z_R_call hK rfl rfl rfl rfl rfl)))
theorem x_sha_64  (m : z_M) (x1 : Int) (x2 : Int) (s0 : Int) (u : Int) : z_R 116 (m, 64, [(2, 0), (0, x1), (0, x2), (9, 0)], [(0, u), (0, s0)]) = (z_R 121 (m, 0, [(2, 24), (2, 12), (0, x2)], [])).bind fun qq => z_R 116 (qq.1, 81, [(2, 0), (0, x1), (0, x2), (0, z_mul s0 u)], qq.2.toList ++ [(1, z_i2l (z_mul s0 u)), (2, 0)]) :=
  have hK : kt_at 116 = kt_116 := rfl
  (z_R_run hK (n := 7) (g' := (m, 73, [(2, 0), (0, x1), (0, x2), (0, z_mul s0 u)], [(2, 24), (1, z_i2l (z_mul s0 u)), (2, 0)])) rfl).trans ((z_R_run hK (n := 2) (g' := (m, 77, [(2, 0), (0, x1), (0, x2), (0, z_mul s0 u)], [(2, 12), (2, 24), (1, z_i2l (z_mul s0 u)), (2, 0)])) rfl).trans ((z_R_run hK (n := 1) (g' := (m, 78, [(2, 0), (0, x1), (0, x2), (0, z_mul s0 u)], [(0, x2), (2, 12), (2, 24), (1, z_i2l (z_mul s0 u)), (2, 0)])) rfl).trans (z_R_call hK rfl rfl rfl rfl rfl)))
theorem x_sha_81  (m : z_M) (x1 : Int) (x2 : Int) (x3 : Int) (s0 : Int) (u : Int) : z_R 116 (m, 81, [(2, 0), (0, x1), (0, x2), (0, x3)], [(0, u), (1, s0), (2, 0)]) = (z_R 122 (m, 0, [(2, 0), (1, s0), (9, 0), (1, z_i2l u), (9, 0), (9, 0), (9, 0), (9, 0), (9, 0), (9, 0), (9, 0), (9, 0)], [])).bind fun qq => z_R 116 (qq.1, 85, [(2, 0), (0, x1), (0, x2), (0, x3)], qq.2.toList ++ []) :=
  have hK : kt_at 116 = kt_116 := rfl
  (z_R_run hK (n := 1) (g' := (m, 82, [(2, 0), (0, x1), (0, x2), (0, x3)], [(1, z_i2l u), (1, s0), (2, 0)])) rfl).trans (z_R_call hK rfl rfl rfl rfl rfl)
theorem x_sha_85  (m : z_M) (x1 : Int) (x2 : Int) (x3 : Int) : z_R 116 (m, 85, [(2, 0), (0, x1), (0, x2), (0, x3)], []) = some (m, some (0, 0)) :=
  have hK : kt_at 116 = kt_116 := rfl
  (z_R_run hK (n := 1) (g' := (m, 86, [(2, 0), (0, x1), (0, x2), (0, x3)], [(0, 0)])) rfl).trans (z_R_ret hK rfl rfl rfl)
theorem x_tsh_0  (m : z_M) (p : Int) (h_n : 0 ≤ m 251 3 ∧ m 251 3 ≤ 5) : z_R 239 (m, 0, [(2, 251), (0, p), (9, 0), (9, 0)], []) = if 0 ≤ p ∧ p < m 251 3 then if m 252 (p + 18).toNat = (-1) then some (z_up m 251 11 0, some (0, (-2))) else (z_R 183 (z_up m 251 11 0, 0, [(2, 251), (2, 252), (0, m 252 (p + 18).toNat), (9, 0), (9, 0)], [])).bind fun qq => z_R 239 (qq.1, 48, [(2, 251), (0, p), (0, m 252 (p + 18).toNat), (9, 0)], qq.2.toList ++ [(0, m 252 (p + 18).toNat), (2, 252), (2, 251)]) else some (z_up m 251 11 0, some (0, (-1))) :=
  have hK : kt_at 239 = kt_239 := rfl
  (z_R_run hK (n := 5) (g' := (z_up m 251 11 0, 7, [(2, 251), (0, p), (9, 0), (9, 0)], [(0, p), (2, 251)])) rfl).trans (z_R_cif hK rfl rfl rfl rfl rfl (t_ifperson _ _ (zu_k (by decide)) h_n) (fun h1 => (z_R_run hK (n := 3) (g' := (z_up m 251 11 0, 19, [(2, 251), (0, p), (9, 0), (9, 0)], [(2, 252)])) rfl).trans ((z_R_run hK (n := 3) (g' := (z_up m 251 11 0, 23, [(2, 251), (0, p), (9, 0), (9, 0)], [(0, z_add 18 p), (2, 252)])) rfl).trans ((congrArg (fun vv => z_R 239 (z_up m 251 11 0, 23, [(2, 251), (0, p), (9, 0), (9, 0)], [(0, vv), (2, 252)])) ((z_add_eq (by omega) (by omega)).trans (by omega))).trans (z_R_ixT hK (n := 37) (g' := (z_up m 251 11 0, 24, [(2, 251), (0, p), (9, 0), (9, 0)], [(0, (z_up m 251 11 0) 252 (p + 18).toNat)])) rfl rfl rfl  (show 0 ≤ p + 18 ∧ p + 18 < 37 by omega) ((congrArg (fun vv => z_R 239 (z_up m 251 11 0, 24, [(2, 251), (0, p), (9, 0), (9, 0)], [(0, vv)])) (zu_p (by decide))).trans ((z_R_run hK (n := 3) (g' := (z_up m 251 11 0, 27, [(2, 251), (0, p), (0, m 252 (p + 18).toNat), (9, 0)], [(0, (-1)), (0, m 252 (p + 18).toNat)])) rfl).trans (z_R_ifnd hK (c := m 252 (p + 18).toNat = (-1)) (p1 := 33) (p2 := 30) rfl rfl rfl (fun h2 => (z_R_run hK (n := 3) (g' := (z_up m 251 11 0, 38, [(2, 251), (0, p), (0, m 252 (p + 18).toNat), (9, 0)], [(2, 252), (2, 251)])) rfl).trans ((z_R_run hK (n := 4) (g' := (z_up m 251 11 0, 44, [(2, 251), (0, p), (0, m 252 (p + 18).toNat), (9, 0)], [(2, 252), (2, 251), (0, m 252 (p + 18).toNat), (2, 252), (2, 251)])) rfl).trans ((z_R_run hK (n := 1) (g' := (z_up m 251 11 0, 45, [(2, 251), (0, p), (0, m 252 (p + 18).toNat), (9, 0)], [(0, m 252 (p + 18).toNat), (2, 252), (2, 251), (0, m 252 (p + 18).toNat), (2, 252), (2, 251)])) rfl).trans (z_R_call hK rfl rfl rfl rfl rfl)))) (fun h2 => (z_R_run hK (n := 1) (g' := (z_up m 251 11 0, 32, [(2, 251), (0, p), (0, m 252 (p + 18).toNat), (9, 0)], [(0, (-2))])) rfl).trans (z_R_ret hK rfl rfl rfl))))))))) (fun h1 => (z_R_run hK (n := 2) (g' := (z_up m 251 11 0, 14, [(2, 251), (0, p), (9, 0), (9, 0)], [(0, (-1))])) rfl).trans (z_R_ret hK rfl rfl rfl)))
theorem x_tsh_48  (m : z_M) (x1 : Int) (x2 : Int) (s0 : Int) (u : Int) : z_R 239 (m, 48, [(2, 251), (0, x1), (0, x2), (9, 0)], [(0, u), (0, s0), (2, 252), (2, 251)]) = (z_R 184 (m, 0, [(2, 251), (2, 252), (0, s0), (0, u), (9, 0), (9, 0)], [])).bind fun qq => z_R 239 (qq.1, 51, [(2, 251), (0, x1), (0, x2), (9, 0)], qq.2.toList ++ []) :=
  have hK : kt_at 239 = kt_239 := rfl
  z_R_call hK rfl rfl rfl rfl rfl
theorem x_tsh_51  (m : z_M) (x1 : Int) (x2 : Int) (u : Int) : z_R 239 (m, 51, [(2, 251), (0, x1), (0, x2), (9, 0)], [(0, u)]) = if u = 0 then (z_R 240 (z_up m 251 10 0, 0, [(2, 251), (1, 0), (9, 0), (1, 1), (9, 0), (9, 0), (9, 0)], [])).bind fun qq => z_R 239 (qq.1, 67, [(2, 251), (0, x1), (0, x2), (0, u)], qq.2.toList ++ []) else (z_R 187 (z_up m 251 10 0, 0, [(2, 251), (2, 252), (0, x2)], [])).bind fun qq => z_R 239 (qq.1, 80, [(2, 251), (0, x1), (0, x2), (0, u)], qq.2.toList ++ [(2, 251)]) :=
  have hK : kt_at 239 = kt_239 := rfl
  (z_R_run hK (n := 5) (g' := (z_up m 251 10 0, 58, [(2, 251), (0, x1), (0, x2), (0, u)], [(0, u)])) rfl).trans (z_R_ifnd hK (c := u = 0) (p1 := 70) (p2 := 61) rfl rfl rfl (fun h1 => (z_R_run hK (n := 4) (g' := (z_up m 251 10 0, 76, [(2, 251), (0, x1), (0, x2), (0, u)], [(2, 252), (2, 251), (2, 251)])) rfl).trans ((z_R_run hK (n := 1) (g' := (z_up m 251 10 0, 77, [(2, 251), (0, x1), (0, x2), (0, u)], [(0, x2), (2, 252), (2, 251), (2, 251)])) rfl).trans (z_R_call hK rfl rfl rfl rfl rfl))) (fun h1 => (z_R_run hK (n := 3) (g' := (z_up m 251 10 0, 64, [(2, 251), (0, x1), (0, x2), (0, u)], [(1, 1), (1, 0), (2, 251)])) rfl).trans (z_R_call hK rfl rfl rfl rfl rfl)))
theorem x_tsh_67  (m : z_M) (x1 : Int) (x2 : Int) (x3 : Int) : z_R 239 (m, 67, [(2, 251), (0, x1), (0, x2), (0, x3)], []) = some (m, some (0, 0)) :=
  have hK : kt_at 239 = kt_239 := rfl
  (z_R_run hK (n := 2) (g' := (m, 98, [(2, 251), (0, x1), (0, x2), (0, x3)], [(0, 0)])) rfl).trans (z_R_ret hK rfl rfl rfl)
theorem x_tsh_80  (m : z_M) (x1 : Int) (x2 : Int) (x3 : Int) (u : Int) : z_R 239 (m, 80, [(2, 251), (0, x1), (0, x2), (0, x3)], [(0, u), (2, 251)]) = (z_R 186 (m, 0, [(2, 251), (2, 252), (0, x1)], [])).bind fun qq => z_R 239 (qq.1, 90, [(2, 251), (0, x1), (0, x2), (0, x3)], qq.2.toList ++ [(1, z_i2l u), (2, 251)]) :=
  have hK : kt_at 239 = kt_239 := rfl
  (z_R_run hK (n := 4) (g' := (m, 86, [(2, 251), (0, x1), (0, x2), (0, x3)], [(2, 252), (2, 251), (1, z_i2l u), (2, 251)])) rfl).trans ((z_R_run hK (n := 1) (g' := (m, 87, [(2, 251), (0, x1), (0, x2), (0, x3)], [(0, x1), (2, 252), (2, 251), (1, z_i2l u), (2, 251)])) rfl).trans (z_R_call hK rfl rfl rfl rfl rfl))
theorem x_tsh_90  (m : z_M) (x1 : Int) (x2 : Int) (x3 : Int) (s0 : Int) (u : Int) : z_R 239 (m, 90, [(2, 251), (0, x1), (0, x2), (0, x3)], [(0, u), (1, s0), (2, 251)]) = (z_R 240 (m, 0, [(2, 251), (1, z_lmul s0 (z_i2l u)), (9, 0), (1, z_i2l x3), (9, 0), (9, 0), (9, 0)], [])).bind fun qq => z_R 239 (qq.1, 97, [(2, 251), (0, x1), (0, x2), (0, x3)], qq.2.toList ++ []) :=
  have hK : kt_at 239 = kt_239 := rfl
  (z_R_run hK (n := 4) (g' := (m, 94, [(2, 251), (0, x1), (0, x2), (0, x3)], [(1, z_i2l x3), (1, z_lmul s0 (z_i2l u)), (2, 251)])) rfl).trans (z_R_call hK rfl rfl rfl rfl rfl)
theorem x_tsh_97  (m : z_M) (x1 : Int) (x2 : Int) (x3 : Int) : z_R 239 (m, 97, [(2, 251), (0, x1), (0, x2), (0, x3)], []) = some (m, some (0, 0)) :=
  have hK : kt_at 239 = kt_239 := rfl
  (z_R_run hK (n := 1) (g' := (m, 98, [(2, 251), (0, x1), (0, x2), (0, x3)], [(0, 0)])) rfl).trans (z_R_ret hK rfl rfl rfl)
theorem x_wat_0  (m : z_M) : z_R 137 (m, 0, [(2, 0), (9, 0), (9, 0), (9, 0)], []) = z_R 137 (m, 6, [(2, 0), (0, 0), (0, 0), (0, 0)], []) :=
  have hK : kt_at 137 = kt_137 := rfl
  (z_R_run hK (n := 6) (g' := (m, 6, [(2, 0), (0, 0), (0, 0), (0, 0)], [])) rfl).trans (rfl)
theorem x_wat_6  (m : z_M) (x1 : Int) (x2 : Int) (x3 : Int) : z_R 137 (m, 6, [(2, 0), (0, x1), (0, x2), (0, x3)], []) = if 9 ≤ x3 then (z_R 76 (m, 0, [(2, 0), (1, z_i2l x1), (9, 0), (1, z_i2l x2), (9, 0), (1, z_i2l (m 12 5)), (9, 0)], [])).bind fun qq => z_R 137 (qq.1, 69, [(2, 0), (0, x1), (0, x2), (0, x3)], qq.2.toList ++ []) else if ¬ u_hs (m 3 8) (m 3 9) x3 = 0 then z_R 137 (m, 6, [(2, 0), (0, z_add x1 (m 13 (x3).toNat)), (0, z_add x2 (m 14 (x3).toNat)), (0, x3 + 1)], []) else z_R 137 (m, 6, [(2, 0), (0, x1), (0, x2), (0, z_add x3 1)], []) :=
  have hK : kt_at 137 = kt_137 := rfl
  (z_R_run hK (n := 2) (g' := (m, 9, [(2, 0), (0, x1), (0, x2), (0, x3)], [(0, 9), (0, x3)])) rfl).trans (z_R_ifd hK (c := 9 ≤ x3) (p1 := 53) (p2 := 12) rfl rfl rfl (fun h1 => (z_R_run hK (n := 7) (g' := (m, 62, [(2, 0), (0, x1), (0, x2), (0, x3)], [(2, 12), (1, z_i2l x2), (1, z_i2l x1), (2, 0)])) rfl).trans ((z_R_run hK (n := 2) (g' := (m, 66, [(2, 0), (0, x1), (0, x2), (0, x3)], [(1, z_i2l (m 12 5)), (1, z_i2l x2), (1, z_i2l x1), (2, 0)])) rfl).trans (z_R_call hK rfl rfl rfl rfl rfl))) (fun h1 => (z_R_run hK (n := 2) (g' := (m, 16, [(2, 0), (0, x1), (0, x2), (0, x3)], [(2, 3)])) rfl).trans ((z_R_run hK (n := 1) (g' := (m, 17, [(2, 0), (0, x1), (0, x2), (0, x3)], [(0, x3), (2, 3)])) rfl).trans (z_R_cif hK rfl rfl rfl rfl rfl (c_ifhas _ _ rfl rfl) (fun h2 => have h3 := u_hs_rng h2; (z_R_run hK (n := 4) (g' := (m, 28, [(2, 0), (0, x1), (0, x2), (0, x3)], [(2, 12), (0, x1)])) rfl).trans ((z_R_run hK (n := 1) (g' := (m, 31, [(2, 0), (0, x1), (0, x2), (0, x3)], [(2, 13), (0, x1)])) rfl).trans ((z_R_run hK (n := 1) (g' := (m, 32, [(2, 0), (0, x1), (0, x2), (0, x3)], [(0, x3), (2, 13), (0, x1)])) rfl).trans (z_R_ixT hK (n := 9) (g' := (m, 33, [(2, 0), (0, x1), (0, x2), (0, x3)], [(0, m 13 (x3).toNat), (0, x1)])) rfl rfl rfl  (show 0 ≤ x3 ∧ x3 < 9 by omega) ((z_R_run hK (n := 5) (g' := (m, 40, [(2, 0), (0, z_add x1 (m 13 (x3).toNat)), (0, x2), (0, x3)], [(2, 12), (0, x2)])) rfl).trans ((z_R_run hK (n := 1) (g' := (m, 43, [(2, 0), (0, z_add x1 (m 13 (x3).toNat)), (0, x2), (0, x3)], [(2, 14), (0, x2)])) rfl).trans ((z_R_run hK (n := 1) (g' := (m, 44, [(2, 0), (0, z_add x1 (m 13 (x3).toNat)), (0, x2), (0, x3)], [(0, x3), (2, 14), (0, x2)])) rfl).trans (z_R_ixT hK (n := 9) (g' := (m, 45, [(2, 0), (0, z_add x1 (m 13 (x3).toNat)), (0, x2), (0, x3)], [(0, m 14 (x3).toNat), (0, x2)])) rfl rfl rfl  (show 0 ≤ x3 ∧ x3 < 9 by omega) ((z_R_run hK (n := 3) (g' := (m, 50, [(2, 0), (0, z_add x1 (m 13 (x3).toNat)), (0, z_add x2 (m 14 (x3).toNat)), (0, z_add x3 1)], [])) rfl).trans ((congrArg (fun vv => z_R 137 (m, 50, [(2, 0), (0, z_add x1 (m 13 (x3).toNat)), (0, z_add x2 (m 14 (x3).toNat)), (0, vv)], [])) (z_add_eq (by omega) (by omega))).trans ((z_R_run hK (n := 1) (g' := (m, 6, [(2, 0), (0, z_add x1 (m 13 (x3).toNat)), (0, z_add x2 (m 14 (x3).toNat)), (0, x3 + 1)], [])) rfl).trans (rfl)))))))))))) (fun h2 => (z_R_run hK (n := 3) (g' := (m, 6, [(2, 0), (0, x1), (0, x2), (0, z_add x3 1)], [])) rfl).trans (rfl))))))
theorem x_wat_69  (m : z_M) (x1 : Int) (x2 : Int) (x3 : Int) : z_R 137 (m, 69, [(2, 0), (0, x1), (0, x2), (0, x3)], []) = some (m, some (0, z_add (z_add x1 x2) (m 12 5))) :=
  have hK : kt_at 137 = kt_137 := rfl
  (z_R_run hK (n := 5) (g' := (m, 76, [(2, 0), (0, x1), (0, x2), (0, x3)], [(2, 12), (0, z_add x1 x2)])) rfl).trans ((z_R_run hK (n := 2) (g' := (m, 80, [(2, 0), (0, x1), (0, x2), (0, x3)], [(0, z_add (z_add x1 x2) (m 12 5))])) rfl).trans (z_R_ret hK rfl rfl rfl))
theorem x_twa_0  (m : z_M) : z_R 252 (m, 0, [(2, 251), (9, 0), (9, 0), (9, 0)], []) = z_R 252 (z_up m 251 11 0, 11, [(2, 251), (0, 0), (0, 0), (0, 0)], []) :=
  have hK : kt_at 252 = kt_252 := rfl
  (z_R_run hK (n := 9) (g' := (z_up m 251 11 0, 11, [(2, 251), (0, 0), (0, 0), (0, 0)], [])) rfl).trans (rfl)
theorem x_twa_11  (m : z_M) (x1 : Int) (x2 : Int) (x3 : Int) : z_R 252 (m, 11, [(2, 251), (0, x1), (0, x2), (0, x3)], []) = if 9 ≤ x3 then (z_R 210 (z_up m 251 10 0, 0, [(2, 251), (1, z_i2l x1), (9, 0)], [])).bind fun qq => z_R 252 (qq.1, 55, [(2, 251), (0, x1), (0, x2), (0, x3)], qq.2.toList ++ []) else if 0 ≤ x3 ∧ x3 < 37 then z_R 252 (m, 11, [(2, 251), (0, z_add x1 (m 252 (x3).toNat)), (0, z_add x2 (m 252 (x3 + 9).toNat)), (0, x3 + 1)], []) else none :=
  have hK : kt_at 252 = kt_252 := rfl
  (z_R_run hK (n := 2) (g' := (m, 14, [(2, 251), (0, x1), (0, x2), (0, x3)], [(0, 9), (0, x3)])) rfl).trans (z_R_ifd hK (c := 9 ≤ x3) (p1 := 44) (p2 := 17) rfl rfl rfl (fun h1 => (z_R_run hK (n := 6) (g' := (z_up m 251 10 0, 52, [(2, 251), (0, x1), (0, x2), (0, x3)], [(1, z_i2l x1), (2, 251)])) rfl).trans (z_R_call hK rfl rfl rfl rfl rfl)) (fun h1 => (z_R_run hK (n := 3) (g' := (m, 22, [(2, 251), (0, x1), (0, x2), (0, x3)], [(2, 252), (0, x1)])) rfl).trans ((z_R_run hK (n := 1) (g' := (m, 23, [(2, 251), (0, x1), (0, x2), (0, x3)], [(0, x3), (2, 252), (0, x1)])) rfl).trans (z_R_ixD hK (n := 37) (g' := (m, 24, [(2, 251), (0, x1), (0, x2), (0, x3)], [(0, m 252 (x3).toNat), (0, x1)])) rfl rfl rfl  (fun h2 => (z_R_run hK (n := 5) (g' := (m, 31, [(2, 251), (0, z_add x1 (m 252 (x3).toNat)), (0, x2), (0, x3)], [(2, 252), (0, x2)])) rfl).trans ((z_R_run hK (n := 3) (g' := (m, 35, [(2, 251), (0, z_add x1 (m 252 (x3).toNat)), (0, x2), (0, x3)], [(0, z_add 9 x3), (2, 252), (0, x2)])) rfl).trans ((congrArg (fun vv => z_R 252 (m, 35, [(2, 251), (0, z_add x1 (m 252 (x3).toNat)), (0, x2), (0, x3)], [(0, vv), (2, 252), (0, x2)])) ((z_add_eq (by omega) (by omega)).trans (by omega))).trans (z_R_ixT hK (n := 37) (g' := (m, 36, [(2, 251), (0, z_add x1 (m 252 (x3).toNat)), (0, x2), (0, x3)], [(0, m 252 (x3 + 9).toNat), (0, x2)])) rfl rfl rfl  (show 0 ≤ x3 + 9 ∧ x3 + 9 < 37 by omega) ((z_R_run hK (n := 3) (g' := (m, 41, [(2, 251), (0, z_add x1 (m 252 (x3).toNat)), (0, z_add x2 (m 252 (x3 + 9).toNat)), (0, z_add x3 1)], [])) rfl).trans ((congrArg (fun vv => z_R 252 (m, 41, [(2, 251), (0, z_add x1 (m 252 (x3).toNat)), (0, z_add x2 (m 252 (x3 + 9).toNat)), (0, vv)], [])) (z_add_eq (by omega) (by omega))).trans ((z_R_run hK (n := 1) (g' := (m, 11, [(2, 251), (0, z_add x1 (m 252 (x3).toNat)), (0, z_add x2 (m 252 (x3 + 9).toNat)), (0, x3 + 1)], [])) rfl).trans (rfl))))))))))))
theorem x_twa_55  (m : z_M) (x1 : Int) (x2 : Int) (x3 : Int) : z_R 252 (m, 55, [(2, 251), (0, x1), (0, x2), (0, x3)], []) = (z_R 210 (m, 0, [(2, 251), (1, z_i2l x2), (9, 0)], [])).bind fun qq => z_R 252 (qq.1, 61, [(2, 251), (0, x1), (0, x2), (0, x3)], qq.2.toList ++ []) :=
  have hK : kt_at 252 = kt_252 := rfl
  (z_R_run hK (n := 3) (g' := (m, 58, [(2, 251), (0, x1), (0, x2), (0, x3)], [(1, z_i2l x2), (2, 251)])) rfl).trans (z_R_call hK rfl rfl rfl rfl rfl)
theorem x_twa_61  (m : z_M) (x1 : Int) (x2 : Int) (x3 : Int) : z_R 252 (m, 61, [(2, 251), (0, x1), (0, x2), (0, x3)], []) = (z_R 210 (m, 0, [(2, 251), (1, z_i2l (m 252 33)), (9, 0)], [])).bind fun qq => z_R 252 (qq.1, 73, [(2, 251), (0, x1), (0, x2), (0, x3)], qq.2.toList ++ []) :=
  have hK : kt_at 252 = kt_252 := rfl
  (z_R_run hK (n := 3) (g' := (m, 66, [(2, 251), (0, x1), (0, x2), (0, x3)], [(2, 252), (2, 251)])) rfl).trans ((z_R_run hK (n := 3) (g' := (m, 70, [(2, 251), (0, x1), (0, x2), (0, x3)], [(1, z_i2l (m 252 33)), (2, 251)])) rfl).trans (z_R_call hK rfl rfl rfl rfl rfl))
theorem x_twa_73  (m : z_M) (x1 : Int) (x2 : Int) (x3 : Int) : z_R 252 (m, 73, [(2, 251), (0, x1), (0, x2), (0, x3)], []) = some (m, some (0, z_add (z_add x1 x2) (m 252 33))) :=
  have hK : kt_at 252 = kt_252 := rfl
  (z_R_run hK (n := 5) (g' := (m, 80, [(2, 251), (0, x1), (0, x2), (0, x3)], [(2, 252), (0, z_add x1 x2)])) rfl).trans ((z_R_run hK (n := 3) (g' := (m, 84, [(2, 251), (0, x1), (0, x2), (0, x3)], [(0, z_add (z_add x1 x2) (m 252 33))])) rfl).trans (z_R_ret hK rfl rfl rfl))
end
section
/-! share, water, of what both are in -/
def s_onlyV1 (q : a_K) : Bool := match q.2.1 with
  | .ireturn => false
  | .lreturn => false
  | .new _ => false
  | _ => true
noncomputable def s_onlyV (y : Nat) : Bool := (kt_at y).all fun r => r.all s_onlyV1
theorem s_ex_tagV {y : Nat} (hk : s_onlyV y = true) : ∀ (f : Nat) (g : z_G) (r : z_Q), z_ex f y g = some r → r.2 = none := by
  intro f
  induction f with
  | zero => intro g r h; cases h
  | succ f ih =>
    intro g r h
    unfold z_ex at h
    split at h
    · cases h
    · rename_i q hq
      obtain ⟨⟨row, h1, h2⟩, -⟩ := k_get_in hq
      have hb := List.all_eq_true.mp (List.all_eq_true.mp hk row h1) q h2
      split at h
      · split at h
        · exact ih _ _ h
        · cases h
      · obtain ⟨m, pc, ls, st⟩ := g
        unfold z_ret at h
        unfold s_onlyV1 at hb
        simp only at h
        split at h
        · rw [← Option.some.inj h]
        · rename_i e; rw [e] at hb; cases hb
        · rename_i e; rw [e] at hb; cases hb
        · rename_i e; rw [e] at hb; cases hb
        · cases h
      · split at h
        · split at h
          · exact ih _ _ h
          · cases h
        · cases h
theorem s_tagV {y : Nat} (hk : s_onlyV y = true) {g : z_G} {r : z_Q} (h : z_R y g = some r) : r.2 = none := by
  obtain ⟨f, h⟩ := z_R_iff.mp h
  exact s_ex_tagV hk f g r h
def s_onlyI1 (q : a_K) : Bool := match q.2.1 with
  | .return_ => false
  | .lreturn => false
  | .new _ => false
  | _ => true
noncomputable def s_onlyI (y : Nat) : Bool := (kt_at y).all fun r => r.all s_onlyI1
theorem s_ex_tagI {y : Nat} (hk : s_onlyI y = true) : ∀ (f : Nat) (g : z_G) (r : z_Q), z_ex f y g = some r → ∃ u, r.2 = some (0, u) := by
  intro f
  induction f with
  | zero => intro g r h; cases h
  | succ f ih =>
    intro g r h
    unfold z_ex at h
    split at h
    · cases h
    · rename_i q hq
      obtain ⟨⟨row, h1, h2⟩, -⟩ := k_get_in hq
      have hb := List.all_eq_true.mp (List.all_eq_true.mp hk row h1) q h2
      split at h
      · split at h
        · exact ih _ _ h
        · cases h
      · obtain ⟨m, pc, ls, st⟩ := g
        unfold z_ret at h
        unfold s_onlyI1 at hb
        simp only at h
        split at h
        · rename_i e; rw [e] at hb; cases hb
        · rename_i e; rw [e] at hb; cases hb
        · split at h
          · exact ⟨_, by rw [← Option.some.inj h]⟩
          · cases h
        · rename_i e; rw [e] at hb; cases hb
        · cases h
      · split at h
        · split at h
          · exact ih _ _ h
          · cases h
        · cases h
theorem s_tagI {y : Nat} (hk : s_onlyI y = true) {g : z_G} {r : z_Q} (h : z_R y g = some r) : ∃ u, r.2 = some (0, u) := by
  obtain ⟨f, h⟩ := z_R_iff.mp h
  exact s_ex_tagI hk f g r h
theorem s_val {m m' : z_M} {x v : Int} (h : some (m, some (0, x)) = (some (m', some (0, v)) : Option z_Q)) : v = x := (congrArg (fun z : z_Q => (z.2.getD (0, 0)).2) (Option.some.inj h)).symm
/-- behind a call that gives an int; that gives nothing -/
theorem s_bI {y y2 pc : Nat} (hk : s_onlyI y2 = true) {G : z_G} {ls : z_L} {rest : List z_V} {r : z_Q} (h : (z_R y2 G).bind (fun qq => z_R y (qq.1, pc, ls, qq.2.toList ++ rest)) = some r) : ∃ m u, z_R y (m, pc, ls, (0, u) :: rest) = some r := by
  obtain ⟨⟨m1, x1⟩, h1, h2⟩ := Option.bind_eq_some_iff.mp h
  obtain ⟨u, e⟩ := s_tagI hk h1
  simp only at e
  subst e
  exact ⟨m1, u, h2⟩
theorem s_bV {y y2 pc : Nat} (hk : s_onlyV y2 = true) {G : z_G} {ls : z_L} {rest : List z_V} {r : z_Q} (h : (z_R y2 G).bind (fun qq => z_R y (qq.1, pc, ls, qq.2.toList ++ rest)) = some r) : ∃ m, z_R y (m, pc, ls, rest) = some r := by
  obtain ⟨⟨m1, x1⟩, h1, h2⟩ := Option.bind_eq_some_iff.mp h
  have e := s_tagV hk h1
  simp only at e
  subst e
  exact ⟨m1, h2⟩
/-- share's answer -/
def x_A (n : Nat) (A : Nat → Int) (p : Int) : Int := if 0 ≤ p ∧ p < (n : Int) then (if A (p.toNat + 18) = -1 then -2 else 0) else -1
def x_s (A : Nat → Int) : Nat → Nat → Int → Int
  | 0, _, s => s
  | f + 1, x, s => x_s A f (x + 1) (z_add s (A x))
def x_w (A : Nat → Int) : Int := z_add (z_add (x_s A 9 0 0) (x_s (fun k => A (k + 9)) 9 0 0)) (A 33)
section
variable {w h n : Nat} {heat price : Int} {D A : Nat → Int} {c : Nat} {U : Nat → Nat → Int} {kn : Nat → Int} {KS : Nat → Nat → Int} {cs : List Int} {m : z_M}
theorem C_share (hi : C_is w h n heat price D A c U kn KS cs m) (h5 : n ≤ 5) (hw : wi w h n A) {p v : Int} {m' : z_M} (hE : z_R 116 (m, 0, [(2, 0), (0, p), (9, 0), (9, 0)], []) = some (m', some (0, v))) : v = x_A n A p := by
  rw [x_sha_0, hi.1.1, hi.1.2.1, hi.1.2.2.1] at hE
  unfold x_A
  by_cases c1 : 0 ≤ p ∧ p < (n : Int)
  · obtain ⟨q, rfl⟩ : ∃ q : Nat, p = (q : Int) := ⟨p.toNat, by omega⟩
    have e15 : m 15 q = A (q + 18) := C_A3 hi (by omega) h5
    rw [if_pos c1, if_pos (show 0 ≤ (q : Int) ∧ (q : Int) < 5 by omega), Int.toNat_natCast, e15] at hE
    rw [if_pos c1, Int.toNat_natCast]
    by_cases c2 : u_hs (w : Int) (h : Int) (A (q + 18)) = 0
    · rw [if_neg (not_not_intro c2)] at hE
      have z := (hw.1 q (by omega)).resolve_right (not_not_intro c2)
      rw [if_pos z]
      exact s_val hE
    · have z : ¬ A (q + 18) = -1 := fun z => by
        have := u_hs_rng c2
        omega
      rw [if_pos c2] at hE
      rw [if_neg z]
      obtain ⟨m1, u1, h1⟩ := s_bI (by decide +kernel) hE
      rw [x_sha_49] at h1
      obtain ⟨m2, u2, h2⟩ := s_bI (by decide +kernel) h1
      rw [x_sha_64] at h2
      obtain ⟨m3, u3, h3⟩ := s_bI (by decide +kernel) h2
      rw [x_sha_81] at h3
      obtain ⟨m4, h4⟩ := s_bV (by decide +kernel) h3
      rw [x_sha_85] at h4
      exact s_val h4
  · rw [if_neg c1] at hE ⊢
    exact s_val hE
theorem R_share (hi : R_is w h n heat price D A c U kn KS cs m) (h5 : n ≤ 5) {p v : Int} {m' : z_M} (hE : z_R 239 (m, 0, [(2, 251), (0, p), (9, 0), (9, 0)], []) = some (m', some (0, v))) : v = x_A n A p := by
  rw [x_tsh_0 m p (by rw [hi.1.2.2.1]; omega), hi.1.2.2.1] at hE
  unfold x_A
  by_cases c1 : 0 ≤ p ∧ p < (n : Int)
  · obtain ⟨q, rfl⟩ : ∃ q : Nat, p = (q : Int) := ⟨p.toNat, by omega⟩
    have e18 : m 252 (q + 18) = A (q + 18) := R_A hi (by omega) (a_vis_p (b := 18) (p := q) (by omega) (by omega) (by omega) (by omega))
    rw [if_pos c1, show ((q : Int) + 18).toNat = q + 18 by omega, e18] at hE
    rw [if_pos c1, Int.toNat_natCast]
    by_cases z : A (q + 18) = -1
    · rw [if_pos z] at hE ⊢
      exact s_val hE
    · rw [if_neg z] at hE ⊢
      obtain ⟨m1, u1, h1⟩ := s_bI (by decide +kernel) hE
      rw [x_tsh_48] at h1
      obtain ⟨m2, u2, h2⟩ := s_bI (by decide +kernel) h1
      rw [x_tsh_51] at h2
      by_cases c2 : u2 = 0
      · rw [if_pos c2] at h2
        obtain ⟨m3, h3⟩ := s_bV (by decide +kernel) h2
        rw [x_tsh_67] at h3
        exact s_val h3
      · rw [if_neg c2] at h2
        obtain ⟨m3, u3, h3⟩ := s_bI (by decide +kernel) h2
        rw [x_tsh_80] at h3
        obtain ⟨m4, u4, h4⟩ := s_bI (by decide +kernel) h3
        rw [x_tsh_90] at h4
        obtain ⟨m5, h6⟩ := s_bV (by decide +kernel) h4
        rw [x_tsh_97] at h6
        exact s_val h6
  · rw [if_neg c1] at hE ⊢
    exact s_val hE
theorem C_wat (hi : C_is w h n heat price D A c U kn KS cs m) (hw : wi w h n A) : ∀ (f x : Nat) (s t : Int), x + f = 9 → z_w s = s → z_w t = t → ∃ m', z_R 137 (m, 6, [(2, 0), (0, s), (0, t), (0, (x : Int))], []) = some (m', some (0, z_add (z_add (x_s A f x s) (x_s (fun k => A (k + 9)) f x t)) (A 33))) ∧ C_is w h n heat price D A c U kn KS cs m' := by
  have e33 : m 12 5 = A 33 := by
    rw [← hi.2.2.1]
    exact (cS_at0 (s := 12) (j := 5) (by decide)).symm
  intro f
  induction f with
  | zero =>
    intro x s t hx hs ht
    rw [x_wat_6, if_pos (by omega), c_tell3, zb_n, x_wat_69, c_told3 (by decide) (by decide), e33]
    exact ⟨_, rfl, C_tell3 hi _ _ _⟩
  | succ f ih =>
    intro x s t hx hs ht
    rw [x_wat_6, if_neg (by omega), hi.1.1, hi.1.2.1]
    show ∃ m', _ = some (m', some (0, z_add (z_add (x_s A f (x + 1) (z_add s (A x))) (x_s (fun k => A (k + 9)) f (x + 1) (z_add t (A (x + 9))))) (A 33))) ∧ _
    by_cases z : u_hs (w : Int) (h : Int) (x : Int) = 0
    · obtain ⟨z1, z2⟩ := hw.2.1 x (by omega) z
      rw [if_neg (not_not_intro z), z1, z2, z_add0 hs, z_add0 ht, z_add_eq (x := (x : Int)) (y := 1) (by omega) (by omega), tc1]
      exact ih (x + 1) s t (by omega) hs ht
    · have e13 : m 13 x = A x := by
        rw [← hi.2.2.1]
        exact (cS_at1 (s := 12) (by omega)).symm
      have e14 : m 14 x = A (x + 9) := by
        rw [← hi.2.2.1]
        exact (cS_at2 (s := 12) (by omega)).symm
      rw [if_pos z, Int.toNat_natCast, e13, e14, tc1]
      exact ih (x + 1) _ _ (by omega) (by rw [z_add_w]; exact z_w_w) (by rw [z_add_w]; exact z_w_w)
theorem C_water (hi : C_is w h n heat price D A c U kn KS cs m) (hw : wi w h n A) : ∃ m', z_R 137 (m, 0, [(2, 0), (9, 0), (9, 0), (9, 0)], []) = some (m', some (0, x_w A)) ∧ C_is w h n heat price D A c U kn KS cs m' := by
  rw [x_wat_0]
  exact C_wat hi hw 9 0 0 0 (by decide) (by decide +kernel) (by decide +kernel)
theorem R_wat (hi : R_is w h n heat price D A c U kn KS cs m) : ∀ (f x : Nat) (s t : Int), x + f = 9 → ∃ m', z_R 252 (m, 11, [(2, 251), (0, s), (0, t), (0, (x : Int))], []) = some (m', some (0, z_add (z_add (x_s A f x s) (x_s (fun k => A (k + 9)) f x t)) (A 33))) ∧ R_is w h n heat price D A c U kn KS cs m' := by
  have e33 : m 252 33 = A 33 := R_A hi (by decide) (a_vis_hi (by decide))
  intro f
  induction f with
  | zero =>
    intro x s t hx
    rw [x_twa_11, if_pos (by omega), t_tell0, zb_n, x_twa_55, t_tell1, zb_n, x_twa_61, t_tell2, zb_n, x_twa_73, t_told3 (by omega) (by omega), e33]
    exact ⟨_, rfl, R_upn (R_upn (R_upn (R_upn (R_upn (R_upn (R_upn hi (by decide)) (by decide)) (by decide)) (by decide)) (by decide)) (by decide)) (by decide)⟩
  | succ f ih =>
    intro x s t hx
    have e0 : m 252 x = A x := R_A hi (by omega) (a_vis_lo (by omega))
    have e9 : m 252 (x + 9) = A (x + 9) := R_A hi (by omega) (a_vis_lo (by omega))
    rw [x_twa_11, if_neg (by omega), if_pos (show 0 ≤ (x : Int) ∧ (x : Int) < 37 by omega), Int.toNat_natCast, show ((x : Int) + 9).toNat = x + 9 by omega, e0, e9, tc1]
    exact ih (x + 1) _ _ (by omega)
theorem R_water (hi : R_is w h n heat price D A c U kn KS cs m) : ∃ m', z_R 252 (m, 0, [(2, 251), (9, 0), (9, 0), (9, 0)], []) = some (m', some (0, x_w A)) ∧ R_is w h n heat price D A c U kn KS cs m' := by
  have hu := R_upn (p0 := 251) (k0 := 11) (v := 0) hi (by decide)
  rw [x_twa_0]
  exact R_wat hu 9 0 0 0 (by decide)
end
theorem core_share : l_rel2 Rel_C (874, 132, 116, 1, false, 885, 135, 239) := by
  intro M1 M2 M3 σ σ1 σ2 as v1 v2 C1 C2 ρ1 ρ2 ha hR hh hM1 hC1 hp1 hE1 hC2 hp2 hE2
  obtain ⟨p, rfl⟩ := as_one ha
  have hE1 : z_R 116 (z_m σ, 0, [(2, 0), (0, p.toInt), (9, 0), (9, 0)], []) = some (z_m σ1, some (0, v1.toInt)) := z_R_iff.mpr hE1
  have hE2 : z_R 239 (z_m σ1, 0, [(2, 251), (0, p.toInt), (9, 0), (9, 0)], []) = some (z_m σ2, some (0, v2.toInt)) := z_R_iff.mpr hE2
  have hT := T_two (y1 := 116) (y2 := 239) (by decide +kernel) (by decide +kernel) hC1 hC2 hp1 hp2 hR.1
  have hK := core_off_ok (y := 239) (by decide +kernel) hC2 hp2 (core_off_ok (y := 116) (by decide +kernel) hC1 hp1 hR.2)
  obtain ⟨w, h, n, heat, price, D, A, c, U, kn, KS, cs, cC, cR, cW⟩ := hR.2
  obtain ⟨⟨-, -, n5⟩, -⟩ := core_b hh hM1 cR
  have f1 := R_off2_ok (y := 116) (by decide +kernel) hC1 hp1
  have x1 := C_share cC n5 cW.2.1 hE1
  have x2 := R_share (R_fr cR f1) n5 hE2
  exact ⟨⟨hT, hK⟩, fun _ => Int32.toInt_inj.mp (x1.trans x2.symm)⟩
theorem core_water : l_rel2 Rel_C (1067, 160, 137, 0, true, 1071, 163, 252) := by
  intro M1 M2 M3 σ σ1 σ2 as v1 v2 C1 C2 ρ1 ρ2 ha hR hh hM1 hC1 hp1 hE1 hC2 hp2 hE2
  obtain rfl := as_nil ha
  have hE1 : z_R 137 (z_m σ, 0, [(2, 0), (9, 0), (9, 0), (9, 0)], []) = some (z_m σ1, some (0, v1.toInt)) := z_R_iff.mpr hE1
  have hE2 : z_R 252 (z_m σ1, 0, [(2, 251), (9, 0), (9, 0), (9, 0)], []) = some (z_m σ2, some (0, v2.toInt)) := z_R_iff.mpr hE2
  have hT := T_two (y1 := 137) (y2 := 252) (by decide +kernel) (by decide +kernel) hC1 hC2 hp1 hp2 hR.1
  obtain ⟨w, h, n, heat, price, D, A, c, U, kn, KS, cs, cC, cR, cW⟩ := hR.2
  have f1 := R_off2_ok (y := 137) (by decide +kernel) hC1 hp1
  have f2 := C_off_ok (y := 252) (by decide +kernel) hC2 hp2
  have cR1 := R_fr cR f1
  have z := core_do cR1 (fun q => C_fr q f2) (C_water cC cW.2.1) (fun q => R_water q) hE1 hE2
  exact ⟨⟨hT, Core_mk z.1.1 z.1.2 cW⟩, fun _ => z.2⟩
end
section
/-! WHAT IS KEPT: both texts alike, and both are in one and the same -/
def Rel_0 (σ : m_H) : Prop := Rel_C σ
theorem rel_start : ∀ σ, xs_is σ → Rel_0 σ := core_start
theorem rel_off {c : l_C} (h : ((core_offb c.2.2.1 && core_offb c.2.2.2.2.2.2.2) && (rel_offb c.2.2.1 && (rel_offb c.2.2.2.2.2.2.2 && !c.2.2.2.2.1))) = true) : l_rel2 Rel_0 c := by
  obtain ⟨h1, h2⟩ := Bool.and_eq_true _ _ |>.mp h
  exact core_q (R_off h2) h1
theorem rel_sign : l_rel2 Rel_0 (219, 26, 14, 1, false, 230, 30, 160) := core_q R_sign (by decide +kernel)
theorem rel_end : l_rel2 Rel_0 (244, 31, 16, 1, false, 255, 35, 161) := core_q R_end (by decide +kernel)
theorem rel_quiet : l_rel2 Rel_0 (836, 124, 110, 1, false, 847, 127, 233) := core_quiet rfl
theorem rel_cases : ∀ c ∈ law_cs, l_rel2 Rel_0 c := by
  unfold law_cs
  refine List.forall_mem_cons.mpr ⟨rel_sign, ?_⟩
  refine List.forall_mem_cons.mpr ⟨rel_end, ?_⟩
  refine List.forall_mem_cons.mpr ⟨core_house, ?_⟩
  refine List.forall_mem_cons.mpr ⟨core_people, ?_⟩
  refine List.forall_mem_cons.mpr ⟨core_rule, ?_⟩
  refine List.forall_mem_cons.mpr ⟨core_set, ?_⟩
  refine List.forall_mem_cons.mpr ⟨core_doing, ?_⟩
  refine List.forall_mem_cons.mpr ⟨core_sheet, ?_⟩
  refine List.forall_mem_cons.mpr ⟨core_move, ?_⟩
  refine List.forall_mem_cons.mpr ⟨core_stove, ?_⟩
  refine List.forall_mem_cons.mpr ⟨core_hour, ?_⟩
  refine List.forall_mem_cons.mpr ⟨core_hours, ?_⟩
  refine List.forall_mem_cons.mpr ⟨core_pay, ?_⟩
  refine List.forall_mem_cons.mpr ⟨core_winter, ?_⟩
  refine List.forall_mem_cons.mpr ⟨core_undo, ?_⟩
  refine List.forall_mem_cons.mpr ⟨rel_off (by decide +kernel), ?_⟩
  refine List.forall_mem_cons.mpr ⟨rel_off (by decide +kernel), ?_⟩
  refine List.forall_mem_cons.mpr ⟨rel_off (by decide +kernel), ?_⟩
  refine List.forall_mem_cons.mpr ⟨rel_off (by decide +kernel), ?_⟩
  refine List.forall_mem_cons.mpr ⟨rel_off (by decide +kernel), ?_⟩
  refine List.forall_mem_cons.mpr ⟨rel_off (by decide +kernel), ?_⟩
  refine List.forall_mem_cons.mpr ⟨rel_quiet, ?_⟩
  refine List.forall_mem_cons.mpr ⟨rel_off (by decide +kernel), ?_⟩
  refine List.forall_mem_cons.mpr ⟨rel_off (by decide +kernel), ?_⟩
  refine List.forall_mem_cons.mpr ⟨rel_off (by decide +kernel), ?_⟩
  refine List.forall_mem_cons.mpr ⟨rel_off (by decide +kernel), ?_⟩
  refine List.forall_mem_cons.mpr ⟨rel_off (by decide +kernel), ?_⟩
  refine List.forall_mem_cons.mpr ⟨rel_off (by decide +kernel), ?_⟩
  refine List.forall_mem_cons.mpr ⟨rel_off (by decide +kernel), ?_⟩
  refine List.forall_mem_cons.mpr ⟨rel_off (by decide +kernel), ?_⟩
  refine List.forall_mem_cons.mpr ⟨core_water, ?_⟩
  refine List.forall_mem_cons.mpr ⟨rel_off (by decide +kernel), ?_⟩
  refine List.forall_mem_cons.mpr ⟨rel_off (by decide +kernel), ?_⟩
  refine List.forall_mem_cons.mpr ⟨core_season, ?_⟩
  refine List.forall_mem_cons.mpr ⟨core_keep, ?_⟩
  refine List.forall_mem_cons.mpr ⟨core_again, ?_⟩
  refine List.forall_mem_cons.mpr ⟨rel_off (by decide +kernel), ?_⟩
  exact fun _ h => absurd h List.not_mem_nil
theorem rel_5 : l_rel3 Rel_0 181 2 := core_q3 (R3_off (by decide +kernel)) (by decide +kernel)
theorem rel_6 : l_rel3 Rel_0 190 2 := core_q3 (R3_off (by decide +kernel)) (by decide +kernel)
theorem rel_39 : l_rel3 Rel_0 261 1 := core_q3 (R3_off (by decide +kernel)) (by decide +kernel)
end
