section
/-! warm, of what both are in -/
theorem z_a63 (a : Int) : 0 ≤ z_and a 63 ∧ z_and a 63 ≤ 63 := by
  have : z_and a 63 = (Int32.ofInt a).toInt % 64 := i32_and63 _
  omega
theorem hr_pc_b (b : Int) : 0 ≤ hr_pc b ∧ hr_pc b ≤ 63 := z_a63 _
theorem i32_and1 (y : Int32) : (y &&& Int32.ofInt 1).toInt = y.toInt % 2 := by
  have h1 : (y &&& Int32.ofInt 1).toBitVec.toNat = y.toBitVec.toNat % 2 := by
    show (y.toBitVec &&& 1#32).toNat = _
    rw [BitVec.toNat_and]
    exact Nat.and_two_pow_sub_one_eq_mod _ 1
  have h2 := i32_ofNat (x := y &&& Int32.ofInt 1) (by rw [h1]; omega)
  have h3 : y.toInt = y.toBitVec.toInt := rfl
  rw [h2, h1, h3, BitVec.toInt_eq_toNat_cond]
  have := y.toBitVec.isLt
  split <;> omega
theorem z_a1 (a : Int) : z_and a 1 = 0 ∨ z_and a 1 = 1 := by
  have : z_and a 1 = (Int32.ofInt a).toInt % 2 := i32_and1 _
  omega
theorem z_add0 {s : Int} (h : z_w s = s) : z_add s 0 = s := by
  rw [z_add_w, Int.add_zero]
  exact h
theorem hr_s_rg {wm : Nat → Int} {b : Int} (hwm : ∀ p, p < 5 → 0 ≤ wm p ∧ wm p ≤ 9) : ∀ (f x : Nat) (s : Int), x + f ≤ 5 → 0 ≤ s → s ≤ 9 + 9 * (x : Int) → 0 ≤ hr_s wm b f x s ∧ hr_s wm b f x s ≤ 54 := by
  intro f
  induction f with
  | zero => intro x s hx h0 h1; exact ⟨h0, show s ≤ 54 by omega⟩
  | succ f ih =>
    intro x s hx h0 h1
    have hw := hwm x (by omega)
    unfold hr_s
    by_cases c : z_and (z_shr b (x : Int)) 1 = 1
    · rw [if_pos c, z_add_eq (by omega) (by omega)]
      exact ih (x + 1) _ (by omega) (by omega) (by omega)
    · rw [if_neg c, z_add_eq (by omega) (by omega)]
      exact ih (x + 1) _ (by omega) (by omega) (by omega)
/-- in how many sets it melts v -/
def o_cnt (M : Int → Int) (v : Int) : Nat → Nat → Int → Int
  | 0, _, k => k
  | f + 1, x, k => o_cnt M v f (x + 1) (if M (x : Int) = v then k + 1 else k)
def o_mel (n : Nat) (heat : Int) (cs : List Int) (D A : Nat → Int) (r : Nat) (b : Int) : Int := hr_mB heat (c_ml cs) (wmD D (A 35)) n A r b
def o_warm (w h n : Nat) (heat : Int) (cs : List Int) (D A : Nat → Int) (r v : Int) : Int := if (¬ u_hs (w : Int) (h : Int) r = 0) ∧ 0 ≤ v ∧ v ≤ 99 then o_cnt (o_mel n heat cs D A r.toNat) v (2 ^ n) 0 0 else -1
section
variable {w h n : Nat} {heat price : Int} {D A : Nat → Int} {c : Nat} {U : Nat → Nat → Int} {kn : Nat → Int} {KS : Nat → Nat → Int} {cs : List Int} {m : z_M}
theorem z_p2 (h5 : n ≤ 5) : z_shl 1 (n : Int) = ((2 ^ n : Nat) : Int) := by
  have : ∀ n, n < 6 → z_shl 1 ((n : Nat) : Int) = ((2 ^ n : Nat) : Int) := by decide +kernel
  exact this n (by omega)
theorem z_p32 (h5 : n ≤ 5) : 2 ^ n ≤ 32 := by
  have : ∀ n, n < 6 → 2 ^ n ≤ 32 := by decide +kernel
  exact this n (by omega)
theorem C_wof (hi : C_is w h n heat price D A c U kn KS cs m) (h5 : n ≤ 5) (ht : 0 ≤ A 35 ∧ A 35 ≤ 1073741824) {r b : Int} : ∀ (f x : Nat) (s : Int), x + f = n → z_w s = s → z_R 119 (m, 24, [(2, 24), (2, 12), (0, r), (0, b), (0, s), (0, (x : Int))], []) = some (m, some (0, hr_s (wmD D (A 35)) b f x s)) := by
  have e11 := hi.1.2.2.1
  have e7 : m 12 7 = A 35 := by
    rw [← hi.2.2.1]
    exact (cS_at0 (s := 12) (j := 7) (by decide)).symm
  intro f
  induction f with
  | zero =>
    intro x s hx hs
    rw [u_wof_24 m r b s x (by omega), e11, if_pos (by omega)]
    rfl
  | succ f ih =>
    intro x s hx hs
    rw [u_wof_24 m r b s x (by omega), e11, if_neg (by omega), z_add_eq (x := (x : Int)) (y := 1) (by omega) (by omega), tc1]
    unfold hr_s
    rcases z_a1 (z_shr b (x : Int)) with z | z
    · rw [if_pos z, if_neg (by omega), z_add0 hs]
      exact ih (x + 1) s (by omega) hs
    · have ec : cw m x (A 35) = wmD D (A 35) x := cw_D hi.1.2.2.2.2.2.2.1 hi.1.2.2.2.2.2.2.2 hi.2.1 ht.1 (by omega)
      rw [if_neg (by omega), if_pos z, e7, c_wo m (by omega) ht.1 (by omega), zb_v, u_wof_57, z_add_eq (x := (x : Int)) (y := 1) (by omega) (by omega), tc1, ec]
      exact ih (x + 1) _ (by omega) (by rw [z_add_w]; exact z_w_w)
theorem C_mbs (hi : C_is w h n heat price D A c U kn KS cs m) (hN : w_N w h n heat D) (ht : 0 ≤ A 35 ∧ A 35 ≤ 1073741824) {r : Nat} (hr : r < 9) (b : Int) : ∃ m1, z_R 118 (m, 0, [(2, 24), (2, 12), (0, (r : Int)), (0, b)], []) = some (m1, some (0, o_mel n heat cs D A r b)) ∧ C_is w h n heat price D A c U kn KS cs m1 := by
  have h5 := hN.1.2.2
  have e6 : m 12 6 = A 34 := by
    rw [← hi.2.2.1]
    exact (cS_at0 (s := 12) (j := 6) (by decide)).symm
  have e7 : m 12 7 = A 35 := by
    rw [← hi.2.2.1]
    exact (cS_at0 (s := 12) (j := 7) (by decide)).symm
  have e8 : m 12 8 = A 36 := by
    rw [← hi.2.2.1]
    exact (cS_at0 (s := 12) (j := 8) (by decide)).symm
  have e13 : m 13 r = A r := by
    rw [← hi.2.2.1]
    exact (cS_at1 (s := 12) hr).symm
  have e14 : m 14 r = A (r + 9) := by
    rw [← hi.2.2.1]
    exact (cS_at2 (s := 12) hr).symm
  have ew : z_R 119 (m, 0, [(2, 24), (2, 12), (0, (r : Int)), (0, b), (9, 0), (9, 0)], []) = some (m, some (0, hr_wb heat (wmD D (A 35)) n A r b)) := by
    rw [u_wof_0, e6, hi.1.2.2.2.1]
    unfold hr_wb
    have hb := hN.2.1
    by_cases z : A 34 = (r : Int)
    · rw [if_pos z, if_pos z]
      exact C_wof hi h5 ht n 0 heat (by omega) (z_w_of (by omega) (by omega))
    · rw [if_neg z, if_neg z]
      exact C_wof hi h5 ht n 0 0 (by omega) (by decide +kernel)
  obtain ⟨m1, a1, a2⟩ := (C_cfg hi).2.2.2.2.2.2.1 m rfl rfl (hr_wb heat (wmD D (A 35)) n A r b) (A r) (A (r + 9)) (A 36) ((r : Int) / 3) (hr_pc b) (A 35)
  have hC1 : C_is w h n heat price D A c U kn KS cs m1 := C_fr hi fun p k hk => by
    have hk' := hk
    unfold C_hit at hk'
    have hk' := of_decide_eq_true hk'
    exact a2.of (by (repeat' (first | exact trivial | refine z_of_c ?_ ?_)) <;> omega)
  rw [u_mbs_0, ew, zb_v, u_mbs_10, t_bc_0, zb_v, u_mbs_14, u_mby_0 m r _ _ (by omega), Int.toNat_natCast, e13, e14, e8, e7, a1, zb_v, u_mby_48, zb_v, u_mbs_17]
  exact ⟨m1, rfl, hC1⟩
theorem C_wrm1 (hN : w_N w h n heat D) (ht : 0 ≤ A 35 ∧ A 35 ≤ 1073741824) {r : Nat} (hr : r < 9) {v : Int} : ∀ (f x : Nat) (y3 y4 k : Int) (m : z_M), x + f = 2 ^ n → 0 ≤ k → k ≤ (x : Int) → C_is w h n heat price D A c U kn KS cs m → ∃ m1, z_R 125 (m, 34, [(2, 0), (0, (r : Int)), (0, v), (0, y3), (0, y4), (0, k), (0, (x : Int))], []) = some (m1, some (0, o_cnt (o_mel n heat cs D A r) v f x k)) ∧ C_is w h n heat price D A c U kn KS cs m1 := by
  have h5 := hN.1.2.2
  have h32 := z_p32 h5
  intro f
  induction f with
  | zero =>
    intro x y3 y4 k m hx h0 h1 hi
    rw [u_wrm_34, hi.1.2.2.1, z_p2 h5, if_pos (by omega), c_tell2, zb_n, u_wrm_113]
    exact ⟨_, rfl, C_tell2 hi _ _⟩
  | succ f ih =>
    intro x y3 y4 k m hx h0 h1 hi
    obtain ⟨m1, a1, a2⟩ := C_mbs hi hN ht hr (x : Int)
    rw [u_wrm_34, hi.1.2.2.1, z_p2 h5, if_neg (by omega), a1, zb_v, u_wrm_62, z_add_eq (x := (x : Int)) (y := 1) (by omega) (by omega), tc1, z_add_eq (x := k) (y := 1) (by omega) (by omega)]
    unfold o_cnt
    by_cases z : o_mel n heat cs D A r (x : Int) = v
    · rw [if_pos z, if_pos z]
      by_cases z0 : k = 0
      · rw [if_pos z0]
        exact ih (x + 1) _ _ _ m1 (by omega) (by omega) (by omega) a2
      · rw [if_neg z0, if_neg z0]
        exact ih (x + 1) _ _ _ m1 (by omega) (by omega) (by omega) a2
    · rw [if_neg z, if_neg z]
      exact ih (x + 1) _ _ _ m1 (by omega) h0 (by omega) a2
theorem C_warm (hi : C_is w h n heat price D A c U kn KS cs m) (hN : w_N w h n heat D) (ht : 0 ≤ A 35 ∧ A 35 ≤ 1073741824) (r v : Int) : ∃ m1, z_R 125 (m, 0, [(2, 0), (0, r), (0, v), (9, 0), (9, 0), (9, 0), (9, 0)], []) = some (m1, some (0, o_warm w h n heat cs D A r v)) ∧ C_is w h n heat price D A c U kn KS cs m1 := by
  rw [u_wrm_0, hi.1.1, hi.1.2.1]
  by_cases c1 : u_hs (w : Int) (h : Int) r = 0
  · have e : o_warm w h n heat cs D A r v = -1 := if_neg (fun z => z.1 c1)
    rw [if_neg (not_not_intro c1), e]
    exact ⟨m, rfl, hi⟩
  rw [if_pos c1]
  by_cases c2 : v < 0
  · have e : o_warm w h n heat cs D A r v = -1 := if_neg (fun z => by have := z.2; omega)
    rw [if_pos c2, e]
    exact ⟨m, rfl, hi⟩
  rw [if_neg c2]
  by_cases c3 : v ≤ 99
  · have hr := u_hs_rng c1
    have e : o_warm w h n heat cs D A r v = o_cnt (o_mel n heat cs D A r.toNat) v (2 ^ n) 0 0 := if_pos ⟨c1, by omega, c3⟩
    obtain ⟨q, rfl⟩ : ∃ q : Nat, r = (q : Int) := ⟨r.toNat, by omega⟩
    rw [Int.toNat_natCast] at e
    rw [if_pos c3, e]
    exact C_wrm1 hN ht (by omega) (2 ^ n) 0 (-1) 0 0 m (by omega) (by decide) (by decide) hi
  · have e : o_warm w h n heat cs D A r v = -1 := if_neg (fun z => by have := z.2; omega)
    rw [if_neg c3, e]
    exact ⟨m, rfl, hi⟩
/-! the reference -/
theorem R_mbs (hi : R_is w h n heat price D A c U kn KS cs m) (hN : w_N w h n heat D) (hok : hr_ok n A) (ht : 0 ≤ A 35 ∧ A 35 ≤ 1073741824) {r : Nat} (hr : r < 9) (b : Int) : ∃ m1, z_R 188 (m, 0, [(2, 251), (2, 252), (0, (r : Int)), (0, b)], []) = some (m1, some (0, o_mel n heat cs D A r b)) ∧ R_is w h n heat price D A c U kn KS cs m1 := by
  have h5 := hN.1.2.2
  obtain ⟨c1, c2, c3, c4, c5, c6, c7⟩ := R_cfg hi
  have ea : ∀ k, k < 18 ∨ 33 ≤ k → k < 37 → m 252 k = A k := fun k hk h37 => R_A hi h37 (by
    rcases hk with hk | hk
    · exact a_vis_lo hk
    · exact a_vis_hi hk)
  have hrg : r_rg 252 m := by
    refine ⟨fun k hk => ?_, ?_, ?_⟩
    · have p1 := hok.1 k hk
      have p2 := hok.2.1 k hk
      rw [ea k (by omega) (by omega), ea (k + 9) (by omega) (by omega)]
      omega
    · rw [ea 36 (by omega) (by omega)]
      have := hok.2.2.2
      omega
    · rw [ea 35 (by omega) (by omega)]
      omega
  have hb := hN.2.1
  have hW : r_i (hr_wb heat (wmD D (A 35)) n (rS m 252 n) r b) := by
    unfold hr_wb r_i
    by_cases z : rS m 252 n 34 = (r : Int)
    · rw [if_pos z]
      have := hr_s_rg (b := b) (hN.2.2 (A 35) ht.1) n 0 heat (by omega) (by omega) (by omega)
      omega
    · rw [if_neg z]
      have := hr_s_rg (b := b) (hN.2.2 (A 35) ht.1) n 0 0 (by omega) (by omega) (by omega)
      omega
  have hP : r_i (hr_pc b) := by
    have := hr_pc_b b
    unfold r_i
    omega
  obtain ⟨m1, a1, a2⟩ := r_mb z_A_252 (Or.inl rfl) h5 (ml := c_ml cs) (b := b) (t := A 35) (heat := heat) (wm := wmD D (A 35)) ht.1 (by omega) m c3 c4 (ea 35 (by omega) (by omega)) (fun p hp => c6 (A 35) ht.1 p hp) c7 hr hrg hW hP
  rw [hi.2.2.1] at a1
  have a1 : z_R 188 (m, 0, [(2, 251), (2, 252), (0, (r : Int)), (0, b)], []) = some (m1, some (0, o_mel n heat cs D A r b)) := a1
  refine ⟨m1, a1, R_fr hi fun p k hk => ?_⟩
  have hk' := hk
  unfold R_hit at hk'
  have hk' := of_decide_eq_true hk'
  exact a2.of (by (repeat' (first | exact trivial | refine z_of_c ?_ ?_)) <;> omega)
theorem R_wrm1 (hN : w_N w h n heat D) (hok : hr_ok n A) (ht : 0 ≤ A 35 ∧ A 35 ≤ 1073741824) {r : Nat} (hr : r < 9) {v : Int} : ∀ (f x : Nat) (k y4 y5 : Int) (m : z_M), x + f = 2 ^ n → 0 ≤ k → k ≤ (x : Int) → R_is w h n heat price D A c U kn KS cs m → ∃ m1, z_R 243 (m, 43, [(2, 251), (0, (r : Int)), (0, v), (0, k), (0, y4), (0, y5), (0, (x : Int))], []) = some (m1, some (0, o_cnt (o_mel n heat cs D A r) v f x k)) ∧ R_is w h n heat price D A c U kn KS cs m1 := by
  have h5 := hN.1.2.2
  have h32 := z_p32 h5
  intro f
  induction f with
  | zero =>
    intro x k y4 y5 m hx h0 h1 hi
    rw [u_twr_43, hi.1.2.2.1, z_p2 h5, if_pos (by omega), t_tell0, zb_n, u_twr_113]
    by_cases z : k = 0
    · rw [if_pos z, t_tell1, zb_n, u_twr_128]
      exact ⟨_, rfl, R_upn (R_upn (R_upn (R_upn (R_upn hi (by decide)) (by decide)) (by decide)) (by decide)) (by decide)⟩
    · rw [if_neg z, t_tell1, zb_n, u_twr_128]
      exact ⟨_, rfl, R_upn (R_upn (R_upn (R_upn (R_upn hi (by decide)) (by decide)) (by decide)) (by decide)) (by decide)⟩
  | succ f ih =>
    intro x k y4 y5 m hx h0 h1 hi
    obtain ⟨m1, a1, a2⟩ := R_mbs hi hN hok ht hr (x : Int)
    rw [u_twr_43, hi.1.2.2.1, z_p2 h5, if_neg (by omega), a1, zb_v, u_twr_65, z_add_eq (x := (x : Int)) (y := 1) (by omega) (by omega), tc1, z_add_eq (x := k) (y := 1) (by omega) (by omega)]
    unfold o_cnt
    by_cases z : o_mel n heat cs D A r (x : Int) = v
    · rw [if_pos z, if_pos z]
      by_cases z0 : k = 0
      · rw [if_pos z0]
        exact ih (x + 1) _ _ _ m1 (by omega) (by omega) (by omega) a2
      · rw [if_neg z0]
        exact ih (x + 1) _ _ _ m1 (by omega) (by omega) (by omega) a2
    · rw [if_neg z, if_neg z]
      exact ih (x + 1) _ _ _ m1 (by omega) h0 (by omega) a2
theorem R_warm (hi : R_is w h n heat price D A c U kn KS cs m) (hN : w_N w h n heat D) (hok : hr_ok n A) (ht : 0 ≤ A 35 ∧ A 35 ≤ 1073741824) (r v : Int) : ∃ m1, z_R 243 (m, 0, [(2, 251), (0, r), (0, v), (9, 0), (9, 0), (9, 0), (9, 0)], []) = some (m1, some (0, o_warm w h n heat cs D A r v)) ∧ R_is w h n heat price D A c U kn KS cs m1 := by
  have hu := R_upn (p0 := 251) (k0 := 11) (v := 0) hi (by decide)
  rw [u_twr_0, hi.1.1, hi.1.2.1]
  by_cases c1 : u_hs (w : Int) (h : Int) r = 0
  · have e : o_warm w h n heat cs D A r v = -1 := if_neg (fun z => z.1 c1)
    rw [if_neg (not_not_intro c1), e]
    exact ⟨_, rfl, hu⟩
  rw [if_pos c1]
  by_cases c2 : 0 ≤ v ∧ v ≤ 99
  · have hr := u_hs_rng c1
    have e : o_warm w h n heat cs D A r v = o_cnt (o_mel n heat cs D A r.toNat) v (2 ^ n) 0 0 := if_pos ⟨c1, c2⟩
    obtain ⟨q, rfl⟩ : ∃ q : Nat, r = (q : Int) := ⟨r.toNat, by omega⟩
    rw [Int.toNat_natCast] at e
    rw [if_pos c2, e]
    exact R_wrm1 hN hok ht (by omega) (2 ^ n) 0 0 _ _ _ (by omega) (by decide) (by decide) hu
  · have e : o_warm w h n heat cs D A r v = -1 := if_neg (fun z => c2 z.2)
    rw [if_neg c2, e]
    exact ⟨_, rfl, hu⟩
end
theorem core_warm : l_rel2 Rel_C (958, 143, 125, 2, false, 975, 146, 243) := by
  intro M1 M2 M3 σ σ1 σ2 as v1 v2 C1 C2 ρ1 ρ2 ha hR hh hM1 hC1 hp1 hE1 hC2 hp2 hE2
  obtain ⟨r, v, rfl⟩ := as_two ha
  have hE1 : z_R 125 (z_m σ, 0, [(2, 0), (0, r.toInt), (0, v.toInt), (9, 0), (9, 0), (9, 0), (9, 0)], []) = some (z_m σ1, some (0, v1.toInt)) := z_R_iff.mpr hE1
  have hE2 : z_R 243 (z_m σ1, 0, [(2, 251), (0, r.toInt), (0, v.toInt), (9, 0), (9, 0), (9, 0), (9, 0)], []) = some (z_m σ2, some (0, v2.toInt)) := z_R_iff.mpr hE2
  have hT := T_two (y1 := 125) (y2 := 243) (by decide +kernel) (by decide +kernel) hC1 hC2 hp1 hp2 hR.1
  obtain ⟨w, h, n, heat, price, D, A, c, U, kn, KS, cs, cC, cR, cW⟩ := hR.2
  obtain ⟨b1, b2, -, -, hok, b35, -, b7⟩ := core_b hh hM1 cR
  have hN : w_N w h n heat D := ⟨b1, b2, b7⟩
  have f1 := R_off2_ok (y := 125) (by decide +kernel) hC1 hp1
  have f2 := C_off_ok (y := 243) (by decide +kernel) hC2 hp2
  have cR1 := R_fr cR f1
  have z := core_do cR1 (fun q => C_fr q f2) (C_warm cC hN b35 r.toInt v.toInt) (fun q => R_warm q hN hok b35 r.toInt v.toInt) hE1 hE2
  exact ⟨⟨hT, Core_mk z.1.1 z.1.2 cW⟩, fun _ => z.2⟩
end
section
/-! STRETCHES of share, water, with bounds done -/
theorem x_sha_0  (m : z_M) (p : Int) : z_R 116 (m, 0, [(2, 0), (0, p), (9, 0), (9, 0)], []) = if 0 ≤ p ∧ p < m 3 11 then if 0 ≤ p ∧ p < 5 then if ¬ u_hs (m 3 8) (m 3 9) (m 15 (p).toNat) = 0 then (z_R 117 (m, 0, [(2, 24), (2, 12), (0, m 15 (p).toNat)], [])).bind fun qq => z_R 116 (qq.1, 49, [(2, 0), (0, p), (0, m 15 (p).toNat), (9, 0)], qq.2.toList ++ []) else some (m, some (0, (-2))) else none else some (m, some (0, (-1))) :=
  have hK : kt_at 116 = kt_116 := rfl
  (z_R_run hK (n := 2) (g' := (m, 4, [(2, 0), (0, p), (9, 0), (9, 0)], [(2, 3)])) rfl).trans ((z_R_run hK (n := 1) (g' := (m, 5, [(2, 0), (0, p), (9, 0), (9, 0)], [(0, p), (2, 3)])) rfl).trans (z_R_cif hK rfl rfl rfl rfl rfl (c_ifknows _ _ rfl) (fun h1 => (z_R_run hK (n := 3) (g' := (m, 17, [(2, 0), (0, p), (9, 0), (9, 0)], [(2, 12)])) rfl).trans ((z_R_run hK (n := 1) (g' := (m, 20, [(2, 0), (0, p), (9, 0), (9, 0)], [(2, 15)])) rfl).trans ((z_R_run hK (n := 1) (g' := (m, 21, [(2, 0), (0, p), (9, 0), (9, 0)], [(0, p), (2, 15)])) rfl).trans (z_R_ixD hK (n := 5) (g' := (m, 22, [(2, 0), (0, p), (9, 0), (9, 0)], [(0, m 15 (p).toNat)])) rfl rfl rfl  (fun h2 => (z_R_run hK (n := 3) (g' := (m, 27, [(2, 0), (0, p), (0, m 15 (p).toNat), (9, 0)], [(2, 3)])) rfl).trans ((z_R_run hK (n := 1) (g' := (m, 28, [(2, 0), (0, p), (0, m 15 (p).toNat), (9, 0)], [(0, m 15 (p).toNat), (2, 3)])) rfl).trans (z_R_cif hK rfl rfl rfl rfl rfl (c_ifhas _ _ rfl rfl) (fun h3 => have h4 := u_hs_rng h3; (z_R_run hK (n := 3) (g' := (m, 41, [(2, 0), (0, p), (0, m 15 (p).toNat), (9, 0)], [(2, 24)])) rfl).trans ((z_R_run hK (n := 2) (g' := (m, 45, [(2, 0), (0, p), (0, m 15 (p).toNat), (9, 0)], [(2, 12), (2, 24)])) rfl).trans ((z_R_run hK (n := 1) (g' := (m, 46, [(2, 0), (0, p), (0, m 15 (p).toNat), (9, 0)], [(0, m 15 (p).toNat), (2, 12), (2, 24)])) rfl).trans (z_R_call hK rfl rfl rfl rfl rfl)))) (fun h3 => (z_R_run hK (n := 2) (g' := (m, 36, [(2, 0), (0, p), (0, m 15 (p).toNat), (9, 0)], [(0, (-2))])) rfl).trans (z_R_ret hK rfl rfl rfl))))))))) (fun h1 => (z_R_run hK (n := 2) (g' := (m, 12, [(2, 0), (0, p), (9, 0), (9, 0)], [(0, (-1))])) rfl).trans (z_R_ret hK rfl rfl rfl))))
theorem x_sha_49  (m : z_M) (x1 : Int) (x2 : Int) (u : Int) : z_R 116 (m, 49, [(2, 0), (0, x1), (0, x2), (9, 0)], [(0, u)]) = (z_R 70 (m, 0, [(2, 24), (0, x1), (0, m 12 7), (9, 0)], [])).bind fun qq => z_R 116 (qq.1, 64, [(2, 0), (0, x1), (0, x2), (9, 0)], qq.2.toList ++ [(0, u)]) :=
  have hK : kt_at 116 = kt_116 := rfl
  (z_R_run hK (n := 2) (g' := (m, 53, [(2, 0), (0, x1), (0, x2), (9, 0)], [(2, 24), (0, u)])) rfl).trans ((z_R_run hK (n := 3) (g' := (m, 58, [(2, 0), (0, x1), (0, x2), (9, 0)], [(2, 12), (0, x1), (2, 24), (0, u)])) rfl).trans ((z_R_run hK (n := 1) (g' := (m, 61, [(2, 0), (0, x1), (0, x2), (9, 0)], [(0, m 12 7), (0, x1), (2, 24), (0, u)])) rfl).trans (z_R_call hK rfl rfl rfl rfl rfl)))
theorem x_sha_64  (m : z_M) (x1 : Int) (x2 : Int) (s0 : Int) (u : Int) : z_R 116 (m, 64, [(2, 0), (0, x1), (0, x2), (9, 0)], [(0, u), (0, s0)]) = (z_R 121 (m, 0, [(2, 24), (2, 12), (0, x2)], [])).bind fun qq => z_R 116 (qq.1, 81, [(2, 0), (0, x1), (0, x2), (0, z_mul s0 u)], qq.2.toList ++ [(1, z_i2l (z_mul s0 u)), (2, 0)]) :=
  have hK : kt_at 116 = kt_116 := rfl
  (z_R_run hK (n := 7) (g' := (m, 73, [(2, 0), (0, x1), (0, x2), (0, z_mul s0 u)], [(2, 24), (1, z_i2l (z_mul s0 u)), (2, 0)])) rfl).trans ((z_R_run hK (n := 2) (g' := (m, 77, [(2, 0), (0, x1), (0, x2), (0, z_mul s0 u)], [(2, 12), (2, 24), (1, z_i2l (z_mul s0 u)), (2, 0)])) rfl).trans ((z_R_run hK (n := 1) (g' := (m, 78, [(2, 0), (0, x1), (0, x2), (0, z_mul s0 u)], [(0, x2), (2, 12), (2, 24), (1, z_i2l (z_mul s0 u)), (2, 0)])) rfl).trans (z_R_call hK rfl rfl rfl rfl rfl)))
theorem x_sha_81  (m : z_M) (x1 : Int) (x2 : Int) (x3 : Int) (s0 : Int) (u : Int) : z_R 116 (m, 81, [(2, 0), (0, x1), (0, x2), (0, x3)], [(0, u), (1, s0), (2, 0)]) = (z_R 122 (m, 0, [(2, 0), (1, s0), (9, 0), (1, z_i2l u), (9, 0), (9, 0), (9, 0), (9, 0), (9, 0), (9, 0), (9, 0), (9, 0)], [])).bind fun qq => z_R 116 (qq.1, 85, [(2, 0), (0, x1), (0, x2), (0, x3)], qq.2.toList ++ []) :=
  have hK : kt_at 116 = kt_116 := rfl
  (z_R_run hK (n := 1) (g' := (m, 82, [(2, 0), (0, x1), (0, x2), (0, x3)], [(1, z_i2l u), (1, s0), (2, 0)])) rfl).trans (z_R_call hK rfl rfl rfl rfl rfl)
theorem x_sha_85  (m : z_M) (x1 : Int) (x2 : Int) (x3 : Int) : z_R 116 (m, 85, [(2, 0), (0, x1), (0, x2), (0, x3)], []) = some (m, some (0, 0)) :=
  have hK : kt_at 116 = kt_116 := rfl
  (z_R_run hK (n := 1) (g' := (m, 86, [(2, 0), (0, x1), (0, x2), (0, x3)], [(0, 0)])) rfl).trans (z_R_ret hK rfl rfl rfl)
theorem x_tsh_0  (m : z_M) (p : Int) (h_n : 0 ≤ m 251 3 ∧ m 251 3 ≤ 5) : z_R 239 (m, 0, [(2, 251), (0, p), (9, 0), (9, 0)], []) = if 0 ≤ p ∧ p < m 251 3 then if m 252 (p + 18).toNat = (-1) then some (z_up m 251 11 0, some (0, (-2))) else (z_R 183 (z_up m 251 11 0, 0, [(2, 251), (2, 252), (0, m 252 (p + 18).toNat), (9, 0), (9, 0)], [])).bind fun qq => z_R 239 (qq.1, 48, [(2, 251), (0, p), (0, m 252 (p + 18).toNat), (9, 0)], qq.2.toList ++ [(0, m 252 (p + 18).toNat), (2, 252), (2, 251)]) else some (z_up m 251 11 0, some (0, (-1))) :=
  have hK : kt_at 239 = kt_239 := rfl
  (z_R_run hK (n := 5) (g' := (z_up m 251 11 0, 7, [(2, 251), (0, p), (9, 0), (9, 0)], [(0, p), (2, 251)])) rfl).trans (z_R_cif hK rfl rfl rfl rfl rfl (t_ifperson _ _ (zu_k (by decide)) h_n) (fun h1 => (z_R_run hK (n := 3) (g' := (z_up m 251 11 0, 19, [(2, 251), (0, p), (9, 0), (9, 0)], [(2, 252)])) rfl).trans ((z_R_run hK (n := 3) (g' := (z_up m 251 11 0, 23, [(2, 251), (0, p), (9, 0), (9, 0)], [(0, z_add 18 p), (2, 252)])) rfl).trans ((congrArg (fun vv => z_R 239 (z_up m 251 11 0, 23, [(2, 251), (0, p), (9, 0), (9, 0)], [(0, vv), (2, 252)])) ((z_add_eq (by omega) (by omega)).trans (by omega))).trans (z_R_ixT hK (n := 37) (g' := (z_up m 251 11 0, 24, [(2, 251), (0, p), (9, 0), (9, 0)], [(0, (z_up m 251 11 0) 252 (p + 18).toNat)])) rfl rfl rfl  (show 0 ≤ p + 18 ∧ p + 18 < 37 by omega) ((congrArg (fun vv => z_R 239 (z_up m 251 11 0, 24, [(2, 251), (0, p), (9, 0), (9, 0)], [(0, vv)])) (zu_p (by decide))).trans ((z_R_run hK (n := 3) (g' := (z_up m 251 11 0, 27, [(2, 251), (0, p), (0, m 252 (p + 18).toNat), (9, 0)], [(0, (-1)), (0, m 252 (p + 18).toNat)])) rfl).trans (z_R_ifnd hK (c := m 252 (p + 18).toNat = (-1)) (p1 := 33) (p2 := 30) rfl rfl rfl (fun h2 => (z_R_run hK (n := 3) (g' := (z_up m 251 11 0, 38, [(2, 251), (0, p), (0, m 252 (p + 18).toNat), (9, 0)], [(2, 252), (2, 251)])) rfl).trans ((z_R_run hK (n := 4) (g' := (z_up m 251 11 0, 44, [(2, 251), (0, p), (0, m 252 (p + 18).toNat), (9, 0)], [(2, 252), (2, 251), (0, m 252 (p + 18).toNat), (2, 252), (2, 251)])) rfl).trans ((z_R_run hK (n := 1) (g' := (z_up m 251 11 0, 45, [(2, 251), (0, p), (0, m 252 (p + 18).toNat), (9, 0)], [(0, m 252 (p + 18).toNat), (2, 252), (2, 251), (0, m 252 (p + 18).toNat), (2, 252), (2, 251)])) rfl).trans (z_R_call hK rfl rfl rfl rfl rfl)))) (fun h2 => (z_R_run hK (n := 1) (g' := (z_up m 251 11 0, 32, [(2, 251), (0, p), (0, m 252 (p + 18).toNat), (9, 0)], [(0, (-2))])) rfl).trans (z_R_ret hK rfl rfl rfl))))))))) (fun h1 => (z_R_run hK (n := 2) (g' := (z_up m 251 11 0, 14, [(2, 251), (0, p), (9, 0), (9, 0)], [(0, (-1))])) rfl).trans (z_R_ret hK rfl rfl rfl)))
theorem x_tsh_48  (m : z_M) (x1 : Int) (x2 : Int) (s0 : Int) (u : Int) : z_R 239 (m, 48, [(2, 251), (0, x1), (0, x2), (9, 0)], [(0, u), (0, s0), (2, 252), (2, 251)]) = (z_R 184 (m, 0, [(2, 251), (2, 252), (0, s0), (0, u), (9, 0), (9, 0)], [])).bind fun qq => z_R 239 (qq.1, 51, [(2, 251), (0, x1), (0, x2), (9, 0)], qq.2.toList ++ []) :=
  have hK : kt_at 239 = kt_239 := rfl
  z_R_call hK rfl rfl rfl rfl rfl
theorem x_tsh_51  (m : z_M) (x1 : Int) (x2 : Int) (u : Int) : z_R 239 (m, 51, [(2, 251), (0, x1), (0, x2), (9, 0)], [(0, u)]) = if u = 0 then (z_R 240 (z_up m 251 10 0, 0, [(2, 251), (1, 0), (9, 0), (1, 1), (9, 0), (9, 0), (9, 0)], [])).bind fun qq => z_R 239 (qq.1, 67, [(2, 251), (0, x1), (0, x2), (0, u)], qq.2.toList ++ []) else (z_R 187 (z_up m 251 10 0, 0, [(2, 251), (2, 252), (0, x2)], [])).bind fun qq => z_R 239 (qq.1, 80, [(2, 251), (0, x1), (0, x2), (0, u)], qq.2.toList ++ [(2, 251)]) :=
  have hK : kt_at 239 = kt_239 := rfl
  (z_R_run hK (n := 5) (g' := (z_up m 251 10 0, 58, [(2, 251), (0, x1), (0, x2), (0, u)], [(0, u)])) rfl).trans (z_R_ifnd hK (c := u = 0) (p1 := 70) (p2 := 61) rfl rfl rfl (fun h1 => (z_R_run hK (n := 4) (g' := (z_up m 251 10 0, 76, [(2, 251), (0, x1), (0, x2), (0, u)], [(2, 252), (2, 251), (2, 251)])) rfl).trans ((z_R_run hK (n := 1) (g' := (z_up m 251 10 0, 77, [(2, 251), (0, x1), (0, x2), (0, u)], [(0, x2), (2, 252), (2, 251), (2, 251)])) rfl).trans (z_R_call hK rfl rfl rfl rfl rfl))) (fun h1 => (z_R_run hK (n := 3) (g' := (z_up m 251 10 0, 64, [(2, 251), (0, x1), (0, x2), (0, u)], [(1, 1), (1, 0), (2, 251)])) rfl).trans (z_R_call hK rfl rfl rfl rfl rfl)))
theorem x_tsh_67  (m : z_M) (x1 : Int) (x2 : Int) (x3 : Int) : z_R 239 (m, 67, [(2, 251), (0, x1), (0, x2), (0, x3)], []) = some (m, some (0, 0)) :=
  have hK : kt_at 239 = kt_239 := rfl
  (z_R_run hK (n := 2) (g' := (m, 98, [(2, 251), (0, x1), (0, x2), (0, x3)], [(0, 0)])) rfl).trans (z_R_ret hK rfl rfl rfl)
theorem x_tsh_80  (m : z_M) (x1 : Int) (x2 : Int) (x3 : Int) (u : Int) : z_R 239 (m, 80, [(2, 251), (0, x1), (0, x2), (0, x3)], [(0, u), (2, 251)]) = (z_R 186 (m, 0, [(2, 251), (2, 252), (0, x1)], [])).bind fun qq => z_R 239 (qq.1, 90, [(2, 251), (0, x1), (0, x2), (0, x3)], qq.2.toList ++ [(1, z_i2l u), (2, 251)]) :=
  have hK : kt_at 239 = kt_239 := rfl
  (z_R_run hK (n := 4) (g' := (m, 86, [(2, 251), (0, x1), (0, x2), (0, x3)], [(2, 252), (2, 251), (1, z_i2l u), (2, 251)])) rfl).trans ((z_R_run hK (n := 1) (g' := (m, 87, [(2, 251), (0, x1), (0, x2), (0, x3)], [(0, x1), (2, 252), (2, 251), (1, z_i2l u), (2, 251)])) rfl).trans (z_R_call hK rfl rfl rfl rfl rfl))
theorem x_tsh_90  (m : z_M) (x1 : Int) (x2 : Int) (x3 : Int) (s0 : Int) (u : Int) : z_R 239 (m, 90, [(2, 251), (0, x1), (0, x2), (0, x3)], [(0, u), (1, s0), (2, 251)]) = (z_R 240 (m, 0, [(2, 251), (1, z_lmul s0 (z_i2l u)), (9, 0), (1, z_i2l x3), (9, 0), (9, 0), (9, 0)], [])).bind fun qq => z_R 239 (qq.1, 97, [(2, 251), (0, x1), (0, x2), (0, x3)], qq.2.toList ++ []) :=
  have hK : kt_at 239 = kt_239 := rfl
  (z_R_run hK (n := 4) (g' := (m, 94, [(2, 251), (0, x1), (0, x2), (0, x3)], [(1, z_i2l x3), (1, z_lmul s0 (z_i2l u)), (2, 251)])) rfl).trans (z_R_call hK rfl rfl rfl rfl rfl)
theorem x_tsh_97  (m : z_M) (x1 : Int) (x2 : Int) (x3 : Int) : z_R 239 (m, 97, [(2, 251), (0, x1), (0, x2), (0, x3)], []) = some (m, some (0, 0)) :=
  have hK : kt_at 239 = kt_239 := rfl
  (z_R_run hK (n := 1) (g' := (m, 98, [(2, 251), (0, x1), (0, x2), (0, x3)], [(0, 0)])) rfl).trans (z_R_ret hK rfl rfl rfl)
theorem x_wat_0  (m : z_M) : z_R 137 (m, 0, [(2, 0), (9, 0), (9, 0), (9, 0)], []) = z_R 137 (m, 6, [(2, 0), (0, 0), (0, 0), (0, 0)], []) :=
  have hK : kt_at 137 = kt_137 := rfl
  (z_R_run hK (n := 6) (g' := (m, 6, [(2, 0), (0, 0), (0, 0), (0, 0)], [])) rfl).trans (rfl)
theorem x_wat_6  (m : z_M) (x1 : Int) (x2 : Int) (x3 : Int) : z_R 137 (m, 6, [(2, 0), (0, x1), (0, x2), (0, x3)], []) = if 9 ≤ x3 then (z_R 76 (m, 0, [(2, 0), (1, z_i2l x1), (9, 0), (1, z_i2l x2), (9, 0), (1, z_i2l (m 12 5)), (9, 0)], [])).bind fun qq => z_R 137 (qq.1, 69, [(2, 0), (0, x1), (0, x2), (0, x3)], qq.2.toList ++ []) else if ¬ u_hs (m 3 8) (m 3 9) x3 = 0 then z_R 137 (m, 6, [(2, 0), (0, z_add x1 (m 13 (x3).toNat)), (0, z_add x2 (m 14 (x3).toNat)), (0, x3 + 1)], []) else z_R 137 (m, 6, [(2, 0), (0, x1), (0, x2), (0, z_add x3 1)], []) :=
  have hK : kt_at 137 = kt_137 := rfl
  (z_R_run hK (n := 2) (g' := (m, 9, [(2, 0), (0, x1), (0, x2), (0, x3)], [(0, 9), (0, x3)])) rfl).trans (z_R_ifd hK (c := 9 ≤ x3) (p1 := 53) (p2 := 12) rfl rfl rfl (fun h1 => (z_R_run hK (n := 7) (g' := (m, 62, [(2, 0), (0, x1), (0, x2), (0, x3)], [(2, 12), (1, z_i2l x2), (1, z_i2l x1), (2, 0)])) rfl).trans ((z_R_run hK (n := 2) (g' := (m, 66, [(2, 0), (0, x1), (0, x2), (0, x3)], [(1, z_i2l (m 12 5)), (1, z_i2l x2), (1, z_i2l x1), (2, 0)])) rfl).trans (z_R_call hK rfl rfl rfl rfl rfl))) (fun h1 => (z_R_run hK (n := 2) (g' := (m, 16, [(2, 0), (0, x1), (0, x2), (0, x3)], [(2, 3)])) rfl).trans ((z_R_run hK (n := 1) (g' := (m, 17, [(2, 0), (0, x1), (0, x2), (0, x3)], [(0, x3), (2, 3)])) rfl).trans (z_R_cif hK rfl rfl rfl rfl rfl (c_ifhas _ _ rfl rfl) (fun h2 => have h3 := u_hs_rng h2; (z_R_run hK (n := 4) (g' := (m, 28, [(2, 0), (0, x1), (0, x2), (0, x3)], [(2, 12), (0, x1)])) rfl).trans ((z_R_run hK (n := 1) (g' := (m, 31, [(2, 0), (0, x1), (0, x2), (0, x3)], [(2, 13), (0, x1)])) rfl).trans ((z_R_run hK (n := 1) (g' := (m, 32, [(2, 0), (0, x1), (0, x2), (0, x3)], [(0, x3), (2, 13), (0, x1)])) rfl).trans (z_R_ixT hK (n := 9) (g' := (m, 33, [(2, 0), (0, x1), (0, x2), (0, x3)], [(0, m 13 (x3).toNat), (0, x1)])) rfl rfl rfl  (show 0 ≤ x3 ∧ x3 < 9 by omega) ((z_R_run hK (n := 5) (g' := (m, 40, [(2, 0), (0, z_add x1 (m 13 (x3).toNat)), (0, x2), (0, x3)], [(2, 12), (0, x2)])) rfl).trans ((z_R_run hK (n := 1) (g' := (m, 43, [(2, 0), (0, z_add x1 (m 13 (x3).toNat)), (0, x2), (0, x3)], [(2, 14), (0, x2)])) rfl).trans ((z_R_run hK (n := 1) (g' := (m, 44, [(2, 0), (0, z_add x1 (m 13 (x3).toNat)), (0, x2), (0, x3)], [(0, x3), (2, 14), (0, x2)])) rfl).trans (z_R_ixT hK (n := 9) (g' := (m, 45, [(2, 0), (0, z_add x1 (m 13 (x3).toNat)), (0, x2), (0, x3)], [(0, m 14 (x3).toNat), (0, x2)])) rfl rfl rfl  (show 0 ≤ x3 ∧ x3 < 9 by omega) ((z_R_run hK (n := 3) (g' := (m, 50, [(2, 0), (0, z_add x1 (m 13 (x3).toNat)), (0, z_add x2 (m 14 (x3).toNat)), (0, z_add x3 1)], [])) rfl).trans ((congrArg (fun vv => z_R 137 (m, 50, [(2, 0), (0, z_add x1 (m 13 (x3).toNat)), (0, z_add x2 (m 14 (x3).toNat)), (0, vv)], [])) (z_add_eq (by omega) (by omega))).trans ((z_R_run hK (n := 1) (g' := (m, 6, [(2, 0), (0, z_add x1 (m 13 (x3).toNat)), (0, z_add x2 (m 14 (x3).toNat)), (0, x3 + 1)], [])) rfl).trans (rfl)))))))))))) (fun h2 => (z_R_run hK (n := 3) (g' := (m, 6, [(2, 0), (0, x1), (0, x2), (0, z_add x3 1)], [])) rfl).trans (rfl))))))
theorem x_wat_69  (m : z_M) (x1 : Int) (x2 : Int) (x3 : Int) : z_R 137 (m, 69, [(2, 0), (0, x1), (0, x2), (0, x3)], []) = some (m, some (0, z_add (z_add x1 x2) (m 12 5))) :=
  have hK : kt_at 137 = kt_137 := rfl
  (z_R_run hK (n := 5) (g' := (m, 76, [(2, 0), (0, x1), (0, x2), (0, x3)], [(2, 12), (0, z_add x1 x2)])) rfl).trans ((z_R_run hK (n := 2) (g' := (m, 80, [(2, 0), (0, x1), (0, x2), (0, x3)], [(0, z_add (z_add x1 x2) (m 12 5))])) rfl).trans (z_R_ret hK rfl rfl rfl))
theorem x_twa_0  (m : z_M) : z_R 252 (m, 0, [(2, 251), (9, 0), (9, 0), (9, 0)], []) = z_R 252 (z_up m 251 11 0, 11, [(2, 251), (0, 0), (0, 0), (0, 0)], []) :=
  have hK : kt_at 252 = kt_252 := rfl
  (z_R_run hK (n := 9) (g' := (z_up m 251 11 0, 11, [(2, 251), (0, 0), (0, 0), (0, 0)], [])) rfl).trans (rfl)
theorem x_twa_11  (m : z_M) (x1 : Int) (x2 : Int) (x3 : Int) : z_R 252 (m, 11, [(2, 251), (0, x1), (0, x2), (0, x3)], []) = if 9 ≤ x3 then (z_R 210 (z_up m 251 10 0, 0, [(2, 251), (1, z_i2l x1), (9, 0)], [])).bind fun qq => z_R 252 (qq.1, 55, [(2, 251), (0, x1), (0, x2), (0, x3)], qq.2.toList ++ []) else if 0 ≤ x3 ∧ x3 < 37 then z_R 252 (m, 11, [(2, 251), (0, z_add x1 (m 252 (x3).toNat)), (0, z_add x2 (m 252 (x3 + 9).toNat)), (0, x3 + 1)], []) else none :=
  have hK : kt_at 252 = kt_252 := rfl
  (z_R_run hK (n := 2) (g' := (m, 14, [(2, 251), (0, x1), (0, x2), (0, x3)], [(0, 9), (0, x3)])) rfl).trans (z_R_ifd hK (c := 9 ≤ x3) (p1 := 44) (p2 := 17) rfl rfl rfl (fun h1 => (z_R_run hK (n := 6) (g' := (z_up m 251 10 0, 52, [(2, 251), (0, x1), (0, x2), (0, x3)], [(1, z_i2l x1), (2, 251)])) rfl).trans (z_R_call hK rfl rfl rfl rfl rfl)) (fun h1 => (z_R_run hK (n := 3) (g' := (m, 22, [(2, 251), (0, x1), (0, x2), (0, x3)], [(2, 252), (0, x1)])) rfl).trans ((z_R_run hK (n := 1) (g' := (m, 23, [(2, 251), (0, x1), (0, x2), (0, x3)], [(0, x3), (2, 252), (0, x1)])) rfl).trans (z_R_ixD hK (n := 37) (g' := (m, 24, [(2, 251), (0, x1), (0, x2), (0, x3)], [(0, m 252 (x3).toNat), (0, x1)])) rfl rfl rfl  (fun h2 => (z_R_run hK (n := 5) (g' := (m, 31, [(2, 251), (0, z_add x1 (m 252 (x3).toNat)), (0, x2), (0, x3)], [(2, 252), (0, x2)])) rfl).trans ((z_R_run hK (n := 3) (g' := (m, 35, [(2, 251), (0, z_add x1 (m 252 (x3).toNat)), (0, x2), (0, x3)], [(0, z_add 9 x3), (2, 252), (0, x2)])) rfl).trans ((congrArg (fun vv => z_R 252 (m, 35, [(2, 251), (0, z_add x1 (m 252 (x3).toNat)), (0, x2), (0, x3)], [(0, vv), (2, 252), (0, x2)])) ((z_add_eq (by omega) (by omega)).trans (by omega))).trans (z_R_ixT hK (n := 37) (g' := (m, 36, [(2, 251), (0, z_add x1 (m 252 (x3).toNat)), (0, x2), (0, x3)], [(0, m 252 (x3 + 9).toNat), (0, x2)])) rfl rfl rfl  (show 0 ≤ x3 + 9 ∧ x3 + 9 < 37 by omega) ((z_R_run hK (n := 3) (g' := (m, 41, [(2, 251), (0, z_add x1 (m 252 (x3).toNat)), (0, z_add x2 (m 252 (x3 + 9).toNat)), (0, z_add x3 1)], [])) rfl).trans ((congrArg (fun vv => z_R 252 (m, 41, [(2, 251), (0, z_add x1 (m 252 (x3).toNat)), (0, z_add x2 (m 252 (x3 + 9).toNat)), (0, vv)], [])) (z_add_eq (by omega) (by omega))).trans ((z_R_run hK (n := 1) (g' := (m, 11, [(2, 251), (0, z_add x1 (m 252 (x3).toNat)), (0, z_add x2 (m 252 (x3 + 9).toNat)), (0, x3 + 1)], [])) rfl).trans (rfl))))))))))))
theorem x_twa_55  (m : z_M) (x1 : Int) (x2 : Int) (x3 : Int) : z_R 252 (m, 55, [(2, 251), (0, x1), (0, x2), (0, x3)], []) = (z_R 210 (m, 0, [(2, 251), (1, z_i2l x2), (9, 0)], [])).bind fun qq => z_R 252 (qq.1, 61, [(2, 251), (0, x1), (0, x2), (0, x3)], qq.2.toList ++ []) :=
  have hK : kt_at 252 = kt_252 := rfl
  (z_R_run hK (n := 3) (g' := (m, 58, [(2, 251), (0, x1), (0, x2), (0, x3)], [(1, z_i2l x2), (2, 251)])) rfl).trans (z_R_call hK rfl rfl rfl rfl rfl)
theorem x_twa_61  (m : z_M) (x1 : Int) (x2 : Int) (x3 : Int) : z_R 252 (m, 61, [(2, 251), (0, x1), (0, x2), (0, x3)], []) = (z_R 210 (m, 0, [(2, 251), (1, z_i2l (m 252 33)), (9, 0)], [])).bind fun qq => z_R 252 (qq.1, 73, [(2, 251), (0, x1), (0, x2), (0, x3)], qq.2.toList ++ []) :=
  have hK : kt_at 252 = kt_252 := rfl
  (z_R_run hK (n := 3) (g' := (m, 66, [(2, 251), (0, x1), (0, x2), (0, x3)], [(2, 252), (2, 251)])) rfl).trans ((z_R_run hK (n := 3) (g' := (m, 70, [(2, 251), (0, x1), (0, x2), (0, x3)], [(1, z_i2l (m 252 33)), (2, 251)])) rfl).trans (z_R_call hK rfl rfl rfl rfl rfl))
theorem x_twa_73  (m : z_M) (x1 : Int) (x2 : Int) (x3 : Int) : z_R 252 (m, 73, [(2, 251), (0, x1), (0, x2), (0, x3)], []) = some (m, some (0, z_add (z_add x1 x2) (m 252 33))) :=
  have hK : kt_at 252 = kt_252 := rfl
  (z_R_run hK (n := 5) (g' := (m, 80, [(2, 251), (0, x1), (0, x2), (0, x3)], [(2, 252), (0, z_add x1 x2)])) rfl).trans ((z_R_run hK (n := 3) (g' := (m, 84, [(2, 251), (0, x1), (0, x2), (0, x3)], [(0, z_add (z_add x1 x2) (m 252 33))])) rfl).trans (z_R_ret hK rfl rfl rfl))
end
section
/-! share, water, of what both are in -/
def s_onlyV1 (q : a_K) : Bool := match q.2.1 with
  | .ireturn => false
  | .lreturn => false
  | .new _ => false
  | _ => true
noncomputable def s_onlyV (y : Nat) : Bool := (kt_at y).all fun r => r.all s_onlyV1
theorem s_ex_tagV {y : Nat} (hk : s_onlyV y = true) : ∀ (f : Nat) (g : z_G) (r : z_Q), z_ex f y g = some r → r.2 = none := by
  intro f
  induction f with
  | zero => intro g r h; cases h
  | succ f ih =>
    intro g r h
    unfold z_ex at h
    split at h
    · cases h
    · rename_i q hq
      obtain ⟨⟨row, h1, h2⟩, -⟩ := k_get_in hq
      have hb := List.all_eq_true.mp (List.all_eq_true.mp hk row h1) q h2
      split at h
      · split at h
        · exact ih _ _ h
        · cases h
      · obtain ⟨m, pc, ls, st⟩ := g
        unfold z_ret at h
        unfold s_onlyV1 at hb
        simp only at h
        split at h
        · rw [← Option.some.inj h]
        · rename_i e; rw [e] at hb; cases hb
        · rename_i e; rw [e] at hb; cases hb
        · rename_i e; rw [e] at hb; cases hb
        · cases h
      · split at h
        · split at h
          · exact ih _ _ h
          · cases h
        · cases h
theorem s_tagV {y : Nat} (hk : s_onlyV y = true) {g : z_G} {r : z_Q} (h : z_R y g = some r) : r.2 = none := by
  obtain ⟨f, h⟩ := z_R_iff.mp h
  exact s_ex_tagV hk f g r h
def s_onlyI1 (q : a_K) : Bool := match q.2.1 with
  | .return_ => false
  | .lreturn => false
  | .new _ => false
  | _ => true
noncomputable def s_onlyI (y : Nat) : Bool := (kt_at y).all fun r => r.all s_onlyI1
theorem s_ex_tagI {y : Nat} (hk : s_onlyI y = true) : ∀ (f : Nat) (g : z_G) (r : z_Q), z_ex f y g = some r → ∃ u, r.2 = some (0, u) := by
  intro f
  induction f with
  | zero => intro g r h; cases h
  | succ f ih =>
    intro g r h
    unfold z_ex at h
    split at h
    · cases h
    · rename_i q hq
      obtain ⟨⟨row, h1, h2⟩, -⟩ := k_get_in hq
      have hb := List.all_eq_true.mp (List.all_eq_true.mp hk row h1) q h2
      split at h
      · split at h
        · exact ih _ _ h
        · cases h
      · obtain ⟨m, pc, ls, st⟩ := g
        unfold z_ret at h
        unfold s_onlyI1 at hb
        simp only at h
        split at h
        · rename_i e; rw [e] at hb; cases hb
        · rename_i e; rw [e] at hb; cases hb
        · split at h
          · exact ⟨_, by rw [← Option.some.inj h]⟩
          · cases h
        · rename_i e; rw [e] at hb; cases hb
        · cases h
      · split at h
        · split at h
          · exact ih _ _ h
          · cases h
        · cases h
theorem s_tagI {y : Nat} (hk : s_onlyI y = true) {g : z_G} {r : z_Q} (h : z_R y g = some r) : ∃ u, r.2 = some (0, u) := by
  obtain ⟨f, h⟩ := z_R_iff.mp h
  exact s_ex_tagI hk f g r h
theorem s_val {m m' : z_M} {x v : Int} (h : some (m, some (0, x)) = (some (m', some (0, v)) : Option z_Q)) : v = x := (congrArg (fun z : z_Q => (z.2.getD (0, 0)).2) (Option.some.inj h)).symm
/-- behind a call that gives an int; that gives nothing -/
theorem s_bI {y y2 pc : Nat} (hk : s_onlyI y2 = true) {G : z_G} {ls : z_L} {rest : List z_V} {r : z_Q} (h : (z_R y2 G).bind (fun qq => z_R y (qq.1, pc, ls, qq.2.toList ++ rest)) = some r) : ∃ m u, z_R y (m, pc, ls, (0, u) :: rest) = some r := by
  obtain ⟨⟨m1, x1⟩, h1, h2⟩ := Option.bind_eq_some_iff.mp h
  obtain ⟨u, e⟩ := s_tagI hk h1
  simp only at e
  subst e
  exact ⟨m1, u, h2⟩
theorem s_bV {y y2 pc : Nat} (hk : s_onlyV y2 = true) {G : z_G} {ls : z_L} {rest : List z_V} {r : z_Q} (h : (z_R y2 G).bind (fun qq => z_R y (qq.1, pc, ls, qq.2.toList ++ rest)) = some r) : ∃ m, z_R y (m, pc, ls, rest) = some r := by
  obtain ⟨⟨m1, x1⟩, h1, h2⟩ := Option.bind_eq_some_iff.mp h
  have e := s_tagV hk h1
  simp only at e
  subst e
  exact ⟨m1, h2⟩
/-- share's answer -/
def x_A (n : Nat) (A : Nat → Int) (p : Int) : Int := if 0 ≤ p ∧ p < (n : Int) then (if A (p.toNat + 18) = -1 then -2 else 0) else -1
def x_s (A : Nat → Int) : Nat → Nat → Int → Int
  | 0, _, s => s
  | f + 1, x, s => x_s A f (x + 1) (z_add s (A x))
def x_w (A : Nat → Int) : Int := z_add (z_add (x_s A 9 0 0) (x_s (fun k => A (k + 9)) 9 0 0)) (A 33)
section
variable {w h n : Nat} {heat price : Int} {D A : Nat → Int} {c : Nat} {U : Nat → Nat → Int} {kn : Nat → Int} {KS : Nat → Nat → Int} {cs : List Int} {m : z_M}
theorem C_share (hi : C_is w h n heat price D A c U kn KS cs m) (h5 : n ≤ 5) (hw : wi w h n A) {p v : Int} {m' : z_M} (hE : z_R 116 (m, 0, [(2, 0), (0, p), (9, 0), (9, 0)], []) = some (m', some (0, v))) : v = x_A n A p := by
  rw [x_sha_0, hi.1.1, hi.1.2.1, hi.1.2.2.1] at hE
  unfold x_A
  by_cases c1 : 0 ≤ p ∧ p < (n : Int)
  · obtain ⟨q, rfl⟩ : ∃ q : Nat, p = (q : Int) := ⟨p.toNat, by omega⟩
    have e15 : m 15 q = A (q + 18) := C_A3 hi (by omega) h5
    rw [if_pos c1, if_pos (show 0 ≤ (q : Int) ∧ (q : Int) < 5 by omega), Int.toNat_natCast, e15] at hE
    rw [if_pos c1, Int.toNat_natCast]
    by_cases c2 : u_hs (w : Int) (h : Int) (A (q + 18)) = 0
    · rw [if_neg (not_not_intro c2)] at hE
      have z := (hw.1 q (by omega)).resolve_right (not_not_intro c2)
      rw [if_pos z]
      exact s_val hE
    · have z : ¬ A (q + 18) = -1 := fun z => by
        have := u_hs_rng c2
        omega
      rw [if_pos c2] at hE
      rw [if_neg z]
      obtain ⟨m1, u1, h1⟩ := s_bI (by decide +kernel) hE
      rw [x_sha_49] at h1
      obtain ⟨m2, u2, h2⟩ := s_bI (by decide +kernel) h1
      rw [x_sha_64] at h2
      obtain ⟨m3, u3, h3⟩ := s_bI (by decide +kernel) h2
      rw [x_sha_81] at h3
      obtain ⟨m4, h4⟩ := s_bV (by decide +kernel) h3
      rw [x_sha_85] at h4
      exact s_val h4
  · rw [if_neg c1] at hE ⊢
    exact s_val hE
theorem R_share (hi : R_is w h n heat price D A c U kn KS cs m) (h5 : n ≤ 5) {p v : Int} {m' : z_M} (hE : z_R 239 (m, 0, [(2, 251), (0, p), (9, 0), (9, 0)], []) = some (m', some (0, v))) : v = x_A n A p := by
  rw [x_tsh_0 m p (by rw [hi.1.2.2.1]; omega), hi.1.2.2.1] at hE
  unfold x_A
  by_cases c1 : 0 ≤ p ∧ p < (n : Int)
  · obtain ⟨q, rfl⟩ : ∃ q : Nat, p = (q : Int) := ⟨p.toNat, by omega⟩
    have e18 : m 252 (q + 18) = A (q + 18) := R_A hi (by omega) (a_vis_p (b := 18) (p := q) (by omega) (by omega) (by omega) (by omega))
    rw [if_pos c1, show ((q : Int) + 18).toNat = q + 18 by omega, e18] at hE
    rw [if_pos c1, Int.toNat_natCast]
    by_cases z : A (q + 18) = -1
    · rw [if_pos z] at hE ⊢
      exact s_val hE
    · rw [if_neg z] at hE ⊢
      obtain ⟨m1, u1, h1⟩ := s_bI (by decide +kernel) hE
      rw [x_tsh_48] at h1
      obtain ⟨m2, u2, h2⟩ := s_bI (by decide +kernel) h1
      rw [x_tsh_51] at h2
      by_cases c2 : u2 = 0
      · rw [if_pos c2] at h2
        obtain ⟨m3, h3⟩ := s_bV (by decide +kernel) h2
        rw [x_tsh_67] at h3
        exact s_val h3
      · rw [if_neg c2] at h2
        obtain ⟨m3, u3, h3⟩ := s_bI (by decide +kernel) h2
        rw [x_tsh_80] at h3
        obtain ⟨m4, u4, h4⟩ := s_bI (by decide +kernel) h3
        rw [x_tsh_90] at h4
        obtain ⟨m5, h6⟩ := s_bV (by decide +kernel) h4
        rw [x_tsh_97] at h6
        exact s_val h6
  · rw [if_neg c1] at hE ⊢
    exact s_val hE
theorem C_wat (hi : C_is w h n heat price D A c U kn KS cs m) (hw : wi w h n A) : ∀ (f x : Nat) (s t : Int), x + f = 9 → z_w s = s → z_w t = t → ∃ m', z_R 137 (m, 6, [(2, 0), (0, s), (0, t), (0, (x : Int))], []) = some (m', some (0, z_add (z_add (x_s A f x s) (x_s (fun k => A (k + 9)) f x t)) (A 33))) ∧ C_is w h n heat price D A c U kn KS cs m' := by
  have e33 : m 12 5 = A 33 := by
    rw [← hi.2.2.1]
    exact (cS_at0 (s := 12) (j := 5) (by decide)).symm
  intro f
  induction f with
  | zero =>
    intro x s t hx hs ht
    rw [x_wat_6, if_pos (by omega), c_tell3, zb_n, x_wat_69, c_told3 (by decide) (by decide), e33]
    exact ⟨_, rfl, C_tell3 hi _ _ _⟩
  | succ f ih =>
    intro x s t hx hs ht
    rw [x_wat_6, if_neg (by omega), hi.1.1, hi.1.2.1]
    show ∃ m', _ = some (m', some (0, z_add (z_add (x_s A f (x + 1) (z_add s (A x))) (x_s (fun k => A (k + 9)) f (x + 1) (z_add t (A (x + 9))))) (A 33))) ∧ _
    by_cases z : u_hs (w : Int) (h : Int) (x : Int) = 0
    · obtain ⟨z1, z2⟩ := hw.2.1 x (by omega) z
      rw [if_neg (not_not_intro z), z1, z2, z_add0 hs, z_add0 ht, z_add_eq (x := (x : Int)) (y := 1) (by omega) (by omega), tc1]
      exact ih (x + 1) s t (by omega) hs ht
    · have e13 : m 13 x = A x := by
        rw [← hi.2.2.1]
        exact (cS_at1 (s := 12) (by omega)).symm
      have e14 : m 14 x = A (x + 9) := by
        rw [← hi.2.2.1]
        exact (cS_at2 (s := 12) (by omega)).symm
      rw [if_pos z, Int.toNat_natCast, e13, e14, tc1]
      exact ih (x + 1) _ _ (by omega) (by rw [z_add_w]; exact z_w_w) (by rw [z_add_w]; exact z_w_w)
theorem C_water (hi : C_is w h n heat price D A c U kn KS cs m) (hw : wi w h n A) : ∃ m', z_R 137 (m, 0, [(2, 0), (9, 0), (9, 0), (9, 0)], []) = some (m', some (0, x_w A)) ∧ C_is w h n heat price D A c U kn KS cs m' := by
  rw [x_wat_0]
  exact C_wat hi hw 9 0 0 0 (by decide) (by decide +kernel) (by decide +kernel)
theorem R_wat (hi : R_is w h n heat price D A c U kn KS cs m) : ∀ (f x : Nat) (s t : Int), x + f = 9 → ∃ m', z_R 252 (m, 11, [(2, 251), (0, s), (0, t), (0, (x : Int))], []) = some (m', some (0, z_add (z_add (x_s A f x s) (x_s (fun k => A (k + 9)) f x t)) (A 33))) ∧ R_is w h n heat price D A c U kn KS cs m' := by
  have e33 : m 252 33 = A 33 := R_A hi (by decide) (a_vis_hi (by decide))
  intro f
  induction f with
  | zero =>
    intro x s t hx
    rw [x_twa_11, if_pos (by omega), t_tell0, zb_n, x_twa_55, t_tell1, zb_n, x_twa_61, t_tell2, zb_n, x_twa_73, t_told3 (by omega) (by omega), e33]
    exact ⟨_, rfl, R_upn (R_upn (R_upn (R_upn (R_upn (R_upn (R_upn hi (by decide)) (by decide)) (by decide)) (by decide)) (by decide)) (by decide)) (by decide)⟩
  | succ f ih =>
    intro x s t hx
    have e0 : m 252 x = A x := R_A hi (by omega) (a_vis_lo (by omega))
    have e9 : m 252 (x + 9) = A (x + 9) := R_A hi (by omega) (a_vis_lo (by omega))
    rw [x_twa_11, if_neg (by omega), if_pos (show 0 ≤ (x : Int) ∧ (x : Int) < 37 by omega), Int.toNat_natCast, show ((x : Int) + 9).toNat = x + 9 by omega, e0, e9, tc1]
    exact ih (x + 1) _ _ (by omega)
theorem R_water (hi : R_is w h n heat price D A c U kn KS cs m) : ∃ m', z_R 252 (m, 0, [(2, 251), (9, 0), (9, 0), (9, 0)], []) = some (m', some (0, x_w A)) ∧ R_is w h n heat price D A c U kn KS cs m' := by
  have hu := R_upn (p0 := 251) (k0 := 11) (v := 0) hi (by decide)
  rw [x_twa_0]
  exact R_wat hu 9 0 0 0 (by decide)
end
theorem core_share : l_rel2 Rel_C (902, 135, 116, 1, false, 913, 138, 239) := by
  intro M1 M2 M3 σ σ1 σ2 as v1 v2 C1 C2 ρ1 ρ2 ha hR hh hM1 hC1 hp1 hE1 hC2 hp2 hE2
  obtain ⟨p, rfl⟩ := as_one ha
  have hE1 : z_R 116 (z_m σ, 0, [(2, 0), (0, p.toInt), (9, 0), (9, 0)], []) = some (z_m σ1, some (0, v1.toInt)) := z_R_iff.mpr hE1
  have hE2 : z_R 239 (z_m σ1, 0, [(2, 251), (0, p.toInt), (9, 0), (9, 0)], []) = some (z_m σ2, some (0, v2.toInt)) := z_R_iff.mpr hE2
  have hT := T_two (y1 := 116) (y2 := 239) (by decide +kernel) (by decide +kernel) hC1 hC2 hp1 hp2 hR.1
  have hK := core_off_ok (y := 239) (by decide +kernel) hC2 hp2 (core_off_ok (y := 116) (by decide +kernel) hC1 hp1 hR.2)
  obtain ⟨w, h, n, heat, price, D, A, c, U, kn, KS, cs, cC, cR, cW⟩ := hR.2
  obtain ⟨⟨-, -, n5⟩, -⟩ := core_b hh hM1 cR
  have f1 := R_off2_ok (y := 116) (by decide +kernel) hC1 hp1
  have x1 := C_share cC n5 cW.2.1 hE1
  have x2 := R_share (R_fr cR f1) n5 hE2
  exact ⟨⟨hT, hK⟩, fun _ => Int32.toInt_inj.mp (x1.trans x2.symm)⟩
theorem core_water : l_rel2 Rel_C (1095, 163, 137, 0, false, 1100, 166, 252) := by
  intro M1 M2 M3 σ σ1 σ2 as v1 v2 C1 C2 ρ1 ρ2 ha hR hh hM1 hC1 hp1 hE1 hC2 hp2 hE2
  obtain rfl := as_nil ha
  have hE1 : z_R 137 (z_m σ, 0, [(2, 0), (9, 0), (9, 0), (9, 0)], []) = some (z_m σ1, some (0, v1.toInt)) := z_R_iff.mpr hE1
  have hE2 : z_R 252 (z_m σ1, 0, [(2, 251), (9, 0), (9, 0), (9, 0)], []) = some (z_m σ2, some (0, v2.toInt)) := z_R_iff.mpr hE2
  have hT := T_two (y1 := 137) (y2 := 252) (by decide +kernel) (by decide +kernel) hC1 hC2 hp1 hp2 hR.1
  obtain ⟨w, h, n, heat, price, D, A, c, U, kn, KS, cs, cC, cR, cW⟩ := hR.2
  have f1 := R_off2_ok (y := 137) (by decide +kernel) hC1 hp1
  have f2 := C_off_ok (y := 252) (by decide +kernel) hC2 hp2
  have cR1 := R_fr cR f1
  have z := core_do cR1 (fun q => C_fr q f2) (C_water cC cW.2.1) (fun q => R_water q) hE1 hE2
  exact ⟨⟨hT, Core_mk z.1.1 z.1.2 cW⟩, fun _ => z.2⟩
end
section
/-! STRETCHES of rests, with bounds done -/
theorem z_rst_0  (m : z_M) (a : Int) (b : Int) (v : Int) : z_R 135 (m, 0, [(2, 0), (0, a), (0, b), (0, v), (9, 0), (9, 0), (9, 0), (9, 0), (9, 0), (9, 0)], []) = if 0 ≤ a ∧ a < m 3 11 then if 0 ≤ b ∧ b < m 3 11 then if a = b then some (m, some (0, (-1))) else if v < 0 then some (m, some (0, (-1))) else if v ≤ 99 then if 0 ≤ a ∧ a < 5 then if ¬ u_hs (m 3 8) (m 3 9) (m 15 (a).toNat) = 0 then if 0 ≤ b ∧ b < 5 then if m 15 (b).toNat = m 15 (a).toNat then z_R 135 (m, 88, [(2, 0), (0, a), (0, b), (0, v), (0, m 15 (a).toNat), (0, 0), (0, (-1)), (0, 0), (9, 0), (9, 0)], []) else some (m, some (0, (-2))) else none else some (m, some (0, (-2))) else none else some (m, some (0, (-1))) else some (m, some (0, (-1))) else some (m, some (0, (-1))) :=
  have hK : kt_at 135 = kt_135 := rfl
  (z_R_run hK (n := 2) (g' := (m, 4, [(2, 0), (0, a), (0, b), (0, v), (9, 0), (9, 0), (9, 0), (9, 0), (9, 0), (9, 0)], [(2, 3)])) rfl).trans ((z_R_run hK (n := 1) (g' := (m, 5, [(2, 0), (0, a), (0, b), (0, v), (9, 0), (9, 0), (9, 0), (9, 0), (9, 0), (9, 0)], [(0, a), (2, 3)])) rfl).trans (z_R_cif hK rfl rfl rfl rfl rfl (c_ifknows _ _ rfl) (fun h1 => (z_R_run hK (n := 3) (g' := (m, 15, [(2, 0), (0, a), (0, b), (0, v), (9, 0), (9, 0), (9, 0), (9, 0), (9, 0), (9, 0)], [(2, 3)])) rfl).trans ((z_R_run hK (n := 1) (g' := (m, 16, [(2, 0), (0, a), (0, b), (0, v), (9, 0), (9, 0), (9, 0), (9, 0), (9, 0), (9, 0)], [(0, b), (2, 3)])) rfl).trans (z_R_cif hK rfl rfl rfl rfl rfl (c_ifknows _ _ rfl) (fun h2 => (z_R_run hK (n := 3) (g' := (m, 24, [(2, 0), (0, a), (0, b), (0, v), (9, 0), (9, 0), (9, 0), (9, 0), (9, 0), (9, 0)], [(0, b), (0, a)])) rfl).trans (z_R_ifd hK (c := a = b) (p1 := 37) (p2 := 27) rfl rfl rfl (fun h3 => (z_R_run hK (n := 1) (g' := (m, 38, [(2, 0), (0, a), (0, b), (0, v), (9, 0), (9, 0), (9, 0), (9, 0), (9, 0), (9, 0)], [(0, (-1))])) rfl).trans (z_R_ret hK rfl rfl rfl)) (fun h3 => (z_R_run hK (n := 1) (g' := (m, 28, [(2, 0), (0, a), (0, b), (0, v), (9, 0), (9, 0), (9, 0), (9, 0), (9, 0), (9, 0)], [(0, v)])) rfl).trans (z_R_ifd hK (c := v < 0) (p1 := 37) (p2 := 31) rfl rfl rfl (fun h4 => (z_R_run hK (n := 1) (g' := (m, 38, [(2, 0), (0, a), (0, b), (0, v), (9, 0), (9, 0), (9, 0), (9, 0), (9, 0), (9, 0)], [(0, (-1))])) rfl).trans (z_R_ret hK rfl rfl rfl)) (fun h4 => (z_R_run hK (n := 2) (g' := (m, 34, [(2, 0), (0, a), (0, b), (0, v), (9, 0), (9, 0), (9, 0), (9, 0), (9, 0), (9, 0)], [(0, 99), (0, v)])) rfl).trans (z_R_ifd hK (c := v ≤ 99) (p1 := 39) (p2 := 37) rfl rfl rfl (fun h5 => (z_R_run hK (n := 2) (g' := (m, 43, [(2, 0), (0, a), (0, b), (0, v), (9, 0), (9, 0), (9, 0), (9, 0), (9, 0), (9, 0)], [(2, 12)])) rfl).trans ((z_R_run hK (n := 1) (g' := (m, 46, [(2, 0), (0, a), (0, b), (0, v), (9, 0), (9, 0), (9, 0), (9, 0), (9, 0), (9, 0)], [(2, 15)])) rfl).trans ((z_R_run hK (n := 1) (g' := (m, 47, [(2, 0), (0, a), (0, b), (0, v), (9, 0), (9, 0), (9, 0), (9, 0), (9, 0), (9, 0)], [(0, a), (2, 15)])) rfl).trans (z_R_ixD hK (n := 5) (g' := (m, 48, [(2, 0), (0, a), (0, b), (0, v), (9, 0), (9, 0), (9, 0), (9, 0), (9, 0), (9, 0)], [(0, m 15 (a).toNat)])) rfl rfl rfl  (fun h6 => (z_R_run hK (n := 3) (g' := (m, 54, [(2, 0), (0, a), (0, b), (0, v), (0, m 15 (a).toNat), (9, 0), (9, 0), (9, 0), (9, 0), (9, 0)], [(2, 3)])) rfl).trans ((z_R_run hK (n := 1) (g' := (m, 56, [(2, 0), (0, a), (0, b), (0, v), (0, m 15 (a).toNat), (9, 0), (9, 0), (9, 0), (9, 0), (9, 0)], [(0, m 15 (a).toNat), (2, 3)])) rfl).trans (z_R_cif hK rfl rfl rfl rfl rfl (c_ifhas _ _ rfl rfl) (fun h7 => have h10 := u_hs_rng h7; (z_R_run hK (n := 3) (g' := (m, 66, [(2, 0), (0, a), (0, b), (0, v), (0, m 15 (a).toNat), (9, 0), (9, 0), (9, 0), (9, 0), (9, 0)], [(2, 12)])) rfl).trans ((z_R_run hK (n := 1) (g' := (m, 69, [(2, 0), (0, a), (0, b), (0, v), (0, m 15 (a).toNat), (9, 0), (9, 0), (9, 0), (9, 0), (9, 0)], [(2, 15)])) rfl).trans ((z_R_run hK (n := 1) (g' := (m, 70, [(2, 0), (0, a), (0, b), (0, v), (0, m 15 (a).toNat), (9, 0), (9, 0), (9, 0), (9, 0), (9, 0)], [(0, b), (2, 15)])) rfl).trans (z_R_ixD hK (n := 5) (g' := (m, 71, [(2, 0), (0, a), (0, b), (0, v), (0, m 15 (a).toNat), (9, 0), (9, 0), (9, 0), (9, 0), (9, 0)], [(0, m 15 (b).toNat)])) rfl rfl rfl  (fun h8 => (z_R_run hK (n := 1) (g' := (m, 73, [(2, 0), (0, a), (0, b), (0, v), (0, m 15 (a).toNat), (9, 0), (9, 0), (9, 0), (9, 0), (9, 0)], [(0, m 15 (a).toNat), (0, m 15 (b).toNat)])) rfl).trans (z_R_ifd hK (c := m 15 (b).toNat = m 15 (a).toNat) (p1 := 79) (p2 := 76) rfl rfl rfl (fun h9 => (z_R_run hK (n := 6) (g' := (m, 88, [(2, 0), (0, a), (0, b), (0, v), (0, m 15 (a).toNat), (0, 0), (0, (-1)), (0, 0), (9, 0), (9, 0)], [])) rfl).trans (rfl)) (fun h9 => (z_R_run hK (n := 1) (g' := (m, 78, [(2, 0), (0, a), (0, b), (0, v), (0, m 15 (a).toNat), (9, 0), (9, 0), (9, 0), (9, 0), (9, 0)], [(0, (-2))])) rfl).trans (z_R_ret hK rfl rfl rfl)))))))) (fun h7 => (z_R_run hK (n := 2) (g' := (m, 78, [(2, 0), (0, a), (0, b), (0, v), (0, m 15 (a).toNat), (9, 0), (9, 0), (9, 0), (9, 0), (9, 0)], [(0, (-2))])) rfl).trans (z_R_ret hK rfl rfl rfl))))))))) (fun h5 => (z_R_run hK (n := 1) (g' := (m, 38, [(2, 0), (0, a), (0, b), (0, v), (9, 0), (9, 0), (9, 0), (9, 0), (9, 0), (9, 0)], [(0, (-1))])) rfl).trans (z_R_ret hK rfl rfl rfl)))))))) (fun h2 => (z_R_run hK (n := 2) (g' := (m, 38, [(2, 0), (0, a), (0, b), (0, v), (9, 0), (9, 0), (9, 0), (9, 0), (9, 0), (9, 0)], [(0, (-1))])) rfl).trans (z_R_ret hK rfl rfl rfl))))) (fun h1 => (z_R_run hK (n := 2) (g' := (m, 38, [(2, 0), (0, a), (0, b), (0, v), (9, 0), (9, 0), (9, 0), (9, 0), (9, 0), (9, 0)], [(0, (-1))])) rfl).trans (z_R_ret hK rfl rfl rfl))))
theorem z_rst_88  (m : z_M) (x1 : Int) (x2 : Int) (x3 : Int) (x4 : Int) (x5 : Int) (x6 : Int) (x7 : Int) (v8 : z_V) (v9 : z_V) : z_R 135 (m, 88, [(2, 0), (0, x1), (0, x2), (0, x3), (0, x4), (0, x5), (0, x6), (0, x7), v8, v9], []) = if 4 ≤ x7 then (z_R 78 (m, 0, [(2, 0)], [])).bind fun qq => z_R 135 (qq.1, 201, [(2, 0), (0, x1), (0, x2), (0, x3), (0, x4), (0, x5), (0, x6), (0, x7), v8, v9], qq.2.toList ++ []) else (z_R 136 (m, 0, [(2, 0), (0, x1), (0, x2), (0, x3), (0, x7), (0, 0), (9, 0), (9, 0), (9, 0), (9, 0)], [])).bind fun qq => z_R 135 (qq.1, 104, [(2, 0), (0, x1), (0, x2), (0, x3), (0, x4), (0, x5), (0, x6), (0, x7), v8, v9], qq.2.toList ++ []) :=
  have hK : kt_at 135 = kt_135 := rfl
  (z_R_run hK (n := 2) (g' := (m, 91, [(2, 0), (0, x1), (0, x2), (0, x3), (0, x4), (0, x5), (0, x6), (0, x7), v8, v9], [(0, 4), (0, x7)])) rfl).trans (z_R_ifd hK (c := 4 ≤ x7) (p1 := 197) (p2 := 94) rfl rfl rfl (fun h1 => (z_R_run hK (n := 1) (g' := (m, 198, [(2, 0), (0, x1), (0, x2), (0, x3), (0, x4), (0, x5), (0, x6), (0, x7), v8, v9], [(2, 0)])) rfl).trans (z_R_call hK rfl rfl rfl rfl rfl)) (fun h1 => (z_R_run hK (n := 6) (g' := (m, 101, [(2, 0), (0, x1), (0, x2), (0, x3), (0, x4), (0, x5), (0, x6), (0, x7), v8, v9], [(0, 0), (0, x7), (0, x3), (0, x2), (0, x1), (2, 0)])) rfl).trans (z_R_call hK rfl rfl rfl rfl rfl)))
theorem z_rst_104  (m : z_M) (x1 : Int) (x2 : Int) (x3 : Int) (x4 : Int) (x5 : Int) (x6 : Int) (x7 : Int) (v8 : z_V) (v9 : z_V) (u : Int) : z_R 135 (m, 104, [(2, 0), (0, x1), (0, x2), (0, x3), (0, x4), (0, x5), (0, x6), (0, x7), v8, v9], [(0, u)]) = (z_R 136 (m, 0, [(2, 0), (0, x1), (0, x2), (0, x3), (0, z_xor x7 1), (0, 0), (9, 0), (9, 0), (9, 0), (9, 0)], [])).bind fun qq => z_R 135 (qq.1, 116, [(2, 0), (0, x1), (0, x2), (0, x3), (0, x4), (0, x5), (0, x6), (0, x7), v8, v9], qq.2.toList ++ [(0, u)]) :=
  have hK : kt_at 135 = kt_135 := rfl
  (z_R_run hK (n := 8) (g' := (m, 113, [(2, 0), (0, x1), (0, x2), (0, x3), (0, x4), (0, x5), (0, x6), (0, x7), v8, v9], [(0, 0), (0, z_xor x7 1), (0, x3), (0, x2), (0, x1), (2, 0), (0, u)])) rfl).trans (z_R_call hK rfl rfl rfl rfl rfl)
theorem z_rst_116  (m : z_M) (x1 : Int) (x2 : Int) (x3 : Int) (x4 : Int) (x5 : Int) (x6 : Int) (x7 : Int) (v8 : z_V) (v9 : z_V) (s0 : Int) (u : Int) : z_R 135 (m, 116, [(2, 0), (0, x1), (0, x2), (0, x3), (0, x4), (0, x5), (0, x6), (0, x7), v8, v9], [(0, u), (0, s0)]) = if s0 < u then (z_R 136 (m, 0, [(2, 0), (0, x1), (0, x2), (0, x3), (0, x7), (0, 1), (9, 0), (9, 0), (9, 0), (9, 0)], [])).bind fun qq => z_R 135 (qq.1, 136, [(2, 0), (0, x1), (0, x2), (0, x3), (0, x4), (0, x5), (0, x6), (0, x7), (0, 0), v9], qq.2.toList ++ []) else (z_R 136 (m, 0, [(2, 0), (0, x1), (0, x2), (0, x3), (0, x7), (0, 1), (9, 0), (9, 0), (9, 0), (9, 0)], [])).bind fun qq => z_R 135 (qq.1, 136, [(2, 0), (0, x1), (0, x2), (0, x3), (0, x4), (0, x5), (0, x6), (0, x7), (0, 1), v9], qq.2.toList ++ []) :=
  have hK : kt_at 135 = kt_135 := rfl
  z_R_ifd hK (c := s0 < u) (p1 := 123) (p2 := 119) rfl rfl rfl (fun h1 => (z_R_run hK (n := 8) (g' := (m, 133, [(2, 0), (0, x1), (0, x2), (0, x3), (0, x4), (0, x5), (0, x6), (0, x7), (0, 0), v9], [(0, 1), (0, x7), (0, x3), (0, x2), (0, x1), (2, 0)])) rfl).trans (z_R_call hK rfl rfl rfl rfl rfl)) (fun h1 => (z_R_run hK (n := 9) (g' := (m, 133, [(2, 0), (0, x1), (0, x2), (0, x3), (0, x4), (0, x5), (0, x6), (0, x7), (0, 1), v9], [(0, 1), (0, x7), (0, x3), (0, x2), (0, x1), (2, 0)])) rfl).trans (z_R_call hK rfl rfl rfl rfl rfl))
theorem z_rst_136  (m : z_M) (x1 : Int) (x2 : Int) (x3 : Int) (x4 : Int) (x5 : Int) (x6 : Int) (x7 : Int) (x8 : Int) (v9 : z_V) (u : Int) : z_R 135 (m, 136, [(2, 0), (0, x1), (0, x2), (0, x3), (0, x4), (0, x5), (0, x6), (0, x7), (0, x8), v9], [(0, u)]) = (z_R 136 (m, 0, [(2, 0), (0, x1), (0, x2), (0, x3), (0, z_xor x7 2), (0, 1), (9, 0), (9, 0), (9, 0), (9, 0)], [])).bind fun qq => z_R 135 (qq.1, 148, [(2, 0), (0, x1), (0, x2), (0, x3), (0, x4), (0, x5), (0, x6), (0, x7), (0, x8), v9], qq.2.toList ++ [(0, u)]) :=
  have hK : kt_at 135 = kt_135 := rfl
  (z_R_run hK (n := 8) (g' := (m, 145, [(2, 0), (0, x1), (0, x2), (0, x3), (0, x4), (0, x5), (0, x6), (0, x7), (0, x8), v9], [(0, 1), (0, z_xor x7 2), (0, x3), (0, x2), (0, x1), (2, 0), (0, u)])) rfl).trans (z_R_call hK rfl rfl rfl rfl rfl)
theorem z_rst_148  (m : z_M) (x1 : Int) (x2 : Int) (x3 : Int) (x4 : Int) (x5 : Int) (x6 : Int) (x7 : Int) (x8 : Int) (v9 : z_V) (s0 : Int) (u : Int) : z_R 135 (m, 148, [(2, 0), (0, x1), (0, x2), (0, x3), (0, x4), (0, x5), (0, x6), (0, x7), (0, x8), v9], [(0, u), (0, s0)]) = if s0 < u then if x8 = 0 then z_R 135 (m, 88, [(2, 0), (0, x1), (0, x2), (0, x3), (0, x4), (0, x5), (0, x6), (0, z_add x7 1), (0, x8), (0, 0)], []) else z_R 135 (m, 88, [(2, 0), (0, x1), (0, x2), (0, x3), (0, x4), (0, x5), (0, x6), (0, z_add x7 1), (0, x8), (0, 0)], []) else if x8 = 0 then z_R 135 (m, 88, [(2, 0), (0, x1), (0, x2), (0, x3), (0, x4), (0, x5), (0, x6), (0, z_add x7 1), (0, x8), (0, 1)], []) else if x5 = 0 then z_R 135 (m, 88, [(2, 0), (0, x1), (0, x2), (0, x3), (0, x4), (0, z_or x5 (z_shl 1 x7)), (0, x7), (0, z_add x7 1), (0, x8), (0, 1)], []) else z_R 135 (m, 88, [(2, 0), (0, x1), (0, x2), (0, x3), (0, x4), (0, z_or x5 (z_shl 1 x7)), (0, x6), (0, z_add x7 1), (0, x8), (0, 1)], []) :=
  have hK : kt_at 135 = kt_135 := rfl
  z_R_ifd hK (c := s0 < u) (p1 := 155) (p2 := 151) rfl rfl rfl (fun h1 => (z_R_run hK (n := 3) (g' := (m, 160, [(2, 0), (0, x1), (0, x2), (0, x3), (0, x4), (0, x5), (0, x6), (0, x7), (0, x8), (0, 0)], [(0, x8)])) rfl).trans (z_R_ifd hK (c := x8 = 0) (p1 := 191) (p2 := 163) rfl rfl rfl (fun h2 => (z_R_run hK (n := 2) (g' := (m, 88, [(2, 0), (0, x1), (0, x2), (0, x3), (0, x4), (0, x5), (0, x6), (0, z_add x7 1), (0, x8), (0, 0)], [])) rfl).trans (rfl)) (fun h2 => (z_R_run hK (n := 4) (g' := (m, 88, [(2, 0), (0, x1), (0, x2), (0, x3), (0, x4), (0, x5), (0, x6), (0, z_add x7 1), (0, x8), (0, 0)], [])) rfl).trans (rfl)))) (fun h1 => (z_R_run hK (n := 4) (g' := (m, 160, [(2, 0), (0, x1), (0, x2), (0, x3), (0, x4), (0, x5), (0, x6), (0, x7), (0, x8), (0, 1)], [(0, x8)])) rfl).trans (z_R_ifd hK (c := x8 = 0) (p1 := 191) (p2 := 163) rfl rfl rfl (fun h3 => (z_R_run hK (n := 2) (g' := (m, 88, [(2, 0), (0, x1), (0, x2), (0, x3), (0, x4), (0, x5), (0, x6), (0, z_add x7 1), (0, x8), (0, 1)], [])) rfl).trans (rfl)) (fun h3 => (z_R_run hK (n := 3) (g' := (m, 170, [(2, 0), (0, x1), (0, x2), (0, x3), (0, x4), (0, x5), (0, x6), (0, x7), (0, x8), (0, 1)], [(0, x5)])) rfl).trans (z_R_ifnd hK (c := x5 = 0) (p1 := 178) (p2 := 173) rfl rfl rfl (fun h4 => (z_R_run hK (n := 10) (g' := (m, 88, [(2, 0), (0, x1), (0, x2), (0, x3), (0, x4), (0, z_or x5 (z_shl 1 x7)), (0, x6), (0, z_add x7 1), (0, x8), (0, 1)], [])) rfl).trans (rfl)) (fun h4 => (z_R_run hK (n := 11) (g' := (m, 88, [(2, 0), (0, x1), (0, x2), (0, x3), (0, x4), (0, z_or x5 (z_shl 1 x7)), (0, x7), (0, z_add x7 1), (0, x8), (0, 1)], [])) rfl).trans (rfl))))))
theorem z_rst_201  (m : z_M) (x1 : Int) (x2 : Int) (x3 : Int) (x4 : Int) (x5 : Int) (x6 : Int) (x7 : Int) (v8 : z_V) (v9 : z_V) : z_R 135 (m, 201, [(2, 0), (0, x1), (0, x2), (0, x3), (0, x4), (0, x5), (0, x6), (0, x7), v8, v9], []) = if x5 = 0 then some (m, some (0, x5)) else (z_R 136 (m, 0, [(2, 0), (0, x1), (0, x2), (0, x3), (0, x6), (0, 0), (9, 0), (9, 0), (9, 0), (9, 0)], [])).bind fun qq => z_R 135 (qq.1, 217, [(2, 0), (0, x1), (0, x2), (0, x3), (0, x4), (0, x5), (0, x6), (0, x7), v8, v9], qq.2.toList ++ [(2, 0)]) :=
  have hK : kt_at 135 = kt_135 := rfl
  (z_R_run hK (n := 1) (g' := (m, 203, [(2, 0), (0, x1), (0, x2), (0, x3), (0, x4), (0, x5), (0, x6), (0, x7), v8, v9], [(0, x5)])) rfl).trans (z_R_ifd hK (c := x5 = 0) (p1 := 236) (p2 := 206) rfl rfl rfl (fun h1 => (z_R_run hK (n := 1) (g' := (m, 238, [(2, 0), (0, x1), (0, x2), (0, x3), (0, x4), (0, x5), (0, x6), (0, x7), v8, v9], [(0, x5)])) rfl).trans (z_R_ret hK rfl rfl rfl)) (fun h1 => (z_R_run hK (n := 7) (g' := (m, 214, [(2, 0), (0, x1), (0, x2), (0, x3), (0, x4), (0, x5), (0, x6), (0, x7), v8, v9], [(0, 0), (0, x6), (0, x3), (0, x2), (0, x1), (2, 0), (2, 0)])) rfl).trans (z_R_call hK rfl rfl rfl rfl rfl)))
theorem z_rst_217  (m : z_M) (x1 : Int) (x2 : Int) (x3 : Int) (x4 : Int) (x5 : Int) (x6 : Int) (x7 : Int) (v8 : z_V) (v9 : z_V) (u : Int) : z_R 135 (m, 217, [(2, 0), (0, x1), (0, x2), (0, x3), (0, x4), (0, x5), (0, x6), (0, x7), v8, v9], [(0, u), (2, 0)]) = (z_R 79 (m, 0, [(2, 0), (1, z_i2l u), (9, 0)], [])).bind fun qq => z_R 135 (qq.1, 221, [(2, 0), (0, x1), (0, x2), (0, x3), (0, x4), (0, x5), (0, x6), (0, x7), v8, v9], qq.2.toList ++ []) :=
  have hK : kt_at 135 = kt_135 := rfl
  (z_R_run hK (n := 1) (g' := (m, 218, [(2, 0), (0, x1), (0, x2), (0, x3), (0, x4), (0, x5), (0, x6), (0, x7), v8, v9], [(1, z_i2l u), (2, 0)])) rfl).trans (z_R_call hK rfl rfl rfl rfl rfl)
theorem z_rst_221  (m : z_M) (x1 : Int) (x2 : Int) (x3 : Int) (x4 : Int) (x5 : Int) (x6 : Int) (x7 : Int) (v8 : z_V) (v9 : z_V) : z_R 135 (m, 221, [(2, 0), (0, x1), (0, x2), (0, x3), (0, x4), (0, x5), (0, x6), (0, x7), v8, v9], []) = (z_R 136 (m, 0, [(2, 0), (0, x1), (0, x2), (0, x3), (0, x6), (0, 1), (9, 0), (9, 0), (9, 0), (9, 0)], [])).bind fun qq => z_R 135 (qq.1, 232, [(2, 0), (0, x1), (0, x2), (0, x3), (0, x4), (0, x5), (0, x6), (0, x7), v8, v9], qq.2.toList ++ [(2, 0)]) :=
  have hK : kt_at 135 = kt_135 := rfl
  (z_R_run hK (n := 7) (g' := (m, 229, [(2, 0), (0, x1), (0, x2), (0, x3), (0, x4), (0, x5), (0, x6), (0, x7), v8, v9], [(0, 1), (0, x6), (0, x3), (0, x2), (0, x1), (2, 0), (2, 0)])) rfl).trans (z_R_call hK rfl rfl rfl rfl rfl)
theorem z_rst_232  (m : z_M) (x1 : Int) (x2 : Int) (x3 : Int) (x4 : Int) (x5 : Int) (x6 : Int) (x7 : Int) (v8 : z_V) (v9 : z_V) (u : Int) : z_R 135 (m, 232, [(2, 0), (0, x1), (0, x2), (0, x3), (0, x4), (0, x5), (0, x6), (0, x7), v8, v9], [(0, u), (2, 0)]) = (z_R 79 (m, 0, [(2, 0), (1, z_i2l u), (9, 0)], [])).bind fun qq => z_R 135 (qq.1, 236, [(2, 0), (0, x1), (0, x2), (0, x3), (0, x4), (0, x5), (0, x6), (0, x7), v8, v9], qq.2.toList ++ []) :=
  have hK : kt_at 135 = kt_135 := rfl
  (z_R_run hK (n := 1) (g' := (m, 233, [(2, 0), (0, x1), (0, x2), (0, x3), (0, x4), (0, x5), (0, x6), (0, x7), v8, v9], [(1, z_i2l u), (2, 0)])) rfl).trans (z_R_call hK rfl rfl rfl rfl rfl)
theorem z_rst_236  (m : z_M) (x1 : Int) (x2 : Int) (x3 : Int) (x4 : Int) (x5 : Int) (x6 : Int) (x7 : Int) (v8 : z_V) (v9 : z_V) : z_R 135 (m, 236, [(2, 0), (0, x1), (0, x2), (0, x3), (0, x4), (0, x5), (0, x6), (0, x7), v8, v9], []) = some (m, some (0, x5)) :=
  have hK : kt_at 135 = kt_135 := rfl
  (z_R_run hK (n := 1) (g' := (m, 238, [(2, 0), (0, x1), (0, x2), (0, x3), (0, x4), (0, x5), (0, x6), (0, x7), v8, v9], [(0, x5)])) rfl).trans (z_R_ret hK rfl rfl rfl)
theorem z_gai_0  (m : z_M) (a : Int) (b : Int) (v : Int) (y : Int) (z : Int) (h_y : 0 ≤ y ∧ y ≤ 3) (h_z : 0 ≤ z ∧ z ≤ 1) : z_R 136 (m, 0, [(2, 0), (0, a), (0, b), (0, v), (0, y), (0, z), (9, 0), (9, 0), (9, 0), (9, 0)], []) = if 0 ≤ a ∧ a < 5 then (z_R 121 (m, 0, [(2, 24), (2, 12), (0, m 15 (a).toNat)], [])).bind fun qq => z_R 136 (qq.1, 24, [(2, 0), (0, a), (0, b), (0, v), (0, y), (0, z), (0, m 15 (a).toNat), (9, 0), (9, 0), (9, 0)], qq.2.toList ++ []) else none :=
  have hK : kt_at 136 = kt_136 := rfl
  (z_R_run hK (n := 2) (g' := (m, 4, [(2, 0), (0, a), (0, b), (0, v), (0, y), (0, z), (9, 0), (9, 0), (9, 0), (9, 0)], [(2, 12)])) rfl).trans ((z_R_run hK (n := 1) (g' := (m, 7, [(2, 0), (0, a), (0, b), (0, v), (0, y), (0, z), (9, 0), (9, 0), (9, 0), (9, 0)], [(2, 15)])) rfl).trans ((z_R_run hK (n := 1) (g' := (m, 8, [(2, 0), (0, a), (0, b), (0, v), (0, y), (0, z), (9, 0), (9, 0), (9, 0), (9, 0)], [(0, a), (2, 15)])) rfl).trans (z_R_ixD hK (n := 5) (g' := (m, 9, [(2, 0), (0, a), (0, b), (0, v), (0, y), (0, z), (9, 0), (9, 0), (9, 0), (9, 0)], [(0, m 15 (a).toNat)])) rfl rfl rfl  (fun h1 => (z_R_run hK (n := 3) (g' := (m, 15, [(2, 0), (0, a), (0, b), (0, v), (0, y), (0, z), (0, m 15 (a).toNat), (9, 0), (9, 0), (9, 0)], [(2, 24)])) rfl).trans ((z_R_run hK (n := 2) (g' := (m, 19, [(2, 0), (0, a), (0, b), (0, v), (0, y), (0, z), (0, m 15 (a).toNat), (9, 0), (9, 0), (9, 0)], [(2, 12), (2, 24)])) rfl).trans ((z_R_run hK (n := 1) (g' := (m, 21, [(2, 0), (0, a), (0, b), (0, v), (0, y), (0, z), (0, m 15 (a).toNat), (9, 0), (9, 0), (9, 0)], [(0, m 15 (a).toNat), (2, 12), (2, 24)])) rfl).trans (z_R_call hK rfl rfl rfl rfl rfl)))))))
theorem z_gai_24  (m : z_M) (x1 : Int) (x2 : Int) (x3 : Int) (x4 : Int) (x5 : Int) (x6 : Int) (u : Int) : z_R 136 (m, 24, [(2, 0), (0, x1), (0, x2), (0, x3), (0, x4), (0, x5), (0, x6), (9, 0), (9, 0), (9, 0)], [(0, u)]) = if z_and x4 1 = 0 then (z_R 70 (m, 0, [(2, 24), (0, x1), (0, m 12 7), (9, 0)], [])).bind fun qq => z_R 136 (qq.1, 50, [(2, 0), (0, x1), (0, x2), (0, x3), (0, x4), (0, x5), (0, x6), (0, u), (9, 0), (9, 0)], qq.2.toList ++ [(0, u)]) else if z_and x4 2 = 0 then (z_R 70 (m, 0, [(2, 24), (0, x2), (0, m 12 7), (9, 0)], [])).bind fun qq => z_R 136 (qq.1, 77, [(2, 0), (0, x1), (0, x2), (0, x3), (0, x4), (0, x5), (0, x6), (0, u), (9, 0), (9, 0)], qq.2.toList ++ [(0, u)]) else (z_R 100 (m, 0, [(2, 3), (2, 12), (0, x6), (9, 0), (9, 0)], [])).bind fun qq => z_R 136 (qq.1, 93, [(2, 0), (0, x1), (0, x2), (0, x3), (0, x4), (0, x5), (0, x6), (0, u), (9, 0), (9, 0)], qq.2.toList ++ []) :=
  have hK : kt_at 136 = kt_136 := rfl
  (z_R_run hK (n := 4) (g' := (m, 30, [(2, 0), (0, x1), (0, x2), (0, x3), (0, x4), (0, x5), (0, x6), (0, u), (9, 0), (9, 0)], [(0, z_and x4 1)])) rfl).trans (z_R_ifnd hK (c := z_and x4 1 = 0) (p1 := 53) (p2 := 33) rfl rfl rfl (fun h1 => (z_R_run hK (n := 3) (g' := (m, 57, [(2, 0), (0, x1), (0, x2), (0, x3), (0, x4), (0, x5), (0, x6), (0, u), (9, 0), (9, 0)], [(0, z_and x4 2)])) rfl).trans (z_R_ifnd hK (c := z_and x4 2 = 0) (p1 := 80) (p2 := 60) rfl rfl rfl (fun h2 => (z_R_run hK (n := 2) (g' := (m, 84, [(2, 0), (0, x1), (0, x2), (0, x3), (0, x4), (0, x5), (0, x6), (0, u), (9, 0), (9, 0)], [(2, 3)])) rfl).trans ((z_R_run hK (n := 2) (g' := (m, 88, [(2, 0), (0, x1), (0, x2), (0, x3), (0, x4), (0, x5), (0, x6), (0, u), (9, 0), (9, 0)], [(2, 12), (2, 3)])) rfl).trans ((z_R_run hK (n := 1) (g' := (m, 90, [(2, 0), (0, x1), (0, x2), (0, x3), (0, x4), (0, x5), (0, x6), (0, u), (9, 0), (9, 0)], [(0, x6), (2, 12), (2, 3)])) rfl).trans (z_R_call hK rfl rfl rfl rfl rfl)))) (fun h2 => (z_R_run hK (n := 3) (g' := (m, 66, [(2, 0), (0, x1), (0, x2), (0, x3), (0, x4), (0, x5), (0, x6), (0, u), (9, 0), (9, 0)], [(2, 24), (0, u)])) rfl).trans ((z_R_run hK (n := 3) (g' := (m, 71, [(2, 0), (0, x1), (0, x2), (0, x3), (0, x4), (0, x5), (0, x6), (0, u), (9, 0), (9, 0)], [(2, 12), (0, x2), (2, 24), (0, u)])) rfl).trans ((z_R_run hK (n := 1) (g' := (m, 74, [(2, 0), (0, x1), (0, x2), (0, x3), (0, x4), (0, x5), (0, x6), (0, u), (9, 0), (9, 0)], [(0, m 12 7), (0, x2), (2, 24), (0, u)])) rfl).trans (z_R_call hK rfl rfl rfl rfl rfl)))))) (fun h1 => (z_R_run hK (n := 3) (g' := (m, 39, [(2, 0), (0, x1), (0, x2), (0, x3), (0, x4), (0, x5), (0, x6), (0, u), (9, 0), (9, 0)], [(2, 24), (0, u)])) rfl).trans ((z_R_run hK (n := 3) (g' := (m, 44, [(2, 0), (0, x1), (0, x2), (0, x3), (0, x4), (0, x5), (0, x6), (0, u), (9, 0), (9, 0)], [(2, 12), (0, x1), (2, 24), (0, u)])) rfl).trans ((z_R_run hK (n := 1) (g' := (m, 47, [(2, 0), (0, x1), (0, x2), (0, x3), (0, x4), (0, x5), (0, x6), (0, u), (9, 0), (9, 0)], [(0, m 12 7), (0, x1), (2, 24), (0, u)])) rfl).trans (z_R_call hK rfl rfl rfl rfl rfl)))))
theorem z_gai_50  (m : z_M) (x1 : Int) (x2 : Int) (x3 : Int) (x4 : Int) (x5 : Int) (x6 : Int) (x7 : Int) (s0 : Int) (u : Int) : z_R 136 (m, 50, [(2, 0), (0, x1), (0, x2), (0, x3), (0, x4), (0, x5), (0, x6), (0, x7), (9, 0), (9, 0)], [(0, u), (0, s0)]) = if z_and x4 2 = 0 then (z_R 70 (m, 0, [(2, 24), (0, x2), (0, m 12 7), (9, 0)], [])).bind fun qq => z_R 136 (qq.1, 77, [(2, 0), (0, x1), (0, x2), (0, x3), (0, x4), (0, x5), (0, x6), (0, z_sub s0 u), (9, 0), (9, 0)], qq.2.toList ++ [(0, z_sub s0 u)]) else (z_R 100 (m, 0, [(2, 3), (2, 12), (0, x6), (9, 0), (9, 0)], [])).bind fun qq => z_R 136 (qq.1, 93, [(2, 0), (0, x1), (0, x2), (0, x3), (0, x4), (0, x5), (0, x6), (0, z_sub s0 u), (9, 0), (9, 0)], qq.2.toList ++ []) :=
  have hK : kt_at 136 = kt_136 := rfl
  (z_R_run hK (n := 5) (g' := (m, 57, [(2, 0), (0, x1), (0, x2), (0, x3), (0, x4), (0, x5), (0, x6), (0, z_sub s0 u), (9, 0), (9, 0)], [(0, z_and x4 2)])) rfl).trans (z_R_ifnd hK (c := z_and x4 2 = 0) (p1 := 80) (p2 := 60) rfl rfl rfl (fun h1 => (z_R_run hK (n := 2) (g' := (m, 84, [(2, 0), (0, x1), (0, x2), (0, x3), (0, x4), (0, x5), (0, x6), (0, z_sub s0 u), (9, 0), (9, 0)], [(2, 3)])) rfl).trans ((z_R_run hK (n := 2) (g' := (m, 88, [(2, 0), (0, x1), (0, x2), (0, x3), (0, x4), (0, x5), (0, x6), (0, z_sub s0 u), (9, 0), (9, 0)], [(2, 12), (2, 3)])) rfl).trans ((z_R_run hK (n := 1) (g' := (m, 90, [(2, 0), (0, x1), (0, x2), (0, x3), (0, x4), (0, x5), (0, x6), (0, z_sub s0 u), (9, 0), (9, 0)], [(0, x6), (2, 12), (2, 3)])) rfl).trans (z_R_call hK rfl rfl rfl rfl rfl)))) (fun h1 => (z_R_run hK (n := 3) (g' := (m, 66, [(2, 0), (0, x1), (0, x2), (0, x3), (0, x4), (0, x5), (0, x6), (0, z_sub s0 u), (9, 0), (9, 0)], [(2, 24), (0, z_sub s0 u)])) rfl).trans ((z_R_run hK (n := 3) (g' := (m, 71, [(2, 0), (0, x1), (0, x2), (0, x3), (0, x4), (0, x5), (0, x6), (0, z_sub s0 u), (9, 0), (9, 0)], [(2, 12), (0, x2), (2, 24), (0, z_sub s0 u)])) rfl).trans ((z_R_run hK (n := 1) (g' := (m, 74, [(2, 0), (0, x1), (0, x2), (0, x3), (0, x4), (0, x5), (0, x6), (0, z_sub s0 u), (9, 0), (9, 0)], [(0, m 12 7), (0, x2), (2, 24), (0, z_sub s0 u)])) rfl).trans (z_R_call hK rfl rfl rfl rfl rfl)))))
theorem z_gai_77  (m : z_M) (x1 : Int) (x2 : Int) (x3 : Int) (x4 : Int) (x5 : Int) (x6 : Int) (x7 : Int) (s0 : Int) (u : Int) : z_R 136 (m, 77, [(2, 0), (0, x1), (0, x2), (0, x3), (0, x4), (0, x5), (0, x6), (0, x7), (9, 0), (9, 0)], [(0, u), (0, s0)]) = (z_R 100 (m, 0, [(2, 3), (2, 12), (0, x6), (9, 0), (9, 0)], [])).bind fun qq => z_R 136 (qq.1, 93, [(2, 0), (0, x1), (0, x2), (0, x3), (0, x4), (0, x5), (0, x6), (0, z_sub s0 u), (9, 0), (9, 0)], qq.2.toList ++ []) :=
  have hK : kt_at 136 = kt_136 := rfl
  (z_R_run hK (n := 4) (g' := (m, 84, [(2, 0), (0, x1), (0, x2), (0, x3), (0, x4), (0, x5), (0, x6), (0, z_sub s0 u), (9, 0), (9, 0)], [(2, 3)])) rfl).trans ((z_R_run hK (n := 2) (g' := (m, 88, [(2, 0), (0, x1), (0, x2), (0, x3), (0, x4), (0, x5), (0, x6), (0, z_sub s0 u), (9, 0), (9, 0)], [(2, 12), (2, 3)])) rfl).trans ((z_R_run hK (n := 1) (g' := (m, 90, [(2, 0), (0, x1), (0, x2), (0, x3), (0, x4), (0, x5), (0, x6), (0, z_sub s0 u), (9, 0), (9, 0)], [(0, x6), (2, 12), (2, 3)])) rfl).trans (z_R_call hK rfl rfl rfl rfl rfl)))
theorem z_gai_93  (m : z_M) (x1 : Int) (x2 : Int) (x3 : Int) (x4 : Int) (x5 : Int) (x6 : Int) (x7 : Int) (u : Int) : z_R 136 (m, 93, [(2, 0), (0, x1), (0, x2), (0, x3), (0, x4), (0, x5), (0, x6), (0, x7), (9, 0), (9, 0)], [(0, u)]) = (z_R 101 (m, 0, [(0, u)], [])).bind fun qq => z_R 136 (qq.1, 96, [(2, 0), (0, x1), (0, x2), (0, x3), (0, x4), (0, x5), (0, x6), (0, x7), (9, 0), (9, 0)], qq.2.toList ++ []) :=
  have hK : kt_at 136 = kt_136 := rfl
  z_R_call hK rfl rfl rfl rfl rfl
theorem z_gai_96  (m : z_M) (x1 : Int) (x2 : Int) (x3 : Int) (x4 : Int) (x5 : Int) (x6 : Int) (x7 : Int) (u : Int) : z_R 136 (m, 96, [(2, 0), (0, x1), (0, x2), (0, x3), (0, x4), (0, x5), (0, x6), (0, x7), (9, 0), (9, 0)], [(0, u)]) = (z_R 120 (m, 0, [(2, 24), (2, 12), (0, x6), (0, x7), (0, u)], [])).bind fun qq => z_R 136 (qq.1, 115, [(2, 0), (0, x1), (0, x2), (0, x3), (0, x4), (0, x5), (0, x6), (0, x7), (0, u), (9, 0)], qq.2.toList ++ []) :=
  have hK : kt_at 136 = kt_136 := rfl
  (z_R_run hK (n := 3) (g' := (m, 102, [(2, 0), (0, x1), (0, x2), (0, x3), (0, x4), (0, x5), (0, x6), (0, x7), (0, u), (9, 0)], [(2, 24)])) rfl).trans ((z_R_run hK (n := 2) (g' := (m, 106, [(2, 0), (0, x1), (0, x2), (0, x3), (0, x4), (0, x5), (0, x6), (0, x7), (0, u), (9, 0)], [(2, 12), (2, 24)])) rfl).trans ((z_R_run hK (n := 3) (g' := (m, 112, [(2, 0), (0, x1), (0, x2), (0, x3), (0, x4), (0, x5), (0, x6), (0, x7), (0, u), (9, 0)], [(0, u), (0, x7), (0, x6), (2, 12), (2, 24)])) rfl).trans (z_R_call hK rfl rfl rfl rfl rfl)))
theorem z_gai_115  (m : z_M) (x1 : Int) (x2 : Int) (x3 : Int) (x4 : Int) (x5 : Int) (x6 : Int) (x7 : Int) (x8 : Int) (u : Int) : z_R 136 (m, 115, [(2, 0), (0, x1), (0, x2), (0, x3), (0, x4), (0, x5), (0, x6), (0, x7), (0, x8), (9, 0)], [(0, u)]) = if z_and (z_shr x4 x5) 1 = 0 then some (m, some (0, z_sub 0 u)) else some (m, some (0, z_sub x3 u)) :=
  have hK : kt_at 136 = kt_136 := rfl
  (z_R_run hK (n := 6) (g' := (m, 124, [(2, 0), (0, x1), (0, x2), (0, x3), (0, x4), (0, x5), (0, x6), (0, x7), (0, x8), (0, u)], [(0, z_and (z_shr x4 x5) 1)])) rfl).trans (z_R_ifd hK (c := z_and (z_shr x4 x5) 1 = 0) (p1 := 131) (p2 := 127) rfl rfl rfl (fun h1 => (z_R_run hK (n := 3) (g' := (m, 135, [(2, 0), (0, x1), (0, x2), (0, x3), (0, x4), (0, x5), (0, x6), (0, x7), (0, x8), (0, u)], [(0, z_sub 0 u)])) rfl).trans (z_R_ret hK rfl rfl rfl)) (fun h1 => (z_R_run hK (n := 4) (g' := (m, 135, [(2, 0), (0, x1), (0, x2), (0, x3), (0, x4), (0, x5), (0, x6), (0, x7), (0, x8), (0, u)], [(0, z_sub x3 u)])) rfl).trans (z_R_ret hK rfl rfl rfl)))
theorem z_trs_0  (m : z_M) (a : Int) (b : Int) (v : Int) (h_n : 0 ≤ m 251 3 ∧ m 251 3 ≤ 5) : z_R 251 (m, 0, [(2, 251), (0, a), (0, b), (0, v), (9, 0), (9, 0), (9, 0), (9, 0), (9, 0), (9, 0)], []) = if 0 ≤ a ∧ a < m 251 3 then if 0 ≤ b ∧ b < m 251 3 then if a = b then some (z_up m 251 11 0, some (0, (-1))) else if 0 ≤ v ∧ v ≤ 99 then if m 252 (a + 18).toNat = (-1) then some (z_up m 251 11 0, some (0, (-2))) else if m 252 (b + 18).toNat = m 252 (a + 18).toNat then (z_R 183 (z_up m 251 11 0, 0, [(2, 251), (2, 252), (0, m 252 (a + 18).toNat), (9, 0), (9, 0)], [])).bind fun qq => z_R 251 (qq.1, 82, [(2, 251), (0, a), (0, b), (0, v), (0, m 252 (a + 18).toNat), (9, 0), (9, 0), (9, 0), (9, 0), (9, 0)], qq.2.toList ++ []) else some (z_up m 251 11 0, some (0, (-2))) else some (z_up m 251 11 0, some (0, (-1))) else some (z_up m 251 11 0, some (0, (-1))) else some (z_up m 251 11 0, some (0, (-1))) :=
  have hK : kt_at 251 = kt_251 := rfl
  (z_R_run hK (n := 5) (g' := (z_up m 251 11 0, 7, [(2, 251), (0, a), (0, b), (0, v), (9, 0), (9, 0), (9, 0), (9, 0), (9, 0), (9, 0)], [(0, a), (2, 251)])) rfl).trans (z_R_cif hK rfl rfl rfl rfl rfl (t_ifperson _ _ (zu_k (by decide)) h_n) (fun h1 => (z_R_run hK (n := 3) (g' := (z_up m 251 11 0, 15, [(2, 251), (0, a), (0, b), (0, v), (9, 0), (9, 0), (9, 0), (9, 0), (9, 0), (9, 0)], [(0, b), (2, 251)])) rfl).trans (z_R_cif hK rfl rfl rfl rfl rfl (t_ifperson _ _ (zu_k (by decide)) h_n) (fun h2 => (z_R_run hK (n := 3) (g' := (z_up m 251 11 0, 23, [(2, 251), (0, a), (0, b), (0, v), (9, 0), (9, 0), (9, 0), (9, 0), (9, 0), (9, 0)], [(0, b), (0, a)])) rfl).trans (z_R_ifd hK (c := a = b) (p1 := 36) (p2 := 26) rfl rfl rfl (fun h3 => (z_R_run hK (n := 1) (g' := (z_up m 251 11 0, 37, [(2, 251), (0, a), (0, b), (0, v), (9, 0), (9, 0), (9, 0), (9, 0), (9, 0), (9, 0)], [(0, (-1))])) rfl).trans (z_R_ret hK rfl rfl rfl)) (fun h3 => (z_R_run hK (n := 3) (g' := (z_up m 251 11 0, 30, [(2, 251), (0, a), (0, b), (0, v), (9, 0), (9, 0), (9, 0), (9, 0), (9, 0), (9, 0)], [(0, 99), (0, 0), (0, v)])) rfl).trans (z_R_cif hK rfl rfl rfl rfl rfl (t_ifin _ _ _ _) (fun h4 => (z_R_run hK (n := 3) (g' := (z_up m 251 11 0, 42, [(2, 251), (0, a), (0, b), (0, v), (9, 0), (9, 0), (9, 0), (9, 0), (9, 0), (9, 0)], [(2, 252)])) rfl).trans ((z_R_run hK (n := 3) (g' := (z_up m 251 11 0, 46, [(2, 251), (0, a), (0, b), (0, v), (9, 0), (9, 0), (9, 0), (9, 0), (9, 0), (9, 0)], [(0, z_add 18 a), (2, 252)])) rfl).trans ((congrArg (fun vv => z_R 251 (z_up m 251 11 0, 46, [(2, 251), (0, a), (0, b), (0, v), (9, 0), (9, 0), (9, 0), (9, 0), (9, 0), (9, 0)], [(0, vv), (2, 252)])) ((z_add_eq (by omega) (by omega)).trans (by omega))).trans (z_R_ixT hK (n := 37) (g' := (z_up m 251 11 0, 47, [(2, 251), (0, a), (0, b), (0, v), (9, 0), (9, 0), (9, 0), (9, 0), (9, 0), (9, 0)], [(0, (z_up m 251 11 0) 252 (a + 18).toNat)])) rfl rfl rfl  (show 0 ≤ a + 18 ∧ a + 18 < 37 by omega) ((congrArg (fun vv => z_R 251 (z_up m 251 11 0, 47, [(2, 251), (0, a), (0, b), (0, v), (9, 0), (9, 0), (9, 0), (9, 0), (9, 0), (9, 0)], [(0, vv)])) (zu_p (by decide))).trans ((z_R_run hK (n := 3) (g' := (z_up m 251 11 0, 52, [(2, 251), (0, a), (0, b), (0, v), (0, m 252 (a + 18).toNat), (9, 0), (9, 0), (9, 0), (9, 0), (9, 0)], [(0, (-1)), (0, m 252 (a + 18).toNat)])) rfl).trans (z_R_ifd hK (c := m 252 (a + 18).toNat = (-1)) (p1 := 69) (p2 := 55) rfl rfl rfl (fun h5 => (z_R_run hK (n := 1) (g' := (z_up m 251 11 0, 71, [(2, 251), (0, a), (0, b), (0, v), (0, m 252 (a + 18).toNat), (9, 0), (9, 0), (9, 0), (9, 0), (9, 0)], [(0, (-2))])) rfl).trans (z_R_ret hK rfl rfl rfl)) (fun h5 => (z_R_run hK (n := 2) (g' := (z_up m 251 11 0, 59, [(2, 251), (0, a), (0, b), (0, v), (0, m 252 (a + 18).toNat), (9, 0), (9, 0), (9, 0), (9, 0), (9, 0)], [(2, 252)])) rfl).trans ((z_R_run hK (n := 3) (g' := (z_up m 251 11 0, 63, [(2, 251), (0, a), (0, b), (0, v), (0, m 252 (a + 18).toNat), (9, 0), (9, 0), (9, 0), (9, 0), (9, 0)], [(0, z_add 18 b), (2, 252)])) rfl).trans ((congrArg (fun vv => z_R 251 (z_up m 251 11 0, 63, [(2, 251), (0, a), (0, b), (0, v), (0, m 252 (a + 18).toNat), (9, 0), (9, 0), (9, 0), (9, 0), (9, 0)], [(0, vv), (2, 252)])) ((z_add_eq (by omega) (by omega)).trans (by omega))).trans (z_R_ixT hK (n := 37) (g' := (z_up m 251 11 0, 64, [(2, 251), (0, a), (0, b), (0, v), (0, m 252 (a + 18).toNat), (9, 0), (9, 0), (9, 0), (9, 0), (9, 0)], [(0, (z_up m 251 11 0) 252 (b + 18).toNat)])) rfl rfl rfl  (show 0 ≤ b + 18 ∧ b + 18 < 37 by omega) ((congrArg (fun vv => z_R 251 (z_up m 251 11 0, 64, [(2, 251), (0, a), (0, b), (0, v), (0, m 252 (a + 18).toNat), (9, 0), (9, 0), (9, 0), (9, 0), (9, 0)], [(0, vv)])) (zu_p (by decide))).trans ((z_R_run hK (n := 1) (g' := (z_up m 251 11 0, 66, [(2, 251), (0, a), (0, b), (0, v), (0, m 252 (a + 18).toNat), (9, 0), (9, 0), (9, 0), (9, 0), (9, 0)], [(0, m 252 (a + 18).toNat), (0, m 252 (b + 18).toNat)])) rfl).trans (z_R_ifd hK (c := m 252 (b + 18).toNat = m 252 (a + 18).toNat) (p1 := 72) (p2 := 69) rfl rfl rfl (fun h6 => (z_R_run hK (n := 3) (g' := (z_up m 251 11 0, 77, [(2, 251), (0, a), (0, b), (0, v), (0, m 252 (a + 18).toNat), (9, 0), (9, 0), (9, 0), (9, 0), (9, 0)], [(2, 252), (2, 251)])) rfl).trans ((z_R_run hK (n := 1) (g' := (z_up m 251 11 0, 79, [(2, 251), (0, a), (0, b), (0, v), (0, m 252 (a + 18).toNat), (9, 0), (9, 0), (9, 0), (9, 0), (9, 0)], [(0, m 252 (a + 18).toNat), (2, 252), (2, 251)])) rfl).trans (z_R_call hK rfl rfl rfl rfl rfl))) (fun h6 => (z_R_run hK (n := 1) (g' := (z_up m 251 11 0, 71, [(2, 251), (0, a), (0, b), (0, v), (0, m 252 (a + 18).toNat), (9, 0), (9, 0), (9, 0), (9, 0), (9, 0)], [(0, (-2))])) rfl).trans (z_R_ret hK rfl rfl rfl)))))))))))))))) (fun h4 => (z_R_run hK (n := 2) (g' := (z_up m 251 11 0, 37, [(2, 251), (0, a), (0, b), (0, v), (9, 0), (9, 0), (9, 0), (9, 0), (9, 0), (9, 0)], [(0, (-1))])) rfl).trans (z_R_ret hK rfl rfl rfl)))))) (fun h2 => (z_R_run hK (n := 2) (g' := (z_up m 251 11 0, 37, [(2, 251), (0, a), (0, b), (0, v), (9, 0), (9, 0), (9, 0), (9, 0), (9, 0), (9, 0)], [(0, (-1))])) rfl).trans (z_R_ret hK rfl rfl rfl)))) (fun h1 => (z_R_run hK (n := 2) (g' := (z_up m 251 11 0, 37, [(2, 251), (0, a), (0, b), (0, v), (9, 0), (9, 0), (9, 0), (9, 0), (9, 0), (9, 0)], [(0, (-1))])) rfl).trans (z_R_ret hK rfl rfl rfl)))
theorem z_trs_82  (m : z_M) (x1 : Int) (x2 : Int) (x3 : Int) (x4 : Int) (u : Int) : z_R 251 (m, 82, [(2, 251), (0, x1), (0, x2), (0, x3), (0, x4), (9, 0), (9, 0), (9, 0), (9, 0), (9, 0)], [(0, u)]) = (z_R 184 (m, 0, [(2, 251), (2, 252), (0, x4), (0, u), (9, 0), (9, 0)], [])).bind fun qq => z_R 251 (qq.1, 96, [(2, 251), (0, x1), (0, x2), (0, x3), (0, x4), (0, u), (9, 0), (9, 0), (9, 0), (9, 0)], qq.2.toList ++ []) :=
  have hK : kt_at 251 = kt_251 := rfl
  (z_R_run hK (n := 4) (g' := (m, 89, [(2, 251), (0, x1), (0, x2), (0, x3), (0, x4), (0, u), (9, 0), (9, 0), (9, 0), (9, 0)], [(2, 252), (2, 251)])) rfl).trans ((z_R_run hK (n := 2) (g' := (m, 93, [(2, 251), (0, x1), (0, x2), (0, x3), (0, x4), (0, u), (9, 0), (9, 0), (9, 0), (9, 0)], [(0, u), (0, x4), (2, 252), (2, 251)])) rfl).trans (z_R_call hK rfl rfl rfl rfl rfl))
theorem z_trs_96  (m : z_M) (x1 : Int) (x2 : Int) (x3 : Int) (x4 : Int) (x5 : Int) (u : Int) : z_R 251 (m, 96, [(2, 251), (0, x1), (0, x2), (0, x3), (0, x4), (0, x5), (9, 0), (9, 0), (9, 0), (9, 0)], [(0, u)]) = (z_R 186 (m, 0, [(2, 251), (2, 252), (0, x1)], [])).bind fun qq => z_R 251 (qq.1, 105, [(2, 251), (0, x1), (0, x2), (0, x3), (0, x4), (0, x5), (9, 0), (9, 0), (9, 0), (9, 0)], qq.2.toList ++ [(0, u)]) :=
  have hK : kt_at 251 = kt_251 := rfl
  (z_R_run hK (n := 3) (g' := (m, 101, [(2, 251), (0, x1), (0, x2), (0, x3), (0, x4), (0, x5), (9, 0), (9, 0), (9, 0), (9, 0)], [(2, 252), (2, 251), (0, u)])) rfl).trans ((z_R_run hK (n := 1) (g' := (m, 102, [(2, 251), (0, x1), (0, x2), (0, x3), (0, x4), (0, x5), (9, 0), (9, 0), (9, 0), (9, 0)], [(0, x1), (2, 252), (2, 251), (0, u)])) rfl).trans (z_R_call hK rfl rfl rfl rfl rfl))
theorem z_trs_105  (m : z_M) (x1 : Int) (x2 : Int) (x3 : Int) (x4 : Int) (x5 : Int) (s0 : Int) (u : Int) : z_R 251 (m, 105, [(2, 251), (0, x1), (0, x2), (0, x3), (0, x4), (0, x5), (9, 0), (9, 0), (9, 0), (9, 0)], [(0, u), (0, s0)]) = (z_R 186 (m, 0, [(2, 251), (2, 252), (0, x2)], [])).bind fun qq => z_R 251 (qq.1, 115, [(2, 251), (0, x1), (0, x2), (0, x3), (0, x4), (0, x5), (9, 0), (9, 0), (9, 0), (9, 0)], qq.2.toList ++ [(0, z_sub s0 u)]) :=
  have hK : kt_at 251 = kt_251 := rfl
  (z_R_run hK (n := 4) (g' := (m, 111, [(2, 251), (0, x1), (0, x2), (0, x3), (0, x4), (0, x5), (9, 0), (9, 0), (9, 0), (9, 0)], [(2, 252), (2, 251), (0, z_sub s0 u)])) rfl).trans ((z_R_run hK (n := 1) (g' := (m, 112, [(2, 251), (0, x1), (0, x2), (0, x3), (0, x4), (0, x5), (9, 0), (9, 0), (9, 0), (9, 0)], [(0, x2), (2, 252), (2, 251), (0, z_sub s0 u)])) rfl).trans (z_R_call hK rfl rfl rfl rfl rfl))
theorem z_trs_115  (m : z_M) (x1 : Int) (x2 : Int) (x3 : Int) (x4 : Int) (x5 : Int) (s0 : Int) (u : Int) : z_R 251 (m, 115, [(2, 251), (0, x1), (0, x2), (0, x3), (0, x4), (0, x5), (9, 0), (9, 0), (9, 0), (9, 0)], [(0, u), (0, s0)]) = z_R 251 (m, 121, [(2, 251), (0, x1), (0, x2), (0, x3), (0, x4), (0, x5), (0, z_sub s0 u), (0, 0), (9, 0), (9, 0)], []) :=
  have hK : kt_at 251 = kt_251 := rfl
  (z_R_run hK (n := 4) (g' := (m, 121, [(2, 251), (0, x1), (0, x2), (0, x3), (0, x4), (0, x5), (0, z_sub s0 u), (0, 0), (9, 0), (9, 0)], [])) rfl).trans (rfl)
theorem z_trs_121  (m : z_M) (x1 : Int) (x2 : Int) (x3 : Int) (x4 : Int) (x5 : Int) (x6 : Int) (x7 : Int) (v8 : z_V) (v9 : z_V) : z_R 251 (m, 121, [(2, 251), (0, x1), (0, x2), (0, x3), (0, x4), (0, x5), (0, x6), (0, x7), v8, v9], []) = if 4 ≤ x7 then z_R 251 (m, 262, [(2, 251), (0, x1), (0, x2), (0, x3), (0, x4), (0, x5), (0, x6), (0, 0), (0, 0), v9], []) else (z_R 185 (m, 0, [(0, x7), (0, 0)], [])).bind fun qq => z_R 251 (qq.1, 135, [(2, 251), (0, x1), (0, x2), (0, x3), (0, x4), (0, x5), (0, x6), (0, x7), v8, v9], qq.2.toList ++ [(0, x6)]) :=
  have hK : kt_at 251 = kt_251 := rfl
  (z_R_run hK (n := 2) (g' := (m, 124, [(2, 251), (0, x1), (0, x2), (0, x3), (0, x4), (0, x5), (0, x6), (0, x7), v8, v9], [(0, 4), (0, x7)])) rfl).trans (z_R_ifd hK (c := 4 ≤ x7) (p1 := 256) (p2 := 127) rfl rfl rfl (fun h1 => (z_R_run hK (n := 4) (g' := (m, 262, [(2, 251), (0, x1), (0, x2), (0, x3), (0, x4), (0, x5), (0, x6), (0, 0), (0, 0), v9], [])) rfl).trans (rfl)) (fun h1 => (z_R_run hK (n := 3) (g' := (m, 132, [(2, 251), (0, x1), (0, x2), (0, x3), (0, x4), (0, x5), (0, x6), (0, x7), v8, v9], [(0, 0), (0, x7), (0, x6)])) rfl).trans (z_R_call hK rfl rfl rfl rfl rfl)))
theorem z_trs_135  (m : z_M) (x1 : Int) (x2 : Int) (x3 : Int) (x4 : Int) (x5 : Int) (x6 : Int) (x7 : Int) (v8 : z_V) (v9 : z_V) (s0 : Int) (u : Int) : z_R 251 (m, 135, [(2, 251), (0, x1), (0, x2), (0, x3), (0, x4), (0, x5), (0, x6), (0, x7), v8, v9], [(0, u), (0, s0)]) = if u = 0 then (z_R 185 (m, 0, [(0, x7), (0, 1)], [])).bind fun qq => z_R 251 (qq.1, 158, [(2, 251), (0, x1), (0, x2), (0, x3), (0, x4), (0, x5), (0, x6), (0, x7), v8, v9], qq.2.toList ++ [(0, z_add s0 0)]) else (z_R 186 (m, 0, [(2, 251), (2, 252), (0, x1)], [])).bind fun qq => z_R 251 (qq.1, 147, [(2, 251), (0, x1), (0, x2), (0, x3), (0, x4), (0, x5), (0, x6), (0, x7), v8, v9], qq.2.toList ++ [(0, s0)]) :=
  have hK : kt_at 251 = kt_251 := rfl
  z_R_ifd hK (c := u = 0) (p1 := 150) (p2 := 138) rfl rfl rfl (fun h1 => (z_R_run hK (n := 4) (g' := (m, 155, [(2, 251), (0, x1), (0, x2), (0, x3), (0, x4), (0, x5), (0, x6), (0, x7), v8, v9], [(0, 1), (0, x7), (0, z_add s0 0)])) rfl).trans (z_R_call hK rfl rfl rfl rfl rfl)) (fun h1 => (z_R_run hK (n := 3) (g' := (m, 143, [(2, 251), (0, x1), (0, x2), (0, x3), (0, x4), (0, x5), (0, x6), (0, x7), v8, v9], [(2, 252), (2, 251), (0, s0)])) rfl).trans ((z_R_run hK (n := 1) (g' := (m, 144, [(2, 251), (0, x1), (0, x2), (0, x3), (0, x4), (0, x5), (0, x6), (0, x7), v8, v9], [(0, x1), (2, 252), (2, 251), (0, s0)])) rfl).trans (z_R_call hK rfl rfl rfl rfl rfl)))
theorem z_trs_147  (m : z_M) (x1 : Int) (x2 : Int) (x3 : Int) (x4 : Int) (x5 : Int) (x6 : Int) (x7 : Int) (v8 : z_V) (v9 : z_V) (s0 : Int) (u : Int) : z_R 251 (m, 147, [(2, 251), (0, x1), (0, x2), (0, x3), (0, x4), (0, x5), (0, x6), (0, x7), v8, v9], [(0, u), (0, s0)]) = (z_R 185 (m, 0, [(0, x7), (0, 1)], [])).bind fun qq => z_R 251 (qq.1, 158, [(2, 251), (0, x1), (0, x2), (0, x3), (0, x4), (0, x5), (0, x6), (0, x7), v8, v9], qq.2.toList ++ [(0, z_add s0 u)]) :=
  have hK : kt_at 251 = kt_251 := rfl
  (z_R_run hK (n := 4) (g' := (m, 155, [(2, 251), (0, x1), (0, x2), (0, x3), (0, x4), (0, x5), (0, x6), (0, x7), v8, v9], [(0, 1), (0, x7), (0, z_add s0 u)])) rfl).trans (z_R_call hK rfl rfl rfl rfl rfl)
theorem z_trs_158  (m : z_M) (x1 : Int) (x2 : Int) (x3 : Int) (x4 : Int) (x5 : Int) (x6 : Int) (x7 : Int) (v8 : z_V) (v9 : z_V) (s0 : Int) (u : Int) : z_R 251 (m, 158, [(2, 251), (0, x1), (0, x2), (0, x3), (0, x4), (0, x5), (0, x6), (0, x7), v8, v9], [(0, u), (0, s0)]) = if u = 0 then (z_R 101 (m, 0, [(0, x5)], [])).bind fun qq => z_R 251 (qq.1, 191, [(2, 251), (0, x1), (0, x2), (0, x3), (0, x4), (0, x5), (0, x6), (0, x7), (0, z_add s0 0), v9], qq.2.toList ++ [(0, z_add s0 0), (0, x4), (2, 252), (2, 251)]) else (z_R 186 (m, 0, [(2, 251), (2, 252), (0, x2)], [])).bind fun qq => z_R 251 (qq.1, 170, [(2, 251), (0, x1), (0, x2), (0, x3), (0, x4), (0, x5), (0, x6), (0, x7), v8, v9], qq.2.toList ++ [(0, s0)]) :=
  have hK : kt_at 251 = kt_251 := rfl
  z_R_ifd hK (c := u = 0) (p1 := 173) (p2 := 161) rfl rfl rfl (fun h1 => (z_R_run hK (n := 6) (g' := (m, 182, [(2, 251), (0, x1), (0, x2), (0, x3), (0, x4), (0, x5), (0, x6), (0, x7), (0, z_add s0 0), v9], [(2, 252), (2, 251)])) rfl).trans ((z_R_run hK (n := 3) (g' := (m, 188, [(2, 251), (0, x1), (0, x2), (0, x3), (0, x4), (0, x5), (0, x6), (0, x7), (0, z_add s0 0), v9], [(0, x5), (0, z_add s0 0), (0, x4), (2, 252), (2, 251)])) rfl).trans (z_R_call hK rfl rfl rfl rfl rfl))) (fun h1 => (z_R_run hK (n := 3) (g' := (m, 166, [(2, 251), (0, x1), (0, x2), (0, x3), (0, x4), (0, x5), (0, x6), (0, x7), v8, v9], [(2, 252), (2, 251), (0, s0)])) rfl).trans ((z_R_run hK (n := 1) (g' := (m, 167, [(2, 251), (0, x1), (0, x2), (0, x3), (0, x4), (0, x5), (0, x6), (0, x7), v8, v9], [(0, x2), (2, 252), (2, 251), (0, s0)])) rfl).trans (z_R_call hK rfl rfl rfl rfl rfl)))
theorem z_trs_170  (m : z_M) (x1 : Int) (x2 : Int) (x3 : Int) (x4 : Int) (x5 : Int) (x6 : Int) (x7 : Int) (v8 : z_V) (v9 : z_V) (s0 : Int) (u : Int) : z_R 251 (m, 170, [(2, 251), (0, x1), (0, x2), (0, x3), (0, x4), (0, x5), (0, x6), (0, x7), v8, v9], [(0, u), (0, s0)]) = (z_R 101 (m, 0, [(0, x5)], [])).bind fun qq => z_R 251 (qq.1, 191, [(2, 251), (0, x1), (0, x2), (0, x3), (0, x4), (0, x5), (0, x6), (0, x7), (0, z_add s0 u), v9], qq.2.toList ++ [(0, z_add s0 u), (0, x4), (2, 252), (2, 251)]) :=
  have hK : kt_at 251 = kt_251 := rfl
  (z_R_run hK (n := 6) (g' := (m, 182, [(2, 251), (0, x1), (0, x2), (0, x3), (0, x4), (0, x5), (0, x6), (0, x7), (0, z_add s0 u), v9], [(2, 252), (2, 251)])) rfl).trans ((z_R_run hK (n := 3) (g' := (m, 188, [(2, 251), (0, x1), (0, x2), (0, x3), (0, x4), (0, x5), (0, x6), (0, x7), (0, z_add s0 u), v9], [(0, x5), (0, z_add s0 u), (0, x4), (2, 252), (2, 251)])) rfl).trans (z_R_call hK rfl rfl rfl rfl rfl))
theorem z_trs_191  (m : z_M) (x1 : Int) (x2 : Int) (x3 : Int) (x4 : Int) (x5 : Int) (x6 : Int) (x7 : Int) (x8 : Int) (v9 : z_V) (s0 : Int) (s1 : Int) (u : Int) : z_R 251 (m, 191, [(2, 251), (0, x1), (0, x2), (0, x3), (0, x4), (0, x5), (0, x6), (0, x7), (0, x8), v9], [(0, u), (0, s0), (0, s1), (2, 252), (2, 251)]) = (z_R 189 (m, 0, [(2, 251), (2, 252), (0, s1), (0, s0), (0, u), (9, 0)], [])).bind fun qq => z_R 251 (qq.1, 194, [(2, 251), (0, x1), (0, x2), (0, x3), (0, x4), (0, x5), (0, x6), (0, x7), (0, x8), v9], qq.2.toList ++ []) :=
  have hK : kt_at 251 = kt_251 := rfl
  z_R_call hK rfl rfl rfl rfl rfl
theorem z_trs_194  (m : z_M) (x1 : Int) (x2 : Int) (x3 : Int) (x4 : Int) (x5 : Int) (x6 : Int) (x7 : Int) (x8 : Int) (v9 : z_V) (u : Int) : z_R 251 (m, 194, [(2, 251), (0, x1), (0, x2), (0, x3), (0, x4), (0, x5), (0, x6), (0, x7), (0, x8), v9], [(0, u)]) = (z_R 185 (m, 0, [(0, x7), (0, 0)], [])).bind fun qq => z_R 251 (qq.1, 210, [(2, 251), (0, x1), (0, x2), (0, x3), (0, x4), (0, x5), (0, x6), (0, x7), (0, x8), (0, u)], qq.2.toList ++ [(0, z_mul 2 x7), (2, 273)]) :=
  have hK : kt_at 251 = kt_251 := rfl
  (z_R_run hK (n := 3) (g' := (m, 200, [(2, 251), (0, x1), (0, x2), (0, x3), (0, x4), (0, x5), (0, x6), (0, x7), (0, x8), (0, u)], [(2, 273)])) rfl).trans ((z_R_run hK (n := 5) (g' := (m, 207, [(2, 251), (0, x1), (0, x2), (0, x3), (0, x4), (0, x5), (0, x6), (0, x7), (0, x8), (0, u)], [(0, 0), (0, x7), (0, z_mul 2 x7), (2, 273)])) rfl).trans (z_R_call hK rfl rfl rfl rfl rfl))
theorem z_trs_210  (m : z_M) (x1 : Int) (x2 : Int) (x3 : Int) (x4 : Int) (x5 : Int) (x6 : Int) (x7 : Int) (x8 : Int) (x9 : Int) (s0 : Int) (u : Int) : z_R 251 (m, 210, [(2, 251), (0, x1), (0, x2), (0, x3), (0, x4), (0, x5), (0, x6), (0, x7), (0, x8), (0, x9)], [(0, u), (0, s0), (2, 273)]) = if u = 0 then if 0 ≤ s0 ∧ s0 < 8 then (z_R 185 (z_up m 273 (s0).toNat (z_sub 0 x9), 0, [(0, x7), (0, 1)], [])).bind fun qq => z_R 251 (qq.1, 238, [(2, 251), (0, x1), (0, x2), (0, x3), (0, x4), (0, x5), (0, x6), (0, x7), (0, x8), (0, x9)], qq.2.toList ++ [(0, z_add (z_mul 2 x7) 1), (2, 273)]) else none else if 0 ≤ s0 ∧ s0 < 8 then (z_R 185 (z_up m 273 (s0).toNat (z_sub x3 x9), 0, [(0, x7), (0, 1)], [])).bind fun qq => z_R 251 (qq.1, 238, [(2, 251), (0, x1), (0, x2), (0, x3), (0, x4), (0, x5), (0, x6), (0, x7), (0, x8), (0, x9)], qq.2.toList ++ [(0, z_add (z_mul 2 x7) 1), (2, 273)]) else none :=
  have hK : kt_at 251 = kt_251 := rfl
  z_R_ifd hK (c := u = 0) (p1 := 217) (p2 := 213) rfl rfl rfl (fun h1 => (z_R_run hK (n := 3) (g' := (m, 221, [(2, 251), (0, x1), (0, x2), (0, x3), (0, x4), (0, x5), (0, x6), (0, x7), (0, x8), (0, x9)], [(0, z_sub 0 x9), (0, s0), (2, 273)])) rfl).trans (z_R_ixD hK (n := 8) (g' := (z_up m 273 (s0).toNat (z_sub 0 x9), 222, [(2, 251), (0, x1), (0, x2), (0, x3), (0, x4), (0, x5), (0, x6), (0, x7), (0, x8), (0, x9)], [])) rfl rfl rfl (fun h2 => (z_R_run hK (n := 2) (g' := (z_up m 273 (s0).toNat (z_sub 0 x9), 226, [(2, 251), (0, x1), (0, x2), (0, x3), (0, x4), (0, x5), (0, x6), (0, x7), (0, x8), (0, x9)], [(2, 273)])) rfl).trans ((z_R_run hK (n := 7) (g' := (z_up m 273 (s0).toNat (z_sub 0 x9), 235, [(2, 251), (0, x1), (0, x2), (0, x3), (0, x4), (0, x5), (0, x6), (0, x7), (0, x8), (0, x9)], [(0, 1), (0, x7), (0, z_add (z_mul 2 x7) 1), (2, 273)])) rfl).trans (z_R_call hK rfl rfl rfl rfl rfl))))) (fun h1 => (z_R_run hK (n := 4) (g' := (m, 221, [(2, 251), (0, x1), (0, x2), (0, x3), (0, x4), (0, x5), (0, x6), (0, x7), (0, x8), (0, x9)], [(0, z_sub x3 x9), (0, s0), (2, 273)])) rfl).trans (z_R_ixD hK (n := 8) (g' := (z_up m 273 (s0).toNat (z_sub x3 x9), 222, [(2, 251), (0, x1), (0, x2), (0, x3), (0, x4), (0, x5), (0, x6), (0, x7), (0, x8), (0, x9)], [])) rfl rfl rfl (fun h3 => (z_R_run hK (n := 2) (g' := (z_up m 273 (s0).toNat (z_sub x3 x9), 226, [(2, 251), (0, x1), (0, x2), (0, x3), (0, x4), (0, x5), (0, x6), (0, x7), (0, x8), (0, x9)], [(2, 273)])) rfl).trans ((z_R_run hK (n := 7) (g' := (z_up m 273 (s0).toNat (z_sub x3 x9), 235, [(2, 251), (0, x1), (0, x2), (0, x3), (0, x4), (0, x5), (0, x6), (0, x7), (0, x8), (0, x9)], [(0, 1), (0, x7), (0, z_add (z_mul 2 x7) 1), (2, 273)])) rfl).trans (z_R_call hK rfl rfl rfl rfl rfl)))))
theorem z_trs_238  (m : z_M) (x1 : Int) (x2 : Int) (x3 : Int) (x4 : Int) (x5 : Int) (x6 : Int) (x7 : Int) (x8 : Int) (x9 : Int) (s0 : Int) (u : Int) : z_R 251 (m, 238, [(2, 251), (0, x1), (0, x2), (0, x3), (0, x4), (0, x5), (0, x6), (0, x7), (0, x8), (0, x9)], [(0, u), (0, s0), (2, 273)]) = if u = 0 then if 0 ≤ s0 ∧ s0 < 8 then z_R 251 (z_up m 273 (s0).toNat (z_sub 0 x9), 121, [(2, 251), (0, x1), (0, x2), (0, x3), (0, x4), (0, x5), (0, x6), (0, z_add x7 1), (0, x8), (0, x9)], []) else none else if 0 ≤ s0 ∧ s0 < 8 then z_R 251 (z_up m 273 (s0).toNat (z_sub x3 x9), 121, [(2, 251), (0, x1), (0, x2), (0, x3), (0, x4), (0, x5), (0, x6), (0, z_add x7 1), (0, x8), (0, x9)], []) else none :=
  have hK : kt_at 251 = kt_251 := rfl
  z_R_ifd hK (c := u = 0) (p1 := 245) (p2 := 241) rfl rfl rfl (fun h1 => (z_R_run hK (n := 3) (g' := (m, 249, [(2, 251), (0, x1), (0, x2), (0, x3), (0, x4), (0, x5), (0, x6), (0, x7), (0, x8), (0, x9)], [(0, z_sub 0 x9), (0, s0), (2, 273)])) rfl).trans (z_R_ixD hK (n := 8) (g' := (z_up m 273 (s0).toNat (z_sub 0 x9), 250, [(2, 251), (0, x1), (0, x2), (0, x3), (0, x4), (0, x5), (0, x6), (0, x7), (0, x8), (0, x9)], [])) rfl rfl rfl (fun h2 => (z_R_run hK (n := 2) (g' := (z_up m 273 (s0).toNat (z_sub 0 x9), 121, [(2, 251), (0, x1), (0, x2), (0, x3), (0, x4), (0, x5), (0, x6), (0, z_add x7 1), (0, x8), (0, x9)], [])) rfl).trans (rfl)))) (fun h1 => (z_R_run hK (n := 4) (g' := (m, 249, [(2, 251), (0, x1), (0, x2), (0, x3), (0, x4), (0, x5), (0, x6), (0, x7), (0, x8), (0, x9)], [(0, z_sub x3 x9), (0, s0), (2, 273)])) rfl).trans (z_R_ixD hK (n := 8) (g' := (z_up m 273 (s0).toNat (z_sub x3 x9), 250, [(2, 251), (0, x1), (0, x2), (0, x3), (0, x4), (0, x5), (0, x6), (0, x7), (0, x8), (0, x9)], [])) rfl rfl rfl (fun h3 => (z_R_run hK (n := 2) (g' := (z_up m 273 (s0).toNat (z_sub x3 x9), 121, [(2, 251), (0, x1), (0, x2), (0, x3), (0, x4), (0, x5), (0, x6), (0, z_add x7 1), (0, x8), (0, x9)], [])) rfl).trans (rfl))))
theorem z_trs_262  (m : z_M) (x1 : Int) (x2 : Int) (x3 : Int) (x4 : Int) (x5 : Int) (x6 : Int) (x7 : Int) (x8 : Int) (v9 : z_V) : z_R 251 (m, 262, [(2, 251), (0, x1), (0, x2), (0, x3), (0, x4), (0, x5), (0, x6), (0, x7), (0, x8), v9], []) = if 4 ≤ x8 then if x7 = 0 then some (z_up m 251 10 0, some (0, x7)) else (z_R 224 (z_up m 251 10 0, 0, [(0, x7), (9, 0)], [])).bind fun qq => z_R 251 (qq.1, 348, [(2, 251), (0, x1), (0, x2), (0, x3), (0, x4), (0, x5), (0, x6), (0, x7), (0, x8), v9], qq.2.toList ++ []) else if 0 ≤ z_mul 2 (z_xor x8 1) ∧ z_mul 2 (z_xor x8 1) < 8 then if 0 ≤ z_mul 2 x8 ∧ z_mul 2 x8 < 8 then if m 273 (z_mul 2 x8).toNat < m 273 (z_mul 2 (z_xor x8 1)).toNat then z_R 251 (m, 262, [(2, 251), (0, x1), (0, x2), (0, x3), (0, x4), (0, x5), (0, x6), (0, x7), (0, z_add x8 1), v9], []) else if 0 ≤ z_add (z_mul 2 (z_xor x8 2)) 1 ∧ z_add (z_mul 2 (z_xor x8 2)) 1 < 8 then if 0 ≤ (z_mul 2 x8) + 1 ∧ (z_mul 2 x8) + 1 < 8 then if m 273 ((z_mul 2 x8) + 1).toNat < m 273 (z_add (z_mul 2 (z_xor x8 2)) 1).toNat then z_R 251 (m, 262, [(2, 251), (0, x1), (0, x2), (0, x3), (0, x4), (0, x5), (0, x6), (0, x7), (0, z_add x8 1), v9], []) else z_R 251 (m, 262, [(2, 251), (0, x1), (0, x2), (0, x3), (0, x4), (0, x5), (0, x6), (0, z_or x7 (z_shl 1 x8)), (0, z_add x8 1), v9], []) else none else none else none else none :=
  have hK : kt_at 251 = kt_251 := rfl
  (z_R_run hK (n := 2) (g' := (m, 265, [(2, 251), (0, x1), (0, x2), (0, x3), (0, x4), (0, x5), (0, x6), (0, x7), (0, x8), v9], [(0, 4), (0, x8)])) rfl).trans (z_R_ifd hK (c := 4 ≤ x8) (p1 := 333) (p2 := 268) rfl rfl rfl (fun h1 => (z_R_run hK (n := 4) (g' := (z_up m 251 10 0, 340, [(2, 251), (0, x1), (0, x2), (0, x3), (0, x4), (0, x5), (0, x6), (0, x7), (0, x8), v9], [(0, x7)])) rfl).trans (z_R_ifd hK (c := x7 = 0) (p1 := 380) (p2 := 343) rfl rfl rfl (fun h2 => (z_R_run hK (n := 1) (g' := (z_up m 251 10 0, 382, [(2, 251), (0, x1), (0, x2), (0, x3), (0, x4), (0, x5), (0, x6), (0, x7), (0, x8), v9], [(0, x7)])) rfl).trans (z_R_ret hK rfl rfl rfl)) (fun h2 => (z_R_run hK (n := 1) (g' := (z_up m 251 10 0, 345, [(2, 251), (0, x1), (0, x2), (0, x3), (0, x4), (0, x5), (0, x6), (0, x7), (0, x8), v9], [(0, x7)])) rfl).trans (z_R_call hK rfl rfl rfl rfl rfl)))) (fun h1 => (z_R_run hK (n := 2) (g' := (m, 272, [(2, 251), (0, x1), (0, x2), (0, x3), (0, x4), (0, x5), (0, x6), (0, x7), (0, x8), v9], [(2, 273)])) rfl).trans ((z_R_run hK (n := 5) (g' := (m, 278, [(2, 251), (0, x1), (0, x2), (0, x3), (0, x4), (0, x5), (0, x6), (0, x7), (0, x8), v9], [(0, z_mul 2 (z_xor x8 1)), (2, 273)])) rfl).trans (z_R_ixD hK (n := 8) (g' := (m, 279, [(2, 251), (0, x1), (0, x2), (0, x3), (0, x4), (0, x5), (0, x6), (0, x7), (0, x8), v9], [(0, m 273 (z_mul 2 (z_xor x8 1)).toNat)])) rfl rfl rfl  (fun h3 => (z_R_run hK (n := 2) (g' := (m, 283, [(2, 251), (0, x1), (0, x2), (0, x3), (0, x4), (0, x5), (0, x6), (0, x7), (0, x8), v9], [(2, 273), (0, m 273 (z_mul 2 (z_xor x8 1)).toNat)])) rfl).trans ((z_R_run hK (n := 3) (g' := (m, 287, [(2, 251), (0, x1), (0, x2), (0, x3), (0, x4), (0, x5), (0, x6), (0, x7), (0, x8), v9], [(0, z_mul 2 x8), (2, 273), (0, m 273 (z_mul 2 (z_xor x8 1)).toNat)])) rfl).trans (z_R_ixD hK (n := 8) (g' := (m, 288, [(2, 251), (0, x1), (0, x2), (0, x3), (0, x4), (0, x5), (0, x6), (0, x7), (0, x8), v9], [(0, m 273 (z_mul 2 x8).toNat), (0, m 273 (z_mul 2 (z_xor x8 1)).toNat)])) rfl rfl rfl  (fun h4 => z_R_ifd hK (c := m 273 (z_mul 2 x8).toNat < m 273 (z_mul 2 (z_xor x8 1)).toNat) (p1 := 327) (p2 := 291) rfl rfl rfl (fun h5 => (z_R_run hK (n := 2) (g' := (m, 262, [(2, 251), (0, x1), (0, x2), (0, x3), (0, x4), (0, x5), (0, x6), (0, x7), (0, z_add x8 1), v9], [])) rfl).trans (rfl)) (fun h5 => (z_R_run hK (n := 2) (g' := (m, 295, [(2, 251), (0, x1), (0, x2), (0, x3), (0, x4), (0, x5), (0, x6), (0, x7), (0, x8), v9], [(2, 273)])) rfl).trans ((z_R_run hK (n := 7) (g' := (m, 303, [(2, 251), (0, x1), (0, x2), (0, x3), (0, x4), (0, x5), (0, x6), (0, x7), (0, x8), v9], [(0, z_add (z_mul 2 (z_xor x8 2)) 1), (2, 273)])) rfl).trans (z_R_ixD hK (n := 8) (g' := (m, 304, [(2, 251), (0, x1), (0, x2), (0, x3), (0, x4), (0, x5), (0, x6), (0, x7), (0, x8), v9], [(0, m 273 (z_add (z_mul 2 (z_xor x8 2)) 1).toNat)])) rfl rfl rfl  (fun h6 => (z_R_run hK (n := 2) (g' := (m, 308, [(2, 251), (0, x1), (0, x2), (0, x3), (0, x4), (0, x5), (0, x6), (0, x7), (0, x8), v9], [(2, 273), (0, m 273 (z_add (z_mul 2 (z_xor x8 2)) 1).toNat)])) rfl).trans ((z_R_run hK (n := 5) (g' := (m, 314, [(2, 251), (0, x1), (0, x2), (0, x3), (0, x4), (0, x5), (0, x6), (0, x7), (0, x8), v9], [(0, z_add (z_mul 2 x8) 1), (2, 273), (0, m 273 (z_add (z_mul 2 (z_xor x8 2)) 1).toNat)])) rfl).trans ((congrArg (fun vv => z_R 251 (m, 314, [(2, 251), (0, x1), (0, x2), (0, x3), (0, x4), (0, x5), (0, x6), (0, x7), (0, x8), v9], [(0, vv), (2, 273), (0, m 273 (z_add (z_mul 2 (z_xor x8 2)) 1).toNat)])) ((z_add_eq (by omega) (by omega)).trans (by omega))).trans (z_R_ixD hK (n := 8) (g' := (m, 315, [(2, 251), (0, x1), (0, x2), (0, x3), (0, x4), (0, x5), (0, x6), (0, x7), (0, x8), v9], [(0, m 273 ((z_mul 2 x8) + 1).toNat), (0, m 273 (z_add (z_mul 2 (z_xor x8 2)) 1).toNat)])) rfl rfl rfl  (fun h7 => z_R_ifd hK (c := m 273 ((z_mul 2 x8) + 1).toNat < m 273 (z_add (z_mul 2 (z_xor x8 2)) 1).toNat) (p1 := 327) (p2 := 318) rfl rfl rfl (fun h8 => (z_R_run hK (n := 2) (g' := (m, 262, [(2, 251), (0, x1), (0, x2), (0, x3), (0, x4), (0, x5), (0, x6), (0, x7), (0, z_add x8 1), v9], [])) rfl).trans (rfl)) (fun h8 => (z_R_run hK (n := 8) (g' := (m, 262, [(2, 251), (0, x1), (0, x2), (0, x3), (0, x4), (0, x5), (0, x6), (0, z_or x7 (z_shl 1 x8)), (0, z_add x8 1), v9], [])) rfl).trans (rfl))))))))))))))))))
theorem z_trs_348  (m : z_M) (x1 : Int) (x2 : Int) (x3 : Int) (x4 : Int) (x5 : Int) (x6 : Int) (x7 : Int) (x8 : Int) (v9 : z_V) (u : Int) : z_R 251 (m, 348, [(2, 251), (0, x1), (0, x2), (0, x3), (0, x4), (0, x5), (0, x6), (0, x7), (0, x8), v9], [(0, u)]) = if 0 ≤ z_mul 2 u ∧ z_mul 2 u < 8 then (z_R 210 (m, 0, [(2, 251), (1, z_i2l (m 273 (z_mul 2 u).toNat)), (9, 0)], [])).bind fun qq => z_R 251 (qq.1, 364, [(2, 251), (0, x1), (0, x2), (0, x3), (0, x4), (0, x5), (0, x6), (0, x7), (0, u), v9], qq.2.toList ++ []) else none :=
  have hK : kt_at 251 = kt_251 := rfl
  (z_R_run hK (n := 4) (g' := (m, 355, [(2, 251), (0, x1), (0, x2), (0, x3), (0, x4), (0, x5), (0, x6), (0, x7), (0, u), v9], [(2, 273), (2, 251)])) rfl).trans ((z_R_run hK (n := 3) (g' := (m, 359, [(2, 251), (0, x1), (0, x2), (0, x3), (0, x4), (0, x5), (0, x6), (0, x7), (0, u), v9], [(0, z_mul 2 u), (2, 273), (2, 251)])) rfl).trans (z_R_ixD hK (n := 8) (g' := (m, 360, [(2, 251), (0, x1), (0, x2), (0, x3), (0, x4), (0, x5), (0, x6), (0, x7), (0, u), v9], [(0, m 273 (z_mul 2 u).toNat), (2, 251)])) rfl rfl rfl  (fun h1 => (z_R_run hK (n := 1) (g' := (m, 361, [(2, 251), (0, x1), (0, x2), (0, x3), (0, x4), (0, x5), (0, x6), (0, x7), (0, u), v9], [(1, z_i2l (m 273 (z_mul 2 u).toNat)), (2, 251)])) rfl).trans (z_R_call hK rfl rfl rfl rfl rfl))))
theorem z_trs_364  (m : z_M) (x1 : Int) (x2 : Int) (x3 : Int) (x4 : Int) (x5 : Int) (x6 : Int) (x7 : Int) (x8 : Int) (v9 : z_V) : z_R 251 (m, 364, [(2, 251), (0, x1), (0, x2), (0, x3), (0, x4), (0, x5), (0, x6), (0, x7), (0, x8), v9], []) = if 0 ≤ z_add (z_mul 2 x8) 1 ∧ z_add (z_mul 2 x8) 1 < 8 then (z_R 210 (m, 0, [(2, 251), (1, z_i2l (m 273 (z_add (z_mul 2 x8) 1).toNat)), (9, 0)], [])).bind fun qq => z_R 251 (qq.1, 380, [(2, 251), (0, x1), (0, x2), (0, x3), (0, x4), (0, x5), (0, x6), (0, x7), (0, x8), v9], qq.2.toList ++ []) else none :=
  have hK : kt_at 251 = kt_251 := rfl
  (z_R_run hK (n := 3) (g' := (m, 369, [(2, 251), (0, x1), (0, x2), (0, x3), (0, x4), (0, x5), (0, x6), (0, x7), (0, x8), v9], [(2, 273), (2, 251)])) rfl).trans ((z_R_run hK (n := 5) (g' := (m, 375, [(2, 251), (0, x1), (0, x2), (0, x3), (0, x4), (0, x5), (0, x6), (0, x7), (0, x8), v9], [(0, z_add (z_mul 2 x8) 1), (2, 273), (2, 251)])) rfl).trans (z_R_ixD hK (n := 8) (g' := (m, 376, [(2, 251), (0, x1), (0, x2), (0, x3), (0, x4), (0, x5), (0, x6), (0, x7), (0, x8), v9], [(0, m 273 (z_add (z_mul 2 x8) 1).toNat), (2, 251)])) rfl rfl rfl  (fun h1 => (z_R_run hK (n := 1) (g' := (m, 377, [(2, 251), (0, x1), (0, x2), (0, x3), (0, x4), (0, x5), (0, x6), (0, x7), (0, x8), v9], [(1, z_i2l (m 273 (z_add (z_mul 2 x8) 1).toNat)), (2, 251)])) rfl).trans (z_R_call hK rfl rfl rfl rfl rfl))))
theorem z_trs_380  (m : z_M) (x1 : Int) (x2 : Int) (x3 : Int) (x4 : Int) (x5 : Int) (x6 : Int) (x7 : Int) (x8 : Int) (v9 : z_V) : z_R 251 (m, 380, [(2, 251), (0, x1), (0, x2), (0, x3), (0, x4), (0, x5), (0, x6), (0, x7), (0, x8), v9], []) = some (m, some (0, x7)) :=
  have hK : kt_at 251 = kt_251 := rfl
  (z_R_run hK (n := 1) (g' := (m, 382, [(2, 251), (0, x1), (0, x2), (0, x3), (0, x4), (0, x5), (0, x6), (0, x7), (0, x8), v9], [(0, x7)])) rfl).trans (z_R_ret hK rfl rfl rfl)
theorem z_win_0  (m : z_M) (r : Int) : z_R 121 (m, 0, [(2, 24), (2, 12), (0, r)], []) = (z_R 100 (m, 0, [(2, 3), (2, 12), (0, r), (9, 0), (9, 0)], [])).bind fun qq => z_R 121 (qq.1, 12, [(2, 24), (2, 12), (0, r)], qq.2.toList ++ [(0, r), (2, 12), (2, 24)]) :=
  have hK : kt_at 121 = kt_121 := rfl
  (z_R_run hK (n := 5) (g' := (m, 7, [(2, 24), (2, 12), (0, r)], [(2, 3), (0, r), (2, 12), (2, 24)])) rfl).trans ((z_R_run hK (n := 2) (g' := (m, 9, [(2, 24), (2, 12), (0, r)], [(0, r), (2, 12), (2, 3), (0, r), (2, 12), (2, 24)])) rfl).trans (z_R_call hK rfl rfl rfl rfl rfl))
theorem z_win_12  (m : z_M) (x2 : Int) (s0 : Int) (u : Int) : z_R 121 (m, 12, [(2, 24), (2, 12), (0, x2)], [(0, u), (0, s0), (2, 12), (2, 24)]) = (z_R 119 (m, 0, [(2, 24), (2, 12), (0, s0), (0, u), (9, 0), (9, 0)], [])).bind fun qq => z_R 121 (qq.1, 15, [(2, 24), (2, 12), (0, x2)], qq.2.toList ++ []) :=
  have hK : kt_at 121 = kt_121 := rfl
  z_R_call hK rfl rfl rfl rfl rfl
theorem z_win_15  (m : z_M) (x2 : Int) (u : Int) : z_R 121 (m, 15, [(2, 24), (2, 12), (0, x2)], [(0, u)]) = some (m, some (0, u)) :=
  have hK : kt_at 121 = kt_121 := rfl
  z_R_ret hK rfl rfl rfl
theorem z_bin_0  (m : z_M) (r : Int) : z_R 100 (m, 0, [(2, 3), (2, 12), (0, r), (9, 0), (9, 0)], []) = z_R 100 (m, 5, [(2, 3), (2, 12), (0, r), (0, 0), (0, 0)], []) :=
  have hK : kt_at 100 = kt_100 := rfl
  (z_R_run hK (n := 4) (g' := (m, 5, [(2, 3), (2, 12), (0, r), (0, 0), (0, 0)], [])) rfl).trans (rfl)
theorem z_bin_5  (m : z_M) (x2 : Int) (x3 : Int) (x4 : Int) (h_n : 0 ≤ m 3 11 ∧ m 3 11 ≤ 5) : z_R 100 (m, 5, [(2, 3), (2, 12), (0, x2), (0, x3), (0, x4)], []) = if m 3 11 ≤ x4 then some (m, some (0, x3)) else if 0 ≤ x4 ∧ x4 < 5 then if m 15 (x4).toNat = x2 then z_R 100 (m, 5, [(2, 3), (2, 12), (0, x2), (0, z_or x3 (z_shl 1 x4)), (0, x4 + 1)], []) else z_R 100 (m, 5, [(2, 3), (2, 12), (0, x2), (0, x3), (0, x4 + 1)], []) else none :=
  have hK : kt_at 100 = kt_100 := rfl
  (z_R_run hK (n := 3) (g' := (m, 11, [(2, 3), (2, 12), (0, x2), (0, x3), (0, x4)], [(0, m 3 11), (0, x4)])) rfl).trans (z_R_ifd hK (c := m 3 11 ≤ x4) (p1 := 38) (p2 := 14) rfl rfl rfl (fun h1 => (z_R_run hK (n := 1) (g' := (m, 39, [(2, 3), (2, 12), (0, x2), (0, x3), (0, x4)], [(0, x3)])) rfl).trans (z_R_ret hK rfl rfl rfl)) (fun h1 => (z_R_run hK (n := 2) (g' := (m, 18, [(2, 3), (2, 12), (0, x2), (0, x3), (0, x4)], [(2, 15)])) rfl).trans ((z_R_run hK (n := 1) (g' := (m, 20, [(2, 3), (2, 12), (0, x2), (0, x3), (0, x4)], [(0, x4), (2, 15)])) rfl).trans (z_R_ixD hK (n := 5) (g' := (m, 21, [(2, 3), (2, 12), (0, x2), (0, x3), (0, x4)], [(0, m 15 (x4).toNat)])) rfl rfl rfl  (fun h2 => (z_R_run hK (n := 1) (g' := (m, 22, [(2, 3), (2, 12), (0, x2), (0, x3), (0, x4)], [(0, x2), (0, m 15 (x4).toNat)])) rfl).trans (z_R_ifnd hK (c := m 15 (x4).toNat = x2) (p1 := 32) (p2 := 25) rfl rfl rfl (fun h3 => (z_R_run hK (n := 1) (g' := (m, 35, [(2, 3), (2, 12), (0, x2), (0, x3), (0, z_add x4 1)], [])) rfl).trans ((congrArg (fun vv => z_R 100 (m, 35, [(2, 3), (2, 12), (0, x2), (0, x3), (0, vv)], [])) (z_add_eq (by omega) (by omega))).trans ((z_R_run hK (n := 1) (g' := (m, 5, [(2, 3), (2, 12), (0, x2), (0, x3), (0, x4 + 1)], [])) rfl).trans (rfl)))) (fun h3 => (z_R_run hK (n := 7) (g' := (m, 35, [(2, 3), (2, 12), (0, x2), (0, z_or x3 (z_shl 1 x4)), (0, z_add x4 1)], [])) rfl).trans ((congrArg (fun vv => z_R 100 (m, 35, [(2, 3), (2, 12), (0, x2), (0, z_or x3 (z_shl 1 x4)), (0, vv)], [])) (z_add_eq (by omega) (by omega))).trans ((z_R_run hK (n := 1) (g' := (m, 5, [(2, 3), (2, 12), (0, x2), (0, z_or x3 (z_shl 1 x4)), (0, x4 + 1)], [])) rfl).trans (rfl))))))))))
end
section
/-! rests, of what both are in -/
def g_x1 (x : Nat) : Nat := if x % 2 = 0 then x + 1 else x - 1
def g_x2 (x : Nat) : Nat := if x < 2 then x + 2 else x - 2
theorem g_xor1 {x : Nat} (hx : x < 4) : z_xor (x : Int) 1 = ((g_x1 x : Nat) : Int) := by
  have : ∀ x, x < 4 → z_xor ((x : Nat) : Int) 1 = ((g_x1 x : Nat) : Int) := by decide +kernel
  exact this x hx
theorem g_xor2 {x : Nat} (hx : x < 4) : z_xor (x : Int) 2 = ((g_x2 x : Nat) : Int) := by
  have : ∀ x, x < 4 → z_xor ((x : Nat) : Int) 2 = ((g_x2 x : Nat) : Int) := by decide +kernel
  exact this x hx
theorem g_x1_lt {x : Nat} (hx : x < 4) : g_x1 x < 4 := by
  have : ∀ x, x < 4 → g_x1 x < 4 := by decide +kernel
  exact this x hx
theorem g_x2_lt {x : Nat} (hx : x < 4) : g_x2 x < 4 := by
  have : ∀ x, x < 4 → g_x2 x < 4 := by decide +kernel
  exact this x hx
theorem g_and1 {x : Nat} (hx : x < 4) : z_and (x : Int) 1 = 0 ↔ x % 2 = 0 := by
  have : ∀ x, x < 4 → (z_and ((x : Nat) : Int) 1 = 0 ↔ x % 2 = 0) := by decide +kernel
  exact this x hx
theorem g_and2 {x : Nat} (hx : x < 4) : z_and (x : Int) 2 = 0 ↔ x < 2 := by
  have : ∀ x, x < 4 → (z_and ((x : Nat) : Int) 2 = 0 ↔ x < 2) := by decide +kernel
  exact this x hx
/-- whether the first (s 0), the second (s 1) goes, in the way x -/
def g_go (s x : Nat) : Bool := bif Nat.beq s 0 then Nat.beq (x % 2) 0 else Nat.ble (x + 1) 2
theorem g_shr {x s : Nat} (hx : x < 4) (hs : s < 2) : z_and (z_shr (x : Int) (s : Int)) 1 = if g_go s x = true then 0 else 1 := by
  have : ∀ x, x < 4 → ∀ s, s < 2 → z_and (z_shr ((x : Nat) : Int) ((s : Nat) : Int)) 1 = if g_go s x = true then 0 else 1 := by decide +kernel
  exact this x hx s hs
theorem g_or0 {y : Nat} (hy : y < 32) : z_or (y : Int) 0 = (y : Int) := by
  have : ∀ y, y < 32 → z_or ((y : Nat) : Int) 0 = ((y : Nat) : Int) := by decide +kernel
  exact this y hy
theorem g_or1 {y x : Nat} (hy : y < 32) (hx : x < 5) : 0 ≤ z_or (y : Int) (z_shl 1 (x : Int)) ∧ z_or (y : Int) (z_shl 1 (x : Int)) < 32 := by
  have : ∀ y, y < 32 → ∀ x, x < 5 → 0 ≤ z_or ((y : Nat) : Int) (z_shl 1 ((x : Nat) : Int)) ∧ z_or ((y : Nat) : Int) (z_shl 1 ((x : Nat) : Int)) < 32 := by decide +kernel
  exact this y hy x hx
/-- the warmth in the way x, of W in all -/
def g_wt (W wa wb : Int) (x : Nat) : Int := W - (if g_go 0 x = true then wa else 0) - (if g_go 1 x = true then wb else 0)
/-- what the one gets -/
def g_g (M : Int → Int) (W wa wb v : Int) (s x : Nat) : Int := (if g_go s x = true then 0 else v) - M (g_wt W wa wb x)
def g_bits (G : Nat → Nat → Int) : Nat → Nat → Int → Int
  | 0, _, acc => acc
  | f + 1, x, acc => g_bits G f (x + 1) (if G 0 (g_x1 x) ≤ G 0 x ∧ G 1 (g_x2 x) ≤ G 1 x then z_or acc (z_shl 1 (x : Int)) else acc)
/-- what one gets in ROOM r -/
def g_G (n : Nat) (heat : Int) (cs : List Int) (D A : Nat → Int) (a b r : Nat) (v : Int) : Nat → Nat → Int := g_g (fun t => c_ml cs t (A r) (A (r + 9)) (A 36) ((r : Int) / 3) (hr_pc (hr_b (r : Int) n 0 A 0)) (A 35)) (hr_wb heat (wmD D (A 35)) n A (r : Int) (hr_b (r : Int) n 0 A 0)) (wmD D (A 35) a) (wmD D (A 35) b) v
def g_A (n : Nat) (heat : Int) (cs : List Int) (D A : Nat → Int) (a b v : Int) : Int := if (0 ≤ a ∧ a < (n : Int)) ∧ (0 ≤ b ∧ b < (n : Int)) ∧ ¬ a = b ∧ 0 ≤ v ∧ v ≤ 99 then (if ¬ A (a.toNat + 18) = -1 ∧ A (b.toNat + 18) = A (a.toNat + 18) then g_bits (g_G n heat cs D A a.toNat b.toNat (A (a.toNat + 18)).toNat v) 4 0 0 else -2) else -1
section
variable {w h n : Nat} {heat price : Int} {D A : Nat → Int} {c : Nat} {U : Nat → Nat → Int} {kn : Nat → Int} {KS : Nat → Nat → Int} {cs : List Int} {m : z_M}
theorem C_bin (hi : C_is w h n heat price D A c U kn KS cs m) (h5 : n ≤ 5) {r : Int} : ∀ (f x y : Nat), x + f = n → y < 32 → z_R 100 (m, 5, [(2, 3), (2, 12), (0, r), (0, (y : Int)), (0, (x : Int))], []) = some (m, some (0, hr_b r f x A (y : Int))) := by
  intro f
  induction f with
  | zero =>
    intro x y hx hy
    have e11 := hi.1.2.2.1
    rw [z_bin_5 m r y x (by omega), e11, if_pos (by omega)]
    rfl
  | succ f ih =>
    intro x y hx hy
    have e11 := hi.1.2.2.1
    have e15 : m 15 x = A (x + 18) := C_A3 hi (by omega) h5
    rw [z_bin_5 m r y x (by omega), e11, if_neg (by omega), if_pos (show 0 ≤ (x : Int) ∧ (x : Int) < 5 by omega), Int.toNat_natCast, e15, tc1]
    unfold hr_b
    by_cases z : A (x + 18) = r
    · have b := g_or1 hy (show x < 5 by omega)
      obtain ⟨y', hy'⟩ : ∃ y' : Nat, z_or (y : Int) (z_shl 1 (x : Int)) = (y' : Int) := ⟨(z_or (y : Int) (z_shl 1 (x : Int))).toNat, by omega⟩
      rw [if_pos z, if_pos z, hy']
      exact ih (x + 1) y' (by omega) (by omega)
    · rw [if_neg z, if_neg z, g_or0 hy]
      exact ih (x + 1) y (by omega) hy
theorem C_wb (hi : C_is w h n heat price D A c U kn KS cs m) (hN : w_N w h n heat D) (ht : 0 ≤ A 35 ∧ A 35 ≤ 1073741824) (r b : Int) : z_R 119 (m, 0, [(2, 24), (2, 12), (0, r), (0, b), (9, 0), (9, 0)], []) = some (m, some (0, hr_wb heat (wmD D (A 35)) n A r b)) := by
  have e6 : m 12 6 = A 34 := by
    rw [← hi.2.2.1]
    exact (cS_at0 (s := 12) (j := 6) (by decide)).symm
  rw [u_wof_0, e6, hi.1.2.2.2.1]
  unfold hr_wb
  have hb := hN.2.1
  by_cases z : A 34 = r
  · rw [if_pos z, if_pos z]
    exact C_wof hi hN.1.2.2 ht n 0 heat (by omega) (z_w_of (by omega) (by omega))
  · rw [if_neg z, if_neg z]
    exact C_wof hi hN.1.2.2 ht n 0 0 (by omega) (by decide +kernel)
theorem C_wmi (hi : C_is w h n heat price D A c U kn KS cs m) (hN : w_N w h n heat D) (ht : 0 ≤ A 35 ∧ A 35 ≤ 1073741824) (r : Int) : z_R 121 (m, 0, [(2, 24), (2, 12), (0, r)], []) = some (m, some (0, hr_wb heat (wmD D (A 35)) n A r (hr_b r n 0 A 0))) := by
  have a1 := C_bin hi hN.1.2.2 (r := r) n 0 0 (by omega) (by decide)
  have a1 : z_R 100 (m, 5, [(2, 3), (2, 12), (0, r), (0, 0), (0, 0)], []) = some (m, some (0, hr_b r n 0 A 0)) := a1
  rw [z_win_0, z_bin_0, a1, zb_v, z_win_12, C_wb hi hN ht r, zb_v, z_win_15]
theorem C_mby (hi : C_is w h n heat price D A c U kn KS cs m) {r : Nat} (hr : r < 9) (t k : Int) : ∃ m1, z_R 120 (m, 0, [(2, 24), (2, 12), (0, (r : Int)), (0, t), (0, k)], []) = some (m1, some (0, c_ml cs t (A r) (A (r + 9)) (A 36) ((r : Int) / 3) k (A 35))) ∧ C_is w h n heat price D A c U kn KS cs m1 ∧ m1 0 13 = m 0 13 := by
  have e7 : m 12 7 = A 35 := by
    rw [← hi.2.2.1]
    exact (cS_at0 (s := 12) (j := 7) (by decide)).symm
  have e8 : m 12 8 = A 36 := by
    rw [← hi.2.2.1]
    exact (cS_at0 (s := 12) (j := 8) (by decide)).symm
  have e13 : m 13 r = A r := by
    rw [← hi.2.2.1]
    exact (cS_at1 (s := 12) hr).symm
  have e14 : m 14 r = A (r + 9) := by
    rw [← hi.2.2.1]
    exact (cS_at2 (s := 12) hr).symm
  obtain ⟨m1, a1, a2⟩ := (C_cfg hi).2.2.2.2.2.2.1 m rfl rfl t (A r) (A (r + 9)) (A 36) ((r : Int) / 3) k (A 35)
  rw [u_mby_0 m r _ _ (by omega), Int.toNat_natCast, e13, e14, e8, e7, a1, zb_v, u_mby_48]
  refine ⟨m1, rfl, C_fr hi fun p k hk => ?_, a2.of (by (repeat' (first | exact trivial | refine z_of_c ?_ ?_)) <;> omega)⟩
  have hk' := hk
  unfold C_hit at hk'
  have hk' := of_decide_eq_true hk'
  exact a2.of (by (repeat' (first | exact trivial | refine z_of_c ?_ ?_)) <;> omega)
theorem hr_wb_b (hN : w_N w h n heat D) (ht : 0 ≤ A 35) (r b : Int) : 0 ≤ hr_wb heat (wmD D (A 35)) n A r b ∧ hr_wb heat (wmD D (A 35)) n A r b ≤ 54 := by
  have hb := hN.2.1
  have h5 := hN.1.2.2
  unfold hr_wb
  by_cases z : A 34 = r
  · rw [if_pos z]
    exact hr_s_rg (hN.2.2 (A 35) ht) n 0 heat (by omega) (by omega) (by omega)
  · rw [if_neg z]
    exact hr_s_rg (hN.2.2 (A 35) ht) n 0 0 (by omega) (by omega) (by omega)
theorem C_gain (hi : C_is w h n heat price D A c U kn KS cs m) (hN : w_N w h n heat D) (hok : hr_ok n A) (ht : 0 ≤ A 35 ∧ A 35 ≤ 1073741824) {a b r : Nat} (ha : a < n) (hb : b < n) (hr : r < 9) (ea : A (a + 18) = (r : Int)) {v : Int} (hv : 0 ≤ v ∧ v ≤ 99) {s x : Nat} (hs : s < 2) (hx : x < 4) : ∃ m1, z_R 136 (m, 0, [(2, 0), (0, (a : Int)), (0, (b : Int)), (0, v), (0, (x : Int)), (0, (s : Int)), (9, 0), (9, 0), (9, 0), (9, 0)], []) = some (m1, some (0, g_G n heat cs D A a b r v s x)) ∧ C_is w h n heat price D A c U kn KS cs m1 ∧ m1 0 13 = m 0 13 := by
  have h5 := hN.1.2.2
  have e15 : m 15 a = (r : Int) := (C_A3 hi ha h5).trans ea
  have e7 : m 12 7 = A 35 := by
    rw [← hi.2.2.1]
    exact (cS_at0 (s := 12) (j := 7) (by decide)).symm
  have bW := hr_wb_b hN ht.1 (r : Int) (hr_b (r : Int) n 0 A 0)
  have ba := hN.2.2 (A 35) ht.1 a (by omega)
  have bb := hN.2.2 (A 35) ht.1 b (by omega)
  have ca : cw m a (A 35) = wmD D (A 35) a := cw_D hi.1.2.2.2.2.2.2.1 hi.1.2.2.2.2.2.2.2 hi.2.1 ht.1 (by omega)
  have cb : cw m b (A 35) = wmD D (A 35) b := cw_D hi.1.2.2.2.2.2.2.1 hi.1.2.2.2.2.2.2.2 hi.2.1 ht.1 (by omega)
  have wa : z_R 70 (m, 0, [(2, 24), (0, (a : Int)), (0, A 35), (9, 0)], []) = some (m, some (0, wmD D (A 35) a)) := by rw [c_wo m (by omega) ht.1 (by omega), ca]
  have wb : z_R 70 (m, 0, [(2, 24), (0, (b : Int)), (0, A 35), (9, 0)], []) = some (m, some (0, wmD D (A 35) b)) := by rw [c_wo m (by omega) ht.1 (by omega), cb]
  have ew := C_wmi hi hN ht (r : Int)
  have aB := C_bin hi h5 (r := (r : Int)) n 0 0 (by omega) (by decide)
  have aB : z_R 100 (m, 5, [(2, 3), (2, 12), (0, (r : Int)), (0, 0), (0, 0)], []) = some (m, some (0, hr_b (r : Int) n 0 A 0)) := aB
  have k1 : z_and (x : Int) 1 = 0 ↔ g_go 0 x = true := by
    have : ∀ x, x < 4 → (z_and ((x : Nat) : Int) 1 = 0 ↔ g_go 0 x = true) := by decide +kernel
    exact this x hx
  have k2 : z_and (x : Int) 2 = 0 ↔ g_go 1 x = true := by
    have : ∀ x, x < 4 → (z_and ((x : Nat) : Int) 2 = 0 ↔ g_go 1 x = true) := by decide +kernel
    exact this x hx
  rw [z_gai_0 m a b v x s ⟨by omega, by omega⟩ ⟨by omega, by omega⟩, if_pos (show 0 ≤ (a : Int) ∧ (a : Int) < 5 by omega), Int.toNat_natCast, e15, ew, zb_v, z_gai_24, e7]
  unfold g_G
  generalize hr_wb heat (wmD D (A 35)) n A (r : Int) (hr_b (r : Int) n 0 A 0) = W at bW ⊢
  generalize hr_b (r : Int) n 0 A 0 = B at aB ⊢
  generalize wmD D (A 35) a = x1 at ba wa ⊢
  generalize wmD D (A 35) b = x2 at bb wb ⊢
  have go : ∀ t, t = g_wt W x1 x2 x → ∃ m1, ((z_R 100 (m, 0, [(2, 3), (2, 12), (0, (r : Int)), (9, 0), (9, 0)], [])).bind fun qq => z_R 136 (qq.1, 93, [(2, 0), (0, (a : Int)), (0, (b : Int)), (0, v), (0, (x : Int)), (0, (s : Int)), (0, (r : Int)), (0, t), (9, 0), (9, 0)], qq.2.toList ++ [])) = some (m1, some (0, g_g (fun t => c_ml cs t (A r) (A (r + 9)) (A 36) ((r : Int) / 3) (hr_pc B) (A 35)) W x1 x2 v s x)) ∧ C_is w h n heat price D A c U kn KS cs m1 ∧ m1 0 13 = m 0 13 := by
    intro t et
    obtain ⟨m1, a1, a2, a3⟩ := C_mby hi hr t (hr_pc B)
    have bm := c_ml_ok cs t (A r) (A (r + 9)) (A 36) ((r : Int) / 3) (hr_pc B) (A 35) (hok.1 r hr).1
    have br := (hok.1 r hr).2
    rw [z_bin_0, aB, zb_v, z_gai_93, t_bc_0, zb_v, z_gai_96, a1, zb_v, z_gai_115, g_shr hx hs]
    show ∃ m1', _ = some (m1', some (0, (if g_go s x = true then 0 else v) - c_ml cs (g_wt W x1 x2 x) (A r) (A (r + 9)) (A 36) ((r : Int) / 3) (hr_pc B) (A 35))) ∧ _ ∧ _
    rw [← et]
    by_cases g : g_go s x = true
    · rw [if_pos g, if_pos rfl, if_pos g, z_sub_eq (by omega) (by omega)]
      exact ⟨m1, rfl, a2, a3⟩
    · rw [if_neg g, if_neg (show ¬ (1 : Int) = 0 by decide), if_neg g, z_sub_eq (by omega) (by omega)]
      exact ⟨m1, rfl, a2, a3⟩
  by_cases c1 : g_go 0 x = true
  · rw [if_pos (k1.mpr c1), wa, zb_v, z_gai_50, e7]
    by_cases c2 : g_go 1 x = true
    · rw [if_pos (k2.mpr c2), wb, zb_v, z_gai_77, z_sub_eq (x := W) (by omega) (by omega), z_sub_eq (x := W - x1) (by omega) (by omega)]
      exact go _ (by unfold g_wt; rw [if_pos c1, if_pos c2])
    · rw [if_neg (fun z => c2 (k2.mp z)), z_sub_eq (x := W) (by omega) (by omega)]
      exact go _ (by unfold g_wt; rw [if_pos c1, if_neg c2]; omega)
  · rw [if_neg (fun z => c1 (k1.mp z))]
    by_cases c2 : g_go 1 x = true
    · rw [if_pos (k2.mpr c2), wb, zb_v, z_gai_77, z_sub_eq (x := W) (by omega) (by omega)]
      exact go _ (by unfold g_wt; rw [if_neg c1, if_pos c2]; omega)
    · rw [if_neg (fun z => c2 (k2.mp z))]
      exact go _ (by unfold g_wt; rw [if_neg c1, if_neg c2]; omega)
theorem C_rst1 (hN : w_N w h n heat D) (hok : hr_ok n A) (ht : 0 ≤ A 35 ∧ A 35 ≤ 1073741824) {a b r : Nat} (ha : a < n) (hb : b < n) (hr : r < 9) (ea : A (a + 18) = (r : Int)) {v : Int} (hv : 0 ≤ v ∧ v ≤ 99) : ∀ (f x : Nat) (acc y : Int) (v8 v9 : z_V) (m : z_M), x + f = 4 → (acc = 0 ∨ (0 ≤ y ∧ y < 4)) → C_is w h n heat price D A c U kn KS cs m → ∃ m1, z_R 135 (m, 88, [(2, 0), (0, (a : Int)), (0, (b : Int)), (0, v), (0, (r : Int)), (0, acc), (0, y), (0, (x : Int)), v8, v9], []) = some (m1, some (0, g_bits (g_G n heat cs D A a b r v) f x acc)) ∧ C_is w h n heat price D A c U kn KS cs m1 := by
  intro f
  induction f with
  | zero =>
    intro x acc y v8 v9 m hx hy hi
    have hi1 : C_is w h n heat price D A c U kn KS cs (z_up m 0 13 0) := C_upn hi (by decide)
    have g13 : (z_up m 0 13 0) 0 13 = ((0 : Nat) : Int) := zu_self
    show ∃ m1, _ = some (m1, some (0, acc)) ∧ _
    rw [z_rst_88, if_pos (by omega), s_tell0_0, zb_n, z_rst_201]
    generalize z_up m 0 13 0 = m0 at hi1 g13 ⊢
    by_cases z : acc = 0
    · rw [if_pos z]
      exact ⟨m0, rfl, hi1⟩
    · obtain ⟨y', rfl⟩ : ∃ y' : Nat, y = (y' : Int) := ⟨y.toNat, by omega⟩
      obtain ⟨m1, a1, a2, a3⟩ := C_gain hi1 hN hok ht ha hb hr ea hv (s := 0) (x := y') (by decide) (by omega)
      have a1 : z_R 136 (m0, 0, [(2, 0), (0, (a : Int)), (0, (b : Int)), (0, v), (0, (y' : Int)), (0, 0), (9, 0), (9, 0), (9, 0), (9, 0)], []) = some (m1, some (0, g_G n heat cs D A a b r v 0 y')) := a1
      have hi2 : C_is w h n heat price D A c U kn KS cs (z_up (z_up m1 250 0 (z_i2l (g_G n heat cs D A a b r v 0 y'))) 0 13 ((0 + 1 : Nat) : Int)) := C_upn (C_upn a2 (by decide)) (by decide)
      have g2 : (z_up (z_up m1 250 0 (z_i2l (g_G n heat cs D A a b r v 0 y'))) 0 13 ((0 + 1 : Nat) : Int)) 0 13 = ((1 : Nat) : Int) := zu_self
      rw [if_neg z, a1, zb_v, z_rst_217, c_add (j := 0) m1 _ (by decide) (a3.trans g13), zb_n, z_rst_221]
      generalize z_up (z_up m1 250 0 (z_i2l (g_G n heat cs D A a b r v 0 y'))) 0 13 ((0 + 1 : Nat) : Int) = m2 at hi2 g2 ⊢
      obtain ⟨m3, b1, b2, b3⟩ := C_gain hi2 hN hok ht ha hb hr ea hv (s := 1) (x := y') (by decide) (by omega)
      have b1 : z_R 136 (m2, 0, [(2, 0), (0, (a : Int)), (0, (b : Int)), (0, v), (0, (y' : Int)), (0, 1), (9, 0), (9, 0), (9, 0), (9, 0)], []) = some (m3, some (0, g_G n heat cs D A a b r v 1 y')) := b1
      rw [b1, zb_v, z_rst_232, c_add (j := 1) m3 _ (by decide) (b3.trans g2), zb_n, z_rst_236]
      exact ⟨_, rfl, C_upn (C_upn b2 (by decide)) (by decide)⟩
  | succ f ih =>
    intro x acc y v8 v9 m hx hy hi
    have hx4 : x < 4 := by omega
    obtain ⟨m1, a1, a2, -⟩ := C_gain hi hN hok ht ha hb hr ea hv (s := 0) (x := x) (by decide) hx4
    have a1 : z_R 136 (m, 0, [(2, 0), (0, (a : Int)), (0, (b : Int)), (0, v), (0, (x : Int)), (0, 0), (9, 0), (9, 0), (9, 0), (9, 0)], []) = some (m1, some (0, g_G n heat cs D A a b r v 0 x)) := a1
    obtain ⟨m2, b1, b2, -⟩ := C_gain a2 hN hok ht ha hb hr ea hv (s := 0) (x := g_x1 x) (by decide) (g_x1_lt hx4)
    have b1 : z_R 136 (m1, 0, [(2, 0), (0, (a : Int)), (0, (b : Int)), (0, v), (0, ((g_x1 x : Nat) : Int)), (0, 0), (9, 0), (9, 0), (9, 0), (9, 0)], []) = some (m2, some (0, g_G n heat cs D A a b r v 0 (g_x1 x))) := b1
    obtain ⟨m3, d1, d2, -⟩ := C_gain b2 hN hok ht ha hb hr ea hv (s := 1) (x := x) (by decide) hx4
    have d1 : z_R 136 (m2, 0, [(2, 0), (0, (a : Int)), (0, (b : Int)), (0, v), (0, (x : Int)), (0, 1), (9, 0), (9, 0), (9, 0), (9, 0)], []) = some (m3, some (0, g_G n heat cs D A a b r v 1 x)) := d1
    obtain ⟨m4, e1, e2, -⟩ := C_gain d2 hN hok ht ha hb hr ea hv (s := 1) (x := g_x2 x) (by decide) (g_x2_lt hx4)
    have e1 : z_R 136 (m3, 0, [(2, 0), (0, (a : Int)), (0, (b : Int)), (0, v), (0, ((g_x2 x : Nat) : Int)), (0, 1), (9, 0), (9, 0), (9, 0), (9, 0)], []) = some (m4, some (0, g_G n heat cs D A a b r v 1 (g_x2 x))) := e1
    have bit0 : (0 : Int) ≤ x ∧ (x : Int) < 4 := by omega
    rw [z_rst_88, if_neg (by omega), a1, zb_v, z_rst_104, g_xor1 hx4, b1, zb_v, z_rst_116]
    unfold g_bits
    generalize g_G n heat cs D A a b r v = G at d1 e1 ih ⊢
    by_cases p1 : G 0 x < G 0 (g_x1 x)
    · rw [if_pos p1, d1, zb_v, z_rst_136, g_xor2 hx4, e1, zb_v, z_rst_148, if_neg (show ¬ (G 0 (g_x1 x) ≤ G 0 x ∧ G 1 (g_x2 x) ≤ G 1 x) by omega), z_add_eq (x := (x : Int)) (y := 1) (by omega) (by omega), tc1]
      by_cases p2 : G 1 x < G 1 (g_x2 x)
      · rw [if_pos p2, if_pos rfl]
        exact ih (x + 1) acc y _ _ m4 (by omega) hy e2
      · rw [if_neg p2, if_pos rfl]
        exact ih (x + 1) acc y _ _ m4 (by omega) hy e2
    · rw [if_neg p1, d1, zb_v, z_rst_136, g_xor2 hx4, e1, zb_v, z_rst_148, z_add_eq (x := (x : Int)) (y := 1) (by omega) (by omega), tc1]
      by_cases p2 : G 1 x < G 1 (g_x2 x)
      · rw [if_pos p2, if_neg (show ¬ (1 : Int) = 0 by decide), if_neg (show ¬ (G 0 (g_x1 x) ≤ G 0 x ∧ G 1 (g_x2 x) ≤ G 1 x) by omega)]
        exact ih (x + 1) acc y _ _ m4 (by omega) hy e2
      · rw [if_neg p2, if_neg (show ¬ (1 : Int) = 0 by decide), if_pos (show G 0 (g_x1 x) ≤ G 0 x ∧ G 1 (g_x2 x) ≤ G 1 x by omega)]
        by_cases p3 : acc = 0
        · rw [if_pos p3]
          exact ih (x + 1) _ _ _ _ m4 (by omega) (Or.inr bit0) e2
        · rw [if_neg p3]
          exact ih (x + 1) _ _ _ _ m4 (by omega) (Or.inr (hy.resolve_left p3)) e2
theorem C_rests (hi : C_is w h n heat price D A c U kn KS cs m) (hN : w_N w h n heat D) (hok : hr_ok n A) (ht : 0 ≤ A 35 ∧ A 35 ≤ 1073741824) (hw : wi w h n A) (a b v : Int) : ∃ m1, z_R 135 (m, 0, [(2, 0), (0, a), (0, b), (0, v), (9, 0), (9, 0), (9, 0), (9, 0), (9, 0), (9, 0)], []) = some (m1, some (0, g_A n heat cs D A a b v)) ∧ C_is w h n heat price D A c U kn KS cs m1 := by
  have h5 := hN.1.2.2
  rw [z_rst_0, hi.1.1, hi.1.2.1, hi.1.2.2.1]
  by_cases c1 : 0 ≤ a ∧ a < (n : Int)
  · rw [if_pos c1]
    by_cases c2 : 0 ≤ b ∧ b < (n : Int)
    · rw [if_pos c2]
      by_cases c3 : a = b
      · have e : g_A n heat cs D A a b v = -1 := if_neg (fun z => z.2.2.1 c3)
        rw [if_pos c3, e]
        exact ⟨m, rfl, hi⟩
      rw [if_neg c3]
      by_cases c4 : v < 0
      · have e : g_A n heat cs D A a b v = -1 := if_neg (fun z => by have := z.2.2.2.1; omega)
        rw [if_pos c4, e]
        exact ⟨m, rfl, hi⟩
      rw [if_neg c4]
      by_cases c5 : v ≤ 99
      · obtain ⟨a', rfl⟩ : ∃ a' : Nat, a = (a' : Int) := ⟨a.toNat, by omega⟩
        obtain ⟨b', rfl⟩ : ∃ b' : Nat, b = (b' : Int) := ⟨b.toNat, by omega⟩
        have ha : a' < n := by omega
        have hb : b' < n := by omega
        have e15 : m 15 a' = A (a' + 18) := C_A3 hi ha h5
        have e15b : m 15 b' = A (b' + 18) := C_A3 hi hb h5
        have eA : g_A n heat cs D A (a' : Int) (b' : Int) v = if ¬ A ((a' : Int).toNat + 18) = -1 ∧ A ((b' : Int).toNat + 18) = A ((a' : Int).toNat + 18) then g_bits (g_G n heat cs D A (a' : Int).toNat (b' : Int).toNat (A ((a' : Int).toNat + 18)).toNat v) 4 0 0 else -2 := if_pos ⟨c1, c2, c3, by omega, c5⟩
        rw [Int.toNat_natCast, Int.toNat_natCast] at eA
        rw [if_pos c5, if_pos (show 0 ≤ (a' : Int) ∧ (a' : Int) < 5 by omega), if_pos (show 0 ≤ (b' : Int) ∧ (b' : Int) < 5 by omega), Int.toNat_natCast, Int.toNat_natCast, e15, e15b, eA]
        by_cases d1 : u_hs (w : Int) (h : Int) (A (a' + 18)) = 0
        · have z := (hw.1 a' ha).resolve_right (not_not_intro d1)
          rw [if_neg (not_not_intro d1), if_neg (fun y => y.1 z)]
          exact ⟨m, rfl, hi⟩
        · have hr := u_hs_rng d1
          rw [if_pos d1]
          by_cases d2 : A (b' + 18) = A (a' + 18)
          · obtain ⟨r, er⟩ : ∃ r : Nat, A (a' + 18) = (r : Int) := ⟨(A (a' + 18)).toNat, by omega⟩
            rw [if_pos d2, if_pos (show ¬ A (a' + 18) = -1 ∧ A (b' + 18) = A (a' + 18) from ⟨by omega, d2⟩), er, Int.toNat_natCast]
            exact C_rst1 hN hok ht ha hb (by omega) er (v := v) ⟨by omega, c5⟩ 4 0 0 (-1) (9, 0) (9, 0) m (by decide) (Or.inl rfl) hi
          · rw [if_neg d2, if_neg (fun y => d2 y.2)]
            exact ⟨m, rfl, hi⟩
      · have e : g_A n heat cs D A a b v = -1 := if_neg (fun z => c5 z.2.2.2.2)
        rw [if_neg c5, e]
        exact ⟨m, rfl, hi⟩
    · have e : g_A n heat cs D A a b v = -1 := if_neg (fun z => c2 z.2.1)
      rw [if_neg c2, e]
      exact ⟨m, rfl, hi⟩
  · have e : g_A n heat cs D A a b v = -1 := if_neg (fun z => c1 z.1)
    rw [if_neg c1, e]
    exact ⟨m, rfl, hi⟩
/-! the reference -/
theorem hr_t_1 {g : Nat → Int} (hg : ∀ p, p < 5 → 0 ≤ g p ∧ g p ≤ 9) {a : Nat} : ∀ (f x : Nat), x + f ≤ 5 → x ≤ a → a < x + f → g a ≤ hr_t g f x := by
  intro f
  induction f with
  | zero => intro x hx h1 h2; omega
  | succ f ih =>
    intro x hx h1 h2
    have b := hg x (by omega)
    have t := hr_t_b (B := 9) (by decide) hg f (x + 1) (by omega)
    unfold hr_t
    by_cases e : a = x
    · rw [e]; omega
    · have := ih (x + 1) (by omega) (by omega) (by omega)
      omega
theorem hr_t_2 {g : Nat → Int} (hg : ∀ p, p < 5 → 0 ≤ g p ∧ g p ≤ 9) {a b : Nat} (hab : ¬ a = b) : ∀ (f x : Nat), x + f ≤ 5 → x ≤ a → a < x + f → x ≤ b → b < x + f → g a + g b ≤ hr_t g f x := by
  intro f
  induction f with
  | zero => intro x hx h1 h2; omega
  | succ f ih =>
    intro x hx h1 h2 h3 h4
    have b0 := hg x (by omega)
    unfold hr_t
    by_cases e : a = x
    · have := hr_t_1 hg (a := b) f (x + 1) (by omega) (by omega) (by omega)
      rw [e]; omega
    · by_cases e2 : b = x
      · have := hr_t_1 hg (a := a) f (x + 1) (by omega) (by omega) (by omega)
        rw [e2]; omega
      · have := ih (x + 1) (by omega) (by omega) (by omega) (by omega) (by omega)
        omega
/-- two of a ROOM do not make it colder -/
theorem g_W2 (hN : w_N w h n heat D) (ht : 0 ≤ A 35) {a b r : Nat} (ha : a < n) (hb : b < n) (hab : ¬ a = b) (ea : A (a + 18) = (r : Int)) (eb : A (b + 18) = (r : Int)) : wmD D (A 35) a + wmD D (A 35) b ≤ hr_wb heat (wmD D (A 35)) n A (r : Int) (hr_b (r : Int) n 0 A 0) := by
  have h5 := hN.1.2.2
  have hh := hN.2.1
  have bwm := hN.2.2 (A 35) ht
  have hg : ∀ p, p < 5 → 0 ≤ (if A (p + 18) = (r : Int) then wmD D (A 35) p else 0) ∧ (if A (p + 18) = (r : Int) then wmD D (A 35) p else 0) ≤ 9 := fun p hp => by
    have := bwm p hp
    by_cases z : A (p + 18) = (r : Int)
    · rw [if_pos z]; exact this
    · rw [if_neg z]; decide
  have t := hr_t_2 (g := fun p => if A (p + 18) = (r : Int) then wmD D (A 35) p else 0) hg hab n 0 (by omega) (by omega) (by omega) (by omega) (by omega)
  have t : (if A (a + 18) = (r : Int) then wmD D (A 35) a else 0) + (if A (b + 18) = (r : Int) then wmD D (A 35) b else 0) ≤ hr_t (fun p => if A (p + 18) = (r : Int) then wmD D (A 35) p else 0) n 0 := t
  rw [if_pos ea, if_pos eb] at t
  rw [hr_wb_eq h5 bwm hh A r]
  unfold hr_W
  by_cases z : A 34 = (r : Int)
  · rw [if_pos z]; omega
  · rw [if_neg z]; omega
theorem g_mul2 {x : Nat} (hx : x < 4) : z_mul 2 (x : Int) = ((2 * x : Nat) : Int) := by
  have : ∀ x, x < 4 → z_mul 2 ((x : Nat) : Int) = ((2 * x : Nat) : Int) := by decide +kernel
  exact this x hx
/-- what is laid aside of the ways below x -/
def g_cl (G : Nat → Nat → Int) (m : z_M) (x : Nat) : Prop := ∀ j, j < x → m 273 (2 * j) = G 0 j ∧ m 273 (2 * j + 1) = G 1 j
theorem R_has (m : z_M) {x s : Nat} (hx : x < 4) (hs : s < 2) : z_R 185 (m, 0, [(0, (x : Int)), (0, (s : Int))], []) = some (m, some (0, if g_go s x = true then 0 else 1)) := by
  rw [t_has_0, g_shr hx hs]
  by_cases g : g_go s x = true
  · rw [if_pos g, if_neg (show ¬ (0 : Int) = 1 by decide)]
  · rw [if_neg g, if_pos rfl]
theorem R_wmo (hi : R_is w h n heat price D A c U kn KS cs m) (ht : 0 ≤ A 35 ∧ A 35 ≤ 1073741824) {p : Nat} (hp : p < 5) : z_R 186 (m, 0, [(2, 251), (2, 252), (0, (p : Int))], []) = some (m, some (0, wmD D (A 35) p)) := by
  have e35 : m 252 35 = A 35 := R_A hi (by decide) (a_vis_hi (by decide))
  have e := r_wo z_A_252 (Or.inl rfl) m hp e35 ht.1 (by omega)
  rw [rwm_D hi.1.2.2.2.2.2 hi.2.1 ht.1 hp] at e
  exact e
theorem R_mel (hi : R_is w h n heat price D A c U kn KS cs m) (hok : hr_ok n A) (ht : 0 ≤ A 35 ∧ A 35 ≤ 1073741824) {r : Nat} (hr : r < 9) {t k : Int} (h1 : 0 ≤ t ∧ t ≤ 1000) (h2 : 0 ≤ k ∧ k ≤ 63) : ∃ m1, z_R 189 (m, 0, [(2, 251), (2, 252), (0, (r : Int)), (0, t), (0, k), (9, 0)], []) = some (m1, some (0, c_ml cs t (A r) (A (r + 9)) (A 36) ((r : Int) / 3) k (A 35))) ∧ R_is w h n heat price D A c U kn KS cs m1 ∧ ∀ j, m1 273 j = m 273 j := by
  have ea : ∀ k, k < 18 ∨ 33 ≤ k → k < 37 → m 252 k = A k := fun k hk h37 => R_A hi h37 (by
    rcases hk with hk | hk
    · exact a_vis_lo hk
    · exact a_vis_hi hk)
  have hrg : r_rg 252 m := by
    refine ⟨fun k hk => ?_, ?_, ?_⟩
    · have p1 := hok.1 k hk
      have p2 := hok.2.1 k hk
      rw [ea k (by omega) (by omega), ea (k + 9) (by omega) (by omega)]
      omega
    · rw [ea 36 (by omega) (by omega)]
      have := hok.2.2.2
      omega
    · rw [ea 35 (by omega) (by omega)]
      omega
  obtain ⟨m1, a1, a2⟩ := (R_cfg hi).2.2.2.2.2.2 m rfl rfl 252 z_A_252 (Or.inl rfl) r t k hr hrg ⟨h1.1, by omega⟩ ⟨h2.1, by omega⟩
  rw [ea r (by omega) (by omega), ea (r + 9) (by omega) (by omega), ea 36 (by omega) (by omega), ea 35 (by omega) (by omega)] at a1
  refine ⟨m1, a1, R_fr hi fun p k hk => ?_, fun j => a2.of (by (repeat' (first | exact trivial | refine z_of_c ?_ ?_)) <;> omega)⟩
  have hk' := hk
  unfold R_hit at hk'
  have hk' := of_decide_eq_true hk'
  exact a2.of (by (repeat' (first | exact trivial | refine z_of_c ?_ ?_)) <;> omega)
theorem R_rst1 (hok : hr_ok n A) (ht : 0 ≤ A 35 ∧ A 35 ≤ 1073741824) (h5 : n ≤ 5) {a b r : Nat} (ha : a < n) (hb : b < n) (hr : r < 9) {v W B x1 x2 : Int} (hv : 0 ≤ v ∧ v ≤ 99) (hB : 0 ≤ hr_pc B ∧ hr_pc B ≤ 63) (b1 : 0 ≤ x1 ∧ x1 ≤ 9) (b2 : 0 ≤ x2 ∧ x2 ≤ 9) (bW : x1 + x2 ≤ W ∧ W ≤ 54) (e1 : wmD D (A 35) a = x1) (e2 : wmD D (A 35) b = x2) {G : Nat → Nat → Int} (hG : G = g_g (fun t => c_ml cs t (A r) (A (r + 9)) (A 36) ((r : Int) / 3) (hr_pc B) (A 35)) W x1 x2 v) : ∀ (f x : Nat) (v8 v9 : z_V) (m : z_M), x + f = 4 → R_is w h n heat price D A c U kn KS cs m → g_cl G m x → ∃ m1 v9', z_R 251 (m, 121, [(2, 251), (0, (a : Int)), (0, (b : Int)), (0, v), (0, (r : Int)), (0, B), (0, W - x1 - x2), (0, (x : Int)), v8, v9], []) = z_R 251 (m1, 262, [(2, 251), (0, (a : Int)), (0, (b : Int)), (0, v), (0, (r : Int)), (0, B), (0, W - x1 - x2), (0, 0), (0, 0), v9'], []) ∧ g_cl G m1 4 := by
  intro f
  induction f with
  | zero =>
    intro x v8 v9 m hx hi hc
    obtain rfl : x = 4 := by omega
    rw [z_trs_121, if_pos (by decide)]
    exact ⟨m, v9, rfl, hc⟩
  | succ f ih =>
    intro x v8 v9 m hx hi hc
    have hx4 : x < 4 := by omega
    have h0 : ∀ m : z_M, z_R 185 (m, 0, [(0, (x : Int)), (0, 0)], []) = some (m, some (0, if g_go 0 x = true then 0 else 1)) := fun m => R_has m hx4 (s := 0) (by decide)
    have h1 : ∀ m : z_M, z_R 185 (m, 0, [(0, (x : Int)), (0, 1)], []) = some (m, some (0, if g_go 1 x = true then 0 else 1)) := fun m => R_has m hx4 (s := 1) (by decide)
    have wa := R_wmo hi ht (p := a) (by omega)
    have wb := R_wmo hi ht (p := b) (by omega)
    rw [e1] at wa
    rw [e2] at wb
    -- the melting of this way, both told
    have go : ∀ t, t = g_wt W x1 x2 x → ∃ m1 v9', ((z_R 101 (m, 0, [(0, B)], [])).bind fun qq => z_R 251 (qq.1, 191, [(2, 251), (0, (a : Int)), (0, (b : Int)), (0, v), (0, (r : Int)), (0, B), (0, W - x1 - x2), (0, (x : Int)), (0, t), v9], qq.2.toList ++ [(0, t), (0, (r : Int)), (2, 252), (2, 251)])) = z_R 251 (m1, 262, [(2, 251), (0, (a : Int)), (0, (b : Int)), (0, v), (0, (r : Int)), (0, B), (0, W - x1 - x2), (0, 0), (0, 0), v9'], []) ∧ g_cl G m1 4 := by
      intro t et
      have bt : 0 ≤ t ∧ t ≤ 1000 := by
        rw [et]
        unfold g_wt
        by_cases c1 : g_go 0 x = true
        · rw [if_pos c1]
          by_cases c2 : g_go 1 x = true
          · rw [if_pos c2]; omega
          · rw [if_neg c2]; omega
        · rw [if_neg c1]
          by_cases c2 : g_go 1 x = true
          · rw [if_pos c2]; omega
          · rw [if_neg c2]; omega
      obtain ⟨m1, a1, a2, a3⟩ := R_mel hi hok ht hr bt hB
      have bm := c_ml_ok cs t (A r) (A (r + 9)) (A 36) ((r : Int) / 3) (hr_pc B) (A 35) (hok.1 r hr).1
      have br := (hok.1 r hr).2
      have eG : ∀ s, G s x = (if g_go s x = true then 0 else v) - c_ml cs t (A r) (A (r + 9)) (A 36) ((r : Int) / 3) (hr_pc B) (A 35) := fun s => by
        rw [hG, et]
        rfl
      rw [t_bc_0, zb_v, z_trs_191, a1, zb_v, z_trs_194, h0, zb_v, z_trs_210, g_mul2 hx4]
      generalize c_ml cs t (A r) (A (r + 9)) (A 36) ((r : Int) / 3) (hr_pc B) (A 35) = M at bm eG ⊢
      have nx : ∀ y0 y1 : Int, y0 = G 0 x → y1 = G 1 x → ∃ m2 v9', z_R 251 (z_up (z_up m1 273 (2 * x) y0) 273 (2 * x + 1) y1, 121, [(2, 251), (0, (a : Int)), (0, (b : Int)), (0, v), (0, (r : Int)), (0, B), (0, W - x1 - x2), (0, ((x + 1 : Nat) : Int)), (0, t), (0, M)], []) = z_R 251 (m2, 262, [(2, 251), (0, (a : Int)), (0, (b : Int)), (0, v), (0, (r : Int)), (0, B), (0, W - x1 - x2), (0, 0), (0, 0), v9'], []) ∧ g_cl G m2 4 := by
        intro y0 y1 h0 h1
        refine ih (x + 1) _ _ _ (by omega) (R_upn (R_upn a2 ?_) ?_) ?_
        · have : ∀ k, k < 8 → R_hit 273 k k = false := by decide +kernel
          exact this _ (by omega)
        · have : ∀ k, k < 8 → R_hit 273 k k = false := by decide +kernel
          exact this _ (by omega)
        · intro j hj
          by_cases e : j = x
          · rw [e, zu_k (by omega), zu_self, zu_self, h0, h1]
            exact ⟨rfl, rfl⟩
          · have := hc j (by omega)
            rw [zu_k (by omega), zu_k (by omega), zu_k (by omega), zu_k (by omega), a3, a3]
            exact this
      have n1 : z_add ((2 * x : Nat) : Int) 1 = ((2 * x + 1 : Nat) : Int) := by
        rw [z_add_eq (by omega) (by omega)]
        omega
      have i0 : (0 : Int) ≤ ((2 * x : Nat) : Int) ∧ ((2 * x : Nat) : Int) < 8 := by omega
      have i1 : (0 : Int) ≤ ((2 * x + 1 : Nat) : Int) ∧ ((2 * x + 1 : Nat) : Int) < 8 := by omega
      have s0 : z_sub 0 M = 0 - M := z_sub_eq (by omega) (by omega)
      have s1 : z_sub v M = v - M := z_sub_eq (by omega) (by omega)
      rw [n1, Int.toNat_natCast, s0, s1]
      by_cases c0 : g_go 0 x = true
      · rw [if_pos c0, if_pos rfl, if_pos i0, h1, zb_v, z_trs_238, s0, s1, z_add_eq (x := (x : Int)) (y := 1) (by omega) (by omega), tc1, Int.toNat_natCast]
        by_cases c1 : g_go 1 x = true
        · rw [if_pos c1, if_pos rfl, if_pos i1]
          exact nx _ _ (by rw [eG 0, if_pos c0]) (by rw [eG 1, if_pos c1])
        · rw [if_neg c1, if_neg (show ¬ (1 : Int) = 0 by decide), if_pos i1]
          exact nx _ _ (by rw [eG 0, if_pos c0]) (by rw [eG 1, if_neg c1])
      · rw [if_neg c0, if_neg (show ¬ (1 : Int) = 0 by decide), if_pos i0, h1, zb_v, z_trs_238, s0, s1, z_add_eq (x := (x : Int)) (y := 1) (by omega) (by omega), tc1, Int.toNat_natCast]
        by_cases c1 : g_go 1 x = true
        · rw [if_pos c1, if_pos rfl, if_pos i1]
          exact nx _ _ (by rw [eG 0, if_neg c0]) (by rw [eG 1, if_pos c1])
        · rw [if_neg c1, if_neg (show ¬ (1 : Int) = 0 by decide), if_pos i1]
          exact nx _ _ (by rw [eG 0, if_neg c0]) (by rw [eG 1, if_neg c1])
    rw [z_trs_121, if_neg (by omega), h0, zb_v, z_trs_135]
    by_cases c1 : g_go 0 x = true
    · rw [if_pos c1, if_pos rfl, z_add_eq (x := W - x1 - x2) (y := 0) (by omega) (by omega), h1, zb_v, z_trs_158]
      by_cases c2 : g_go 1 x = true
      · rw [if_pos c2, if_pos rfl, z_add_eq (x := W - x1 - x2 + 0) (y := 0) (by omega) (by omega)]
        exact go _ (by unfold g_wt; rw [if_pos c1, if_pos c2]; omega)
      · rw [if_neg c2, if_neg (show ¬ (1 : Int) = 0 by decide), wb, zb_v, z_trs_170, z_add_eq (x := W - x1 - x2 + 0) (by omega) (by omega)]
        exact go _ (by unfold g_wt; rw [if_pos c1, if_neg c2]; omega)
    · rw [if_neg c1, if_neg (show ¬ (1 : Int) = 0 by decide), wa, zb_v, z_trs_147, z_add_eq (x := W - x1 - x2) (by omega) (by omega), h1, zb_v, z_trs_158]
      by_cases c2 : g_go 1 x = true
      · rw [if_pos c2, if_pos rfl, z_add_eq (x := W - x1 - x2 + x1) (y := 0) (by omega) (by omega)]
        exact go _ (by unfold g_wt; rw [if_neg c1, if_pos c2]; omega)
      · rw [if_neg c2, if_neg (show ¬ (1 : Int) = 0 by decide), wb, zb_v, z_trs_170, z_add_eq (x := W - x1 - x2 + x1) (by omega) (by omega)]
        exact go _ (by unfold g_wt; rw [if_neg c1, if_neg c2]; omega)
theorem R_rst2 {G : Nat → Nat → Int} {y1 y2 y3 y4 y5 y6 : Int} {v9 : z_V} (hc : g_cl G m 4) : ∀ (f x : Nat) (acc : Int), x + f = 4 → z_R 251 (m, 262, [(2, 251), (0, y1), (0, y2), (0, y3), (0, y4), (0, y5), (0, y6), (0, acc), (0, (x : Int)), v9], []) = z_R 251 (m, 262, [(2, 251), (0, y1), (0, y2), (0, y3), (0, y4), (0, y5), (0, y6), (0, g_bits G f x acc), (0, 4), v9], []) := by
  intro f
  induction f with
  | zero =>
    intro x acc hx
    obtain rfl : x = 4 := by omega
    rfl
  | succ f ih =>
    intro x acc hx
    have hx4 : x < 4 := by omega
    have l1 := g_x1_lt hx4
    have l2 := g_x2_lt hx4
    have n1 : z_add ((2 * g_x2 x : Nat) : Int) 1 = ((2 * g_x2 x + 1 : Nat) : Int) := by
      rw [z_add_eq (by omega) (by omega)]
      omega
    rw [z_trs_262, if_neg (by omega), g_xor1 hx4, g_xor2 hx4, g_mul2 l1, g_mul2 hx4, g_mul2 l2, n1, if_pos (by omega), if_pos (by omega), Int.toNat_natCast, Int.toNat_natCast, Int.toNat_natCast, show (((2 * x : Nat) : Int) + 1).toNat = 2 * x + 1 by omega, (hc x hx4).1, (hc x hx4).2, (hc _ l1).1, (hc _ l2).2, z_add_eq (x := (x : Int)) (y := 1) (by omega) (by omega), tc1]
    unfold g_bits
    by_cases p1 : G 0 x < G 0 (g_x1 x)
    · rw [if_pos p1, if_neg (show ¬ (G 0 (g_x1 x) ≤ G 0 x ∧ G 1 (g_x2 x) ≤ G 1 x) by omega)]
      exact ih (x + 1) acc (by omega)
    · rw [if_neg p1, if_pos (by omega), if_pos (by omega)]
      by_cases p2 : G 1 x < G 1 (g_x2 x)
      · rw [if_pos p2, if_neg (show ¬ (G 0 (g_x1 x) ≤ G 0 x ∧ G 1 (g_x2 x) ≤ G 1 x) by omega)]
        exact ih (x + 1) acc (by omega)
      · rw [if_neg p2, if_pos (show G 0 (g_x1 x) ≤ G 0 x ∧ G 1 (g_x2 x) ≤ G 1 x by omega)]
        exact ih (x + 1) _ (by omega)
theorem R_rst3 {y1 y2 y3 y4 y5 y6 acc v : Int} {v9 : z_V} {m' : z_M} (hE : z_R 251 (m, 262, [(2, 251), (0, y1), (0, y2), (0, y3), (0, y4), (0, y5), (0, y6), (0, acc), (0, 4), v9], []) = some (m', some (0, v))) : v = acc := by
  rw [z_trs_262, if_pos (by decide)] at hE
  by_cases z : acc = 0
  · rw [if_pos z] at hE
    exact s_val hE
  · rw [if_neg z] at hE
    obtain ⟨m1, u, h1⟩ := s_bI (by decide +kernel) hE
    rw [z_trs_348] at h1
    split at h1
    · obtain ⟨m2, h2⟩ := s_bV (by decide +kernel) h1
      rw [z_trs_364] at h2
      split at h2
      · obtain ⟨m3, h3⟩ := s_bV (by decide +kernel) h2
        rw [z_trs_380] at h3
        exact s_val h3
      · cases h2
    · cases h1
theorem R_rests (hi : R_is w h n heat price D A c U kn KS cs m) (hN : w_N w h n heat D) (hok : hr_ok n A) (ht : 0 ≤ A 35 ∧ A 35 ≤ 1073741824) {a b v x : Int} {m' : z_M} (hE : z_R 251 (m, 0, [(2, 251), (0, a), (0, b), (0, v), (9, 0), (9, 0), (9, 0), (9, 0), (9, 0), (9, 0)], []) = some (m', some (0, x))) : x = g_A n heat cs D A a b v := by
  have h5 := hN.1.2.2
  have hu := R_upn (p0 := 251) (k0 := 11) (v := 0) hi (by decide)
  rw [z_trs_0 m a b v (by rw [hi.1.2.2.1]; omega), hi.1.2.2.1] at hE
  generalize z_up m 251 11 0 = m0 at hu hE
  by_cases c1 : 0 ≤ a ∧ a < (n : Int)
  · rw [if_pos c1] at hE
    by_cases c2 : 0 ≤ b ∧ b < (n : Int)
    · rw [if_pos c2] at hE
      by_cases c3 : a = b
      · have e : g_A n heat cs D A a b v = -1 := if_neg (fun z => z.2.2.1 c3)
        rw [if_pos c3] at hE
        rw [e]
        exact s_val hE
      rw [if_neg c3] at hE
      by_cases c5 : 0 ≤ v ∧ v ≤ 99
      · obtain ⟨a', rfl⟩ : ∃ a' : Nat, a = (a' : Int) := ⟨a.toNat, by omega⟩
        obtain ⟨b', rfl⟩ : ∃ b' : Nat, b = (b' : Int) := ⟨b.toNat, by omega⟩
        have ha : a' < n := by omega
        have hb : b' < n := by omega
        have e18 : m 252 (a' + 18) = A (a' + 18) := R_A hi (by omega) (a_vis_p (b := 18) (p := a') (by omega) (by omega) (by omega) (by omega))
        have e18b : m 252 (b' + 18) = A (b' + 18) := R_A hi (by omega) (a_vis_p (b := 18) (p := b') (by omega) (by omega) (by omega) (by omega))
        have eA : g_A n heat cs D A (a' : Int) (b' : Int) v = if ¬ A ((a' : Int).toNat + 18) = -1 ∧ A ((b' : Int).toNat + 18) = A ((a' : Int).toNat + 18) then g_bits (g_G n heat cs D A (a' : Int).toNat (b' : Int).toNat (A ((a' : Int).toNat + 18)).toNat v) 4 0 0 else -2 := if_pos ⟨c1, c2, c3, c5⟩
        rw [Int.toNat_natCast, Int.toNat_natCast] at eA
        rw [if_pos c5, show ((a' : Int) + 18).toNat = a' + 18 by omega, show ((b' : Int) + 18).toNat = b' + 18 by omega, e18, e18b] at hE
        rw [eA]
        by_cases d1 : A (a' + 18) = -1
        · rw [if_pos d1] at hE
          rw [if_neg (fun y => y.1 d1)]
          exact s_val hE
        rw [if_neg d1] at hE
        by_cases d2 : A (b' + 18) = A (a' + 18)
        · have hw := hok.2.2.1 a' ha
          obtain ⟨r, er⟩ : ∃ r : Nat, A (a' + 18) = (r : Int) := ⟨(A (a' + 18)).toNat, by omega⟩
          have eb := d2.trans er
          have hr : r < 9 := by omega
          have bW := hr_wb_b hN ht.1 (r : Int) (hr_b (r : Int) n 0 A 0)
          have b2W := g_W2 hN ht.1 ha hb (fun z => c3 (by rw [z])) er eb
          have ba := hN.2.2 (A 35) ht.1 a' (by omega)
          have bb := hN.2.2 (A 35) ht.1 b' (by omega)
          have hrS := hu.2.2.1
          have pin := r_pin z_A_252 (Or.inl rfl) h5 (k := (r : Int)) m0 hu.1.2.2.1
          rw [hrS] at pin
          have pin : z_R 183 (m0, 0, [(2, 251), (2, 252), (0, (r : Int)), (9, 0), (9, 0)], []) = some (m0, some (0, hr_b (r : Int) n 0 A 0)) := pin
          have wbr := r_wb z_A_252 (Or.inl rfl) h5 (k := (r : Int)) (b := hr_b (r : Int) n 0 A 0) (t := A 35) (heat := heat) (wm := wmD D (A 35)) ht.1 (by omega) m0 hu.1.2.2.1 (R_cfg hu).2.2.2.1 (R_A hu (by decide) (a_vis_hi (by decide))) (fun p hp => (R_cfg hu).2.2.2.2.2.1 (A 35) ht.1 p hp)
          rw [hrS] at wbr
          have wbr : z_R 184 (m0, 0, [(2, 251), (2, 252), (0, (r : Int)), (0, hr_b (r : Int) n 0 A 0), (9, 0), (9, 0)], []) = some (m0, some (0, hr_wb heat (wmD D (A 35)) n A (r : Int) (hr_b (r : Int) n 0 A 0))) := wbr
          have wa := R_wmo hu ht (p := a') (by omega)
          have wb := R_wmo hu ht (p := b') (by omega)
          rw [if_pos d2, er, pin, zb_v, z_trs_82, wbr, zb_v, z_trs_96, wa, zb_v, z_trs_105, wb, zb_v, z_trs_115, z_sub_eq (x := hr_wb heat (wmD D (A 35)) n A (r : Int) (hr_b (r : Int) n 0 A 0)) (by omega) (by omega), z_sub_eq (x := hr_wb heat (wmD D (A 35)) n A (r : Int) (hr_b (r : Int) n 0 A 0) - wmD D (A 35) a') (by omega) (by omega)] at hE
          obtain ⟨m1, v9, f1, f2⟩ := R_rst1 (cs := cs) hok ht h5 ha hb hr (v := v) (W := hr_wb heat (wmD D (A 35)) n A (r : Int) (hr_b (r : Int) n 0 A 0)) (B := hr_b (r : Int) n 0 A 0) c5 (hr_pc_b _) ba bb ⟨b2W, bW.2⟩ rfl rfl (G := g_G n heat cs D A a' b' r v) rfl 4 0 (9, 0) (9, 0) m0 (by decide) hu (fun j hj => absurd hj (Nat.not_lt_zero j))
          have f1 : z_R 251 (m0, 121, [(2, 251), (0, (a' : Int)), (0, (b' : Int)), (0, v), (0, (r : Int)), (0, hr_b (r : Int) n 0 A 0), (0, hr_wb heat (wmD D (A 35)) n A (r : Int) (hr_b (r : Int) n 0 A 0) - wmD D (A 35) a' - wmD D (A 35) b'), (0, 0), (9, 0), (9, 0)], []) = _ := f1
          rw [f1] at hE
          have f3 := R_rst2 (y1 := (a' : Int)) (y2 := (b' : Int)) (y3 := v) (y4 := (r : Int)) (y5 := hr_b (r : Int) n 0 A 0) (y6 := hr_wb heat (wmD D (A 35)) n A (r : Int) (hr_b (r : Int) n 0 A 0) - wmD D (A 35) a' - wmD D (A 35) b') (v9 := v9) f2 4 0 0 (by decide)
          have z := R_rst3 (f3.symm.trans hE)
          rw [if_pos (show ¬ A (a' + 18) = -1 ∧ A (b' + 18) = A (a' + 18) from ⟨d1, d2⟩), er, Int.toNat_natCast]
          exact z
        · rw [if_neg d2] at hE
          rw [if_neg (fun y => d2 y.2)]
          exact s_val hE
      · have e : g_A n heat cs D A a b v = -1 := if_neg (fun z => c5 z.2.2.2)
        rw [if_neg c5] at hE
        rw [e]
        exact s_val hE
    · have e : g_A n heat cs D A a b v = -1 := if_neg (fun z => c2 z.2.1)
      rw [if_neg c2] at hE
      rw [e]
      exact s_val hE
  · have e : g_A n heat cs D A a b v = -1 := if_neg (fun z => c1 z.1)
    rw [if_neg c1] at hE
    rw [e]
    exact s_val hE
end
theorem core_rests : l_rel2 Rel_C (1064, 159, 135, 3, false, 1087, 162, 251) := by
  intro M1 M2 M3 σ σ1 σ2 as v1 v2 C1 C2 ρ1 ρ2 ha hR hh hM1 hC1 hp1 hE1 hC2 hp2 hE2
  obtain ⟨a, b, v, rfl⟩ := as_three ha
  have hE1 : z_R 135 (z_m σ, 0, [(2, 0), (0, a.toInt), (0, b.toInt), (0, v.toInt), (9, 0), (9, 0), (9, 0), (9, 0), (9, 0), (9, 0)], []) = some (z_m σ1, some (0, v1.toInt)) := z_R_iff.mpr hE1
  have hE2 : z_R 251 (z_m σ1, 0, [(2, 251), (0, a.toInt), (0, b.toInt), (0, v.toInt), (9, 0), (9, 0), (9, 0), (9, 0), (9, 0), (9, 0)], []) = some (z_m σ2, some (0, v2.toInt)) := z_R_iff.mpr hE2
  have hT := T_two (y1 := 135) (y2 := 251) (by decide +kernel) (by decide +kernel) hC1 hC2 hp1 hp2 hR.1
  have hK := core_off_ok (y := 251) (by decide +kernel) hC2 hp2 (core_off_ok (y := 135) (by decide +kernel) hC1 hp1 hR.2)
  obtain ⟨w, h, n, heat, price, D, A, c, U, kn, KS, cs, cC, cR, cW⟩ := hR.2
  obtain ⟨b1, b2, -, -, hok, b35, -, b7⟩ := core_b hh hM1 cR
  have hN : w_N w h n heat D := ⟨b1, b2, b7⟩
  have f1 := R_off2_ok (y := 135) (by decide +kernel) hC1 hp1
  obtain ⟨m1, x1, -⟩ := C_rests cC hN hok b35 cW.2.1 a.toInt b.toInt v.toInt
  obtain ⟨-, x1⟩ := R_inj x1 hE1
  have x2 := R_rests (R_fr cR f1) hN hok b35 hE2
  exact ⟨⟨hT, hK⟩, fun _ => Int32.toInt_inj.mp (x1.symm.trans x2.symm)⟩
end
section
/-! STRETCHES of room, person, with bounds done -/
theorem rm_roo_0  (m : z_M) (r : Int) (k : Int) : z_R 155 (m, 0, [(2, 0), (0, r), (0, k)], []) = if ¬ u_hs (m 3 8) (m 3 9) r = 0 then if k = 0 then some (m, some (0, m 13 (r).toNat)) else if k = 1 then some (m, some (0, m 14 (r).toNat)) else if k = 2 then (z_R 121 (m, 0, [(2, 24), (2, 12), (0, r)], [])).bind fun qq => z_R 155 (qq.1, 92, [(2, 0), (0, r), (0, k)], qq.2.toList ++ []) else if k = 3 then (z_R 117 (m, 0, [(2, 24), (2, 12), (0, r)], [])).bind fun qq => z_R 155 (qq.1, 105, [(2, 0), (0, r), (0, k)], qq.2.toList ++ []) else if k = 4 then (z_R 100 (m, 0, [(2, 3), (2, 12), (0, r), (9, 0), (9, 0)], [])).bind fun qq => z_R 155 (qq.1, 118, [(2, 0), (0, r), (0, k)], qq.2.toList ++ []) else if k = 5 then if m 12 6 = r then some (m, some (0, 1)) else some (m, some (0, 0)) else some (m, some (9, 0)) else some (m, some (9, 0)) :=
  have hK : kt_at 155 = kt_155 := rfl
  (z_R_run hK (n := 2) (g' := (m, 4, [(2, 0), (0, r), (0, k)], [(2, 3)])) rfl).trans ((z_R_run hK (n := 1) (g' := (m, 5, [(2, 0), (0, r), (0, k)], [(0, r), (2, 3)])) rfl).trans (z_R_cif hK rfl rfl rfl rfl rfl (c_ifhas _ _ rfl rfl) (fun h1 => have h9 := u_hs_rng h1; (z_R_run hK (n := 2) (g' := (m, 22, [(2, 0), (0, r), (0, k)], [(0, k)])) rfl).trans ((z_R_s1 hK (g' := (m, z_tgt 22 (z_tbo (114) (0) (5) [(38 : Int), (48 : Int), (58 : Int), (71 : Int), (84 : Int), (97 : Int)] k), [(2, 0), (0, r), (0, k)], [])) rfl rfl rfl).trans (z_dite (fun h2 => z_R_tbk h2 rfl ((z_R_run hK (n := 2) (g' := (m, 64, [(2, 0), (0, r), (0, k)], [(2, 12)])) rfl).trans ((z_R_run hK (n := 1) (g' := (m, 67, [(2, 0), (0, r), (0, k)], [(2, 13)])) rfl).trans ((z_R_run hK (n := 1) (g' := (m, 68, [(2, 0), (0, r), (0, k)], [(0, r), (2, 13)])) rfl).trans (z_R_ixT hK (n := 9) (g' := (m, 69, [(2, 0), (0, r), (0, k)], [(0, m 13 (r).toNat)])) rfl rfl rfl  (show 0 ≤ r ∧ r < 9 by omega) (z_R_ret hK rfl rfl rfl)))))) (fun h2 => z_dite (fun h3 => z_R_tbk h3 rfl ((z_R_run hK (n := 2) (g' := (m, 74, [(2, 0), (0, r), (0, k)], [(2, 12)])) rfl).trans ((z_R_run hK (n := 1) (g' := (m, 77, [(2, 0), (0, r), (0, k)], [(2, 14)])) rfl).trans ((z_R_run hK (n := 1) (g' := (m, 78, [(2, 0), (0, r), (0, k)], [(0, r), (2, 14)])) rfl).trans (z_R_ixT hK (n := 9) (g' := (m, 79, [(2, 0), (0, r), (0, k)], [(0, m 14 (r).toNat)])) rfl rfl rfl  (show 0 ≤ r ∧ r < 9 by omega) (z_R_ret hK rfl rfl rfl)))))) (fun h3 => z_dite (fun h4 => z_R_tbk h4 rfl ((z_R_run hK (n := 2) (g' := (m, 84, [(2, 0), (0, r), (0, k)], [(2, 24)])) rfl).trans ((z_R_run hK (n := 2) (g' := (m, 88, [(2, 0), (0, r), (0, k)], [(2, 12), (2, 24)])) rfl).trans ((z_R_run hK (n := 1) (g' := (m, 89, [(2, 0), (0, r), (0, k)], [(0, r), (2, 12), (2, 24)])) rfl).trans (z_R_call hK rfl rfl rfl rfl rfl))))) (fun h4 => z_dite (fun h5 => z_R_tbk h5 rfl ((z_R_run hK (n := 2) (g' := (m, 97, [(2, 0), (0, r), (0, k)], [(2, 24)])) rfl).trans ((z_R_run hK (n := 2) (g' := (m, 101, [(2, 0), (0, r), (0, k)], [(2, 12), (2, 24)])) rfl).trans ((z_R_run hK (n := 1) (g' := (m, 102, [(2, 0), (0, r), (0, k)], [(0, r), (2, 12), (2, 24)])) rfl).trans (z_R_call hK rfl rfl rfl rfl rfl))))) (fun h5 => z_dite (fun h6 => z_R_tbk h6 rfl ((z_R_run hK (n := 2) (g' := (m, 110, [(2, 0), (0, r), (0, k)], [(2, 3)])) rfl).trans ((z_R_run hK (n := 2) (g' := (m, 114, [(2, 0), (0, r), (0, k)], [(2, 12), (2, 3)])) rfl).trans ((z_R_run hK (n := 1) (g' := (m, 115, [(2, 0), (0, r), (0, k)], [(0, r), (2, 12), (2, 3)])) rfl).trans (z_R_call hK rfl rfl rfl rfl rfl))))) (fun h6 => z_dite (fun h7 => z_R_tbk h7 rfl ((z_R_run hK (n := 2) (g' := (m, 123, [(2, 0), (0, r), (0, k)], [(2, 12)])) rfl).trans ((z_R_run hK (n := 2) (g' := (m, 127, [(2, 0), (0, r), (0, k)], [(0, r), (0, m 12 6)])) rfl).trans (z_R_ifnd hK (c := m 12 6 = r) (p1 := 134) (p2 := 130) rfl rfl rfl (fun h8 => (z_R_run hK (n := 1) (g' := (m, 135, [(2, 0), (0, r), (0, k)], [(0, 0)])) rfl).trans (z_R_ret hK rfl rfl rfl)) (fun h8 => (z_R_run hK (n := 2) (g' := (m, 135, [(2, 0), (0, r), (0, k)], [(0, 1)])) rfl).trans (z_R_ret hK rfl rfl rfl)))))) (fun h7 => z_R_tbd (show ¬ (0 ≤ k ∧ k ≤ 5) by omega) (z_R_ret hK rfl rfl rfl)))))))))) (fun h1 => (z_R_run hK (n := 1) (g' := (m, 11, [(2, 0), (0, r), (0, k)], [])) rfl).trans (z_R_ret hK rfl rfl rfl))))
theorem rm_roo_92  (m : z_M) (x1 : Int) (x2 : Int) (u : Int) : z_R 155 (m, 92, [(2, 0), (0, x1), (0, x2)], [(0, u)]) = some (m, some (0, u)) :=
  have hK : kt_at 155 = kt_155 := rfl
  z_R_ret hK rfl rfl rfl
theorem rm_roo_105  (m : z_M) (x1 : Int) (x2 : Int) (u : Int) : z_R 155 (m, 105, [(2, 0), (0, x1), (0, x2)], [(0, u)]) = some (m, some (0, u)) :=
  have hK : kt_at 155 = kt_155 := rfl
  z_R_ret hK rfl rfl rfl
theorem rm_roo_118  (m : z_M) (x1 : Int) (x2 : Int) (u : Int) : z_R 155 (m, 118, [(2, 0), (0, x1), (0, x2)], [(0, u)]) = some (m, some (0, u)) :=
  have hK : kt_at 155 = kt_155 := rfl
  z_R_ret hK rfl rfl rfl
theorem rm_per_0  (m : z_M) (p : Int) (k : Int) : z_R 156 (m, 0, [(2, 0), (0, p), (0, k)], []) = if 0 ≤ p ∧ p < m 3 11 then if k = 0 then if 0 ≤ p ∧ p < 5 then some (m, some (0, m 15 (p).toNat)) else none else if k = 1 then if 0 ≤ p ∧ p < 5 then some (m, some (0, m 16 (p).toNat)) else none else if k = 2 then if 0 ≤ p ∧ p < 5 then some (m, some (0, m 17 (p).toNat)) else none else if k = 3 then (z_R 70 (m, 0, [(2, 24), (0, p), (0, m 12 7), (9, 0)], [])).bind fun qq => z_R 156 (qq.1, 101, [(2, 0), (0, p), (0, k)], qq.2.toList ++ []) else if k = 4 then (z_R 157 (m, 0, [(2, 3), (0, p), (9, 0), (9, 0)], [])).bind fun qq => z_R 156 (qq.1, 110, [(2, 0), (0, p), (0, k)], qq.2.toList ++ []) else some (m, some (9, 0)) else some (m, some (9, 0)) :=
  have hK : kt_at 156 = kt_156 := rfl
  (z_R_run hK (n := 2) (g' := (m, 4, [(2, 0), (0, p), (0, k)], [(2, 3)])) rfl).trans ((z_R_run hK (n := 1) (g' := (m, 5, [(2, 0), (0, p), (0, k)], [(0, p), (2, 3)])) rfl).trans (z_R_cif hK rfl rfl rfl rfl rfl (c_ifknows _ _ rfl) (fun h1 => (z_R_run hK (n := 2) (g' := (m, 22, [(2, 0), (0, p), (0, k)], [(0, k)])) rfl).trans ((z_R_s1 hK (g' := (m, z_tgt 22 (z_tbo (89) (0) (4) [(34 : Int), (44 : Int), (54 : Int), (64 : Int), (80 : Int)] k), [(2, 0), (0, p), (0, k)], [])) rfl rfl rfl).trans (z_dite (fun h2 => z_R_tbk h2 rfl ((z_R_run hK (n := 2) (g' := (m, 60, [(2, 0), (0, p), (0, k)], [(2, 12)])) rfl).trans ((z_R_run hK (n := 1) (g' := (m, 63, [(2, 0), (0, p), (0, k)], [(2, 15)])) rfl).trans ((z_R_run hK (n := 1) (g' := (m, 64, [(2, 0), (0, p), (0, k)], [(0, p), (2, 15)])) rfl).trans (z_R_ixD hK (n := 5) (g' := (m, 65, [(2, 0), (0, p), (0, k)], [(0, m 15 (p).toNat)])) rfl rfl rfl  (fun h3 => z_R_ret hK rfl rfl rfl)))))) (fun h2 => z_dite (fun h4 => z_R_tbk h4 rfl ((z_R_run hK (n := 2) (g' := (m, 70, [(2, 0), (0, p), (0, k)], [(2, 12)])) rfl).trans ((z_R_run hK (n := 1) (g' := (m, 73, [(2, 0), (0, p), (0, k)], [(2, 16)])) rfl).trans ((z_R_run hK (n := 1) (g' := (m, 74, [(2, 0), (0, p), (0, k)], [(0, p), (2, 16)])) rfl).trans (z_R_ixD hK (n := 5) (g' := (m, 75, [(2, 0), (0, p), (0, k)], [(0, m 16 (p).toNat)])) rfl rfl rfl  (fun h5 => z_R_ret hK rfl rfl rfl)))))) (fun h4 => z_dite (fun h6 => z_R_tbk h6 rfl ((z_R_run hK (n := 2) (g' := (m, 80, [(2, 0), (0, p), (0, k)], [(2, 12)])) rfl).trans ((z_R_run hK (n := 1) (g' := (m, 83, [(2, 0), (0, p), (0, k)], [(2, 17)])) rfl).trans ((z_R_run hK (n := 1) (g' := (m, 84, [(2, 0), (0, p), (0, k)], [(0, p), (2, 17)])) rfl).trans (z_R_ixD hK (n := 5) (g' := (m, 85, [(2, 0), (0, p), (0, k)], [(0, m 17 (p).toNat)])) rfl rfl rfl  (fun h7 => z_R_ret hK rfl rfl rfl)))))) (fun h6 => z_dite (fun h8 => z_R_tbk h8 rfl ((z_R_run hK (n := 2) (g' := (m, 90, [(2, 0), (0, p), (0, k)], [(2, 24)])) rfl).trans ((z_R_run hK (n := 3) (g' := (m, 95, [(2, 0), (0, p), (0, k)], [(2, 12), (0, p), (2, 24)])) rfl).trans ((z_R_run hK (n := 1) (g' := (m, 98, [(2, 0), (0, p), (0, k)], [(0, m 12 7), (0, p), (2, 24)])) rfl).trans (z_R_call hK rfl rfl rfl rfl rfl))))) (fun h8 => z_dite (fun h9 => z_R_tbk h9 rfl ((z_R_run hK (n := 2) (g' := (m, 106, [(2, 0), (0, p), (0, k)], [(2, 3)])) rfl).trans ((z_R_run hK (n := 1) (g' := (m, 107, [(2, 0), (0, p), (0, k)], [(0, p), (2, 3)])) rfl).trans (z_R_call hK rfl rfl rfl rfl rfl)))) (fun h9 => z_R_tbd (show ¬ (0 ≤ k ∧ k ≤ 4) by omega) (z_R_ret hK rfl rfl rfl))))))))) (fun h1 => (z_R_run hK (n := 1) (g' := (m, 11, [(2, 0), (0, p), (0, k)], [])) rfl).trans (z_R_ret hK rfl rfl rfl))))
theorem rm_per_101  (m : z_M) (x1 : Int) (x2 : Int) (u : Int) : z_R 156 (m, 101, [(2, 0), (0, x1), (0, x2)], [(0, u)]) = some (m, some (0, u)) :=
  have hK : kt_at 156 = kt_156 := rfl
  z_R_ret hK rfl rfl rfl
theorem rm_per_110  (m : z_M) (x1 : Int) (x2 : Int) (u : Int) : z_R 156 (m, 110, [(2, 0), (0, x1), (0, x2)], [(0, u)]) = some (m, some (0, u)) :=
  have hK : kt_at 156 = kt_156 := rfl
  z_R_ret hK rfl rfl rfl
theorem rm_los_0  (m : z_M) : z_R 182 (m, 0, [(2, 251)], []) = some (z_up m 251 11 1, some (0, 0)) :=
  have hK : kt_at 182 = kt_182 := rfl
  (z_R_run hK (n := 4) (g' := (z_up m 251 11 1, 6, [(2, 251)], [(0, 0)])) rfl).trans (z_R_ret hK rfl rfl rfl)
theorem rm_mno_0  (m : z_M) (r : Int) : z_R 187 (m, 0, [(2, 251), (2, 252), (0, r)], []) = (z_R 183 (m, 0, [(2, 251), (2, 252), (0, r), (9, 0), (9, 0)], [])).bind fun qq => z_R 187 (qq.1, 9, [(2, 251), (2, 252), (0, r)], qq.2.toList ++ [(0, r), (2, 252), (2, 251)]) :=
  have hK : kt_at 187 = kt_187 := rfl
  (z_R_run hK (n := 6) (g' := (m, 6, [(2, 251), (2, 252), (0, r)], [(0, r), (2, 252), (2, 251), (0, r), (2, 252), (2, 251)])) rfl).trans (z_R_call hK rfl rfl rfl rfl rfl)
theorem rm_mno_9  (m : z_M) (x2 : Int) (s0 : Int) (u : Int) : z_R 187 (m, 9, [(2, 251), (2, 252), (0, x2)], [(0, u), (0, s0), (2, 252), (2, 251)]) = (z_R 188 (m, 0, [(2, 251), (2, 252), (0, s0), (0, u)], [])).bind fun qq => z_R 187 (qq.1, 12, [(2, 251), (2, 252), (0, x2)], qq.2.toList ++ []) :=
  have hK : kt_at 187 = kt_187 := rfl
  z_R_call hK rfl rfl rfl rfl rfl
theorem rm_mno_12  (m : z_M) (x2 : Int) (u : Int) : z_R 187 (m, 12, [(2, 251), (2, 252), (0, x2)], [(0, u)]) = some (m, some (0, u)) :=
  have hK : kt_at 187 = kt_187 := rfl
  z_R_ret hK rfl rfl rfl
theorem rm_isr_0  (m : z_M) (r : Int) : z_R 171 (m, 0, [(2, 251), (0, r)], []) = (z_R 162 (m, 0, [(0, r), (0, 0), (0, 8)], [])).bind fun qq => z_R 171 (qq.1, 7, [(2, 251), (0, r)], qq.2.toList ++ []) :=
  have hK : kt_at 171 = kt_171 := rfl
  (z_R_run hK (n := 3) (g' := (m, 4, [(2, 251), (0, r)], [(0, 8), (0, 0), (0, r)])) rfl).trans (z_R_call hK rfl rfl rfl rfl rfl)
theorem rm_isr_7  (m : z_M) (x1 : Int) (u : Int) : z_R 171 (m, 7, [(2, 251), (0, x1)], [(0, u)]) = if u = 0 then some (m, some (0, 0)) else if m 251 1 ≤ z_rem x1 3 then some (m, some (0, 0)) else if m 251 2 ≤ z_div x1 3 then some (m, some (0, 0)) else some (m, some (0, 1)) :=
  have hK : kt_at 171 = kt_171 := rfl
  z_R_ifd hK (c := u = 0) (p1 := 34) (p2 := 10) rfl rfl rfl (fun h1 => (z_R_run hK (n := 1) (g' := (m, 35, [(2, 251), (0, x1)], [(0, 0)])) rfl).trans (z_R_ret hK rfl rfl rfl)) (fun h1 => (z_R_run hK (n := 5) (g' := (m, 17, [(2, 251), (0, x1)], [(0, m 251 1), (0, z_rem x1 3)])) rfl).trans (z_R_ifd hK (c := m 251 1 ≤ z_rem x1 3) (p1 := 34) (p2 := 20) rfl rfl rfl (fun h2 => (z_R_run hK (n := 1) (g' := (m, 35, [(2, 251), (0, x1)], [(0, 0)])) rfl).trans (z_R_ret hK rfl rfl rfl)) (fun h2 => (z_R_run hK (n := 5) (g' := (m, 27, [(2, 251), (0, x1)], [(0, m 251 2), (0, z_div x1 3)])) rfl).trans (z_R_ifd hK (c := m 251 2 ≤ z_div x1 3) (p1 := 34) (p2 := 30) rfl rfl rfl (fun h3 => (z_R_run hK (n := 1) (g' := (m, 35, [(2, 251), (0, x1)], [(0, 0)])) rfl).trans (z_R_ret hK rfl rfl rfl)) (fun h3 => (z_R_run hK (n := 2) (g' := (m, 35, [(2, 251), (0, x1)], [(0, 1)])) rfl).trans (z_R_ret hK rfl rfl rfl))))))
theorem rm_isp_0  (m : z_M) (p : Int) (h_n : 0 ≤ m 251 3 ∧ m 251 3 ≤ 5) : z_R 191 (m, 0, [(2, 251), (0, p)], []) = (z_R 162 (m, 0, [(0, p), (0, 0), (0, m 251 3 - 1)], [])).bind fun qq => z_R 191 (qq.1, 11, [(2, 251), (0, p)], qq.2.toList ++ []) :=
  have hK : kt_at 191 = kt_191 := rfl
  (z_R_run hK (n := 6) (g' := (m, 8, [(2, 251), (0, p)], [(0, z_sub (m 251 3) 1), (0, 0), (0, p)])) rfl).trans ((congrArg (fun vv => z_R 191 (m, 8, [(2, 251), (0, p)], [(0, vv), (0, 0), (0, p)])) (z_sub_eq (by omega) (by omega))).trans (z_R_call hK rfl rfl rfl rfl rfl))
theorem rm_isp_11  (m : z_M) (x1 : Int) (u : Int) : z_R 191 (m, 11, [(2, 251), (0, x1)], [(0, u)]) = some (m, some (0, u)) :=
  have hK : kt_at 191 = kt_191 := rfl
  z_R_ret hK rfl rfl rfl
theorem rm_kno_0  (m : z_M) (p : Int) : z_R 55 (m, 0, [(2, 3), (0, p)], []) = if p < 0 then some (m, some (0, 0)) else if m 3 11 ≤ p then some (m, some (0, 0)) else some (m, some (0, 1)) :=
  have hK : kt_at 55 = kt_55 := rfl
  (z_R_run hK (n := 1) (g' := (m, 1, [(2, 3), (0, p)], [(0, p)])) rfl).trans (z_R_ifd hK (c := p < 0) (p1 := 16) (p2 := 4) rfl rfl rfl (fun h1 => (z_R_run hK (n := 1) (g' := (m, 17, [(2, 3), (0, p)], [(0, 0)])) rfl).trans (z_R_ret hK rfl rfl rfl)) (fun h1 => (z_R_run hK (n := 3) (g' := (m, 9, [(2, 3), (0, p)], [(0, m 3 11), (0, p)])) rfl).trans (z_R_ifd hK (c := m 3 11 ≤ p) (p1 := 16) (p2 := 12) rfl rfl rfl (fun h2 => (z_R_run hK (n := 1) (g' := (m, 17, [(2, 3), (0, p)], [(0, 0)])) rfl).trans (z_R_ret hK rfl rfl rfl)) (fun h2 => (z_R_run hK (n := 2) (g' := (m, 17, [(2, 3), (0, p)], [(0, 1)])) rfl).trans (z_R_ret hK rfl rfl rfl)))))
theorem rm_who_0  (m : z_M) (p : Int) : z_R 157 (m, 0, [(2, 3), (0, p), (9, 0), (9, 0)], []) = z_R 157 (m, 4, [(2, 3), (0, p), (0, 0), (0, 0)], []) :=
  have hK : kt_at 157 = kt_157 := rfl
  (z_R_run hK (n := 4) (g' := (m, 4, [(2, 3), (0, p), (0, 0), (0, 0)], [])) rfl).trans (rfl)
theorem rm_who_4  (m : z_M) (x1 : Int) (x2 : Int) (x3 : Int) : z_R 157 (m, 4, [(2, 3), (0, x1), (0, x2), (0, x3)], []) = if 6 ≤ x3 then some (m, some (0, x2)) else if 0 ≤ z_add (z_mul x1 6) x3 ∧ z_add (z_mul x1 6) x3 < 30 then z_R 157 (m, 4, [(2, 3), (0, x1), (0, z_add x2 (m 8 (z_add (z_mul x1 6) x3).toNat)), (0, z_add x3 1)], []) else none :=
  have hK : kt_at 157 = kt_157 := rfl
  (z_R_run hK (n := 2) (g' := (m, 7, [(2, 3), (0, x1), (0, x2), (0, x3)], [(0, 6), (0, x3)])) rfl).trans (z_R_ifd hK (c := 6 ≤ x3) (p1 := 30) (p2 := 10) rfl rfl rfl (fun h1 => (z_R_run hK (n := 1) (g' := (m, 31, [(2, 3), (0, x1), (0, x2), (0, x3)], [(0, x2)])) rfl).trans (z_R_ret hK rfl rfl rfl)) (fun h1 => (z_R_run hK (n := 3) (g' := (m, 15, [(2, 3), (0, x1), (0, x2), (0, x3)], [(2, 8), (0, x2)])) rfl).trans ((z_R_run hK (n := 5) (g' := (m, 21, [(2, 3), (0, x1), (0, x2), (0, x3)], [(0, z_add (z_mul x1 6) x3), (2, 8), (0, x2)])) rfl).trans (z_R_ixD hK (n := 30) (g' := (m, 22, [(2, 3), (0, x1), (0, x2), (0, x3)], [(0, m 8 (z_add (z_mul x1 6) x3).toNat), (0, x2)])) rfl rfl rfl  (fun h2 => (z_R_run hK (n := 4) (g' := (m, 4, [(2, 3), (0, x1), (0, z_add x2 (m 8 (z_add (z_mul x1 6) x3).toNat)), (0, z_add x3 1)], [])) rfl).trans (rfl))))))
theorem rm_win_0  (m : z_M) (r : Int) : z_R 121 (m, 0, [(2, 24), (2, 12), (0, r)], []) = (z_R 100 (m, 0, [(2, 3), (2, 12), (0, r), (9, 0), (9, 0)], [])).bind fun qq => z_R 121 (qq.1, 12, [(2, 24), (2, 12), (0, r)], qq.2.toList ++ [(0, r), (2, 12), (2, 24)]) :=
  have hK : kt_at 121 = kt_121 := rfl
  (z_R_run hK (n := 5) (g' := (m, 7, [(2, 24), (2, 12), (0, r)], [(2, 3), (0, r), (2, 12), (2, 24)])) rfl).trans ((z_R_run hK (n := 2) (g' := (m, 9, [(2, 24), (2, 12), (0, r)], [(0, r), (2, 12), (2, 3), (0, r), (2, 12), (2, 24)])) rfl).trans (z_R_call hK rfl rfl rfl rfl rfl))
theorem rm_win_12  (m : z_M) (x2 : Int) (s0 : Int) (u : Int) : z_R 121 (m, 12, [(2, 24), (2, 12), (0, x2)], [(0, u), (0, s0), (2, 12), (2, 24)]) = (z_R 119 (m, 0, [(2, 24), (2, 12), (0, s0), (0, u), (9, 0), (9, 0)], [])).bind fun qq => z_R 121 (qq.1, 15, [(2, 24), (2, 12), (0, x2)], qq.2.toList ++ []) :=
  have hK : kt_at 121 = kt_121 := rfl
  z_R_call hK rfl rfl rfl rfl rfl
theorem rm_win_15  (m : z_M) (x2 : Int) (u : Int) : z_R 121 (m, 15, [(2, 24), (2, 12), (0, x2)], [(0, u)]) = some (m, some (0, u)) :=
  have hK : kt_at 121 = kt_121 := rfl
  z_R_ret hK rfl rfl rfl
theorem rm_min_0  (m : z_M) (r : Int) : z_R 117 (m, 0, [(2, 24), (2, 12), (0, r)], []) = (z_R 100 (m, 0, [(2, 3), (2, 12), (0, r), (9, 0), (9, 0)], [])).bind fun qq => z_R 117 (qq.1, 12, [(2, 24), (2, 12), (0, r)], qq.2.toList ++ [(0, r), (2, 12), (2, 24)]) :=
  have hK : kt_at 117 = kt_117 := rfl
  (z_R_run hK (n := 5) (g' := (m, 7, [(2, 24), (2, 12), (0, r)], [(2, 3), (0, r), (2, 12), (2, 24)])) rfl).trans ((z_R_run hK (n := 2) (g' := (m, 9, [(2, 24), (2, 12), (0, r)], [(0, r), (2, 12), (2, 3), (0, r), (2, 12), (2, 24)])) rfl).trans (z_R_call hK rfl rfl rfl rfl rfl))
theorem rm_min_12  (m : z_M) (x2 : Int) (s0 : Int) (u : Int) : z_R 117 (m, 12, [(2, 24), (2, 12), (0, x2)], [(0, u), (0, s0), (2, 12), (2, 24)]) = (z_R 118 (m, 0, [(2, 24), (2, 12), (0, s0), (0, u)], [])).bind fun qq => z_R 117 (qq.1, 15, [(2, 24), (2, 12), (0, x2)], qq.2.toList ++ []) :=
  have hK : kt_at 117 = kt_117 := rfl
  z_R_call hK rfl rfl rfl rfl rfl
theorem rm_min_15  (m : z_M) (x2 : Int) (u : Int) : z_R 117 (m, 15, [(2, 24), (2, 12), (0, x2)], [(0, u)]) = some (m, some (0, u)) :=
  have hK : kt_at 117 = kt_117 := rfl
  z_R_ret hK rfl rfl rfl
theorem rm_tro_0  (m : z_M) (r : Int) (k : Int) : z_R 181 (m, 0, [(2, 251), (0, r), (0, k)], []) = if ¬ u_hs (m 251 1) (m 251 2) r = 0 then if 0 ≤ k ∧ k ≤ 5 then if k = 0 then some (z_up m 251 11 0, some (0, m 252 (r).toNat)) else if k = 1 then some (z_up m 251 11 0, some (0, m 252 (r + 9).toNat)) else if k = 2 then (z_R 183 (z_up m 251 11 0, 0, [(2, 251), (2, 252), (0, r), (9, 0), (9, 0)], [])).bind fun qq => z_R 181 (qq.1, 96, [(2, 251), (0, r), (0, k)], qq.2.toList ++ [(0, r), (2, 252), (2, 251)]) else if k = 3 then (z_R 187 (z_up m 251 11 0, 0, [(2, 251), (2, 252), (0, r)], [])).bind fun qq => z_R 181 (qq.1, 109, [(2, 251), (0, r), (0, k)], qq.2.toList ++ []) else if k = 4 then (z_R 183 (z_up m 251 11 0, 0, [(2, 251), (2, 252), (0, r), (9, 0), (9, 0)], [])).bind fun qq => z_R 181 (qq.1, 119, [(2, 251), (0, r), (0, k)], qq.2.toList ++ []) else if m 252 34 = r then some (z_up m 251 11 0, some (0, 1)) else some (z_up m 251 11 0, some (0, 0)) else (z_R 182 (z_up m 251 11 0, 0, [(2, 251)], [])).bind fun qq => z_R 181 (qq.1, 26, [(2, 251), (0, r), (0, k)], qq.2.toList ++ []) else (z_R 182 (z_up m 251 11 0, 0, [(2, 251)], [])).bind fun qq => z_R 181 (qq.1, 26, [(2, 251), (0, r), (0, k)], qq.2.toList ++ []) :=
  have hK : kt_at 181 = kt_181 := rfl
  (z_R_run hK (n := 5) (g' := (z_up m 251 11 0, 7, [(2, 251), (0, r), (0, k)], [(0, r), (2, 251)])) rfl).trans (z_R_cif hK rfl rfl rfl rfl rfl (t_ifroom _ _ (zu_k (by decide)) (zu_k (by decide))) (fun h1 => have h9 := u_hs_rng h1; (z_R_run hK (n := 4) (g' := (z_up m 251 11 0, 16, [(2, 251), (0, r), (0, k)], [(0, 5), (0, 0), (0, k)])) rfl).trans (z_R_cif hK rfl rfl rfl rfl rfl (t_ifin _ _ _ _) (fun h2 => (z_R_run hK (n := 2) (g' := (z_up m 251 11 0, 28, [(2, 251), (0, r), (0, k)], [(0, k)])) rfl).trans ((z_R_s1 hK (g' := (z_up m 251 11 0, z_tgt 28 (z_tbo (92) (0) (4) [(36 : Int), (43 : Int), (53 : Int), (72 : Int), (82 : Int)] k), [(2, 251), (0, r), (0, k)], [])) rfl rfl rfl).trans (z_dite (fun h3 => z_R_tbk h3 rfl ((z_R_run hK (n := 2) (g' := (z_up m 251 11 0, 68, [(2, 251), (0, r), (0, k)], [(2, 252)])) rfl).trans ((z_R_run hK (n := 1) (g' := (z_up m 251 11 0, 69, [(2, 251), (0, r), (0, k)], [(0, r), (2, 252)])) rfl).trans (z_R_ixT hK (n := 37) (g' := (z_up m 251 11 0, 70, [(2, 251), (0, r), (0, k)], [(0, (z_up m 251 11 0) 252 (r).toNat)])) rfl rfl rfl  (show 0 ≤ r ∧ r < 37 by omega) ((congrArg (fun vv => z_R 181 (z_up m 251 11 0, 70, [(2, 251), (0, r), (0, k)], [(0, vv)])) (zu_p (by decide))).trans (z_R_ret hK rfl rfl rfl)))))) (fun h3 => z_dite (fun h4 => z_R_tbk h4 rfl ((z_R_run hK (n := 2) (g' := (z_up m 251 11 0, 75, [(2, 251), (0, r), (0, k)], [(2, 252)])) rfl).trans ((z_R_run hK (n := 3) (g' := (z_up m 251 11 0, 79, [(2, 251), (0, r), (0, k)], [(0, z_add 9 r), (2, 252)])) rfl).trans ((congrArg (fun vv => z_R 181 (z_up m 251 11 0, 79, [(2, 251), (0, r), (0, k)], [(0, vv), (2, 252)])) ((z_add_eq (by omega) (by omega)).trans (by omega))).trans (z_R_ixT hK (n := 37) (g' := (z_up m 251 11 0, 80, [(2, 251), (0, r), (0, k)], [(0, (z_up m 251 11 0) 252 (r + 9).toNat)])) rfl rfl rfl  (show 0 ≤ r + 9 ∧ r + 9 < 37 by omega) ((congrArg (fun vv => z_R 181 (z_up m 251 11 0, 80, [(2, 251), (0, r), (0, k)], [(0, vv)])) (zu_p (by decide))).trans (z_R_ret hK rfl rfl rfl))))))) (fun h4 => z_dite (fun h5 => z_R_tbk h5 rfl ((z_R_run hK (n := 3) (g' := (z_up m 251 11 0, 86, [(2, 251), (0, r), (0, k)], [(2, 252), (2, 251)])) rfl).trans ((z_R_run hK (n := 4) (g' := (z_up m 251 11 0, 92, [(2, 251), (0, r), (0, k)], [(2, 252), (2, 251), (0, r), (2, 252), (2, 251)])) rfl).trans ((z_R_run hK (n := 1) (g' := (z_up m 251 11 0, 93, [(2, 251), (0, r), (0, k)], [(0, r), (2, 252), (2, 251), (0, r), (2, 252), (2, 251)])) rfl).trans (z_R_call hK rfl rfl rfl rfl rfl))))) (fun h5 => z_dite (fun h6 => z_R_tbk h6 rfl ((z_R_run hK (n := 3) (g' := (z_up m 251 11 0, 105, [(2, 251), (0, r), (0, k)], [(2, 252), (2, 251)])) rfl).trans ((z_R_run hK (n := 1) (g' := (z_up m 251 11 0, 106, [(2, 251), (0, r), (0, k)], [(0, r), (2, 252), (2, 251)])) rfl).trans (z_R_call hK rfl rfl rfl rfl rfl)))) (fun h6 => z_dite (fun h7 => z_R_tbk h7 rfl ((z_R_run hK (n := 3) (g' := (z_up m 251 11 0, 115, [(2, 251), (0, r), (0, k)], [(2, 252), (2, 251)])) rfl).trans ((z_R_run hK (n := 1) (g' := (z_up m 251 11 0, 116, [(2, 251), (0, r), (0, k)], [(0, r), (2, 252), (2, 251)])) rfl).trans (z_R_call hK rfl rfl rfl rfl rfl)))) (fun h7 => z_R_tbd (show ¬ (0 ≤ k ∧ k ≤ 4) by omega) ((z_R_run hK (n := 2) (g' := (z_up m 251 11 0, 124, [(2, 251), (0, r), (0, k)], [(2, 252)])) rfl).trans ((z_R_run hK (n := 2) (g' := (z_up m 251 11 0, 127, [(2, 251), (0, r), (0, k)], [(0, (z_up m 251 11 0) 252 34)])) rfl).trans ((congrArg (fun vv => z_R 181 (z_up m 251 11 0, 127, [(2, 251), (0, r), (0, k)], [(0, vv)])) (zu_p (by decide))).trans ((z_R_run hK (n := 1) (g' := (z_up m 251 11 0, 128, [(2, 251), (0, r), (0, k)], [(0, r), (0, m 252 34)])) rfl).trans (z_R_ifnd hK (c := m 252 34 = r) (p1 := 135) (p2 := 131) rfl rfl rfl (fun h8 => (z_R_run hK (n := 1) (g' := (z_up m 251 11 0, 136, [(2, 251), (0, r), (0, k)], [(0, 0)])) rfl).trans (z_R_ret hK rfl rfl rfl)) (fun h8 => (z_R_run hK (n := 2) (g' := (z_up m 251 11 0, 136, [(2, 251), (0, r), (0, k)], [(0, 1)])) rfl).trans (z_R_ret hK rfl rfl rfl))))))))))))))) (fun h2 => (z_R_run hK (n := 2) (g' := (z_up m 251 11 0, 23, [(2, 251), (0, r), (0, k)], [(2, 251)])) rfl).trans (z_R_call hK rfl rfl rfl rfl rfl)))) (fun h1 => (z_R_run hK (n := 2) (g' := (z_up m 251 11 0, 23, [(2, 251), (0, r), (0, k)], [(2, 251)])) rfl).trans (z_R_call hK rfl rfl rfl rfl rfl)))
theorem rm_tro_26  (m : z_M) (x1 : Int) (x2 : Int) (u : Int) : z_R 181 (m, 26, [(2, 251), (0, x1), (0, x2)], [(0, u)]) = some (m, some (0, u)) :=
  have hK : kt_at 181 = kt_181 := rfl
  z_R_ret hK rfl rfl rfl
theorem rm_tro_96  (m : z_M) (x1 : Int) (x2 : Int) (s0 : Int) (u : Int) : z_R 181 (m, 96, [(2, 251), (0, x1), (0, x2)], [(0, u), (0, s0), (2, 252), (2, 251)]) = (z_R 184 (m, 0, [(2, 251), (2, 252), (0, s0), (0, u), (9, 0), (9, 0)], [])).bind fun qq => z_R 181 (qq.1, 99, [(2, 251), (0, x1), (0, x2)], qq.2.toList ++ []) :=
  have hK : kt_at 181 = kt_181 := rfl
  z_R_call hK rfl rfl rfl rfl rfl
theorem rm_tro_99  (m : z_M) (x1 : Int) (x2 : Int) (u : Int) : z_R 181 (m, 99, [(2, 251), (0, x1), (0, x2)], [(0, u)]) = some (m, some (0, u)) :=
  have hK : kt_at 181 = kt_181 := rfl
  z_R_ret hK rfl rfl rfl
theorem rm_tro_109  (m : z_M) (x1 : Int) (x2 : Int) (u : Int) : z_R 181 (m, 109, [(2, 251), (0, x1), (0, x2)], [(0, u)]) = some (m, some (0, u)) :=
  have hK : kt_at 181 = kt_181 := rfl
  z_R_ret hK rfl rfl rfl
theorem rm_tro_119  (m : z_M) (x1 : Int) (x2 : Int) (u : Int) : z_R 181 (m, 119, [(2, 251), (0, x1), (0, x2)], [(0, u)]) = some (m, some (0, u)) :=
  have hK : kt_at 181 = kt_181 := rfl
  z_R_ret hK rfl rfl rfl
theorem rm_tpe_0  (m : z_M) (p : Int) (k : Int) (h_n : 0 ≤ m 251 3 ∧ m 251 3 ≤ 5) : z_R 190 (m, 0, [(2, 251), (0, p), (0, k), (9, 0), (9, 0)], []) = if 0 ≤ p ∧ p < m 251 3 then if 0 ≤ k ∧ k ≤ 4 then if k = 0 then some (z_up m 251 11 0, some (0, m 252 (p + 18).toNat)) else if k = 1 then some (z_up m 251 11 0, some (0, m 252 (p + 23).toNat)) else if k = 2 then some (z_up m 251 11 0, some (0, m 252 (p + 28).toNat)) else if k = 3 then (z_R 186 (z_up m 251 11 0, 0, [(2, 251), (2, 252), (0, p)], [])).bind fun qq => z_R 190 (qq.1, 99, [(2, 251), (0, p), (0, k), (9, 0), (9, 0)], qq.2.toList ++ []) else z_R 190 (z_up m 251 11 0, 105, [(2, 251), (0, p), (0, k), (0, 0), (0, 0)], []) else (z_R 182 (z_up m 251 11 0, 0, [(2, 251)], [])).bind fun qq => z_R 190 (qq.1, 26, [(2, 251), (0, p), (0, k), (9, 0), (9, 0)], qq.2.toList ++ []) else (z_R 182 (z_up m 251 11 0, 0, [(2, 251)], [])).bind fun qq => z_R 190 (qq.1, 26, [(2, 251), (0, p), (0, k), (9, 0), (9, 0)], qq.2.toList ++ []) :=
  have hK : kt_at 190 = kt_190 := rfl
  (z_R_run hK (n := 5) (g' := (z_up m 251 11 0, 7, [(2, 251), (0, p), (0, k), (9, 0), (9, 0)], [(0, p), (2, 251)])) rfl).trans (z_R_cif hK rfl rfl rfl rfl rfl (t_ifperson _ _ (zu_k (by decide)) h_n) (fun h1 => (z_R_run hK (n := 4) (g' := (z_up m 251 11 0, 16, [(2, 251), (0, p), (0, k), (9, 0), (9, 0)], [(0, 4), (0, 0), (0, k)])) rfl).trans (z_R_cif hK rfl rfl rfl rfl rfl (t_ifin _ _ _ _) (fun h2 => (z_R_run hK (n := 2) (g' := (z_up m 251 11 0, 28, [(2, 251), (0, p), (0, k), (9, 0), (9, 0)], [(0, k)])) rfl).trans ((z_R_s1 hK (g' := (z_up m 251 11 0, z_tgt 28 (z_tbo (72) (0) (3) [(32 : Int), (42 : Int), (52 : Int), (62 : Int)] k), [(2, 251), (0, p), (0, k), (9, 0), (9, 0)], [])) rfl rfl rfl).trans (z_dite (fun h3 => z_R_tbk h3 rfl ((z_R_run hK (n := 2) (g' := (z_up m 251 11 0, 64, [(2, 251), (0, p), (0, k), (9, 0), (9, 0)], [(2, 252)])) rfl).trans ((z_R_run hK (n := 3) (g' := (z_up m 251 11 0, 68, [(2, 251), (0, p), (0, k), (9, 0), (9, 0)], [(0, z_add 18 p), (2, 252)])) rfl).trans ((congrArg (fun vv => z_R 190 (z_up m 251 11 0, 68, [(2, 251), (0, p), (0, k), (9, 0), (9, 0)], [(0, vv), (2, 252)])) ((z_add_eq (by omega) (by omega)).trans (by omega))).trans (z_R_ixT hK (n := 37) (g' := (z_up m 251 11 0, 69, [(2, 251), (0, p), (0, k), (9, 0), (9, 0)], [(0, (z_up m 251 11 0) 252 (p + 18).toNat)])) rfl rfl rfl  (show 0 ≤ p + 18 ∧ p + 18 < 37 by omega) ((congrArg (fun vv => z_R 190 (z_up m 251 11 0, 69, [(2, 251), (0, p), (0, k), (9, 0), (9, 0)], [(0, vv)])) (zu_p (by decide))).trans (z_R_ret hK rfl rfl rfl))))))) (fun h3 => z_dite (fun h4 => z_R_tbk h4 rfl ((z_R_run hK (n := 2) (g' := (z_up m 251 11 0, 74, [(2, 251), (0, p), (0, k), (9, 0), (9, 0)], [(2, 252)])) rfl).trans ((z_R_run hK (n := 3) (g' := (z_up m 251 11 0, 78, [(2, 251), (0, p), (0, k), (9, 0), (9, 0)], [(0, z_add 23 p), (2, 252)])) rfl).trans ((congrArg (fun vv => z_R 190 (z_up m 251 11 0, 78, [(2, 251), (0, p), (0, k), (9, 0), (9, 0)], [(0, vv), (2, 252)])) ((z_add_eq (by omega) (by omega)).trans (by omega))).trans (z_R_ixT hK (n := 37) (g' := (z_up m 251 11 0, 79, [(2, 251), (0, p), (0, k), (9, 0), (9, 0)], [(0, (z_up m 251 11 0) 252 (p + 23).toNat)])) rfl rfl rfl  (show 0 ≤ p + 23 ∧ p + 23 < 37 by omega) ((congrArg (fun vv => z_R 190 (z_up m 251 11 0, 79, [(2, 251), (0, p), (0, k), (9, 0), (9, 0)], [(0, vv)])) (zu_p (by decide))).trans (z_R_ret hK rfl rfl rfl))))))) (fun h4 => z_dite (fun h5 => z_R_tbk h5 rfl ((z_R_run hK (n := 2) (g' := (z_up m 251 11 0, 84, [(2, 251), (0, p), (0, k), (9, 0), (9, 0)], [(2, 252)])) rfl).trans ((z_R_run hK (n := 3) (g' := (z_up m 251 11 0, 88, [(2, 251), (0, p), (0, k), (9, 0), (9, 0)], [(0, z_add 28 p), (2, 252)])) rfl).trans ((congrArg (fun vv => z_R 190 (z_up m 251 11 0, 88, [(2, 251), (0, p), (0, k), (9, 0), (9, 0)], [(0, vv), (2, 252)])) ((z_add_eq (by omega) (by omega)).trans (by omega))).trans (z_R_ixT hK (n := 37) (g' := (z_up m 251 11 0, 89, [(2, 251), (0, p), (0, k), (9, 0), (9, 0)], [(0, (z_up m 251 11 0) 252 (p + 28).toNat)])) rfl rfl rfl  (show 0 ≤ p + 28 ∧ p + 28 < 37 by omega) ((congrArg (fun vv => z_R 190 (z_up m 251 11 0, 89, [(2, 251), (0, p), (0, k), (9, 0), (9, 0)], [(0, vv)])) (zu_p (by decide))).trans (z_R_ret hK rfl rfl rfl))))))) (fun h5 => z_dite (fun h6 => z_R_tbk h6 rfl ((z_R_run hK (n := 3) (g' := (z_up m 251 11 0, 95, [(2, 251), (0, p), (0, k), (9, 0), (9, 0)], [(2, 252), (2, 251)])) rfl).trans ((z_R_run hK (n := 1) (g' := (z_up m 251 11 0, 96, [(2, 251), (0, p), (0, k), (9, 0), (9, 0)], [(0, p), (2, 252), (2, 251)])) rfl).trans (z_R_call hK rfl rfl rfl rfl rfl)))) (fun h6 => z_R_tbd (show ¬ (0 ≤ k ∧ k ≤ 3) by omega) ((z_R_run hK (n := 4) (g' := (z_up m 251 11 0, 105, [(2, 251), (0, p), (0, k), (0, 0), (0, 0)], [])) rfl).trans (rfl))))))))) (fun h2 => (z_R_run hK (n := 2) (g' := (z_up m 251 11 0, 23, [(2, 251), (0, p), (0, k), (9, 0), (9, 0)], [(2, 251)])) rfl).trans (z_R_call hK rfl rfl rfl rfl rfl)))) (fun h1 => (z_R_run hK (n := 2) (g' := (z_up m 251 11 0, 23, [(2, 251), (0, p), (0, k), (9, 0), (9, 0)], [(2, 251)])) rfl).trans (z_R_call hK rfl rfl rfl rfl rfl)))
theorem rm_tpe_26  (m : z_M) (x1 : Int) (x2 : Int) (u : Int) : z_R 190 (m, 26, [(2, 251), (0, x1), (0, x2), (9, 0), (9, 0)], [(0, u)]) = some (m, some (0, u)) :=
  have hK : kt_at 190 = kt_190 := rfl
  z_R_ret hK rfl rfl rfl
theorem rm_tpe_99  (m : z_M) (x1 : Int) (x2 : Int) (u : Int) : z_R 190 (m, 99, [(2, 251), (0, x1), (0, x2), (9, 0), (9, 0)], [(0, u)]) = some (m, some (0, u)) :=
  have hK : kt_at 190 = kt_190 := rfl
  z_R_ret hK rfl rfl rfl
theorem rm_tpe_105  (m : z_M) (x1 : Int) (x2 : Int) (x3 : Int) (x4 : Int) : z_R 190 (m, 105, [(2, 251), (0, x1), (0, x2), (0, x3), (0, x4)], []) = if 6 ≤ x4 then some (m, some (0, x3)) else if 0 ≤ z_add (z_mul 6 x1) x4 ∧ z_add (z_mul 6 x1) x4 < 30 then z_R 190 (m, 105, [(2, 251), (0, x1), (0, x2), (0, z_add x3 (m 253 (z_add (z_mul 6 x1) x4).toNat)), (0, z_add x4 1)], []) else none :=
  have hK : kt_at 190 = kt_190 := rfl
  (z_R_run hK (n := 2) (g' := (m, 109, [(2, 251), (0, x1), (0, x2), (0, x3), (0, x4)], [(0, 6), (0, x4)])) rfl).trans (z_R_ifd hK (c := 6 ≤ x4) (p1 := 133) (p2 := 112) rfl rfl rfl (fun h1 => (z_R_run hK (n := 1) (g' := (m, 134, [(2, 251), (0, x1), (0, x2), (0, x3), (0, x4)], [(0, x3)])) rfl).trans (z_R_ret hK rfl rfl rfl)) (fun h1 => (z_R_run hK (n := 3) (g' := (m, 117, [(2, 251), (0, x1), (0, x2), (0, x3), (0, x4)], [(2, 253), (0, x3)])) rfl).trans ((z_R_run hK (n := 5) (g' := (m, 124, [(2, 251), (0, x1), (0, x2), (0, x3), (0, x4)], [(0, z_add (z_mul 6 x1) x4), (2, 253), (0, x3)])) rfl).trans (z_R_ixD hK (n := 30) (g' := (m, 125, [(2, 251), (0, x1), (0, x2), (0, x3), (0, x4)], [(0, m 253 (z_add (z_mul 6 x1) x4).toNat), (0, x3)])) rfl rfl rfl  (fun h2 => (z_R_run hK (n := 4) (g' := (m, 105, [(2, 251), (0, x1), (0, x2), (0, z_add x3 (m 253 (z_add (z_mul 6 x1) x4).toNat)), (0, z_add x4 1)], [])) rfl).trans (rfl))))))
end
