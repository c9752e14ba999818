section
/-! warm, of what both are in -/
theorem z_a63 (a : Int) : 0 ≤ z_and a 63 ∧ z_and a 63 ≤ 63 := by
  have : z_and a 63 = (Int32.ofInt a).toInt % 64 := i32_and63 _
  omega
theorem hr_pc_b (b : Int) : 0 ≤ hr_pc b ∧ hr_pc b ≤ 63 := z_a63 _
theorem i32_and1 (y : Int32) : (y &&& Int32.ofInt 1).toInt = y.toInt % 2 := by
  have h1 : (y &&& Int32.ofInt 1).toBitVec.toNat = y.toBitVec.toNat % 2 := by
    show (y.toBitVec &&& 1#32).toNat = _
    rw [BitVec.toNat_and]
    exact Nat.and_two_pow_sub_one_eq_mod _ 1
  have h2 := i32_ofNat (x := y &&& Int32.ofInt 1) (by rw [h1]; omega)
  have h3 : y.toInt = y.toBitVec.toInt := rfl
  rw [h2, h1, h3, BitVec.toInt_eq_toNat_cond]
  have := y.toBitVec.isLt
  split <;> omega
theorem z_a1 (a : Int) : z_and a 1 = 0 ∨ z_and a 1 = 1 := by
  have : z_and a 1 = (Int32.ofInt a).toInt % 2 := i32_and1 _
  omega
theorem z_add0 {s : Int} (h : z_w s = s) : z_add s 0 = s := by
  rw [z_add_w, Int.add_zero]
  exact h
theorem hr_s_rg {wm : Nat → Int} {b : Int} (hwm : ∀ p, p < 5 → 0 ≤ wm p ∧ wm p ≤ 9) : ∀ (f x : Nat) (s : Int), x + f ≤ 5 → 0 ≤ s → s ≤ 9 + 9 * (x : Int) → 0 ≤ hr_s wm b f x s ∧ hr_s wm b f x s ≤ 54 := by
  intro f
  induction f with
  | zero => intro x s hx h0 h1; exact ⟨h0, show s ≤ 54 by omega⟩
  | succ f ih =>
    intro x s hx h0 h1
    have hw := hwm x (by omega)
    unfold hr_s
    by_cases c : z_and (z_shr b (x : Int)) 1 = 1
    · rw [if_pos c, z_add_eq (by omega) (by omega)]
      exact ih (x + 1) _ (by omega) (by omega) (by omega)
    · rw [if_neg c, z_add_eq (by omega) (by omega)]
      exact ih (x + 1) _ (by omega) (by omega) (by omega)
/-- in how many sets it melts v -/
def o_cnt (M : Int → Int) (v : Int) : Nat → Nat → Int → Int
  | 0, _, k => k
  | f + 1, x, k => o_cnt M v f (x + 1) (if M (x : Int) = v then k + 1 else k)
def o_mel (n : Nat) (heat : Int) (cs : List Int) (D A : Nat → Int) (r : Nat) (b : Int) : Int := hr_mB heat (c_ml cs) (wmD D (A 35)) n A r b
def o_warm (w h n : Nat) (heat : Int) (cs : List Int) (D A : Nat → Int) (r v : Int) : Int := if (¬ u_hs (w : Int) (h : Int) r = 0) ∧ 0 ≤ v ∧ v ≤ 99 then o_cnt (o_mel n heat cs D A r.toNat) v (2 ^ n) 0 0 else -1
section
variable {w h n : Nat} {heat price : Int} {D A : Nat → Int} {c : Nat} {U : Nat → Nat → Int} {kn : Nat → Int} {KS : Nat → Nat → Int} {cs : List Int} {m : z_M}
theorem z_p2 (h5 : n ≤ 5) : z_shl 1 (n : Int) = ((2 ^ n : Nat) : Int) := by
  have : ∀ n, n < 6 → z_shl 1 ((n : Nat) : Int) = ((2 ^ n : Nat) : Int) := by decide +kernel
  exact this n (by omega)
theorem z_p32 (h5 : n ≤ 5) : 2 ^ n ≤ 32 := by
  have : ∀ n, n < 6 → 2 ^ n ≤ 32 := by decide +kernel
  exact this n (by omega)
theorem C_wof (hi : C_is w h n heat price D A c U kn KS cs m) (h5 : n ≤ 5) (ht : 0 ≤ A 35 ∧ A 35 ≤ 1073741824) {r b : Int} : ∀ (f x : Nat) (s : Int), x + f = n → z_w s = s → z_R 119 (m, 24, [(2, 24), (2, 12), (0, r), (0, b), (0, s), (0, (x : Int))], []) = some (m, some (0, hr_s (wmD D (A 35)) b f x s)) := by
  have e11 := hi.1.2.2.1
  have e7 : m 12 7 = A 35 := by
    rw [← hi.2.2.1]
    exact (cS_at0 (s := 12) (j := 7) (by decide)).symm
  intro f
  induction f with
  | zero =>
    intro x s hx hs
    rw [u_wof_24 m r b s x (by omega), e11, if_pos (by omega)]
    rfl
  | succ f ih =>
    intro x s hx hs
    rw [u_wof_24 m r b s x (by omega), e11, if_neg (by omega), z_add_eq (x := (x : Int)) (y := 1) (by omega) (by omega), tc1]
    unfold hr_s
    rcases z_a1 (z_shr b (x : Int)) with z | z
    · rw [if_pos z, if_neg (by omega), z_add0 hs]
      exact ih (x + 1) s (by omega) hs
    · have ec : cw m x (A 35) = wmD D (A 35) x := cw_D hi.1.2.2.2.2.2.2.1 hi.1.2.2.2.2.2.2.2 hi.2.1 ht.1 (by omega)
      rw [if_neg (by omega), if_pos z, e7, c_wo m (by omega) ht.1 (by omega), zb_v, u_wof_57, z_add_eq (x := (x : Int)) (y := 1) (by omega) (by omega), tc1, ec]
      exact ih (x + 1) _ (by omega) (by rw [z_add_w]; exact z_w_w)
theorem C_mbs (hi : C_is w h n heat price D A c U kn KS cs m) (hN : w_N w h n heat D) (ht : 0 ≤ A 35 ∧ A 35 ≤ 1073741824) {r : Nat} (hr : r < 9) (b : Int) : ∃ m1, z_R 118 (m, 0, [(2, 24), (2, 12), (0, (r : Int)), (0, b)], []) = some (m1, some (0, o_mel n heat cs D A r b)) ∧ C_is w h n heat price D A c U kn KS cs m1 := by
  have h5 := hN.1.2.2
  have e6 : m 12 6 = A 34 := by
    rw [← hi.2.2.1]
    exact (cS_at0 (s := 12) (j := 6) (by decide)).symm
  have e7 : m 12 7 = A 35 := by
    rw [← hi.2.2.1]
    exact (cS_at0 (s := 12) (j := 7) (by decide)).symm
  have e8 : m 12 8 = A 36 := by
    rw [← hi.2.2.1]
    exact (cS_at0 (s := 12) (j := 8) (by decide)).symm
  have e13 : m 13 r = A r := by
    rw [← hi.2.2.1]
    exact (cS_at1 (s := 12) hr).symm
  have e14 : m 14 r = A (r + 9) := by
    rw [← hi.2.2.1]
    exact (cS_at2 (s := 12) hr).symm
  have ew : z_R 119 (m, 0, [(2, 24), (2, 12), (0, (r : Int)), (0, b), (9, 0), (9, 0)], []) = some (m, some (0, hr_wb heat (wmD D (A 35)) n A r b)) := by
    rw [u_wof_0, e6, hi.1.2.2.2.1]
    unfold hr_wb
    have hb := hN.2.1
    by_cases z : A 34 = (r : Int)
    · rw [if_pos z, if_pos z]
      exact C_wof hi h5 ht n 0 heat (by omega) (z_w_of (by omega) (by omega))
    · rw [if_neg z, if_neg z]
      exact C_wof hi h5 ht n 0 0 (by omega) (by decide +kernel)
  obtain ⟨m1, a1, a2⟩ := (C_cfg hi).2.2.2.2.2.2.1 m rfl rfl (hr_wb heat (wmD D (A 35)) n A r b) (A r) (A (r + 9)) (A 36) ((r : Int) / 3) (hr_pc b) (A 35)
  have hC1 : C_is w h n heat price D A c U kn KS cs m1 := C_fr hi fun p k hk => by
    have hk' := hk
    unfold C_hit at hk'
    have hk' := of_decide_eq_true hk'
    exact a2.of (by (repeat' (first | exact trivial | refine z_of_c ?_ ?_)) <;> omega)
  rw [u_mbs_0, ew, zb_v, u_mbs_10, t_bc_0, zb_v, u_mbs_14, u_mby_0 m r _ _ (by omega), Int.toNat_natCast, e13, e14, e8, e7, a1, zb_v, u_mby_48, zb_v, u_mbs_17]
  exact ⟨m1, rfl, hC1⟩
theorem C_wrm1 (hN : w_N w h n heat D) (ht : 0 ≤ A 35 ∧ A 35 ≤ 1073741824) {r : Nat} (hr : r < 9) {v : Int} : ∀ (f x : Nat) (y3 y4 k : Int) (m : z_M), x + f = 2 ^ n → 0 ≤ k → k ≤ (x : Int) → C_is w h n heat price D A c U kn KS cs m → ∃ m1, z_R 125 (m, 34, [(2, 0), (0, (r : Int)), (0, v), (0, y3), (0, y4), (0, k), (0, (x : Int))], []) = some (m1, some (0, o_cnt (o_mel n heat cs D A r) v f x k)) ∧ C_is w h n heat price D A c U kn KS cs m1 := by
  have h5 := hN.1.2.2
  have h32 := z_p32 h5
  intro f
  induction f with
  | zero =>
    intro x y3 y4 k m hx h0 h1 hi
    rw [u_wrm_34, hi.1.2.2.1, z_p2 h5, if_pos (by omega), c_tell2, zb_n, u_wrm_113]
    exact ⟨_, rfl, C_tell2 hi _ _⟩
  | succ f ih =>
    intro x y3 y4 k m hx h0 h1 hi
    obtain ⟨m1, a1, a2⟩ := C_mbs hi hN ht hr (x : Int)
    rw [u_wrm_34, hi.1.2.2.1, z_p2 h5, if_neg (by omega), a1, zb_v, u_wrm_62, z_add_eq (x := (x : Int)) (y := 1) (by omega) (by omega), tc1, z_add_eq (x := k) (y := 1) (by omega) (by omega)]
    unfold o_cnt
    by_cases z : o_mel n heat cs D A r (x : Int) = v
    · rw [if_pos z, if_pos z]
      by_cases z0 : k = 0
      · rw [if_pos z0]
        exact ih (x + 1) _ _ _ m1 (by omega) (by omega) (by omega) a2
      · rw [if_neg z0, if_neg z0]
        exact ih (x + 1) _ _ _ m1 (by omega) (by omega) (by omega) a2
    · rw [if_neg z, if_neg z]
      exact ih (x + 1) _ _ _ m1 (by omega) h0 (by omega) a2
theorem C_warm (hi : C_is w h n heat price D A c U kn KS cs m) (hN : w_N w h n heat D) (ht : 0 ≤ A 35 ∧ A 35 ≤ 1073741824) (r v : Int) : ∃ m1, z_R 125 (m, 0, [(2, 0), (0, r), (0, v), (9, 0), (9, 0), (9, 0), (9, 0)], []) = some (m1, some (0, o_warm w h n heat cs D A r v)) ∧ C_is w h n heat price D A c U kn KS cs m1 := by
  rw [u_wrm_0, hi.1.1, hi.1.2.1]
  by_cases c1 : u_hs (w : Int) (h : Int) r = 0
  · have e : o_warm w h n heat cs D A r v = -1 := if_neg (fun z => z.1 c1)
    rw [if_neg (not_not_intro c1), e]
    exact ⟨m, rfl, hi⟩
  rw [if_pos c1]
  by_cases c2 : v < 0
  · have e : o_warm w h n heat cs D A r v = -1 := if_neg (fun z => by have := z.2; omega)
    rw [if_pos c2, e]
    exact ⟨m, rfl, hi⟩
  rw [if_neg c2]
  by_cases c3 : v ≤ 99
  · have hr := u_hs_rng c1
    have e : o_warm w h n heat cs D A r v = o_cnt (o_mel n heat cs D A r.toNat) v (2 ^ n) 0 0 := if_pos ⟨c1, by omega, c3⟩
    obtain ⟨q, rfl⟩ : ∃ q : Nat, r = (q : Int) := ⟨r.toNat, by omega⟩
    rw [Int.toNat_natCast] at e
    rw [if_pos c3, e]
    exact C_wrm1 hN ht (by omega) (2 ^ n) 0 (-1) 0 0 m (by omega) (by decide) (by decide) hi
  · have e : o_warm w h n heat cs D A r v = -1 := if_neg (fun z => by have := z.2; omega)
    rw [if_neg c3, e]
    exact ⟨m, rfl, hi⟩
/-! the reference -/
theorem R_mbs (hi : R_is w h n heat price D A c U kn KS cs m) (hN : w_N w h n heat D) (hok : hr_ok n A) (ht : 0 ≤ A 35 ∧ A 35 ≤ 1073741824) {r : Nat} (hr : r < 9) (b : Int) : ∃ m1, z_R 188 (m, 0, [(2, 251), (2, 252), (0, (r : Int)), (0, b)], []) = some (m1, some (0, o_mel n heat cs D A r b)) ∧ R_is w h n heat price D A c U kn KS cs m1 := by
  have h5 := hN.1.2.2
  obtain ⟨c1, c2, c3, c4, c5, c6, c7⟩ := R_cfg hi
  have ea : ∀ k, k < 18 ∨ 33 ≤ k → k < 37 → m 252 k = A k := fun k hk h37 => R_A hi h37 (by
    rcases hk with hk | hk
    · exact a_vis_lo hk
    · exact a_vis_hi hk)
  have hrg : r_rg 252 m := by
    refine ⟨fun k hk => ?_, ?_, ?_⟩
    · have p1 := hok.1 k hk
      have p2 := hok.2.1 k hk
      rw [ea k (by omega) (by omega), ea (k + 9) (by omega) (by omega)]
      omega
    · rw [ea 36 (by omega) (by omega)]
      have := hok.2.2.2
      omega
    · rw [ea 35 (by omega) (by omega)]
      omega
  have hb := hN.2.1
  have hW : r_i (hr_wb heat (wmD D (A 35)) n (rS m 252 n) r b) := by
    unfold hr_wb r_i
    by_cases z : rS m 252 n 34 = (r : Int)
    · rw [if_pos z]
      have := hr_s_rg (b := b) (hN.2.2 (A 35) ht.1) n 0 heat (by omega) (by omega) (by omega)
      omega
    · rw [if_neg z]
      have := hr_s_rg (b := b) (hN.2.2 (A 35) ht.1) n 0 0 (by omega) (by omega) (by omega)
      omega
  have hP : r_i (hr_pc b) := by
    have := hr_pc_b b
    unfold r_i
    omega
  obtain ⟨m1, a1, a2⟩ := r_mb z_A_252 (Or.inl rfl) h5 (ml := c_ml cs) (b := b) (t := A 35) (heat := heat) (wm := wmD D (A 35)) ht.1 (by omega) m c3 c4 (ea 35 (by omega) (by omega)) (fun p hp => c6 (A 35) ht.1 p hp) c7 hr hrg hW hP
  rw [hi.2.2.1] at a1
  have a1 : z_R 188 (m, 0, [(2, 251), (2, 252), (0, (r : Int)), (0, b)], []) = some (m1, some (0, o_mel n heat cs D A r b)) := a1
  refine ⟨m1, a1, R_fr hi fun p k hk => ?_⟩
  have hk' := hk
  unfold R_hit at hk'
  have hk' := of_decide_eq_true hk'
  exact a2.of (by (repeat' (first | exact trivial | refine z_of_c ?_ ?_)) <;> omega)
theorem R_wrm1 (hN : w_N w h n heat D) (hok : hr_ok n A) (ht : 0 ≤ A 35 ∧ A 35 ≤ 1073741824) {r : Nat} (hr : r < 9) {v : Int} : ∀ (f x : Nat) (k y4 y5 : Int) (m : z_M), x + f = 2 ^ n → 0 ≤ k → k ≤ (x : Int) → R_is w h n heat price D A c U kn KS cs m → ∃ m1, z_R 243 (m, 43, [(2, 251), (0, (r : Int)), (0, v), (0, k), (0, y4), (0, y5), (0, (x : Int))], []) = some (m1, some (0, o_cnt (o_mel n heat cs D A r) v f x k)) ∧ R_is w h n heat price D A c U kn KS cs m1 := by
  have h5 := hN.1.2.2
  have h32 := z_p32 h5
  intro f
  induction f with
  | zero =>
    intro x k y4 y5 m hx h0 h1 hi
    rw [u_twr_43, hi.1.2.2.1, z_p2 h5, if_pos (by omega), t_tell0, zb_n, u_twr_113]
    by_cases z : k = 0
    · rw [if_pos z, t_tell1, zb_n, u_twr_128]
      exact ⟨_, rfl, R_upn (R_upn (R_upn (R_upn (R_upn hi (by decide)) (by decide)) (by decide)) (by decide)) (by decide)⟩
    · rw [if_neg z, t_tell1, zb_n, u_twr_128]
      exact ⟨_, rfl, R_upn (R_upn (R_upn (R_upn (R_upn hi (by decide)) (by decide)) (by decide)) (by decide)) (by decide)⟩
  | succ f ih =>
    intro x k y4 y5 m hx h0 h1 hi
    obtain ⟨m1, a1, a2⟩ := R_mbs hi hN hok ht hr (x : Int)
    rw [u_twr_43, hi.1.2.2.1, z_p2 h5, if_neg (by omega), a1, zb_v, u_twr_65, z_add_eq (x := (x : Int)) (y := 1) (by omega) (by omega), tc1, z_add_eq (x := k) (y := 1) (by omega) (by omega)]
    unfold o_cnt
    by_cases z : o_mel n heat cs D A r (x : Int) = v
    · rw [if_pos z, if_pos z]
      by_cases z0 : k = 0
      · rw [if_pos z0]
        exact ih (x + 1) _ _ _ m1 (by omega) (by omega) (by omega) a2
      · rw [if_neg z0]
        exact ih (x + 1) _ _ _ m1 (by omega) (by omega) (by omega) a2
    · rw [if_neg z, if_neg z]
      exact ih (x + 1) _ _ _ m1 (by omega) h0 (by omega) a2
theorem R_warm (hi : R_is w h n heat price D A c U kn KS cs m) (hN : w_N w h n heat D) (hok : hr_ok n A) (ht : 0 ≤ A 35 ∧ A 35 ≤ 1073741824) (r v : Int) : ∃ m1, z_R 243 (m, 0, [(2, 251), (0, r), (0, v), (9, 0), (9, 0), (9, 0), (9, 0)], []) = some (m1, some (0, o_warm w h n heat cs D A r v)) ∧ R_is w h n heat price D A c U kn KS cs m1 := by
  have hu := R_upn (p0 := 251) (k0 := 11) (v := 0) hi (by decide)
  rw [u_twr_0, hi.1.1, hi.1.2.1]
  by_cases c1 : u_hs (w : Int) (h : Int) r = 0
  · have e : o_warm w h n heat cs D A r v = -1 := if_neg (fun z => z.1 c1)
    rw [if_neg (not_not_intro c1), e]
    exact ⟨_, rfl, hu⟩
  rw [if_pos c1]
  by_cases c2 : 0 ≤ v ∧ v ≤ 99
  · have hr := u_hs_rng c1
    have e : o_warm w h n heat cs D A r v = o_cnt (o_mel n heat cs D A r.toNat) v (2 ^ n) 0 0 := if_pos ⟨c1, c2⟩
    obtain ⟨q, rfl⟩ : ∃ q : Nat, r = (q : Int) := ⟨r.toNat, by omega⟩
    rw [Int.toNat_natCast] at e
    rw [if_pos c2, e]
    exact R_wrm1 hN hok ht (by omega) (2 ^ n) 0 0 _ _ _ (by omega) (by decide) (by decide) hu
  · have e : o_warm w h n heat cs D A r v = -1 := if_neg (fun z => c2 z.2)
    rw [if_neg c2, e]
    exact ⟨_, rfl, hu⟩
end
theorem core_warm : l_rel2 Rel_C (930, 140, 125, 2, true, 946, 143, 243) := by
  intro M1 M2 M3 σ σ1 σ2 as v1 v2 C1 C2 ρ1 ρ2 ha hR hh hM1 hC1 hp1 hE1 hC2 hp2 hE2
  obtain ⟨r, v, rfl⟩ := as_two ha
  have hE1 : z_R 125 (z_m σ, 0, [(2, 0), (0, r.toInt), (0, v.toInt), (9, 0), (9, 0), (9, 0), (9, 0)], []) = some (z_m σ1, some (0, v1.toInt)) := z_R_iff.mpr hE1
  have hE2 : z_R 243 (z_m σ1, 0, [(2, 251), (0, r.toInt), (0, v.toInt), (9, 0), (9, 0), (9, 0), (9, 0)], []) = some (z_m σ2, some (0, v2.toInt)) := z_R_iff.mpr hE2
  have hT := T_two (y1 := 125) (y2 := 243) (by decide +kernel) (by decide +kernel) hC1 hC2 hp1 hp2 hR.1
  obtain ⟨w, h, n, heat, price, D, A, c, U, kn, KS, cs, cC, cR, cW⟩ := hR.2
  obtain ⟨b1, b2, -, -, hok, b35, -, b7⟩ := core_b hh hM1 cR
  have hN : w_N w h n heat D := ⟨b1, b2, b7⟩
  have f1 := R_off2_ok (y := 125) (by decide +kernel) hC1 hp1
  have f2 := C_off_ok (y := 243) (by decide +kernel) hC2 hp2
  have cR1 := R_fr cR f1
  have z := core_do cR1 (fun q => C_fr q f2) (C_warm cC hN b35 r.toInt v.toInt) (fun q => R_warm q hN hok b35 r.toInt v.toInt) hE1 hE2
  exact ⟨⟨hT, Core_mk z.1.1 z.1.2 cW⟩, fun _ => z.2⟩
end
section
/-! WHAT IS KEPT: both texts alike, and both are in one and the same -/
def Rel_0 (σ : m_H) : Prop := Rel_C σ
theorem rel_start : ∀ σ, xs_is σ → Rel_0 σ := core_start
theorem rel_off {c : l_C} (h : ((core_offb c.2.2.1 && core_offb c.2.2.2.2.2.2.2) && (rel_offb c.2.2.1 && (rel_offb c.2.2.2.2.2.2.2 && !c.2.2.2.2.1))) = true) : l_rel2 Rel_0 c := by
  obtain ⟨h1, h2⟩ := Bool.and_eq_true _ _ |>.mp h
  exact core_q (R_off h2) h1
theorem rel_sign : l_rel2 Rel_0 (219, 26, 14, 1, false, 230, 30, 160) := core_q R_sign (by decide +kernel)
theorem rel_end : l_rel2 Rel_0 (244, 31, 16, 1, false, 255, 35, 161) := core_q R_end (by decide +kernel)
theorem rel_quiet : l_rel2 Rel_0 (836, 124, 110, 1, false, 847, 127, 233) := core_quiet rfl
theorem rel_cases : ∀ c ∈ law_cs, l_rel2 Rel_0 c := by
  unfold law_cs
  refine List.forall_mem_cons.mpr ⟨rel_sign, ?_⟩
  refine List.forall_mem_cons.mpr ⟨rel_end, ?_⟩
  refine List.forall_mem_cons.mpr ⟨core_house, ?_⟩
  refine List.forall_mem_cons.mpr ⟨core_people, ?_⟩
  refine List.forall_mem_cons.mpr ⟨core_rule, ?_⟩
  refine List.forall_mem_cons.mpr ⟨core_set, ?_⟩
  refine List.forall_mem_cons.mpr ⟨core_doing, ?_⟩
  refine List.forall_mem_cons.mpr ⟨core_sheet, ?_⟩
  refine List.forall_mem_cons.mpr ⟨core_move, ?_⟩
  refine List.forall_mem_cons.mpr ⟨core_stove, ?_⟩
  refine List.forall_mem_cons.mpr ⟨core_hour, ?_⟩
  refine List.forall_mem_cons.mpr ⟨core_hours, ?_⟩
  refine List.forall_mem_cons.mpr ⟨core_pay, ?_⟩
  refine List.forall_mem_cons.mpr ⟨core_winter, ?_⟩
  refine List.forall_mem_cons.mpr ⟨core_undo, ?_⟩
  refine List.forall_mem_cons.mpr ⟨rel_off (by decide +kernel), ?_⟩
  refine List.forall_mem_cons.mpr ⟨rel_off (by decide +kernel), ?_⟩
  refine List.forall_mem_cons.mpr ⟨rel_off (by decide +kernel), ?_⟩
  refine List.forall_mem_cons.mpr ⟨rel_off (by decide +kernel), ?_⟩
  refine List.forall_mem_cons.mpr ⟨rel_off (by decide +kernel), ?_⟩
  refine List.forall_mem_cons.mpr ⟨rel_off (by decide +kernel), ?_⟩
  refine List.forall_mem_cons.mpr ⟨rel_quiet, ?_⟩
  refine List.forall_mem_cons.mpr ⟨rel_off (by decide +kernel), ?_⟩
  refine List.forall_mem_cons.mpr ⟨rel_off (by decide +kernel), ?_⟩
  refine List.forall_mem_cons.mpr ⟨rel_off (by decide +kernel), ?_⟩
  refine List.forall_mem_cons.mpr ⟨core_warm, ?_⟩
  refine List.forall_mem_cons.mpr ⟨rel_off (by decide +kernel), ?_⟩
  refine List.forall_mem_cons.mpr ⟨rel_off (by decide +kernel), ?_⟩
  refine List.forall_mem_cons.mpr ⟨rel_off (by decide +kernel), ?_⟩
  refine List.forall_mem_cons.mpr ⟨rel_off (by decide +kernel), ?_⟩
  refine List.forall_mem_cons.mpr ⟨rel_off (by decide +kernel), ?_⟩
  refine List.forall_mem_cons.mpr ⟨rel_off (by decide +kernel), ?_⟩
  refine List.forall_mem_cons.mpr ⟨rel_off (by decide +kernel), ?_⟩
  refine List.forall_mem_cons.mpr ⟨core_season, ?_⟩
  refine List.forall_mem_cons.mpr ⟨core_keep, ?_⟩
  refine List.forall_mem_cons.mpr ⟨core_again, ?_⟩
  refine List.forall_mem_cons.mpr ⟨rel_off (by decide +kernel), ?_⟩
  exact fun _ h => absurd h List.not_mem_nil
theorem rel_5 : l_rel3 Rel_0 181 2 := core_q3 (R3_off (by decide +kernel)) (by decide +kernel)
theorem rel_6 : l_rel3 Rel_0 190 2 := core_q3 (R3_off (by decide +kernel)) (by decide +kernel)
theorem rel_39 : l_rel3 Rel_0 261 1 := core_q3 (R3_off (by decide +kernel)) (by decide +kernel)
end
