/-! ROOM, PERSON: what they tell, or that they throw -/
def rm_V : Option Int → z_V
  | some v => (0, v)
  | none => (9, 0)
def rm_R (w h n : Nat) (heat : Int) (cs : List Int) (D A : Nat → Int) (r k : Int) : Option Int := if ¬ u_hs (w : Int) (h : Int) r = 0 then if k = 0 then some (A r.toNat) else if k = 1 then some (A (r.toNat + 9)) else if k = 2 then some (hr_wb heat (wmD D (A 35)) n A r (hr_b r n 0 A 0)) else if k = 3 then some (o_mel n heat cs D A r.toNat (hr_b r n 0 A 0)) else if k = 4 then some (hr_b r n 0 A 0) else if k = 5 then some (if A 34 = r then 1 else 0) else none else none
def rm_6 (D : Nat → Int) (p : Nat) : Nat → Nat → Int → Int
  | 0, _, s => s
  | f + 1, x, s => rm_6 D p f (x + 1) (z_add s (D (6 * p + x)))
def rm_P (n : Nat) (D A : Nat → Int) (p k : Int) : Option Int := if 0 ≤ p ∧ p < (n : Int) then if k = 0 then some (A (p.toNat + 18)) else if k = 1 then some (A (p.toNat + 23)) else if k = 2 then some (A (p.toNat + 28)) else if k = 3 then some (wmD D (A 35) p.toNat) else if k = 4 then some (rm_6 D p.toNat 6 0 0) else none else none
section
variable {w h n : Nat} {heat price : Int} {D A : Nat → Int} {c : Nat} {U : Nat → Nat → Int} {kn : Nat → Int} {KS : Nat → Nat → Int} {cs : List Int} {m : z_M}
theorem C_b0 (hi : C_is w h n heat price D A c U kn KS cs m) (h5 : n ≤ 5) (r : Int) : z_R 100 (m, 0, [(2, 3), (2, 12), (0, r), (9, 0), (9, 0)], []) = some (m, some (0, hr_b r n 0 A 0)) := by
  have a1 := C_bin hi h5 (r := r) n 0 0 (by omega) (by decide)
  have a1 : z_R 100 (m, 5, [(2, 3), (2, 12), (0, r), (0, 0), (0, 0)], []) = some (m, some (0, hr_b r n 0 A 0)) := a1
  rw [z_bin_0, a1]
theorem C_room (hi : C_is w h n heat price D A c U kn KS cs m) (hN : w_N w h n heat D) (ht : 0 ≤ A 35 ∧ A 35 ≤ 1073741824) (r k : Int) : ∃ m1, z_R 155 (m, 0, [(2, 0), (0, r), (0, k)], []) = some (m1, some (rm_V (rm_R w h n heat cs D A r k))) ∧ C_is w h n heat price D A c U kn KS cs m1 := by
  have n5 := hN.1.2.2
  rw [rm_roo_0, hi.1.1, hi.1.2.1]
  unfold rm_R
  by_cases cu : ¬ u_hs (w : Int) (h : Int) r = 0
  · have hr := u_hs_rng cu
    obtain ⟨q, rfl⟩ : ∃ q : Nat, r = (q : Int) := ⟨r.toNat, by omega⟩
    rw [if_pos cu, if_pos cu, Int.toNat_natCast]
    by_cases k0 : k = 0
    · have e : m 13 q = A q := by
        rw [← hi.2.2.1]
        exact (cS_at1 (s := 12) (by omega)).symm
      rw [if_pos k0, if_pos k0, e]
      exact ⟨m, rfl, hi⟩
    rw [if_neg k0, if_neg k0]
    by_cases k1 : k = 1
    · have e : m 14 q = A (q + 9) := by
        rw [← hi.2.2.1]
        exact (cS_at2 (s := 12) (by omega)).symm
      rw [if_pos k1, if_pos k1, e]
      exact ⟨m, rfl, hi⟩
    rw [if_neg k1, if_neg k1]
    by_cases k2 : k = 2
    · rw [if_pos k2, if_pos k2, C_wmi hi hN ht (q : Int), zb_v, rm_roo_92]
      exact ⟨m, rfl, hi⟩
    rw [if_neg k2, if_neg k2]
    by_cases k3 : k = 3
    · obtain ⟨m1, a1, a2⟩ := C_mbs hi hN ht (r := q) (by omega) (hr_b (q : Int) n 0 A 0)
      rw [if_pos k3, if_pos k3, rm_min_0, C_b0 hi n5, zb_v, rm_min_12, a1, zb_v, rm_min_15, zb_v, rm_roo_105]
      exact ⟨m1, rfl, a2⟩
    rw [if_neg k3, if_neg k3]
    by_cases k4 : k = 4
    · rw [if_pos k4, if_pos k4, C_b0 hi n5, zb_v, rm_roo_118]
      exact ⟨m, rfl, hi⟩
    rw [if_neg k4, if_neg k4]
    by_cases k5 : k = 5
    · have e6 : m 12 6 = A 34 := by
        rw [← hi.2.2.1]
        exact (cS_at0 (s := 12) (j := 6) (by decide)).symm
      rw [if_pos k5, if_pos k5, e6]
      by_cases z : A 34 = (q : Int)
      · rw [if_pos z, if_pos z]
        exact ⟨m, rfl, hi⟩
      · rw [if_neg z, if_neg z]
        exact ⟨m, rfl, hi⟩
    · rw [if_neg k5, if_neg k5]
      exact ⟨m, rfl, hi⟩
  · rw [if_neg cu, if_neg cu]
    exact ⟨m, rfl, hi⟩
theorem C_who (hi : C_is w h n heat price D A c U kn KS cs m) {p : Nat} (hp : p < n) (h5 : n ≤ 5) : ∀ (f x : Nat) (s : Int), x + f = 6 → z_R 157 (m, 4, [(2, 3), (0, (p : Int)), (0, s), (0, (x : Int))], []) = some (m, some (0, rm_6 D p f x s)) := by
  intro f
  induction f with
  | zero =>
    intro x s hx
    rw [rm_who_4, if_pos (by omega)]
    rfl
  | succ f ih =>
    intro x s hx
    rw [rm_who_4, if_neg (by omega), z_mul_eq (x := (p : Int)) (y := 6) (by omega) (by omega), z_add_eq (x := (p : Int) * 6) (y := (x : Int)) (by omega) (by omega), if_pos (by omega), show ((p : Int) * 6 + (x : Int)).toNat = 6 * p + x by omega, hi.2.1 (6 * p + x) (by omega), z_add_eq (x := (x : Int)) (y := 1) (by omega) (by omega), tc1]
    exact ih (x + 1) _ (by omega)
theorem C_person (hi : C_is w h n heat price D A c U kn KS cs m) (hN : w_N w h n heat D) (ht : 0 ≤ A 35 ∧ A 35 ≤ 1073741824) (p k : Int) : ∃ m1, z_R 156 (m, 0, [(2, 0), (0, p), (0, k)], []) = some (m1, some (rm_V (rm_P n D A p k))) ∧ C_is w h n heat price D A c U kn KS cs m1 := by
  have n5 := hN.1.2.2
  rw [rm_per_0, hi.1.2.2.1]
  unfold rm_P
  by_cases cu : 0 ≤ p ∧ p < (n : Int)
  · obtain ⟨q, rfl⟩ : ∃ q : Nat, p = (q : Int) := ⟨p.toNat, by omega⟩
    have h5 : 0 ≤ (q : Int) ∧ (q : Int) < 5 := by omega
    rw [if_pos cu, if_pos cu, Int.toNat_natCast]
    by_cases k0 : k = 0
    · rw [if_pos k0, if_pos k0, if_pos h5, C_A3 hi (by omega) n5]
      exact ⟨m, rfl, hi⟩
    rw [if_neg k0, if_neg k0]
    by_cases k1 : k = 1
    · rw [if_pos k1, if_pos k1, if_pos h5, C_A4 hi (by omega) n5]
      exact ⟨m, rfl, hi⟩
    rw [if_neg k1, if_neg k1]
    by_cases k2 : k = 2
    · have e : m 17 q = A (q + 28) := by
        rw [← hi.2.2.1]
        exact (cS_at5 (s := 12) (by omega) (by omega)).symm
      rw [if_pos k2, if_pos k2, if_pos h5, e]
      exact ⟨m, rfl, hi⟩
    rw [if_neg k2, if_neg k2]
    by_cases k3 : k = 3
    · have e7 : m 12 7 = A 35 := by
        rw [← hi.2.2.1]
        exact (cS_at0 (s := 12) (j := 7) (by decide)).symm
      have ec : cw m q (A 35) = wmD D (A 35) q := cw_D hi.1.2.2.2.2.2.2.1 hi.1.2.2.2.2.2.2.2 hi.2.1 ht.1 (by omega)
      rw [if_pos k3, if_pos k3, e7, c_wo m (by omega) ht.1 (by omega), zb_v, rm_per_101, ec]
      exact ⟨m, rfl, hi⟩
    rw [if_neg k3, if_neg k3]
    by_cases k4 : k = 4
    · have a1 := C_who hi (p := q) (by omega) n5 6 0 0 (by decide)
      have a1 : z_R 157 (m, 4, [(2, 3), (0, (q : Int)), (0, 0), (0, 0)], []) = some (m, some (0, rm_6 D q 6 0 0)) := a1
      rw [if_pos k4, if_pos k4, rm_who_0, a1, zb_v, rm_per_110]
      exact ⟨m, rfl, hi⟩
    · rw [if_neg k4, if_neg k4]
      exact ⟨m, rfl, hi⟩
  · rw [if_neg cu, if_neg cu]
    exact ⟨m, rfl, hi⟩
/-! the reference -/
theorem R_mbs4 (hi : R_is w h n heat price D A c U kn KS cs m) (hN : w_N w h n heat D) (hok : hr_ok n A) (ht : 0 ≤ A 35 ∧ A 35 ≤ 1073741824) {r : Nat} (hr : r < 9) (b : Int) : ∃ m1, z_R 188 (m, 0, [(2, 251), (2, 252), (0, (r : Int)), (0, b)], []) = some (m1, some (0, o_mel n heat cs D A r b)) ∧ R_is w h n heat price D A c U kn KS cs m1 ∧ m1 251 11 = m 251 11 := by
  have h5 := hN.1.2.2
  obtain ⟨c1, c2, c3, c4, c5, c6, c7⟩ := R_cfg hi
  have ea : ∀ k, k < 18 ∨ 33 ≤ k → k < 37 → m 252 k = A k := fun k hk h37 => R_A hi h37 (by
    rcases hk with hk | hk
    · exact a_vis_lo hk
    · exact a_vis_hi hk)
  have hrg : r_rg 252 m := by
    refine ⟨fun k hk => ?_, ?_, ?_⟩
    · have p1 := hok.1 k hk
      have p2 := hok.2.1 k hk
      rw [ea k (by omega) (by omega), ea (k + 9) (by omega) (by omega)]
      omega
    · rw [ea 36 (by omega) (by omega)]
      have := hok.2.2.2
      omega
    · rw [ea 35 (by omega) (by omega)]
      omega
  have hb := hN.2.1
  have hW : r_i (hr_wb heat (wmD D (A 35)) n (rS m 252 n) r b) := by
    unfold hr_wb r_i
    by_cases z : rS m 252 n 34 = (r : Int)
    · rw [if_pos z]
      have := hr_s_rg (b := b) (hN.2.2 (A 35) ht.1) n 0 heat (by omega) (by omega) (by omega)
      omega
    · rw [if_neg z]
      have := hr_s_rg (b := b) (hN.2.2 (A 35) ht.1) n 0 0 (by omega) (by omega) (by omega)
      omega
  have hP : r_i (hr_pc b) := by
    have := hr_pc_b b
    unfold r_i
    omega
  obtain ⟨m1, a1, a2⟩ := r_mb z_A_252 (Or.inl rfl) h5 (ml := c_ml cs) (b := b) (t := A 35) (heat := heat) (wm := wmD D (A 35)) ht.1 (by omega) m c3 c4 (ea 35 (by omega) (by omega)) (fun p hp => c6 (A 35) ht.1 p hp) c7 hr hrg hW hP
  rw [hi.2.2.1] at a1
  have a1 : z_R 188 (m, 0, [(2, 251), (2, 252), (0, (r : Int)), (0, b)], []) = some (m1, some (0, o_mel n heat cs D A r b)) := a1
  refine ⟨m1, a1, R_fr hi fun p k hk => ?_, a2.of (p := 251) (k := 11) (by (repeat' (first | exact trivial | refine z_of_c ?_ ?_)) <;> omega)⟩
  have hk' := hk
  unfold R_hit at hk'
  have hk' := of_decide_eq_true hk'
  exact a2.of (by (repeat' (first | exact trivial | refine z_of_c ?_ ?_)) <;> omega)
/-- told, or thrown -/
def rm_T (o : Option Int) (v : Int) (m : z_M) : Prop := (o = none ∧ m 251 11 = 1) ∨ (o = some v ∧ m 251 11 = 0)
theorem R_b0 (hi : R_is w h n heat price D A c U kn KS cs m) (h5 : n ≤ 5) (r : Int) : z_R 183 (m, 0, [(2, 251), (2, 252), (0, r), (9, 0), (9, 0)], []) = some (m, some (0, hr_b r n 0 A 0)) := by
  have a1 := r_pin z_A_252 (Or.inl rfl) h5 (k := r) m hi.1.2.2.1
  rw [hi.2.2.1] at a1
  exact a1
theorem R_w0 (hi : R_is w h n heat price D A c U kn KS cs m) (h5 : n ≤ 5) (ht : 0 ≤ A 35 ∧ A 35 ≤ 1073741824) (r b : Int) : z_R 184 (m, 0, [(2, 251), (2, 252), (0, r), (0, b), (9, 0), (9, 0)], []) = some (m, some (0, hr_wb heat (wmD D (A 35)) n A r b)) := by
  obtain ⟨c1, c2, c3, c4, c5, c6, c7⟩ := R_cfg hi
  have e35 : m 252 35 = A 35 := R_A hi (by decide) (a_vis_hi (by decide))
  have a1 := r_wb z_A_252 (Or.inl rfl) h5 (k := r) (b := b) (t := A 35) (heat := heat) (wm := wmD D (A 35)) ht.1 (by omega) m c3 c4 e35 (fun p hp => c6 (A 35) ht.1 p hp)
  rw [hi.2.2.1] at a1
  exact a1
theorem R_room (hi : R_is w h n heat price D A c U kn KS cs m) (hN : w_N w h n heat D) (hok : hr_ok n A) (ht : 0 ≤ A 35 ∧ A 35 ≤ 1073741824) (r k : Int) : ∃ m1 v, z_R 181 (m, 0, [(2, 251), (0, r), (0, k)], []) = some (m1, some (0, v)) ∧ R_is w h n heat price D A c U kn KS cs m1 ∧ rm_T (rm_R w h n heat cs D A r k) v m1 := by
  have n5 := hN.1.2.2
  have e3 := hi.1.1
  have e4 := hi.1.2.1
  have e34 : m 252 34 = A 34 := R_A hi (by decide) (a_vis_hi (by decide))
  have eA : ∀ q, q < 18 → m 252 q = A q := fun q hq => R_A hi (by omega) (a_vis_lo hq)
  have hu := R_upn (p0 := 251) (k0 := 11) (v := 0) hi (by decide)
  have g0 : (z_up m 251 11 0) 251 11 = 0 := zu_self
  have lost : ∃ m1 v, ((z_R 182 (z_up m 251 11 0, 0, [(2, 251)], [])).bind fun qq => z_R 181 (qq.1, 26, [(2, 251), (0, r), (0, k)], qq.2.toList ++ [])) = some (m1, some (0, v)) ∧ R_is w h n heat price D A c U kn KS cs m1 ∧ rm_T none v m1 := by
    rw [rm_los_0, zb_v, rm_tro_26]
    exact ⟨_, _, rfl, R_upn hu (by decide), Or.inl ⟨rfl, zu_self⟩⟩
  rw [rm_tro_0, e3, e4]
  unfold rm_R
  by_cases cu : ¬ u_hs (w : Int) (h : Int) r = 0
  · have hr := u_hs_rng cu
    obtain ⟨q, rfl⟩ : ∃ q : Nat, r = (q : Int) := ⟨r.toNat, by omega⟩
    rw [if_pos cu, if_pos cu, Int.toNat_natCast]
    by_cases kk : 0 ≤ k ∧ k ≤ 5
    · rw [if_pos kk]
      by_cases k0 : k = 0
      · rw [if_pos k0, if_pos k0, eA q (by omega)]
        exact ⟨_, _, rfl, hu, Or.inr ⟨rfl, g0⟩⟩
      rw [if_neg k0, if_neg k0]
      by_cases k1 : k = 1
      · rw [if_pos k1, if_pos k1, show ((q : Int) + 9).toNat = q + 9 by omega, eA (q + 9) (by omega)]
        exact ⟨_, _, rfl, hu, Or.inr ⟨rfl, g0⟩⟩
      rw [if_neg k1, if_neg k1]
      by_cases k2 : k = 2
      · rw [if_pos k2, if_pos k2, R_b0 hu n5, zb_v, rm_tro_96, R_w0 hu n5 ht, zb_v, rm_tro_99]
        exact ⟨_, _, rfl, hu, Or.inr ⟨rfl, g0⟩⟩
      rw [if_neg k2, if_neg k2]
      by_cases k3 : k = 3
      · obtain ⟨m1, a1, a2, a3⟩ := R_mbs4 hu hN hok ht (r := q) (by omega) (hr_b (q : Int) n 0 A 0)
        rw [if_pos k3, if_pos k3, rm_mno_0, R_b0 hu n5, zb_v, rm_mno_9, a1, zb_v, rm_mno_12, zb_v, rm_tro_109]
        exact ⟨_, _, rfl, a2, Or.inr ⟨rfl, a3.trans g0⟩⟩
      rw [if_neg k3, if_neg k3]
      by_cases k4 : k = 4
      · rw [if_pos k4, if_pos k4, R_b0 hu n5, zb_v, rm_tro_119]
        exact ⟨_, _, rfl, hu, Or.inr ⟨rfl, g0⟩⟩
      rw [if_neg k4, if_neg k4, if_pos (show k = 5 by omega), e34]
      by_cases z : A 34 = (q : Int)
      · rw [if_pos z, if_pos z]
        exact ⟨_, _, rfl, hu, Or.inr ⟨rfl, g0⟩⟩
      · rw [if_neg z, if_neg z]
        exact ⟨_, _, rfl, hu, Or.inr ⟨rfl, g0⟩⟩
    · rw [if_neg kk, if_neg (show ¬ k = 0 by omega), if_neg (show ¬ k = 1 by omega), if_neg (show ¬ k = 2 by omega), if_neg (show ¬ k = 3 by omega), if_neg (show ¬ k = 4 by omega), if_neg (show ¬ k = 5 by omega)]
      exact lost
  · rw [if_neg cu, if_neg cu]
    exact lost
theorem R_who (hi : R_is w h n heat price D A c U kn KS cs m) {p : Nat} {k : Int} (hp : p < n) (h5 : n ≤ 5) : ∀ (f x : Nat) (s : Int), x + f = 6 → z_R 190 (m, 105, [(2, 251), (0, (p : Int)), (0, k), (0, s), (0, (x : Int))], []) = some (m, some (0, rm_6 D p f x s)) := by
  intro f
  induction f with
  | zero =>
    intro x s hx
    rw [rm_tpe_105, if_pos (by omega)]
    rfl
  | succ f ih =>
    intro x s hx
    rw [rm_tpe_105, if_neg (by omega), z_mul_eq (x := 6) (y := (p : Int)) (by omega) (by omega), z_add_eq (x := 6 * (p : Int)) (y := (x : Int)) (by omega) (by omega), if_pos (by omega), show (6 * (p : Int) + (x : Int)).toNat = 6 * p + x by omega, hi.2.1 (6 * p + x) (by omega), z_add_eq (x := (x : Int)) (y := 1) (by omega) (by omega), tc1]
    exact ih (x + 1) _ (by omega)
theorem R_person (hi : R_is w h n heat price D A c U kn KS cs m) (hN : w_N w h n heat D) (ht : 0 ≤ A 35 ∧ A 35 ≤ 1073741824) (p k : Int) : ∃ m1 v, z_R 190 (m, 0, [(2, 251), (0, p), (0, k), (9, 0), (9, 0)], []) = some (m1, some (0, v)) ∧ R_is w h n heat price D A c U kn KS cs m1 ∧ rm_T (rm_P n D A p k) v m1 := by
  have n5 := hN.1.2.2
  have e3 := hi.1.2.2.1
  have hu := R_upn (p0 := 251) (k0 := 11) (v := 0) hi (by decide)
  have g0 : (z_up m 251 11 0) 251 11 = 0 := zu_self
  have lost : ∃ m1 v, ((z_R 182 (z_up m 251 11 0, 0, [(2, 251)], [])).bind fun qq => z_R 190 (qq.1, 26, [(2, 251), (0, p), (0, k), (9, 0), (9, 0)], qq.2.toList ++ [])) = some (m1, some (0, v)) ∧ R_is w h n heat price D A c U kn KS cs m1 ∧ rm_T none v m1 := by
    rw [rm_los_0, zb_v, rm_tpe_26]
    exact ⟨_, _, rfl, R_upn hu (by decide), Or.inl ⟨rfl, zu_self⟩⟩
  rw [rm_tpe_0 m p k (by omega), e3]
  unfold rm_P
  by_cases cu : 0 ≤ p ∧ p < (n : Int)
  · obtain ⟨q, rfl⟩ : ∃ q : Nat, p = (q : Int) := ⟨p.toNat, by omega⟩
    have eP : ∀ b, b = 18 ∨ b = 23 ∨ b = 28 → m 252 ((q : Int) + (b : Nat)).toNat = A (q + b) := fun b hb => by
      rw [show ((q : Int) + (b : Nat)).toNat = q + b by omega]
      exact R_A hi (by omega) (a_vis_p (b := b) (p := q) hb (by omega) (by omega) (by omega))
    have e18 : m 252 ((q : Int) + 18).toNat = A (q + 18) := eP 18 (Or.inl rfl)
    have e23 : m 252 ((q : Int) + 23).toNat = A (q + 23) := eP 23 (Or.inr (Or.inl rfl))
    have e28 : m 252 ((q : Int) + 28).toNat = A (q + 28) := eP 28 (Or.inr (Or.inr rfl))
    rw [if_pos cu, if_pos cu, Int.toNat_natCast]
    by_cases kk : 0 ≤ k ∧ k ≤ 4
    · rw [if_pos kk]
      by_cases k0 : k = 0
      · rw [if_pos k0, if_pos k0, e18]
        exact ⟨_, _, rfl, hu, Or.inr ⟨rfl, g0⟩⟩
      rw [if_neg k0, if_neg k0]
      by_cases k1 : k = 1
      · rw [if_pos k1, if_pos k1, e23]
        exact ⟨_, _, rfl, hu, Or.inr ⟨rfl, g0⟩⟩
      rw [if_neg k1, if_neg k1]
      by_cases k2 : k = 2
      · rw [if_pos k2, if_pos k2, e28]
        exact ⟨_, _, rfl, hu, Or.inr ⟨rfl, g0⟩⟩
      rw [if_neg k2, if_neg k2]
      by_cases k3 : k = 3
      · rw [if_pos k3, if_pos k3, R_wmo hu ht (by omega), zb_v, rm_tpe_99]
        exact ⟨_, _, rfl, hu, Or.inr ⟨rfl, g0⟩⟩
      have a1 := R_who hu (p := q) (k := k) (by omega) n5 6 0 0 (by decide)
      have a1 : z_R 190 (z_up m 251 11 0, 105, [(2, 251), (0, (q : Int)), (0, k), (0, 0), (0, 0)], []) = some (z_up m 251 11 0, some (0, rm_6 D q 6 0 0)) := a1
      rw [if_neg k3, if_neg k3, if_pos (show k = 4 by omega), a1]
      exact ⟨_, _, rfl, hu, Or.inr ⟨rfl, g0⟩⟩
    · rw [if_neg kk, if_neg (show ¬ k = 0 by omega), if_neg (show ¬ k = 1 by omega), if_neg (show ¬ k = 2 by omega), if_neg (show ¬ k = 3 by omega), if_neg (show ¬ k = 4 by omega)]
      exact lost
  · rw [if_neg cu, if_neg cu]
    exact lost
end
