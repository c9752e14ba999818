/-! LOOK, of what both are in -/
theorem k_bc (m : z_M) (x : Int) : z_R 128 (m, 0, [(1, x), (9, 0)], []) = some (m, some (0, ((pcN 64 (lv x) : Nat) : Int))) := by
  have e1 : z_R 128 (m, 0, [(1, x), (9, 0)], []) = z_R 128 (m, 10, [(1, l_f1 x), (9, 0)], []) := k_bc_0 m x
  have e2 : ∀ y, z_R 128 (m, 10, [(1, y), (9, 0)], []) = z_R 128 (m, 24, [(1, l_f2 y), (9, 0)], []) := fun y => k_bc_10 m y
  have e3 : ∀ y, z_R 128 (m, 24, [(1, y), (9, 0)], []) = z_R 128 (m, 34, [(1, l_f3 y), (9, 0)], []) := fun y => k_bc_24 m y
  have e4 : ∀ y, z_R 128 (m, 34, [(1, y), (9, 0)], []) = z_R 128 (m, 41, [(1, l_f4 y), (9, 0)], []) := fun y => k_bc_34 m y
  have e5 : ∀ y, z_R 128 (m, 41, [(1, y), (9, 0)], []) = z_R 128 (m, 48, [(1, l_f5 y), (9, 0)], []) := fun y => k_bc_41 m y
  have e6 : ∀ y, z_R 128 (m, 48, [(1, y), (9, 0)], []) = z_R 128 (m, 55, [(1, l_f6 y), (9, 0)], []) := fun y => k_bc_48 m y
  rw [e1, e2, e3, e4, e5, e6, k_bc_55, l_pc]
/-- so many unlike numbers, and the greatest -/
def o_lk (M : Int → Int) : Nat → Nat → (Int → Bool) → Int → Int → Int × Int
  | 0, _, _, k, g => (k, g)
  | f + 1, x, S, k, g => o_lk M f (x + 1) (fun v => S v || decide (v = M (x : Int))) (if S (M (x : Int)) = true then k else k + 1) (if g < M (x : Int) then M (x : Int) else g)
def o_lr (w h : Nat) (F : Nat → Int × Int) : Nat → Nat → Int → Int → Int → Int × Int × Int
  | 0, _, b, k, g => (b, k, g)
  | f + 1, r, b, k, g => if (¬ u_hs (w : Int) (h : Int) (r : Int) = 0) ∧ k < (F r).1 then o_lr w h F f (r + 1) (r : Int) (F r).1 (F r).2 else o_lr w h F f (r + 1) b k g
def o_F (n : Nat) (heat : Int) (cs : List Int) (D A : Nat → Int) (r : Nat) : Int × Int := o_lk (o_mel n heat cs D A r) (2 ^ n) 0 (fun _ => false) 0 0
def o_look (w h n : Nat) (heat : Int) (cs : List Int) (D A : Nat → Int) : Int := if w = 0 then -2 else (o_lr w h (o_F n heat cs D A) 9 0 (-1) 0 0).1
theorem o_lk_le {M : Int → Int} : ∀ (f x : Nat) (S : Int → Bool) (k g : Int), k ≤ (o_lk M f x S k g).1
  | 0, _, _, k, _ => Int.le_refl k
  | f + 1, x, S, k, g => by
    unfold o_lk
    refine Int.le_trans ?_ (o_lk_le f (x + 1) _ _ _)
    split <;> omega
theorem o_F_pos {n : Nat} {heat : Int} {cs : List Int} {D A : Nat → Int} (r : Nat) : 1 ≤ (o_F n heat cs D A r).1 := by
  unfold o_F
  obtain ⟨f, hf⟩ : ∃ f, 2 ^ n = f + 1 := ⟨2 ^ n - 1, by have := Nat.two_pow_pos n; omega⟩
  rw [hf]
  exact o_lk_le (M := o_mel n heat cs D A r) f 1 (fun v => false || decide (v = o_mel n heat cs D A r ((0 : Nat) : Int))) 1 _
theorem o_lr_b {w h : Nat} {F : Nat → Int × Int} : ∀ (f r : Nat) (b k g : Int), 0 ≤ b → 0 ≤ (o_lr w h F f r b k g).1
  | 0, _, _, _, _, hb => hb
  | f + 1, r, b, k, g, hb => by
    unfold o_lr
    split
    · exact o_lr_b f (r + 1) _ _ _ (by omega)
    · exact o_lr_b f (r + 1) _ _ _ hb
theorem o_lr_no {w h : Nat} {F : Nat → Int × Int} (hz : ∀ r : Nat, u_hs (w : Int) (h : Int) (r : Int) = 0) : ∀ (f r : Nat) (b k g : Int), o_lr w h F f r b k g = (b, k, g)
  | 0, _, _, _, _ => rfl
  | f + 1, r, b, k, g => by
    unfold o_lr
    rw [if_neg (fun z => z.1 (hz r))]
    exact o_lr_no hz f (r + 1) b k g
theorem o_lr_w {w h n : Nat} {heat : Int} {cs : List Int} {D A : Nat → Int} (hw : w ≤ 3) (hh : h ≤ 3) (h0 : w = 0 ↔ h = 0) : (o_lr w h (o_F n heat cs D A) 9 0 (-1) 0 0).1 = -1 ↔ w = 0 := by
  constructor
  · intro z
    refine Decidable.byContradiction fun c => ?_
    have hr : ¬ u_hs (w : Int) (h : Int) ((0 : Nat) : Int) = 0 := by
      have e : ∀ w, w < 4 → ∀ h, h < 4 → ¬ w = 0 → ¬ h = 0 → ¬ u_hs ((w : Nat) : Int) ((h : Nat) : Int) ((0 : Nat) : Int) = 0 := by decide +kernel
      exact e w (by omega) h (by omega) c (by omega)
    have hp := o_F_pos (n := n) (heat := heat) (cs := cs) (D := D) (A := A) 0
    unfold o_lr at z
    rw [if_pos ⟨hr, by omega⟩] at z
    have := o_lr_b (w := w) (h := h) (F := o_F n heat cs D A) 8 (0 + 1) ((0 : Nat) : Int) (o_F n heat cs D A 0).1 (o_F n heat cs D A 0).2 (by decide)
    have z : (o_lr w h (o_F n heat cs D A) 8 (0 + 1) ((0 : Nat) : Int) (o_F n heat cs D A 0).1 (o_F n heat cs D A 0).2).1 = -1 := z
    omega
  · intro z
    have hz : ∀ r : Nat, u_hs (w : Int) (h : Int) (r : Int) = 0 := fun r => Decidable.byContradiction fun c => by
      have := u_hs_rng c
      have e : ∀ h, h < 4 → ∀ r, r < 9 → u_hs ((0 : Nat) : Int) ((h : Nat) : Int) ((r : Nat) : Int) = 0 := by decide +kernel
      rw [z] at c
      exact c (e h (by omega) r (by omega))
    rw [o_lr_no hz]
/-- the bits of both longs, what they are of -/
def l_inv (lo hi : Int) (S : Int → Bool) (k : Int) : Prop := (∀ v : Nat, v < 64 → (lv lo).testBit v = S (v : Int)) ∧ (∀ v : Nat, v < 36 → (lv hi).testBit v = S ((v + 64 : Nat) : Int)) ∧ ((pcN 64 (lv lo) + pcN 64 (lv hi) : Nat) : Int) = k
theorem l_inv_0 : l_inv 0 0 (fun _ => false) 0 := by
  have e0 : lv 0 = 0 := by decide +kernel
  have e1 : pcN 64 0 = 0 := by decide +kernel
  unfold l_inv
  rw [e0, e1]
  exact ⟨fun v _ => Nat.zero_testBit v, fun v _ => Nat.zero_testBit v, rfl⟩
theorem l_inv_lo {lo hi k : Int} {S : Int → Bool} (h : l_inv lo hi S k) {u : Nat} (hu : u < 64) : l_inv (z_lor lo (z_lshl 1 (u : Int))) hi (fun v => S v || decide (v = (u : Int))) (if S (u : Int) = true then k else k + 1) := by
  obtain ⟨h1, h2, h3⟩ := h
  have e : lv (z_lor lo (z_lshl 1 (u : Int))) = lv lo ||| 2 ^ u := by rw [l6_or, l6_shl hu]
  refine ⟨fun v hv => ?_, fun v hv => ?_, ?_⟩
  · rw [e, bit_or, h1 v hv]
    congr 1
    exact decide_eq_decide.mpr ⟨fun z => by omega, fun z => by omega⟩
  · rw [h2 v hv]
    show S ((v + 64 : Nat) : Int) = (S ((v + 64 : Nat) : Int) || decide (((v + 64 : Nat) : Int) = (u : Int)))
    rw [decide_eq_false (by omega), Bool.or_false]
  · rw [e, pcN_or 64 (lv lo) u hu, h1 u hu]
    split <;> omega
theorem l_inv_hi {lo hi k : Int} {S : Int → Bool} (h : l_inv lo hi S k) {u : Nat} (hu : u < 36) : l_inv lo (z_lor hi (z_lshl 1 (u : Int))) (fun v => S v || decide (v = ((u + 64 : Nat) : Int))) (if S ((u + 64 : Nat) : Int) = true then k else k + 1) := by
  obtain ⟨h1, h2, h3⟩ := h
  have e : lv (z_lor hi (z_lshl 1 (u : Int))) = lv hi ||| 2 ^ u := by rw [l6_or, l6_shl (by omega)]
  refine ⟨fun v hv => ?_, fun v hv => ?_, ?_⟩
  · rw [h1 v hv]
    show S (v : Int) = (S (v : Int) || decide ((v : Int) = ((u + 64 : Nat) : Int)))
    rw [decide_eq_false (by omega), Bool.or_false]
  · rw [e, bit_or, h2 v hv]
    congr 1
    exact decide_eq_decide.mpr ⟨fun z => by omega, fun z => by omega⟩
  · rw [e, pcN_or 64 (lv hi) u (by omega), h2 u hu]
    split <;> omega
section
variable {w h n : Nat} {heat price : Int} {D A : Nat → Int} {c : Nat} {U : Nat → Nat → Int} {kn : Nat → Int} {KS : Nat → Nat → Int} {cs : List Int} {m : z_M}
theorem o_mel_b (hok : hr_ok n A) {r : Nat} (hr : r < 9) (b : Int) : 0 ≤ o_mel n heat cs D A r b ∧ o_mel n heat cs D A r b ≤ 99 := by
  have h1 := hok.1 r hr
  have h2 := c_ml_ok cs (hr_wb heat (wmD D (A 35)) n A r b) (A r) (A (r + 9)) (A 36) ((r : Int) / 3) (hr_pc b) (A 35) h1.1
  unfold o_mel hr_mB
  omega
theorem C_mbs2 (hi : C_is w h n heat price D A c U kn KS cs m) (hN : w_N w h n heat D) (ht : 0 ≤ A 35 ∧ A 35 ≤ 1073741824) {r : Nat} (hr : r < 9) (b : Int) : ∃ m1, z_R 118 (m, 0, [(2, 24), (2, 12), (0, (r : Int)), (0, b)], []) = some (m1, some (0, o_mel n heat cs D A r b)) ∧ C_is w h n heat price D A c U kn KS cs m1 ∧ m1 24 13 = m 24 13 := by
  have h5 := hN.1.2.2
  have e6 : m 12 6 = A 34 := by
    rw [← hi.2.2.1]
    exact (cS_at0 (s := 12) (j := 6) (by decide)).symm
  have e7 : m 12 7 = A 35 := by
    rw [← hi.2.2.1]
    exact (cS_at0 (s := 12) (j := 7) (by decide)).symm
  have e8 : m 12 8 = A 36 := by
    rw [← hi.2.2.1]
    exact (cS_at0 (s := 12) (j := 8) (by decide)).symm
  have e13 : m 13 r = A r := by
    rw [← hi.2.2.1]
    exact (cS_at1 (s := 12) hr).symm
  have e14 : m 14 r = A (r + 9) := by
    rw [← hi.2.2.1]
    exact (cS_at2 (s := 12) hr).symm
  have ew : z_R 119 (m, 0, [(2, 24), (2, 12), (0, (r : Int)), (0, b), (9, 0), (9, 0)], []) = some (m, some (0, hr_wb heat (wmD D (A 35)) n A r b)) := by
    rw [u_wof_0, e6, hi.1.2.2.2.1]
    unfold hr_wb
    have hb := hN.2.1
    by_cases z : A 34 = (r : Int)
    · rw [if_pos z, if_pos z]
      exact C_wof hi h5 ht n 0 heat (by omega) (z_w_of (by omega) (by omega))
    · rw [if_neg z, if_neg z]
      exact C_wof hi h5 ht n 0 0 (by omega) (by decide +kernel)
  obtain ⟨m1, a1, a2⟩ := (C_cfg hi).2.2.2.2.2.2.1 m rfl rfl (hr_wb heat (wmD D (A 35)) n A r b) (A r) (A (r + 9)) (A 36) ((r : Int) / 3) (hr_pc b) (A 35)
  have hC1 : C_is w h n heat price D A c U kn KS cs m1 := C_fr hi fun p k hk => by
    have hk' := hk
    unfold C_hit at hk'
    have hk' := of_decide_eq_true hk'
    exact a2.of (by (repeat' (first | exact trivial | refine z_of_c ?_ ?_)) <;> omega)
  rw [u_mbs_0, ew, zb_v, u_mbs_10, t_bc_0, zb_v, u_mbs_14, u_mby_0 m r _ _ (by omega), Int.toNat_natCast, e13, e14, e8, e7, a1, zb_v, u_mby_48, zb_v, u_mbs_17]
  exact ⟨m1, rfl, hC1, a2.of (by (repeat' (first | exact trivial | refine z_of_c ?_ ?_)) <;> omega)⟩
theorem C_cm1 (hN : w_N w h n heat D) (hok : hr_ok n A) (ht : 0 ≤ A 35 ∧ A 35 ≤ 1073741824) {r : Nat} (hr : r < 9) : ∀ (f x : Nat) (lo hi2 : Int) (v8 : z_V) (S : Int → Bool) (k g : Int) (m : z_M), x + f = 2 ^ n → l_inv lo hi2 S k → (0 ≤ k ∧ k ≤ (x : Int)) → m 24 13 = g → C_is w h n heat price D A c U kn KS cs m → ∃ m1, z_R 127 (m, 13, [(2, 24), (2, 12), (0, (r : Int)), (1, lo), (9, 0), (1, hi2), (9, 0), (0, (x : Int)), v8], []) = some (m1, none) ∧ C_is w h n heat price D A c U kn KS cs m1 ∧ m1 24 12 = (o_lk (o_mel n heat cs D A r) f x S k g).1 ∧ m1 24 13 = (o_lk (o_mel n heat cs D A r) f x S k g).2 := by
  have h5 := hN.1.2.2
  have h32 := z_p32 h5
  intro f
  induction f with
  | zero =>
    intro x lo hi2 v8 S k g m hx hI hk hg hi
    have e11 := hi.1.2.2.1
    rw [k_cm_13 m _ _ _ _ _ (by omega), e11, z_p2 h5, if_pos (by omega), k_bc, zb_v, k_cm_90, k_bc, zb_v, k_cm_95]
    have h3 := hI.2.2
    refine ⟨_, rfl, C_upn hi (by decide), ?_, ?_⟩
    · rw [zu_self, z_add_eq (by omega) (by omega)]
      show _ = k
      omega
    · rw [zu_k (by decide)]
      exact hg
  | succ f ih =>
    intro x lo hi2 v8 S k g m hx hI hk hg hi
    have e11 := hi.1.2.2.1
    obtain ⟨m1, a1, a2, a3⟩ := C_mbs2 hi hN ht hr (x : Int)
    have hb := o_mel_b (heat := heat) (cs := cs) (D := D) hok hr (x : Int)
    rw [k_cm_13 m _ _ _ _ _ (by omega), e11, z_p2 h5, if_neg (by omega), a1, zb_v, k_cm_35, z_add_eq (x := (x : Int)) (y := 1) (by omega) (by omega), tc1, a3, hg]
    unfold o_lk
    have hC2 : ∀ v, C_is w h n heat price D A c U kn KS cs (z_up m1 24 13 v) := fun v => C_upn a2 (by decide)
    generalize o_mel n heat cs D A r (x : Int) = u at hb ⊢
    obtain ⟨q, rfl⟩ : ∃ q : Nat, u = (q : Int) := ⟨u.toNat, by omega⟩
    have hk2 : 0 ≤ (if S (q : Int) = true then k else k + 1) ∧ (if S (q : Int) = true then k else k + 1) ≤ ((x + 1 : Nat) : Int) := by
      split <;> omega
    by_cases z : 64 ≤ (q : Int)
    · obtain ⟨j, rfl⟩ : ∃ j, q = j + 64 := ⟨q - 64, by omega⟩
      rw [if_pos z, z_sub_eq (by omega) (by omega), show (((j + 64 : Nat) : Int) - 64) = (j : Int) by omega]
      exact ih (x + 1) _ _ _ _ _ _ _ (by omega) (l_inv_hi hI (by omega)) hk2 zu_self (hC2 _)
    · rw [if_neg z]
      exact ih (x + 1) _ _ _ _ _ _ _ (by omega) (l_inv_lo hI (by omega)) hk2 zu_self (hC2 _)
theorem C_cm (hi : C_is w h n heat price D A c U kn KS cs m) (hN : w_N w h n heat D) (hok : hr_ok n A) (ht : 0 ≤ A 35 ∧ A 35 ≤ 1073741824) {r : Nat} (hr : r < 9) : ∃ m1, z_R 127 (m, 0, [(2, 24), (2, 12), (0, (r : Int)), (9, 0), (9, 0), (9, 0), (9, 0), (9, 0), (9, 0)], []) = some (m1, none) ∧ C_is w h n heat price D A c U kn KS cs m1 ∧ m1 24 12 = (o_F n heat cs D A r).1 ∧ m1 24 13 = (o_F n heat cs D A r).2 := by
  rw [k_cm_0]
  exact C_cm1 hN hok ht hr (2 ^ n) 0 0 0 (9, 0) (fun _ => false) 0 0 _ (by omega) l_inv_0 ⟨by decide, by decide⟩ zu_self (C_upn hi (by decide))
theorem C_look1 (hN : w_N w h n heat D) (hok : hr_ok n A) (ht : 0 ≤ A 35 ∧ A 35 ≤ 1073741824) : ∀ (f r : Nat) (b k g : Int) (m : z_M), r + f = 9 → C_is w h n heat price D A c U kn KS cs m → ∃ m1, z_R 126 (m, 9, [(2, 0), (0, b), (0, k), (0, g), (0, (r : Int))], []) = some (m1, some (0, if (o_lr w h (o_F n heat cs D A) f r b k g).1 = -1 then -2 else (o_lr w h (o_F n heat cs D A) f r b k g).1)) ∧ C_is w h n heat price D A c U kn KS cs m1 := by
  intro f
  induction f with
  | zero =>
    intro r b k g m hr hi
    rw [k_loo_9, if_pos (by omega)]
    show ∃ m1, _ = some (m1, some (0, if b = -1 then -2 else b)) ∧ _
    by_cases z : b = -1
    · rw [if_pos z, if_pos z]
      exact ⟨m, rfl, hi⟩
    · rw [if_neg z, if_neg z, c_tell2, zb_n, k_loo_93]
      exact ⟨_, rfl, C_tell2 hi _ _⟩
  | succ f ih =>
    intro r b k g m hr hi
    rw [k_loo_9, if_neg (by omega), hi.1.1, hi.1.2.1, z_add_eq (x := (r : Int)) (y := 1) (by omega) (by omega), tc1]
    have eo : o_lr w h (o_F n heat cs D A) (f + 1) r b k g = if (¬ u_hs (w : Int) (h : Int) (r : Int) = 0) ∧ k < (o_F n heat cs D A r).1 then o_lr w h (o_F n heat cs D A) f (r + 1) (r : Int) (o_F n heat cs D A r).1 (o_F n heat cs D A r).2 else o_lr w h (o_F n heat cs D A) f (r + 1) b k g := rfl
    rw [eo]
    by_cases z : u_hs (w : Int) (h : Int) (r : Int) = 0
    · rw [if_neg (not_not_intro z), if_neg (show ¬ ((¬ u_hs (w : Int) (h : Int) (r : Int) = 0) ∧ k < (o_F n heat cs D A r).1) from fun q => q.1 z)]
      exact ih (r + 1) b k g m (by omega) hi
    · obtain ⟨m1, a1, a2, a3, a4⟩ := C_cm hi hN hok ht (r := r) (by omega)
      rw [if_pos z, a1, zb_n, k_loo_41, a3, a4, z_add_eq (x := (r : Int)) (y := 1) (by omega) (by omega), tc1]
      by_cases y : k < (o_F n heat cs D A r).1
      · rw [if_neg (by omega), if_pos (show (¬ u_hs (w : Int) (h : Int) (r : Int) = 0) ∧ k < (o_F n heat cs D A r).1 from ⟨z, y⟩)]
        exact ih (r + 1) _ _ _ m1 (by omega) a2
      · rw [if_pos (by omega), if_neg (show ¬ ((¬ u_hs (w : Int) (h : Int) (r : Int) = 0) ∧ k < (o_F n heat cs D A r).1) from fun q => y q.2)]
        exact ih (r + 1) b k g m1 (by omega) a2
theorem C_look (hi : C_is w h n heat price D A c U kn KS cs m) (hN : w_N w h n heat D) (hok : hr_ok n A) (ht : 0 ≤ A 35 ∧ A 35 ≤ 1073741824) (h0 : w = 0 ↔ h = 0) : ∃ m1, z_R 126 (m, 0, [(2, 0), (9, 0), (9, 0), (9, 0), (9, 0)], []) = some (m1, some (0, o_look w h n heat cs D A)) ∧ C_is w h n heat price D A c U kn KS cs m1 := by
  obtain ⟨m1, a1, a2⟩ := C_look1 hN hok ht 9 0 (-1) 0 0 m (by omega) hi
  have e := o_lr_w (n := n) (heat := heat) (cs := cs) (D := D) (A := A) hN.1.1 hN.1.2.1 h0
  rw [k_loo_0]
  refine ⟨m1, a1.trans ?_, a2⟩
  unfold o_look
  by_cases z : w = 0
  · rw [if_pos (e.mpr z), if_pos z]
  · rw [if_neg (fun y => z (e.mp y)), if_neg z]
/-! the reference -/
theorem R_mbs3 (hi : R_is w h n heat price D A c U kn KS cs m) (hN : w_N w h n heat D) (hok : hr_ok n A) (ht : 0 ≤ A 35 ∧ A 35 ≤ 1073741824) {r : Nat} (hr : r < 9) (b : Int) : ∃ m1, z_R 188 (m, 0, [(2, 251), (2, 252), (0, (r : Int)), (0, b)], []) = some (m1, some (0, o_mel n heat cs D A r b)) ∧ R_is w h n heat price D A c U kn KS cs m1 ∧ ∀ v, m1 269 v = m 269 v := by
  have h5 := hN.1.2.2
  obtain ⟨c1, c2, c3, c4, c5, c6, c7⟩ := R_cfg hi
  have ea : ∀ k, k < 18 ∨ 33 ≤ k → k < 37 → m 252 k = A k := fun k hk h37 => R_A hi h37 (by
    rcases hk with hk | hk
    · exact a_vis_lo hk
    · exact a_vis_hi hk)
  have hrg : r_rg 252 m := by
    refine ⟨fun k hk => ?_, ?_, ?_⟩
    · have p1 := hok.1 k hk
      have p2 := hok.2.1 k hk
      rw [ea k (by omega) (by omega), ea (k + 9) (by omega) (by omega)]
      omega
    · rw [ea 36 (by omega) (by omega)]
      have := hok.2.2.2
      omega
    · rw [ea 35 (by omega) (by omega)]
      omega
  have hb := hN.2.1
  have hW : r_i (hr_wb heat (wmD D (A 35)) n (rS m 252 n) r b) := by
    unfold hr_wb r_i
    by_cases z : rS m 252 n 34 = (r : Int)
    · rw [if_pos z]
      have := hr_s_rg (b := b) (hN.2.2 (A 35) ht.1) n 0 heat (by omega) (by omega) (by omega)
      omega
    · rw [if_neg z]
      have := hr_s_rg (b := b) (hN.2.2 (A 35) ht.1) n 0 0 (by omega) (by omega) (by omega)
      omega
  have hP : r_i (hr_pc b) := by
    have := hr_pc_b b
    unfold r_i
    omega
  obtain ⟨m1, a1, a2⟩ := r_mb z_A_252 (Or.inl rfl) h5 (ml := c_ml cs) (b := b) (t := A 35) (heat := heat) (wm := wmD D (A 35)) ht.1 (by omega) m c3 c4 (ea 35 (by omega) (by omega)) (fun p hp => c6 (A 35) ht.1 p hp) c7 hr hrg hW hP
  rw [hi.2.2.1] at a1
  have a1 : z_R 188 (m, 0, [(2, 251), (2, 252), (0, (r : Int)), (0, b)], []) = some (m1, some (0, o_mel n heat cs D A r b)) := a1
  refine ⟨m1, a1, R_fr hi fun p k hk => ?_, fun v => a2.of (by (repeat' (first | exact trivial | refine z_of_c ?_ ?_)) <;> omega)⟩
  have hk' := hk
  unfold R_hit at hk'
  have hk' := of_decide_eq_true hk'
  exact a2.of (by (repeat' (first | exact trivial | refine z_of_c ?_ ?_)) <;> omega)
theorem R_clr : ∀ (f x : Nat) (x1 x2 x3 x4 : Int) (v6 v7 v8 : z_V) (m : z_M), x + f = 100 → (∀ v : Nat, v < x → m 269 v = 0) → R_is w h n heat price D A c U kn KS cs m → ∃ m1, z_R 244 (m, 46, [(2, 251), (0, x1), (0, x2), (0, x3), (0, x4), (0, (x : Int)), v6, v7, v8], []) = z_R 244 (m1, 76, [(2, 251), (0, x1), (0, x2), (0, x3), (0, x4), (0, 0), (0, 0), (0, 0), v8], []) ∧ (∀ v : Nat, v < 100 → m1 269 v = 0) ∧ R_is w h n heat price D A c U kn KS cs m1 := by
  intro f
  induction f with
  | zero =>
    intro x x1 x2 x3 x4 v6 v7 v8 m hx h0 hi
    rw [k_tlo_46, if_pos (by omega)]
    exact ⟨m, rfl, fun v hv => h0 v (by omega), hi⟩
  | succ f ih =>
    intro x x1 x2 x3 x4 v6 v7 v8 m hx h0 hi
    rw [k_tlo_46, if_neg (by omega), if_pos (by omega), tc1, Int.toNat_natCast]
    refine ih (x + 1) x1 x2 x3 x4 v6 v7 v8 _ (by omega) (fun v hv => ?_) (R_fr hi fun p k hk => zu_p ?_)
    · by_cases z : v = x
      · rw [z]
        exact zu_self
      · rw [zu_k z]
        exact h0 v (by omega)
    · intro z
      have hk' := hk
      unfold R_hit at hk'
      have hk' := of_decide_eq_true hk'
      omega
theorem R_lset (hN : w_N w h n heat D) (hok : hr_ok n A) (ht : 0 ≤ A 35 ∧ A 35 ≤ 1073741824) {r : Nat} (hr : r < 9) {x1 x2 x3 : Int} : ∀ (f x : Nat) (v8 : z_V) (S : Int → Bool) (k g : Int) (m : z_M), x + f = 2 ^ n → (∀ v : Nat, v < 100 → m 269 v = if S (v : Int) = true then 1 else 0) → (0 ≤ k ∧ k ≤ (x : Int)) → R_is w h n heat price D A c U kn KS cs m → ∃ m1 v5 v6 v7 v8', z_R 244 (m, 76, [(2, 251), (0, x1), (0, x2), (0, x3), (0, (r : Int)), (0, k), (0, g), (0, (x : Int)), v8], []) = (if x2 < (o_lk (o_mel n heat cs D A r) f x S k g).1 then z_R 244 (m1, 24, [(2, 251), (0, (r : Int)), (0, (o_lk (o_mel n heat cs D A r) f x S k g).1), (0, (o_lk (o_mel n heat cs D A r) f x S k g).2), (0, ((r + 1 : Nat) : Int)), v5, v6, v7, v8'], []) else z_R 244 (m1, 24, [(2, 251), (0, x1), (0, x2), (0, x3), (0, ((r + 1 : Nat) : Int)), v5, v6, v7, v8'], [])) ∧ R_is w h n heat price D A c U kn KS cs m1 := by
  have h5 := hN.1.2.2
  have h32 := z_p32 h5
  intro f
  induction f with
  | zero =>
    intro x v8 S k g m hx h269 hk hi
    refine ⟨m, (0, k), (0, g), (0, (x : Int)), v8, ?_, hi⟩
    rw [k_tlo_76, hi.1.2.2.1, z_p2 h5, if_pos (by omega), z_add_eq (x := (r : Int)) (y := 1) (by omega) (by omega), tc1]
    rfl
  | succ f ih =>
    intro x v8 S k g m hx h269 hk hi
    obtain ⟨m1, a1, a2⟩ := R_mbs3 hi hN hok ht hr (x : Int)
    obtain ⟨a2, a3⟩ := a2
    have hb := o_mel_b (heat := heat) (cs := cs) (D := D) hok hr (x : Int)
    rw [k_tlo_76, hi.1.2.2.1, z_p2 h5, if_neg (by omega), a1, zb_v, k_tlo_99, if_pos (by omega), z_add_eq (x := (x : Int)) (y := 1) (by omega) (by omega), tc1]
    unfold o_lk
    generalize o_mel n heat cs D A r (x : Int) = u at hb ⊢
    obtain ⟨q, rfl⟩ : ∃ q : Nat, u = (q : Int) := ⟨u.toNat, by omega⟩
    rw [Int.toNat_natCast, a3 q, h269 q (by omega), z_add_eq (x := k) (y := 1) (by omega) (by omega), z_add_eq (x := k) (y := 0) (by omega) (by omega), Int.add_zero]
    have h2 : ∀ v : Nat, v < 100 → (z_up m1 269 q 1) 269 v = if (S (v : Int) || decide ((v : Int) = (q : Int))) = true then 1 else 0 := fun v hv => by
      by_cases z : v = q
      · rw [z, zu_self, decide_eq_true rfl, Bool.or_true, if_pos rfl]
      · rw [zu_k z, a3 v, h269 v hv, decide_eq_false (by omega), Bool.or_false]
    have hR2 : R_is w h n heat price D A c U kn KS cs (z_up m1 269 q 1) := R_fr a2 fun p j hk => zu_p fun z => by
      have hk' := hk
      unfold R_hit at hk'
      have hk' := of_decide_eq_true hk'
      omega
    by_cases y : S (q : Int) = true
    · rw [if_pos y, if_pos y, if_neg (by decide)]
      exact ih (x + 1) _ _ k _ _ (by omega) h2 (by omega) hR2
    · rw [if_neg y, if_neg y, if_pos rfl]
      exact ih (x + 1) _ _ (k + 1) _ _ (by omega) h2 (by omega) hR2
theorem R_look1 (hN : w_N w h n heat D) (hok : hr_ok n A) (ht : 0 ≤ A 35 ∧ A 35 ≤ 1073741824) : ∀ (f r : Nat) (b k g : Int) (v5 v6 v7 v8 : z_V) (m : z_M), r + f = 9 → R_is w h n heat price D A c U kn KS cs m → ∃ m1, z_R 244 (m, 24, [(2, 251), (0, b), (0, k), (0, g), (0, (r : Int)), v5, v6, v7, v8], []) = some (m1, some (0, (o_lr w h (o_F n heat cs D A) f r b k g).1)) ∧ R_is w h n heat price D A c U kn KS cs m1 := by
  intro f
  induction f with
  | zero =>
    intro r b k g v5 v6 v7 v8 m hr hi
    rw [k_tlo_24, if_pos (by omega), t_tell0, zb_n, k_tlo_179, t_tell1, zb_n, k_tlo_185]
    exact ⟨_, rfl, R_upn (R_upn (R_upn (R_upn (R_upn hi (by decide)) (by decide)) (by decide)) (by decide)) (by decide)⟩
  | succ f ih =>
    intro r b k g v5 v6 v7 v8 m hr hi
    rw [k_tlo_24, if_neg (by omega), hi.1.1, hi.1.2.1, z_add_eq (x := (r : Int)) (y := 1) (by omega) (by omega), tc1]
    unfold o_lr
    by_cases z : u_hs (w : Int) (h : Int) (r : Int) = 0
    · rw [if_neg (not_not_intro z), if_neg (fun q => q.1 z)]
      exact ih (r + 1) b k g _ _ _ _ m (by omega) hi
    · rw [if_pos z]
      obtain ⟨m1, a1, a2, a3⟩ := R_clr 100 0 b k g (r : Int) v6 v7 v8 m (by omega) (fun v hv => absurd hv (Nat.not_lt_zero v)) hi
      obtain ⟨m2, w5, w6, w7, w8, b1, b2⟩ := R_lset hN hok ht (r := r) (by omega) (x1 := b) (x2 := k) (x3 := g) (2 ^ n) 0 v8 (fun _ => false) 0 0 m1 (by omega) (fun v hv => (a2 v hv).trans (if_neg Bool.false_ne_true).symm) ⟨by decide, by decide⟩ a3
      have a1 : z_R 244 (m, 46, [(2, 251), (0, b), (0, k), (0, g), (0, (r : Int)), (0, 0), v6, v7, v8], []) = z_R 244 (m1, 76, [(2, 251), (0, b), (0, k), (0, g), (0, (r : Int)), (0, 0), (0, 0), (0, 0), v8], []) := a1
      have b1 : z_R 244 (m1, 76, [(2, 251), (0, b), (0, k), (0, g), (0, (r : Int)), (0, 0), (0, 0), (0, 0), v8], []) = (if k < (o_F n heat cs D A r).1 then z_R 244 (m2, 24, [(2, 251), (0, (r : Int)), (0, (o_F n heat cs D A r).1), (0, (o_F n heat cs D A r).2), (0, ((r + 1 : Nat) : Int)), w5, w6, w7, w8], []) else z_R 244 (m2, 24, [(2, 251), (0, b), (0, k), (0, g), (0, ((r + 1 : Nat) : Int)), w5, w6, w7, w8], [])) := b1
      rw [a1, b1]
      by_cases y : k < (o_F n heat cs D A r).1
      · rw [if_pos y, if_pos ⟨z, y⟩]
        exact ih (r + 1) _ _ _ _ _ _ _ m2 (by omega) b2
      · rw [if_neg y, if_neg (fun q => y q.2)]
        exact ih (r + 1) b k g _ _ _ _ m2 (by omega) b2
theorem R_look (hi : R_is w h n heat price D A c U kn KS cs m) (hN : w_N w h n heat D) (hok : hr_ok n A) (ht : 0 ≤ A 35 ∧ A 35 ≤ 1073741824) : ∃ m1, z_R 244 (m, 0, [(2, 251), (9, 0), (9, 0), (9, 0), (9, 0), (9, 0), (9, 0), (9, 0), (9, 0)], []) = some (m1, some (0, o_look w h n heat cs D A)) ∧ R_is w h n heat price D A c U kn KS cs m1 := by
  have hu := R_upn (p0 := 251) (k0 := 11) (v := 0) hi (by decide)
  rw [k_tlo_0, hi.1.1]
  unfold o_look
  by_cases z : w = 0
  · rw [if_pos (by omega), if_pos z]
    exact ⟨_, rfl, hu⟩
  · rw [if_neg (by omega), if_neg z]
    exact R_look1 hN hok ht 9 0 (-1) 0 0 _ _ _ _ _ (by omega) hu
end
theorem core_look : l_rel2 Rel_C (955, 144, 126, 0, false, 960, 147, 244) := by
  intro M1 M2 M3 σ σ1 σ2 as v1 v2 C1 C2 ρ1 ρ2 ha hR hh hM1 hC1 hp1 hE1 hC2 hp2 hE2
  obtain rfl := as_nil ha
  have hE1 : z_R 126 (z_m σ, 0, [(2, 0), (9, 0), (9, 0), (9, 0), (9, 0)], []) = some (z_m σ1, some (0, v1.toInt)) := z_R_iff.mpr hE1
  have hE2 : z_R 244 (z_m σ1, 0, [(2, 251), (9, 0), (9, 0), (9, 0), (9, 0), (9, 0), (9, 0), (9, 0), (9, 0)], []) = some (z_m σ2, some (0, v2.toInt)) := z_R_iff.mpr hE2
  have hT := T_two (y1 := 126) (y2 := 244) (by decide +kernel) (by decide +kernel) hC1 hC2 hp1 hp2 hR.1
  obtain ⟨w, h, n, heat, price, D, A, c, U, kn, KS, cs, cC, cR, cW⟩ := hR.2
  obtain ⟨b1, b2, -, -, hok, b35, -, b7⟩ := core_b hh hM1 cR
  have hN : w_N w h n heat D := ⟨b1, b2, b7⟩
  have f1 := R_off2_ok (y := 126) (by decide +kernel) hC1 hp1
  have f2 := C_off_ok (y := 244) (by decide +kernel) hC2 hp2
  have cR1 := R_fr cR f1
  have z := core_do cR1 (fun q => C_fr q f2) (C_look cC hN hok b35 cW.1) (fun q => R_look q hN hok b35) hE1 hE2
  exact ⟨⟨hT, Core_mk z.1.1 z.1.2 cW⟩, fun _ => z.2⟩
