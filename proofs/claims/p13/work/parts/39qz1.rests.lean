/-! rests, of what both are in -/
def g_x1 (x : Nat) : Nat := if x % 2 = 0 then x + 1 else x - 1
def g_x2 (x : Nat) : Nat := if x < 2 then x + 2 else x - 2
theorem g_xor1 {x : Nat} (hx : x < 4) : z_xor (x : Int) 1 = ((g_x1 x : Nat) : Int) := by
  have : ∀ x, x < 4 → z_xor ((x : Nat) : Int) 1 = ((g_x1 x : Nat) : Int) := by decide +kernel
  exact this x hx
theorem g_xor2 {x : Nat} (hx : x < 4) : z_xor (x : Int) 2 = ((g_x2 x : Nat) : Int) := by
  have : ∀ x, x < 4 → z_xor ((x : Nat) : Int) 2 = ((g_x2 x : Nat) : Int) := by decide +kernel
  exact this x hx
theorem g_x1_lt {x : Nat} (hx : x < 4) : g_x1 x < 4 := by
  have : ∀ x, x < 4 → g_x1 x < 4 := by decide +kernel
  exact this x hx
theorem g_x2_lt {x : Nat} (hx : x < 4) : g_x2 x < 4 := by
  have : ∀ x, x < 4 → g_x2 x < 4 := by decide +kernel
  exact this x hx
theorem g_and1 {x : Nat} (hx : x < 4) : z_and (x : Int) 1 = 0 ↔ x % 2 = 0 := by
  have : ∀ x, x < 4 → (z_and ((x : Nat) : Int) 1 = 0 ↔ x % 2 = 0) := by decide +kernel
  exact this x hx
theorem g_and2 {x : Nat} (hx : x < 4) : z_and (x : Int) 2 = 0 ↔ x < 2 := by
  have : ∀ x, x < 4 → (z_and ((x : Nat) : Int) 2 = 0 ↔ x < 2) := by decide +kernel
  exact this x hx
/-- whether the first (s 0), the second (s 1) goes, in the way x -/
def g_go (s x : Nat) : Bool := bif Nat.beq s 0 then Nat.beq (x % 2) 0 else Nat.ble (x + 1) 2
theorem g_shr {x s : Nat} (hx : x < 4) (hs : s < 2) : z_and (z_shr (x : Int) (s : Int)) 1 = if g_go s x = true then 0 else 1 := by
  have : ∀ x, x < 4 → ∀ s, s < 2 → z_and (z_shr ((x : Nat) : Int) ((s : Nat) : Int)) 1 = if g_go s x = true then 0 else 1 := by decide +kernel
  exact this x hx s hs
theorem g_or0 {y : Nat} (hy : y < 32) : z_or (y : Int) 0 = (y : Int) := by
  have : ∀ y, y < 32 → z_or ((y : Nat) : Int) 0 = ((y : Nat) : Int) := by decide +kernel
  exact this y hy
theorem g_or1 {y x : Nat} (hy : y < 32) (hx : x < 5) : 0 ≤ z_or (y : Int) (z_shl 1 (x : Int)) ∧ z_or (y : Int) (z_shl 1 (x : Int)) < 32 := by
  have : ∀ y, y < 32 → ∀ x, x < 5 → 0 ≤ z_or ((y : Nat) : Int) (z_shl 1 ((x : Nat) : Int)) ∧ z_or ((y : Nat) : Int) (z_shl 1 ((x : Nat) : Int)) < 32 := by decide +kernel
  exact this y hy x hx
/-- the warmth in the way x, of W in all -/
def g_wt (W wa wb : Int) (x : Nat) : Int := W - (if g_go 0 x = true then wa else 0) - (if g_go 1 x = true then wb else 0)
/-- what the one gets -/
def g_g (M : Int → Int) (W wa wb v : Int) (s x : Nat) : Int := (if g_go s x = true then 0 else v) - M (g_wt W wa wb x)
def g_bits (G : Nat → Nat → Int) : Nat → Nat → Int → Int
  | 0, _, acc => acc
  | f + 1, x, acc => g_bits G f (x + 1) (if G 0 (g_x1 x) ≤ G 0 x ∧ G 1 (g_x2 x) ≤ G 1 x then z_or acc (z_shl 1 (x : Int)) else acc)
/-- what one gets in ROOM r -/
def g_G (n : Nat) (heat : Int) (cs : List Int) (D A : Nat → Int) (a b r : Nat) (v : Int) : Nat → Nat → Int := g_g (fun t => c_ml cs t (A r) (A (r + 9)) (A 36) ((r : Int) / 3) (hr_pc (hr_b (r : Int) n 0 A 0)) (A 35)) (hr_wb heat (wmD D (A 35)) n A (r : Int) (hr_b (r : Int) n 0 A 0)) (wmD D (A 35) a) (wmD D (A 35) b) v
def g_A (n : Nat) (heat : Int) (cs : List Int) (D A : Nat → Int) (a b v : Int) : Int := if (0 ≤ a ∧ a < (n : Int)) ∧ (0 ≤ b ∧ b < (n : Int)) ∧ ¬ a = b ∧ 0 ≤ v ∧ v ≤ 99 then (if ¬ A (a.toNat + 18) = -1 ∧ A (b.toNat + 18) = A (a.toNat + 18) then g_bits (g_G n heat cs D A a.toNat b.toNat (A (a.toNat + 18)).toNat v) 4 0 0 else -2) else -1
section
variable {w h n : Nat} {heat price : Int} {D A : Nat → Int} {c : Nat} {U : Nat → Nat → Int} {kn : Nat → Int} {KS : Nat → Nat → Int} {cs : List Int} {m : z_M}
theorem C_bin (hi : C_is w h n heat price D A c U kn KS cs m) (h5 : n ≤ 5) {r : Int} : ∀ (f x y : Nat), x + f = n → y < 32 → z_R 100 (m, 5, [(2, 3), (2, 12), (0, r), (0, (y : Int)), (0, (x : Int))], []) = some (m, some (0, hr_b r f x A (y : Int))) := by
  intro f
  induction f with
  | zero =>
    intro x y hx hy
    have e11 := hi.1.2.2.1
    rw [z_bin_5 m r y x (by omega), e11, if_pos (by omega)]
    rfl
  | succ f ih =>
    intro x y hx hy
    have e11 := hi.1.2.2.1
    have e15 : m 15 x = A (x + 18) := C_A3 hi (by omega) h5
    rw [z_bin_5 m r y x (by omega), e11, if_neg (by omega), if_pos (show 0 ≤ (x : Int) ∧ (x : Int) < 5 by omega), Int.toNat_natCast, e15, tc1]
    unfold hr_b
    by_cases z : A (x + 18) = r
    · have b := g_or1 hy (show x < 5 by omega)
      obtain ⟨y', hy'⟩ : ∃ y' : Nat, z_or (y : Int) (z_shl 1 (x : Int)) = (y' : Int) := ⟨(z_or (y : Int) (z_shl 1 (x : Int))).toNat, by omega⟩
      rw [if_pos z, if_pos z, hy']
      exact ih (x + 1) y' (by omega) (by omega)
    · rw [if_neg z, if_neg z, g_or0 hy]
      exact ih (x + 1) y (by omega) hy
theorem C_wb (hi : C_is w h n heat price D A c U kn KS cs m) (hN : w_N w h n heat D) (ht : 0 ≤ A 35 ∧ A 35 ≤ 1073741824) (r b : Int) : z_R 119 (m, 0, [(2, 24), (2, 12), (0, r), (0, b), (9, 0), (9, 0)], []) = some (m, some (0, hr_wb heat (wmD D (A 35)) n A r b)) := by
  have e6 : m 12 6 = A 34 := by
    rw [← hi.2.2.1]
    exact (cS_at0 (s := 12) (j := 6) (by decide)).symm
  rw [u_wof_0, e6, hi.1.2.2.2.1]
  unfold hr_wb
  have hb := hN.2.1
  by_cases z : A 34 = r
  · rw [if_pos z, if_pos z]
    exact C_wof hi hN.1.2.2 ht n 0 heat (by omega) (z_w_of (by omega) (by omega))
  · rw [if_neg z, if_neg z]
    exact C_wof hi hN.1.2.2 ht n 0 0 (by omega) (by decide +kernel)
theorem C_wmi (hi : C_is w h n heat price D A c U kn KS cs m) (hN : w_N w h n heat D) (ht : 0 ≤ A 35 ∧ A 35 ≤ 1073741824) (r : Int) : z_R 121 (m, 0, [(2, 24), (2, 12), (0, r)], []) = some (m, some (0, hr_wb heat (wmD D (A 35)) n A r (hr_b r n 0 A 0))) := by
  have a1 := C_bin hi hN.1.2.2 (r := r) n 0 0 (by omega) (by decide)
  have a1 : z_R 100 (m, 5, [(2, 3), (2, 12), (0, r), (0, 0), (0, 0)], []) = some (m, some (0, hr_b r n 0 A 0)) := a1
  rw [z_win_0, z_bin_0, a1, zb_v, z_win_12, C_wb hi hN ht r, zb_v, z_win_15]
theorem C_mby (hi : C_is w h n heat price D A c U kn KS cs m) {r : Nat} (hr : r < 9) (t k : Int) : ∃ m1, z_R 120 (m, 0, [(2, 24), (2, 12), (0, (r : Int)), (0, t), (0, k)], []) = some (m1, some (0, c_ml cs t (A r) (A (r + 9)) (A 36) ((r : Int) / 3) k (A 35))) ∧ C_is w h n heat price D A c U kn KS cs m1 ∧ m1 0 13 = m 0 13 := by
  have e7 : m 12 7 = A 35 := by
    rw [← hi.2.2.1]
    exact (cS_at0 (s := 12) (j := 7) (by decide)).symm
  have e8 : m 12 8 = A 36 := by
    rw [← hi.2.2.1]
    exact (cS_at0 (s := 12) (j := 8) (by decide)).symm
  have e13 : m 13 r = A r := by
    rw [← hi.2.2.1]
    exact (cS_at1 (s := 12) hr).symm
  have e14 : m 14 r = A (r + 9) := by
    rw [← hi.2.2.1]
    exact (cS_at2 (s := 12) hr).symm
  obtain ⟨m1, a1, a2⟩ := (C_cfg hi).2.2.2.2.2.2.1 m rfl rfl t (A r) (A (r + 9)) (A 36) ((r : Int) / 3) k (A 35)
  rw [u_mby_0 m r _ _ (by omega), Int.toNat_natCast, e13, e14, e8, e7, a1, zb_v, u_mby_48]
  refine ⟨m1, rfl, C_fr hi fun p k hk => ?_, a2.of (by (repeat' (first | exact trivial | refine z_of_c ?_ ?_)) <;> omega)⟩
  have hk' := hk
  unfold C_hit at hk'
  have hk' := of_decide_eq_true hk'
  exact a2.of (by (repeat' (first | exact trivial | refine z_of_c ?_ ?_)) <;> omega)
theorem hr_wb_b (hN : w_N w h n heat D) (ht : 0 ≤ A 35) (r b : Int) : 0 ≤ hr_wb heat (wmD D (A 35)) n A r b ∧ hr_wb heat (wmD D (A 35)) n A r b ≤ 54 := by
  have hb := hN.2.1
  have h5 := hN.1.2.2
  unfold hr_wb
  by_cases z : A 34 = r
  · rw [if_pos z]
    exact hr_s_rg (hN.2.2 (A 35) ht) n 0 heat (by omega) (by omega) (by omega)
  · rw [if_neg z]
    exact hr_s_rg (hN.2.2 (A 35) ht) n 0 0 (by omega) (by omega) (by omega)
theorem C_gain (hi : C_is w h n heat price D A c U kn KS cs m) (hN : w_N w h n heat D) (hok : hr_ok n A) (ht : 0 ≤ A 35 ∧ A 35 ≤ 1073741824) {a b r : Nat} (ha : a < n) (hb : b < n) (hr : r < 9) (ea : A (a + 18) = (r : Int)) {v : Int} (hv : 0 ≤ v ∧ v ≤ 99) {s x : Nat} (hs : s < 2) (hx : x < 4) : ∃ m1, z_R 136 (m, 0, [(2, 0), (0, (a : Int)), (0, (b : Int)), (0, v), (0, (x : Int)), (0, (s : Int)), (9, 0), (9, 0), (9, 0), (9, 0)], []) = some (m1, some (0, g_G n heat cs D A a b r v s x)) ∧ C_is w h n heat price D A c U kn KS cs m1 ∧ m1 0 13 = m 0 13 := by
  have h5 := hN.1.2.2
  have e15 : m 15 a = (r : Int) := (C_A3 hi ha h5).trans ea
  have e7 : m 12 7 = A 35 := by
    rw [← hi.2.2.1]
    exact (cS_at0 (s := 12) (j := 7) (by decide)).symm
  have bW := hr_wb_b hN ht.1 (r : Int) (hr_b (r : Int) n 0 A 0)
  have ba := hN.2.2 (A 35) ht.1 a (by omega)
  have bb := hN.2.2 (A 35) ht.1 b (by omega)
  have ca : cw m a (A 35) = wmD D (A 35) a := cw_D hi.1.2.2.2.2.2.2.1 hi.1.2.2.2.2.2.2.2 hi.2.1 ht.1 (by omega)
  have cb : cw m b (A 35) = wmD D (A 35) b := cw_D hi.1.2.2.2.2.2.2.1 hi.1.2.2.2.2.2.2.2 hi.2.1 ht.1 (by omega)
  have wa : z_R 70 (m, 0, [(2, 24), (0, (a : Int)), (0, A 35), (9, 0)], []) = some (m, some (0, wmD D (A 35) a)) := by rw [c_wo m (by omega) ht.1 (by omega), ca]
  have wb : z_R 70 (m, 0, [(2, 24), (0, (b : Int)), (0, A 35), (9, 0)], []) = some (m, some (0, wmD D (A 35) b)) := by rw [c_wo m (by omega) ht.1 (by omega), cb]
  have ew := C_wmi hi hN ht (r : Int)
  have aB := C_bin hi h5 (r := (r : Int)) n 0 0 (by omega) (by decide)
  have aB : z_R 100 (m, 5, [(2, 3), (2, 12), (0, (r : Int)), (0, 0), (0, 0)], []) = some (m, some (0, hr_b (r : Int) n 0 A 0)) := aB
  have k1 : z_and (x : Int) 1 = 0 ↔ g_go 0 x = true := by
    have : ∀ x, x < 4 → (z_and ((x : Nat) : Int) 1 = 0 ↔ g_go 0 x = true) := by decide +kernel
    exact this x hx
  have k2 : z_and (x : Int) 2 = 0 ↔ g_go 1 x = true := by
    have : ∀ x, x < 4 → (z_and ((x : Nat) : Int) 2 = 0 ↔ g_go 1 x = true) := by decide +kernel
    exact this x hx
  rw [z_gai_0 m a b v x s ⟨by omega, by omega⟩ ⟨by omega, by omega⟩, if_pos (show 0 ≤ (a : Int) ∧ (a : Int) < 5 by omega), Int.toNat_natCast, e15, ew, zb_v, z_gai_24, e7]
  unfold g_G
  generalize hr_wb heat (wmD D (A 35)) n A (r : Int) (hr_b (r : Int) n 0 A 0) = W at bW ⊢
  generalize hr_b (r : Int) n 0 A 0 = B at aB ⊢
  generalize wmD D (A 35) a = x1 at ba wa ⊢
  generalize wmD D (A 35) b = x2 at bb wb ⊢
  have go : ∀ t, t = g_wt W x1 x2 x → ∃ m1, ((z_R 100 (m, 0, [(2, 3), (2, 12), (0, (r : Int)), (9, 0), (9, 0)], [])).bind fun qq => z_R 136 (qq.1, 93, [(2, 0), (0, (a : Int)), (0, (b : Int)), (0, v), (0, (x : Int)), (0, (s : Int)), (0, (r : Int)), (0, t), (9, 0), (9, 0)], qq.2.toList ++ [])) = some (m1, some (0, g_g (fun t => c_ml cs t (A r) (A (r + 9)) (A 36) ((r : Int) / 3) (hr_pc B) (A 35)) W x1 x2 v s x)) ∧ C_is w h n heat price D A c U kn KS cs m1 ∧ m1 0 13 = m 0 13 := by
    intro t et
    obtain ⟨m1, a1, a2, a3⟩ := C_mby hi hr t (hr_pc B)
    have bm := c_ml_ok cs t (A r) (A (r + 9)) (A 36) ((r : Int) / 3) (hr_pc B) (A 35) (hok.1 r hr).1
    have br := (hok.1 r hr).2
    rw [z_bin_0, aB, zb_v, z_gai_93, t_bc_0, zb_v, z_gai_96, a1, zb_v, z_gai_115, g_shr hx hs]
    show ∃ m1', _ = some (m1', some (0, (if g_go s x = true then 0 else v) - c_ml cs (g_wt W x1 x2 x) (A r) (A (r + 9)) (A 36) ((r : Int) / 3) (hr_pc B) (A 35))) ∧ _ ∧ _
    rw [← et]
    by_cases g : g_go s x = true
    · rw [if_pos g, if_pos rfl, if_pos g, z_sub_eq (by omega) (by omega)]
      exact ⟨m1, rfl, a2, a3⟩
    · rw [if_neg g, if_neg (show ¬ (1 : Int) = 0 by decide), if_neg g, z_sub_eq (by omega) (by omega)]
      exact ⟨m1, rfl, a2, a3⟩
  by_cases c1 : g_go 0 x = true
  · rw [if_pos (k1.mpr c1), wa, zb_v, z_gai_50, e7]
    by_cases c2 : g_go 1 x = true
    · rw [if_pos (k2.mpr c2), wb, zb_v, z_gai_77, z_sub_eq (x := W) (by omega) (by omega), z_sub_eq (x := W - x1) (by omega) (by omega)]
      exact go _ (by unfold g_wt; rw [if_pos c1, if_pos c2])
    · rw [if_neg (fun z => c2 (k2.mp z)), z_sub_eq (x := W) (by omega) (by omega)]
      exact go _ (by unfold g_wt; rw [if_pos c1, if_neg c2]; omega)
  · rw [if_neg (fun z => c1 (k1.mp z))]
    by_cases c2 : g_go 1 x = true
    · rw [if_pos (k2.mpr c2), wb, zb_v, z_gai_77, z_sub_eq (x := W) (by omega) (by omega)]
      exact go _ (by unfold g_wt; rw [if_neg c1, if_pos c2]; omega)
    · rw [if_neg (fun z => c2 (k2.mp z))]
      exact go _ (by unfold g_wt; rw [if_neg c1, if_neg c2]; omega)
theorem C_rst1 (hN : w_N w h n heat D) (hok : hr_ok n A) (ht : 0 ≤ A 35 ∧ A 35 ≤ 1073741824) {a b r : Nat} (ha : a < n) (hb : b < n) (hr : r < 9) (ea : A (a + 18) = (r : Int)) {v : Int} (hv : 0 ≤ v ∧ v ≤ 99) : ∀ (f x : Nat) (acc y : Int) (v8 v9 : z_V) (m : z_M), x + f = 4 → (acc = 0 ∨ (0 ≤ y ∧ y < 4)) → C_is w h n heat price D A c U kn KS cs m → ∃ m1, z_R 135 (m, 88, [(2, 0), (0, (a : Int)), (0, (b : Int)), (0, v), (0, (r : Int)), (0, acc), (0, y), (0, (x : Int)), v8, v9], []) = some (m1, some (0, g_bits (g_G n heat cs D A a b r v) f x acc)) ∧ C_is w h n heat price D A c U kn KS cs m1 := by
  intro f
  induction f with
  | zero =>
    intro x acc y v8 v9 m hx hy hi
    have hi1 : C_is w h n heat price D A c U kn KS cs (z_up m 0 13 0) := C_upn hi (by decide)
    have g13 : (z_up m 0 13 0) 0 13 = ((0 : Nat) : Int) := zu_self
    show ∃ m1, _ = some (m1, some (0, acc)) ∧ _
    rw [z_rst_88, if_pos (by omega), s_tell0_0, zb_n, z_rst_201]
    generalize z_up m 0 13 0 = m0 at hi1 g13 ⊢
    by_cases z : acc = 0
    · rw [if_pos z]
      exact ⟨m0, rfl, hi1⟩
    · obtain ⟨y', rfl⟩ : ∃ y' : Nat, y = (y' : Int) := ⟨y.toNat, by omega⟩
      obtain ⟨m1, a1, a2, a3⟩ := C_gain hi1 hN hok ht ha hb hr ea hv (s := 0) (x := y') (by decide) (by omega)
      have a1 : z_R 136 (m0, 0, [(2, 0), (0, (a : Int)), (0, (b : Int)), (0, v), (0, (y' : Int)), (0, 0), (9, 0), (9, 0), (9, 0), (9, 0)], []) = some (m1, some (0, g_G n heat cs D A a b r v 0 y')) := a1
      have hi2 : C_is w h n heat price D A c U kn KS cs (z_up (z_up m1 250 0 (z_i2l (g_G n heat cs D A a b r v 0 y'))) 0 13 ((0 + 1 : Nat) : Int)) := C_upn (C_upn a2 (by decide)) (by decide)
      have g2 : (z_up (z_up m1 250 0 (z_i2l (g_G n heat cs D A a b r v 0 y'))) 0 13 ((0 + 1 : Nat) : Int)) 0 13 = ((1 : Nat) : Int) := zu_self
      rw [if_neg z, a1, zb_v, z_rst_217, c_add (j := 0) m1 _ (by decide) (a3.trans g13), zb_n, z_rst_221]
      generalize z_up (z_up m1 250 0 (z_i2l (g_G n heat cs D A a b r v 0 y'))) 0 13 ((0 + 1 : Nat) : Int) = m2 at hi2 g2 ⊢
      obtain ⟨m3, b1, b2, b3⟩ := C_gain hi2 hN hok ht ha hb hr ea hv (s := 1) (x := y') (by decide) (by omega)
      have b1 : z_R 136 (m2, 0, [(2, 0), (0, (a : Int)), (0, (b : Int)), (0, v), (0, (y' : Int)), (0, 1), (9, 0), (9, 0), (9, 0), (9, 0)], []) = some (m3, some (0, g_G n heat cs D A a b r v 1 y')) := b1
      rw [b1, zb_v, z_rst_232, c_add (j := 1) m3 _ (by decide) (b3.trans g2), zb_n, z_rst_236]
      exact ⟨_, rfl, C_upn (C_upn b2 (by decide)) (by decide)⟩
  | succ f ih =>
    intro x acc y v8 v9 m hx hy hi
    have hx4 : x < 4 := by omega
    obtain ⟨m1, a1, a2, -⟩ := C_gain hi hN hok ht ha hb hr ea hv (s := 0) (x := x) (by decide) hx4
    have a1 : z_R 136 (m, 0, [(2, 0), (0, (a : Int)), (0, (b : Int)), (0, v), (0, (x : Int)), (0, 0), (9, 0), (9, 0), (9, 0), (9, 0)], []) = some (m1, some (0, g_G n heat cs D A a b r v 0 x)) := a1
    obtain ⟨m2, b1, b2, -⟩ := C_gain a2 hN hok ht ha hb hr ea hv (s := 0) (x := g_x1 x) (by decide) (g_x1_lt hx4)
    have b1 : z_R 136 (m1, 0, [(2, 0), (0, (a : Int)), (0, (b : Int)), (0, v), (0, ((g_x1 x : Nat) : Int)), (0, 0), (9, 0), (9, 0), (9, 0), (9, 0)], []) = some (m2, some (0, g_G n heat cs D A a b r v 0 (g_x1 x))) := b1
    obtain ⟨m3, d1, d2, -⟩ := C_gain b2 hN hok ht ha hb hr ea hv (s := 1) (x := x) (by decide) hx4
    have d1 : z_R 136 (m2, 0, [(2, 0), (0, (a : Int)), (0, (b : Int)), (0, v), (0, (x : Int)), (0, 1), (9, 0), (9, 0), (9, 0), (9, 0)], []) = some (m3, some (0, g_G n heat cs D A a b r v 1 x)) := d1
    obtain ⟨m4, e1, e2, -⟩ := C_gain d2 hN hok ht ha hb hr ea hv (s := 1) (x := g_x2 x) (by decide) (g_x2_lt hx4)
    have e1 : z_R 136 (m3, 0, [(2, 0), (0, (a : Int)), (0, (b : Int)), (0, v), (0, ((g_x2 x : Nat) : Int)), (0, 1), (9, 0), (9, 0), (9, 0), (9, 0)], []) = some (m4, some (0, g_G n heat cs D A a b r v 1 (g_x2 x))) := e1
    have bit0 : (0 : Int) ≤ x ∧ (x : Int) < 4 := by omega
    rw [z_rst_88, if_neg (by omega), a1, zb_v, z_rst_104, g_xor1 hx4, b1, zb_v, z_rst_116]
    unfold g_bits
    generalize g_G n heat cs D A a b r v = G at d1 e1 ih ⊢
    by_cases p1 : G 0 x < G 0 (g_x1 x)
    · rw [if_pos p1, d1, zb_v, z_rst_136, g_xor2 hx4, e1, zb_v, z_rst_148, if_neg (show ¬ (G 0 (g_x1 x) ≤ G 0 x ∧ G 1 (g_x2 x) ≤ G 1 x) by omega), z_add_eq (x := (x : Int)) (y := 1) (by omega) (by omega), tc1]
      by_cases p2 : G 1 x < G 1 (g_x2 x)
      · rw [if_pos p2, if_pos rfl]
        exact ih (x + 1) acc y _ _ m4 (by omega) hy e2
      · rw [if_neg p2, if_pos rfl]
        exact ih (x + 1) acc y _ _ m4 (by omega) hy e2
    · rw [if_neg p1, d1, zb_v, z_rst_136, g_xor2 hx4, e1, zb_v, z_rst_148, z_add_eq (x := (x : Int)) (y := 1) (by omega) (by omega), tc1]
      by_cases p2 : G 1 x < G 1 (g_x2 x)
      · rw [if_pos p2, if_neg (show ¬ (1 : Int) = 0 by decide), if_neg (show ¬ (G 0 (g_x1 x) ≤ G 0 x ∧ G 1 (g_x2 x) ≤ G 1 x) by omega)]
        exact ih (x + 1) acc y _ _ m4 (by omega) hy e2
      · rw [if_neg p2, if_neg (show ¬ (1 : Int) = 0 by decide), if_pos (show G 0 (g_x1 x) ≤ G 0 x ∧ G 1 (g_x2 x) ≤ G 1 x by omega)]
        by_cases p3 : acc = 0
        · rw [if_pos p3]
          exact ih (x + 1) _ _ _ _ m4 (by omega) (Or.inr bit0) e2
        · rw [if_neg p3]
          exact ih (x + 1) _ _ _ _ m4 (by omega) (Or.inr (hy.resolve_left p3)) e2
theorem C_rests (hi : C_is w h n heat price D A c U kn KS cs m) (hN : w_N w h n heat D) (hok : hr_ok n A) (ht : 0 ≤ A 35 ∧ A 35 ≤ 1073741824) (hw : wi w h n A) (a b v : Int) : ∃ m1, z_R 135 (m, 0, [(2, 0), (0, a), (0, b), (0, v), (9, 0), (9, 0), (9, 0), (9, 0), (9, 0), (9, 0)], []) = some (m1, some (0, g_A n heat cs D A a b v)) ∧ C_is w h n heat price D A c U kn KS cs m1 := by
  have h5 := hN.1.2.2
  rw [z_rst_0, hi.1.1, hi.1.2.1, hi.1.2.2.1]
  by_cases c1 : 0 ≤ a ∧ a < (n : Int)
  · rw [if_pos c1]
    by_cases c2 : 0 ≤ b ∧ b < (n : Int)
    · rw [if_pos c2]
      by_cases c3 : a = b
      · have e : g_A n heat cs D A a b v = -1 := if_neg (fun z => z.2.2.1 c3)
        rw [if_pos c3, e]
        exact ⟨m, rfl, hi⟩
      rw [if_neg c3]
      by_cases c4 : v < 0
      · have e : g_A n heat cs D A a b v = -1 := if_neg (fun z => by have := z.2.2.2.1; omega)
        rw [if_pos c4, e]
        exact ⟨m, rfl, hi⟩
      rw [if_neg c4]
      by_cases c5 : v ≤ 99
      · obtain ⟨a', rfl⟩ : ∃ a' : Nat, a = (a' : Int) := ⟨a.toNat, by omega⟩
        obtain ⟨b', rfl⟩ : ∃ b' : Nat, b = (b' : Int) := ⟨b.toNat, by omega⟩
        have ha : a' < n := by omega
        have hb : b' < n := by omega
        have e15 : m 15 a' = A (a' + 18) := C_A3 hi ha h5
        have e15b : m 15 b' = A (b' + 18) := C_A3 hi hb h5
        have eA : g_A n heat cs D A (a' : Int) (b' : Int) v = if ¬ A ((a' : Int).toNat + 18) = -1 ∧ A ((b' : Int).toNat + 18) = A ((a' : Int).toNat + 18) then g_bits (g_G n heat cs D A (a' : Int).toNat (b' : Int).toNat (A ((a' : Int).toNat + 18)).toNat v) 4 0 0 else -2 := if_pos ⟨c1, c2, c3, by omega, c5⟩
        rw [Int.toNat_natCast, Int.toNat_natCast] at eA
        rw [if_pos c5, if_pos (show 0 ≤ (a' : Int) ∧ (a' : Int) < 5 by omega), if_pos (show 0 ≤ (b' : Int) ∧ (b' : Int) < 5 by omega), Int.toNat_natCast, Int.toNat_natCast, e15, e15b, eA]
        by_cases d1 : u_hs (w : Int) (h : Int) (A (a' + 18)) = 0
        · have z := (hw.1 a' ha).resolve_right (not_not_intro d1)
          rw [if_neg (not_not_intro d1), if_neg (fun y => y.1 z)]
          exact ⟨m, rfl, hi⟩
        · have hr := u_hs_rng d1
          rw [if_pos d1]
          by_cases d2 : A (b' + 18) = A (a' + 18)
          · obtain ⟨r, er⟩ : ∃ r : Nat, A (a' + 18) = (r : Int) := ⟨(A (a' + 18)).toNat, by omega⟩
            rw [if_pos d2, if_pos (show ¬ A (a' + 18) = -1 ∧ A (b' + 18) = A (a' + 18) from ⟨by omega, d2⟩), er, Int.toNat_natCast]
            exact C_rst1 hN hok ht ha hb (by omega) er (v := v) ⟨by omega, c5⟩ 4 0 0 (-1) (9, 0) (9, 0) m (by decide) (Or.inl rfl) hi
          · rw [if_neg d2, if_neg (fun y => d2 y.2)]
            exact ⟨m, rfl, hi⟩
      · have e : g_A n heat cs D A a b v = -1 := if_neg (fun z => c5 z.2.2.2.2)
        rw [if_neg c5, e]
        exact ⟨m, rfl, hi⟩
    · have e : g_A n heat cs D A a b v = -1 := if_neg (fun z => c2 z.2.1)
      rw [if_neg c2, e]
      exact ⟨m, rfl, hi⟩
  · have e : g_A n heat cs D A a b v = -1 := if_neg (fun z => c1 z.1)
    rw [if_neg c1, e]
    exact ⟨m, rfl, hi⟩
/-! the reference -/
theorem hr_t_1 {g : Nat → Int} (hg : ∀ p, p < 5 → 0 ≤ g p ∧ g p ≤ 9) {a : Nat} : ∀ (f x : Nat), x + f ≤ 5 → x ≤ a → a < x + f → g a ≤ hr_t g f x := by
  intro f
  induction f with
  | zero => intro x hx h1 h2; omega
  | succ f ih =>
    intro x hx h1 h2
    have b := hg x (by omega)
    have t := hr_t_b (B := 9) (by decide) hg f (x + 1) (by omega)
    unfold hr_t
    by_cases e : a = x
    · rw [e]; omega
    · have := ih (x + 1) (by omega) (by omega) (by omega)
      omega
theorem hr_t_2 {g : Nat → Int} (hg : ∀ p, p < 5 → 0 ≤ g p ∧ g p ≤ 9) {a b : Nat} (hab : ¬ a = b) : ∀ (f x : Nat), x + f ≤ 5 → x ≤ a → a < x + f → x ≤ b → b < x + f → g a + g b ≤ hr_t g f x := by
  intro f
  induction f with
  | zero => intro x hx h1 h2; omega
  | succ f ih =>
    intro x hx h1 h2 h3 h4
    have b0 := hg x (by omega)
    unfold hr_t
    by_cases e : a = x
    · have := hr_t_1 hg (a := b) f (x + 1) (by omega) (by omega) (by omega)
      rw [e]; omega
    · by_cases e2 : b = x
      · have := hr_t_1 hg (a := a) f (x + 1) (by omega) (by omega) (by omega)
        rw [e2]; omega
      · have := ih (x + 1) (by omega) (by omega) (by omega) (by omega) (by omega)
        omega
/-- two of a ROOM do not make it colder -/
theorem g_W2 (hN : w_N w h n heat D) (ht : 0 ≤ A 35) {a b r : Nat} (ha : a < n) (hb : b < n) (hab : ¬ a = b) (ea : A (a + 18) = (r : Int)) (eb : A (b + 18) = (r : Int)) : wmD D (A 35) a + wmD D (A 35) b ≤ hr_wb heat (wmD D (A 35)) n A (r : Int) (hr_b (r : Int) n 0 A 0) := by
  have h5 := hN.1.2.2
  have hh := hN.2.1
  have bwm := hN.2.2 (A 35) ht
  have hg : ∀ p, p < 5 → 0 ≤ (if A (p + 18) = (r : Int) then wmD D (A 35) p else 0) ∧ (if A (p + 18) = (r : Int) then wmD D (A 35) p else 0) ≤ 9 := fun p hp => by
    have := bwm p hp
    by_cases z : A (p + 18) = (r : Int)
    · rw [if_pos z]; exact this
    · rw [if_neg z]; decide
  have t := hr_t_2 (g := fun p => if A (p + 18) = (r : Int) then wmD D (A 35) p else 0) hg hab n 0 (by omega) (by omega) (by omega) (by omega) (by omega)
  have t : (if A (a + 18) = (r : Int) then wmD D (A 35) a else 0) + (if A (b + 18) = (r : Int) then wmD D (A 35) b else 0) ≤ hr_t (fun p => if A (p + 18) = (r : Int) then wmD D (A 35) p else 0) n 0 := t
  rw [if_pos ea, if_pos eb] at t
  rw [hr_wb_eq h5 bwm hh A r]
  unfold hr_W
  by_cases z : A 34 = (r : Int)
  · rw [if_pos z]; omega
  · rw [if_neg z]; omega
theorem g_mul2 {x : Nat} (hx : x < 4) : z_mul 2 (x : Int) = ((2 * x : Nat) : Int) := by
  have : ∀ x, x < 4 → z_mul 2 ((x : Nat) : Int) = ((2 * x : Nat) : Int) := by decide +kernel
  exact this x hx
/-- what is laid aside of the ways below x -/
def g_cl (G : Nat → Nat → Int) (m : z_M) (x : Nat) : Prop := ∀ j, j < x → m 273 (2 * j) = G 0 j ∧ m 273 (2 * j + 1) = G 1 j
theorem R_has (m : z_M) {x s : Nat} (hx : x < 4) (hs : s < 2) : z_R 185 (m, 0, [(0, (x : Int)), (0, (s : Int))], []) = some (m, some (0, if g_go s x = true then 0 else 1)) := by
  rw [t_has_0, g_shr hx hs]
  by_cases g : g_go s x = true
  · rw [if_pos g, if_neg (show ¬ (0 : Int) = 1 by decide)]
  · rw [if_neg g, if_pos rfl]
theorem R_wmo (hi : R_is w h n heat price D A c U kn KS cs m) (ht : 0 ≤ A 35 ∧ A 35 ≤ 1073741824) {p : Nat} (hp : p < 5) : z_R 186 (m, 0, [(2, 251), (2, 252), (0, (p : Int))], []) = some (m, some (0, wmD D (A 35) p)) := by
  have e35 : m 252 35 = A 35 := R_A hi (by decide) (a_vis_hi (by decide))
  have e := r_wo z_A_252 (Or.inl rfl) m hp e35 ht.1 (by omega)
  rw [rwm_D hi.1.2.2.2.2.2 hi.2.1 ht.1 hp] at e
  exact e
theorem R_mel (hi : R_is w h n heat price D A c U kn KS cs m) (hok : hr_ok n A) (ht : 0 ≤ A 35 ∧ A 35 ≤ 1073741824) {r : Nat} (hr : r < 9) {t k : Int} (h1 : 0 ≤ t ∧ t ≤ 1000) (h2 : 0 ≤ k ∧ k ≤ 63) : ∃ m1, z_R 189 (m, 0, [(2, 251), (2, 252), (0, (r : Int)), (0, t), (0, k), (9, 0)], []) = some (m1, some (0, c_ml cs t (A r) (A (r + 9)) (A 36) ((r : Int) / 3) k (A 35))) ∧ R_is w h n heat price D A c U kn KS cs m1 ∧ ∀ j, m1 273 j = m 273 j := by
  have ea : ∀ k, k < 18 ∨ 33 ≤ k → k < 37 → m 252 k = A k := fun k hk h37 => R_A hi h37 (by
    rcases hk with hk | hk
    · exact a_vis_lo hk
    · exact a_vis_hi hk)
  have hrg : r_rg 252 m := by
    refine ⟨fun k hk => ?_, ?_, ?_⟩
    · have p1 := hok.1 k hk
      have p2 := hok.2.1 k hk
      rw [ea k (by omega) (by omega), ea (k + 9) (by omega) (by omega)]
      omega
    · rw [ea 36 (by omega) (by omega)]
      have := hok.2.2.2
      omega
    · rw [ea 35 (by omega) (by omega)]
      omega
  obtain ⟨m1, a1, a2⟩ := (R_cfg hi).2.2.2.2.2.2 m rfl rfl 252 z_A_252 (Or.inl rfl) r t k hr hrg ⟨h1.1, by omega⟩ ⟨h2.1, by omega⟩
  rw [ea r (by omega) (by omega), ea (r + 9) (by omega) (by omega), ea 36 (by omega) (by omega), ea 35 (by omega) (by omega)] at a1
  refine ⟨m1, a1, R_fr hi fun p k hk => ?_, fun j => a2.of (by (repeat' (first | exact trivial | refine z_of_c ?_ ?_)) <;> omega)⟩
  have hk' := hk
  unfold R_hit at hk'
  have hk' := of_decide_eq_true hk'
  exact a2.of (by (repeat' (first | exact trivial | refine z_of_c ?_ ?_)) <;> omega)
theorem R_rst1 (hok : hr_ok n A) (ht : 0 ≤ A 35 ∧ A 35 ≤ 1073741824) (h5 : n ≤ 5) {a b r : Nat} (ha : a < n) (hb : b < n) (hr : r < 9) {v W B x1 x2 : Int} (hv : 0 ≤ v ∧ v ≤ 99) (hB : 0 ≤ hr_pc B ∧ hr_pc B ≤ 63) (b1 : 0 ≤ x1 ∧ x1 ≤ 9) (b2 : 0 ≤ x2 ∧ x2 ≤ 9) (bW : x1 + x2 ≤ W ∧ W ≤ 54) (e1 : wmD D (A 35) a = x1) (e2 : wmD D (A 35) b = x2) {G : Nat → Nat → Int} (hG : G = g_g (fun t => c_ml cs t (A r) (A (r + 9)) (A 36) ((r : Int) / 3) (hr_pc B) (A 35)) W x1 x2 v) : ∀ (f x : Nat) (v8 v9 : z_V) (m : z_M), x + f = 4 → R_is w h n heat price D A c U kn KS cs m → g_cl G m x → ∃ m1 v9', z_R 251 (m, 121, [(2, 251), (0, (a : Int)), (0, (b : Int)), (0, v), (0, (r : Int)), (0, B), (0, W - x1 - x2), (0, (x : Int)), v8, v9], []) = z_R 251 (m1, 262, [(2, 251), (0, (a : Int)), (0, (b : Int)), (0, v), (0, (r : Int)), (0, B), (0, W - x1 - x2), (0, 0), (0, 0), v9'], []) ∧ g_cl G m1 4 := by
  intro f
  induction f with
  | zero =>
    intro x v8 v9 m hx hi hc
    obtain rfl : x = 4 := by omega
    rw [z_trs_121, if_pos (by decide)]
    exact ⟨m, v9, rfl, hc⟩
  | succ f ih =>
    intro x v8 v9 m hx hi hc
    have hx4 : x < 4 := by omega
    have h0 : ∀ m : z_M, z_R 185 (m, 0, [(0, (x : Int)), (0, 0)], []) = some (m, some (0, if g_go 0 x = true then 0 else 1)) := fun m => R_has m hx4 (s := 0) (by decide)
    have h1 : ∀ m : z_M, z_R 185 (m, 0, [(0, (x : Int)), (0, 1)], []) = some (m, some (0, if g_go 1 x = true then 0 else 1)) := fun m => R_has m hx4 (s := 1) (by decide)
    have wa := R_wmo hi ht (p := a) (by omega)
    have wb := R_wmo hi ht (p := b) (by omega)
    rw [e1] at wa
    rw [e2] at wb
    -- the melting of this way, both told
    have go : ∀ t, t = g_wt W x1 x2 x → ∃ m1 v9', ((z_R 101 (m, 0, [(0, B)], [])).bind fun qq => z_R 251 (qq.1, 191, [(2, 251), (0, (a : Int)), (0, (b : Int)), (0, v), (0, (r : Int)), (0, B), (0, W - x1 - x2), (0, (x : Int)), (0, t), v9], qq.2.toList ++ [(0, t), (0, (r : Int)), (2, 252), (2, 251)])) = z_R 251 (m1, 262, [(2, 251), (0, (a : Int)), (0, (b : Int)), (0, v), (0, (r : Int)), (0, B), (0, W - x1 - x2), (0, 0), (0, 0), v9'], []) ∧ g_cl G m1 4 := by
      intro t et
      have bt : 0 ≤ t ∧ t ≤ 1000 := by
        rw [et]
        unfold g_wt
        by_cases c1 : g_go 0 x = true
        · rw [if_pos c1]
          by_cases c2 : g_go 1 x = true
          · rw [if_pos c2]; omega
          · rw [if_neg c2]; omega
        · rw [if_neg c1]
          by_cases c2 : g_go 1 x = true
          · rw [if_pos c2]; omega
          · rw [if_neg c2]; omega
      obtain ⟨m1, a1, a2, a3⟩ := R_mel hi hok ht hr bt hB
      have bm := c_ml_ok cs t (A r) (A (r + 9)) (A 36) ((r : Int) / 3) (hr_pc B) (A 35) (hok.1 r hr).1
      have br := (hok.1 r hr).2
      have eG : ∀ s, G s x = (if g_go s x = true then 0 else v) - c_ml cs t (A r) (A (r + 9)) (A 36) ((r : Int) / 3) (hr_pc B) (A 35) := fun s => by
        rw [hG, et]
        rfl
      rw [t_bc_0, zb_v, z_trs_191, a1, zb_v, z_trs_194, h0, zb_v, z_trs_210, g_mul2 hx4]
      generalize c_ml cs t (A r) (A (r + 9)) (A 36) ((r : Int) / 3) (hr_pc B) (A 35) = M at bm eG ⊢
      have nx : ∀ y0 y1 : Int, y0 = G 0 x → y1 = G 1 x → ∃ m2 v9', z_R 251 (z_up (z_up m1 273 (2 * x) y0) 273 (2 * x + 1) y1, 121, [(2, 251), (0, (a : Int)), (0, (b : Int)), (0, v), (0, (r : Int)), (0, B), (0, W - x1 - x2), (0, ((x + 1 : Nat) : Int)), (0, t), (0, M)], []) = z_R 251 (m2, 262, [(2, 251), (0, (a : Int)), (0, (b : Int)), (0, v), (0, (r : Int)), (0, B), (0, W - x1 - x2), (0, 0), (0, 0), v9'], []) ∧ g_cl G m2 4 := by
        intro y0 y1 h0 h1
        refine ih (x + 1) _ _ _ (by omega) (R_upn (R_upn a2 ?_) ?_) ?_
        · have : ∀ k, k < 8 → R_hit 273 k k = false := by decide +kernel
          exact this _ (by omega)
        · have : ∀ k, k < 8 → R_hit 273 k k = false := by decide +kernel
          exact this _ (by omega)
        · intro j hj
          by_cases e : j = x
          · rw [e, zu_k (by omega), zu_self, zu_self, h0, h1]
            exact ⟨rfl, rfl⟩
          · have := hc j (by omega)
            rw [zu_k (by omega), zu_k (by omega), zu_k (by omega), zu_k (by omega), a3, a3]
            exact this
      have n1 : z_add ((2 * x : Nat) : Int) 1 = ((2 * x + 1 : Nat) : Int) := by
        rw [z_add_eq (by omega) (by omega)]
        omega
      have i0 : (0 : Int) ≤ ((2 * x : Nat) : Int) ∧ ((2 * x : Nat) : Int) < 8 := by omega
      have i1 : (0 : Int) ≤ ((2 * x + 1 : Nat) : Int) ∧ ((2 * x + 1 : Nat) : Int) < 8 := by omega
      have s0 : z_sub 0 M = 0 - M := z_sub_eq (by omega) (by omega)
      have s1 : z_sub v M = v - M := z_sub_eq (by omega) (by omega)
      rw [n1, Int.toNat_natCast, s0, s1]
      by_cases c0 : g_go 0 x = true
      · rw [if_pos c0, if_pos rfl, if_pos i0, h1, zb_v, z_trs_238, s0, s1, z_add_eq (x := (x : Int)) (y := 1) (by omega) (by omega), tc1, Int.toNat_natCast]
        by_cases c1 : g_go 1 x = true
        · rw [if_pos c1, if_pos rfl, if_pos i1]
          exact nx _ _ (by rw [eG 0, if_pos c0]) (by rw [eG 1, if_pos c1])
        · rw [if_neg c1, if_neg (show ¬ (1 : Int) = 0 by decide), if_pos i1]
          exact nx _ _ (by rw [eG 0, if_pos c0]) (by rw [eG 1, if_neg c1])
      · rw [if_neg c0, if_neg (show ¬ (1 : Int) = 0 by decide), if_pos i0, h1, zb_v, z_trs_238, s0, s1, z_add_eq (x := (x : Int)) (y := 1) (by omega) (by omega), tc1, Int.toNat_natCast]
        by_cases c1 : g_go 1 x = true
        · rw [if_pos c1, if_pos rfl, if_pos i1]
          exact nx _ _ (by rw [eG 0, if_neg c0]) (by rw [eG 1, if_pos c1])
        · rw [if_neg c1, if_neg (show ¬ (1 : Int) = 0 by decide), if_pos i1]
          exact nx _ _ (by rw [eG 0, if_neg c0]) (by rw [eG 1, if_neg c1])
    rw [z_trs_121, if_neg (by omega), h0, zb_v, z_trs_135]
    by_cases c1 : g_go 0 x = true
    · rw [if_pos c1, if_pos rfl, z_add_eq (x := W - x1 - x2) (y := 0) (by omega) (by omega), h1, zb_v, z_trs_158]
      by_cases c2 : g_go 1 x = true
      · rw [if_pos c2, if_pos rfl, z_add_eq (x := W - x1 - x2 + 0) (y := 0) (by omega) (by omega)]
        exact go _ (by unfold g_wt; rw [if_pos c1, if_pos c2]; omega)
      · rw [if_neg c2, if_neg (show ¬ (1 : Int) = 0 by decide), wb, zb_v, z_trs_170, z_add_eq (x := W - x1 - x2 + 0) (by omega) (by omega)]
        exact go _ (by unfold g_wt; rw [if_pos c1, if_neg c2]; omega)
    · rw [if_neg c1, if_neg (show ¬ (1 : Int) = 0 by decide), wa, zb_v, z_trs_147, z_add_eq (x := W - x1 - x2) (by omega) (by omega), h1, zb_v, z_trs_158]
      by_cases c2 : g_go 1 x = true
      · rw [if_pos c2, if_pos rfl, z_add_eq (x := W - x1 - x2 + x1) (y := 0) (by omega) (by omega)]
        exact go _ (by unfold g_wt; rw [if_neg c1, if_pos c2]; omega)
      · rw [if_neg c2, if_neg (show ¬ (1 : Int) = 0 by decide), wb, zb_v, z_trs_170, z_add_eq (x := W - x1 - x2 + x1) (by omega) (by omega)]
        exact go _ (by unfold g_wt; rw [if_neg c1, if_neg c2]; omega)
theorem R_rst2 {G : Nat → Nat → Int} {y1 y2 y3 y4 y5 y6 : Int} {v9 : z_V} (hc : g_cl G m 4) : ∀ (f x : Nat) (acc : Int), x + f = 4 → z_R 251 (m, 262, [(2, 251), (0, y1), (0, y2), (0, y3), (0, y4), (0, y5), (0, y6), (0, acc), (0, (x : Int)), v9], []) = z_R 251 (m, 262, [(2, 251), (0, y1), (0, y2), (0, y3), (0, y4), (0, y5), (0, y6), (0, g_bits G f x acc), (0, 4), v9], []) := by
  intro f
  induction f with
  | zero =>
    intro x acc hx
    obtain rfl : x = 4 := by omega
    rfl
  | succ f ih =>
    intro x acc hx
    have hx4 : x < 4 := by omega
    have l1 := g_x1_lt hx4
    have l2 := g_x2_lt hx4
    have n1 : z_add ((2 * g_x2 x : Nat) : Int) 1 = ((2 * g_x2 x + 1 : Nat) : Int) := by
      rw [z_add_eq (by omega) (by omega)]
      omega
    rw [z_trs_262, if_neg (by omega), g_xor1 hx4, g_xor2 hx4, g_mul2 l1, g_mul2 hx4, g_mul2 l2, n1, if_pos (by omega), if_pos (by omega), Int.toNat_natCast, Int.toNat_natCast, Int.toNat_natCast, show (((2 * x : Nat) : Int) + 1).toNat = 2 * x + 1 by omega, (hc x hx4).1, (hc x hx4).2, (hc _ l1).1, (hc _ l2).2, z_add_eq (x := (x : Int)) (y := 1) (by omega) (by omega), tc1]
    unfold g_bits
    by_cases p1 : G 0 x < G 0 (g_x1 x)
    · rw [if_pos p1, if_neg (show ¬ (G 0 (g_x1 x) ≤ G 0 x ∧ G 1 (g_x2 x) ≤ G 1 x) by omega)]
      exact ih (x + 1) acc (by omega)
    · rw [if_neg p1, if_pos (by omega), if_pos (by omega)]
      by_cases p2 : G 1 x < G 1 (g_x2 x)
      · rw [if_pos p2, if_neg (show ¬ (G 0 (g_x1 x) ≤ G 0 x ∧ G 1 (g_x2 x) ≤ G 1 x) by omega)]
        exact ih (x + 1) acc (by omega)
      · rw [if_neg p2, if_pos (show G 0 (g_x1 x) ≤ G 0 x ∧ G 1 (g_x2 x) ≤ G 1 x by omega)]
        exact ih (x + 1) _ (by omega)
theorem R_rst3 {y1 y2 y3 y4 y5 y6 acc v : Int} {v9 : z_V} {m' : z_M} (hE : z_R 251 (m, 262, [(2, 251), (0, y1), (0, y2), (0, y3), (0, y4), (0, y5), (0, y6), (0, acc), (0, 4), v9], []) = some (m', some (0, v))) : v = acc := by
  rw [z_trs_262, if_pos (by decide)] at hE
  by_cases z : acc = 0
  · rw [if_pos z] at hE
    exact s_val hE
  · rw [if_neg z] at hE
    obtain ⟨m1, u, h1⟩ := s_bI (by decide +kernel) hE
    rw [z_trs_348] at h1
    split at h1
    · obtain ⟨m2, h2⟩ := s_bV (by decide +kernel) h1
      rw [z_trs_364] at h2
      split at h2
      · obtain ⟨m3, h3⟩ := s_bV (by decide +kernel) h2
        rw [z_trs_380] at h3
        exact s_val h3
      · cases h2
    · cases h1
theorem R_rests (hi : R_is w h n heat price D A c U kn KS cs m) (hN : w_N w h n heat D) (hok : hr_ok n A) (ht : 0 ≤ A 35 ∧ A 35 ≤ 1073741824) {a b v x : Int} {m' : z_M} (hE : z_R 251 (m, 0, [(2, 251), (0, a), (0, b), (0, v), (9, 0), (9, 0), (9, 0), (9, 0), (9, 0), (9, 0)], []) = some (m', some (0, x))) : x = g_A n heat cs D A a b v := by
  have h5 := hN.1.2.2
  have hu := R_upn (p0 := 251) (k0 := 11) (v := 0) hi (by decide)
  rw [z_trs_0 m a b v (by rw [hi.1.2.2.1]; omega), hi.1.2.2.1] at hE
  generalize z_up m 251 11 0 = m0 at hu hE
  by_cases c1 : 0 ≤ a ∧ a < (n : Int)
  · rw [if_pos c1] at hE
    by_cases c2 : 0 ≤ b ∧ b < (n : Int)
    · rw [if_pos c2] at hE
      by_cases c3 : a = b
      · have e : g_A n heat cs D A a b v = -1 := if_neg (fun z => z.2.2.1 c3)
        rw [if_pos c3] at hE
        rw [e]
        exact s_val hE
      rw [if_neg c3] at hE
      by_cases c5 : 0 ≤ v ∧ v ≤ 99
      · obtain ⟨a', rfl⟩ : ∃ a' : Nat, a = (a' : Int) := ⟨a.toNat, by omega⟩
        obtain ⟨b', rfl⟩ : ∃ b' : Nat, b = (b' : Int) := ⟨b.toNat, by omega⟩
        have ha : a' < n := by omega
        have hb : b' < n := by omega
        have e18 : m 252 (a' + 18) = A (a' + 18) := R_A hi (by omega) (a_vis_p (b := 18) (p := a') (by omega) (by omega) (by omega) (by omega))
        have e18b : m 252 (b' + 18) = A (b' + 18) := R_A hi (by omega) (a_vis_p (b := 18) (p := b') (by omega) (by omega) (by omega) (by omega))
        have eA : g_A n heat cs D A (a' : Int) (b' : Int) v = if ¬ A ((a' : Int).toNat + 18) = -1 ∧ A ((b' : Int).toNat + 18) = A ((a' : Int).toNat + 18) then g_bits (g_G n heat cs D A (a' : Int).toNat (b' : Int).toNat (A ((a' : Int).toNat + 18)).toNat v) 4 0 0 else -2 := if_pos ⟨c1, c2, c3, c5⟩
        rw [Int.toNat_natCast, Int.toNat_natCast] at eA
        rw [if_pos c5, show ((a' : Int) + 18).toNat = a' + 18 by omega, show ((b' : Int) + 18).toNat = b' + 18 by omega, e18, e18b] at hE
        rw [eA]
        by_cases d1 : A (a' + 18) = -1
        · rw [if_pos d1] at hE
          rw [if_neg (fun y => y.1 d1)]
          exact s_val hE
        rw [if_neg d1] at hE
        by_cases d2 : A (b' + 18) = A (a' + 18)
        · have hw := hok.2.2.1 a' ha
          obtain ⟨r, er⟩ : ∃ r : Nat, A (a' + 18) = (r : Int) := ⟨(A (a' + 18)).toNat, by omega⟩
          have eb := d2.trans er
          have hr : r < 9 := by omega
          have bW := hr_wb_b hN ht.1 (r : Int) (hr_b (r : Int) n 0 A 0)
          have b2W := g_W2 hN ht.1 ha hb (fun z => c3 (by rw [z])) er eb
          have ba := hN.2.2 (A 35) ht.1 a' (by omega)
          have bb := hN.2.2 (A 35) ht.1 b' (by omega)
          have hrS := hu.2.2.1
          have pin := r_pin z_A_252 (Or.inl rfl) h5 (k := (r : Int)) m0 hu.1.2.2.1
          rw [hrS] at pin
          have pin : z_R 183 (m0, 0, [(2, 251), (2, 252), (0, (r : Int)), (9, 0), (9, 0)], []) = some (m0, some (0, hr_b (r : Int) n 0 A 0)) := pin
          have wbr := r_wb z_A_252 (Or.inl rfl) h5 (k := (r : Int)) (b := hr_b (r : Int) n 0 A 0) (t := A 35) (heat := heat) (wm := wmD D (A 35)) ht.1 (by omega) m0 hu.1.2.2.1 (R_cfg hu).2.2.2.1 (R_A hu (by decide) (a_vis_hi (by decide))) (fun p hp => (R_cfg hu).2.2.2.2.2.1 (A 35) ht.1 p hp)
          rw [hrS] at wbr
          have wbr : z_R 184 (m0, 0, [(2, 251), (2, 252), (0, (r : Int)), (0, hr_b (r : Int) n 0 A 0), (9, 0), (9, 0)], []) = some (m0, some (0, hr_wb heat (wmD D (A 35)) n A (r : Int) (hr_b (r : Int) n 0 A 0))) := wbr
          have wa := R_wmo hu ht (p := a') (by omega)
          have wb := R_wmo hu ht (p := b') (by omega)
          rw [if_pos d2, er, pin, zb_v, z_trs_82, wbr, zb_v, z_trs_96, wa, zb_v, z_trs_105, wb, zb_v, z_trs_115, z_sub_eq (x := hr_wb heat (wmD D (A 35)) n A (r : Int) (hr_b (r : Int) n 0 A 0)) (by omega) (by omega), z_sub_eq (x := hr_wb heat (wmD D (A 35)) n A (r : Int) (hr_b (r : Int) n 0 A 0) - wmD D (A 35) a') (by omega) (by omega)] at hE
          obtain ⟨m1, v9, f1, f2⟩ := R_rst1 (cs := cs) hok ht h5 ha hb hr (v := v) (W := hr_wb heat (wmD D (A 35)) n A (r : Int) (hr_b (r : Int) n 0 A 0)) (B := hr_b (r : Int) n 0 A 0) c5 (hr_pc_b _) ba bb ⟨b2W, bW.2⟩ rfl rfl (G := g_G n heat cs D A a' b' r v) rfl 4 0 (9, 0) (9, 0) m0 (by decide) hu (fun j hj => absurd hj (Nat.not_lt_zero j))
          have f1 : z_R 251 (m0, 121, [(2, 251), (0, (a' : Int)), (0, (b' : Int)), (0, v), (0, (r : Int)), (0, hr_b (r : Int) n 0 A 0), (0, hr_wb heat (wmD D (A 35)) n A (r : Int) (hr_b (r : Int) n 0 A 0) - wmD D (A 35) a' - wmD D (A 35) b'), (0, 0), (9, 0), (9, 0)], []) = _ := f1
          rw [f1] at hE
          have f3 := R_rst2 (y1 := (a' : Int)) (y2 := (b' : Int)) (y3 := v) (y4 := (r : Int)) (y5 := hr_b (r : Int) n 0 A 0) (y6 := hr_wb heat (wmD D (A 35)) n A (r : Int) (hr_b (r : Int) n 0 A 0) - wmD D (A 35) a' - wmD D (A 35) b') (v9 := v9) f2 4 0 0 (by decide)
          have z := R_rst3 (f3.symm.trans hE)
          rw [if_pos (show ¬ A (a' + 18) = -1 ∧ A (b' + 18) = A (a' + 18) from ⟨d1, d2⟩), er, Int.toNat_natCast]
          exact z
        · rw [if_neg d2] at hE
          rw [if_neg (fun y => d2 y.2)]
          exact s_val hE
      · have e : g_A n heat cs D A a b v = -1 := if_neg (fun z => c5 z.2.2.2)
        rw [if_neg c5] at hE
        rw [e]
        exact s_val hE
    · have e : g_A n heat cs D A a b v = -1 := if_neg (fun z => c2 z.2.1)
      rw [if_neg c2] at hE
      rw [e]
      exact s_val hE
  · have e : g_A n heat cs D A a b v = -1 := if_neg (fun z => c1 z.1)
    rw [if_neg c1] at hE
    rw [e]
    exact s_val hE
end
theorem core_rests : l_rel2 Rel_C (1036, 156, 135, 3, false, 1059, 159, 251) := by
  intro M1 M2 M3 σ σ1 σ2 as v1 v2 C1 C2 ρ1 ρ2 ha hR hh hM1 hC1 hp1 hE1 hC2 hp2 hE2
  obtain ⟨a, b, v, rfl⟩ := as_three ha
  have hE1 : z_R 135 (z_m σ, 0, [(2, 0), (0, a.toInt), (0, b.toInt), (0, v.toInt), (9, 0), (9, 0), (9, 0), (9, 0), (9, 0), (9, 0)], []) = some (z_m σ1, some (0, v1.toInt)) := z_R_iff.mpr hE1
  have hE2 : z_R 251 (z_m σ1, 0, [(2, 251), (0, a.toInt), (0, b.toInt), (0, v.toInt), (9, 0), (9, 0), (9, 0), (9, 0), (9, 0), (9, 0)], []) = some (z_m σ2, some (0, v2.toInt)) := z_R_iff.mpr hE2
  have hT := T_two (y1 := 135) (y2 := 251) (by decide +kernel) (by decide +kernel) hC1 hC2 hp1 hp2 hR.1
  have hK := core_off_ok (y := 251) (by decide +kernel) hC2 hp2 (core_off_ok (y := 135) (by decide +kernel) hC1 hp1 hR.2)
  obtain ⟨w, h, n, heat, price, D, A, c, U, kn, KS, cs, cC, cR, cW⟩ := hR.2
  obtain ⟨b1, b2, -, -, hok, b35, -, b7⟩ := core_b hh hM1 cR
  have hN : w_N w h n heat D := ⟨b1, b2, b7⟩
  have f1 := R_off2_ok (y := 135) (by decide +kernel) hC1 hp1
  obtain ⟨m1, x1, -⟩ := C_rests cC hN hok b35 cW.2.1 a.toInt b.toInt v.toInt
  obtain ⟨-, x1⟩ := R_inj x1 hE1
  have x2 := R_rests (R_fr cR f1) hN hok b35 hE2
  exact ⟨⟨hT, hK⟩, fun _ => Int32.toInt_inj.mp (x1.symm.trans x2.symm)⟩
