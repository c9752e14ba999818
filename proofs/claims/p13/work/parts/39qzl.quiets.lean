/-! QUIET: the fewest doings to be left off; sets of doings -/
def qS (D : Nat → Int) (S : Nat → Bool) : Nat → Int := fun j => if S j = true then 0 else D j
def qc (S : Nat → Bool) : Nat → Nat
  | 0 => 0
  | f + 1 => qc S f + (if S f = true then 1 else 0)
theorem qc_cg {S S' : Nat → Bool} : ∀ f, (∀ j, j < f → S j = S' j) → qc S f = qc S' f
  | 0, _ => rfl
  | f + 1, h => by
    unfold qc
    rw [qc_cg f (fun j hj => h j (by omega)), h f (by omega)]
theorem qc_le {S S' : Nat → Bool} : ∀ f, (∀ j, j < f → S j = true → S' j = true) → qc S f ≤ qc S' f
  | 0, _ => Nat.le_refl _
  | f + 1, h => by
    have := qc_le f (fun j hj => h j (by omega))
    unfold qc
    by_cases c : S f = true
    · rw [if_pos c, if_pos (h f (by omega) c)]
      omega
    · rw [if_neg c]
      split <;> omega
theorem qc_or {a b : Nat → Bool} : ∀ f, (∀ j, j < f → ¬ (a j = true ∧ b j = true)) → qc (fun j => a j || b j) f = qc a f + qc b f
  | 0, _ => rfl
  | f + 1, h => by
    have := qc_or f (fun j hj => h j (by omega))
    have hf := h f (by omega)
    show qc (fun j => a j || b j) f + (if (a f || b f) = true then 1 else 0) = (qc a f + (if a f = true then 1 else 0)) + (qc b f + (if b f = true then 1 else 0))
    cases c1 : a f <;> cases c2 : b f
    · simp; omega
    · simp; omega
    · simp; omega
    · exact absurd ⟨c1, c2⟩ hf
theorem qc_0 : ∀ f, qc (fun _ => false) f = 0
  | 0 => rfl
  | f + 1 => by
    show qc (fun _ => false) f + (if false = true then 1 else 0) = 0
    rw [qc_0 f, if_neg Bool.false_ne_true]
theorem qc_no {S : Nat → Bool} : ∀ f, qc S f = 0 → ∀ j, j < f → S j = false
  | 0, _, _, h => absurd h (Nat.not_lt_zero _)
  | f + 1, h, j, hj => by
    unfold qc at h
    by_cases c : S f = true
    · rw [if_pos c] at h
      omega
    · rw [if_neg c] at h
      by_cases e : j = f
      · rw [e]
        cases y : S f
        · rfl
        · exact absurd y c
      · exact qc_no f (by omega) j (by omega)
def q_1 (a : Int) (j : Nat) : Bool := decide ((j : Int) = a)
theorem qc_1 {a : Nat} : ∀ f, qc (q_1 (a : Int)) f = if a < f then 1 else 0
  | 0 => rfl
  | f + 1 => by
    have := qc_1 (a := a) f
    unfold qc
    rw [this]
    unfold q_1
    by_cases e : f = a
    · rw [e, if_neg (by omega), if_pos (decide_eq_true rfl), if_pos (by omega)]
    · rw [decide_eq_false (show ¬ (f : Int) = (a : Int) by omega), if_neg Bool.false_ne_true]
      by_cases c : a < f
      · rw [if_pos c, if_pos (by omega)]
      · rw [if_neg c, if_neg (by omega)]
/-- one of a set taken out -/
theorem qc_out {S : Nat → Bool} {a : Nat} (ha : a < 30) (hS : S a = true) : qc S 30 = qc (fun j => S j && !(q_1 (a : Int) j)) 30 + 1 := by
  have e : qc S 30 = qc (fun j => (S j && !(q_1 (a : Int) j)) || q_1 (a : Int) j) 30 := qc_cg 30 fun j _ => by
    by_cases c : j = a
    · have : q_1 (a : Int) j = true := decide_eq_true (by omega)
      rw [this, Bool.or_true, c, hS]
    · have : q_1 (a : Int) j = false := decide_eq_false (by omega)
      rw [this, Bool.or_false, Bool.not_false, Bool.and_true]
  rw [e, qc_or 30 (fun j _ ⟨h1, h2⟩ => by rw [h2] at h1; simp at h1), qc_1, if_pos ha]
theorem qc_top {S : Nat → Bool} {k : Nat} : ∀ f, qc S f = k + 1 → ∃ a, a < f ∧ S a = true ∧ ∀ j, j < f → S j = true → j ≤ a
  | 0, h => by cases h
  | f + 1, h => by
    by_cases c : S f = true
    · exact ⟨f, by omega, c, fun j hj _ => by omega⟩
    · unfold qc at h
      rw [if_neg c] at h
      obtain ⟨a, a1, a2, a3⟩ := qc_top f h
      refine ⟨a, by omega, a2, fun j hj hS => ?_⟩
      by_cases e : j = f
      · rw [e] at hS
        exact absurd hS c
      · exact a3 j (by omega) hS
def q_3 (a b d : Int) (j : Nat) : Bool := q_1 a j || (q_1 b j || q_1 d j)
theorem q_1_no (j : Nat) : q_1 (-1) j = false := decide_eq_false (by omega)
/-- sets of one, of two, of three -/
theorem qc_is1 {S : Nat → Bool} {L : Nat} (hL : L ≤ 30) (hS : ∀ j, S j = true → j < L) (h : qc S 30 = 1) : ∃ a : Nat, a < L ∧ S = q_3 (a : Int) (-1) (-1) := by
  obtain ⟨a, a1, a2, a3⟩ := qc_top 30 h
  have h0 := qc_out a1 a2
  have hn := qc_no (S := fun j => S j && !(q_1 (a : Int) j)) 30 (by omega)
  refine ⟨a, hS a a2, funext fun j => ?_⟩
  unfold q_3
  rw [q_1_no, Bool.or_false, Bool.or_false]
  by_cases hj : j < 30
  · have := hn j hj
    by_cases e : j = a
    · rw [e, a2]
      exact (decide_eq_true rfl).symm
    · have eq : q_1 (a : Int) j = false := decide_eq_false (by omega)
      have this : (S j && !(q_1 (a : Int) j)) = false := this
      rw [eq, Bool.not_false, Bool.and_true] at this
      rw [this, eq]
  · have e1 : S j = false := by
      cases y : S j
      · rfl
      · have := hS j y
        omega
    rw [e1]
    exact (decide_eq_false (by omega)).symm
theorem qc_isS {S : Nat → Bool} {L k : Nat} (hL : L ≤ 30) (hS : ∀ j, S j = true → j < L) (h : qc S 30 = k + 1) : ∃ (a : Nat) (T : Nat → Bool), a < L ∧ (∀ j, T j = true → j < a) ∧ qc T 30 = k ∧ S = fun j => T j || q_1 (a : Int) j := by
  obtain ⟨a, a1, a2, a3⟩ := qc_top 30 h
  have h0 := qc_out a1 a2
  refine ⟨a, fun j => S j && !(q_1 (a : Int) j), hS a a2, fun j hj => ?_, by omega, funext fun j => ?_⟩
  · obtain ⟨y1, y2⟩ := Bool.and_eq_true _ _ |>.mp hj
    have := a3 j (by have := hS j y1; omega) y1
    have y2 : q_1 (a : Int) j = false := by
      cases y : q_1 (a : Int) j
      · rfl
      · rw [y] at y2
        cases y2
    have := of_decide_eq_false y2
    omega
  · show S j = ((S j && !(q_1 (a : Int) j)) || q_1 (a : Int) j)
    by_cases e : j = a
    · have : q_1 (a : Int) j = true := decide_eq_true (by omega)
      rw [this, Bool.or_true, e, a2]
    · have : q_1 (a : Int) j = false := decide_eq_false (by omega)
      rw [this, Bool.or_false, Bool.not_false, Bool.and_true]
theorem qc_is2 {S : Nat → Bool} {L : Nat} (hL : L ≤ 30) (hS : ∀ j, S j = true → j < L) (h : qc S 30 = 2) : ∃ a b : Nat, a < b ∧ b < L ∧ S = q_3 (a : Int) (b : Int) (-1) := by
  obtain ⟨b, T, b1, b2, b3, b4⟩ := qc_isS hL hS h
  obtain ⟨a, a1, a2⟩ := qc_is1 (L := b) (by omega) b2 b3
  refine ⟨a, b, a1, b1, ?_⟩
  rw [b4, a2]
  funext j
  unfold q_3
  rw [q_1_no, Bool.or_false, Bool.or_false, Bool.or_false]
theorem qc_is3 {S : Nat → Bool} {L : Nat} (hL : L ≤ 30) (hS : ∀ j, S j = true → j < L) (h : qc S 30 = 3) : ∃ a b d : Nat, a < b ∧ b < d ∧ d < L ∧ S = q_3 (a : Int) (b : Int) (d : Int) := by
  obtain ⟨d, T, d1, d2, d3, d4⟩ := qc_isS hL hS h
  obtain ⟨a, b, a1, a2, a3⟩ := qc_is2 (L := d) (by omega) d2 d3
  refine ⟨a, b, d, a1, a2, d1, ?_⟩
  rw [d4, a3]
  funext j
  unfold q_3
  rw [q_1_no, Bool.or_false, Bool.or_assoc]
/-- how many bits an int has -/
def vv (x : Int) : Nat := (Int32.ofInt x).toBitVec.toNat
theorem pcN_qc : ∀ (f X : Nat), pcN f X = qc (fun j => X.testBit j) f := by
  have low : ∀ (f : Nat) (S : Nat → Bool), qc S (f + 1) = (if S 0 = true then 1 else 0) + qc (fun j => S (j + 1)) f := by
    intro f
    induction f with
    | zero =>
      intro S
      show 0 + (if S 0 = true then 1 else 0) = (if S 0 = true then 1 else 0) + 0
      rw [Nat.zero_add, Nat.add_zero]
    | succ f ih =>
      intro S
      show qc S (f + 1) + (if S (f + 1) = true then 1 else 0) = _ + (qc (fun j => S (j + 1)) f + (if S (f + 1) = true then 1 else 0))
      rw [ih S]
      omega
  intro f
  induction f with
  | zero => intro X; rfl
  | succ f ih =>
    intro X
    rw [low f (fun j => X.testBit j)]
    show X % 2 + pcN f (X / 2) = _
    rw [ih (X / 2), Nat.testBit_zero]
    have e : qc (fun j => (X / 2).testBit j) f = qc (fun j => X.testBit (j + 1)) f := qc_cg f fun j _ => (Nat.testBit_add_one X j).symm
    rw [e]
    by_cases c : X % 2 = 1
    · rw [if_pos (decide_eq_true c)]
      omega
    · rw [if_neg (by rw [decide_eq_false c]; exact Bool.false_ne_true)]
      omega
theorem vv_t (a : Int32) : vv a.toInt = a.toBitVec.toNat := by
  unfold vv
  rw [Int32.ofInt_toInt]
theorem vv_lt (x : Int) : vv x < 2 ^ 32 := (Int32.ofInt x).toBitVec.isLt
theorem vv_and (x y : Int) : vv (z_and x y) = vv x &&& vv y := by
  unfold z_and
  rw [vv_t]
  exact BitVec.toNat_and _ _
theorem vv_add (x y : Int) : vv (z_add x y) = (vv x + vv y) % 2 ^ 32 := by
  unfold z_add
  rw [vv_t]
  exact BitVec.toNat_add _ _
theorem vv_sub (x y : Int) : vv (z_sub x y) = (2 ^ 32 - vv y + vv x) % 2 ^ 32 := by
  unfold z_sub
  rw [vv_t]
  exact BitVec.toNat_sub _ _
theorem vv_ush (x : Int) : vv (z_ush x 1) = vv x / 2 ∧ vv (z_ush x 2) = vv x / 4 ∧ vv (z_ush x 4) = vv x / 16 ∧ vv (z_ush x 8) = vv x / 256 ∧ vv (z_ush x 16) = vv x / 65536 := by
  have e : ∀ n : Nat, n < 32 → vv (z_ush x (n : Int)) = vv x / 2 ^ n := fun n hn => by
    unfold z_ush
    rw [vv_t, i32_ushn (Int32.ofInt x) n hn]
    rfl
  exact ⟨e 1 (by decide), e 2 (by decide), e 4 (by decide), e 8 (by decide), e 16 (by decide)⟩
theorem vv_63 (x : Int) : z_and x 63 = ((vv x % 64 : Nat) : Int) := by
  have h1 : (Int32.ofInt x &&& Int32.ofInt 63).toBitVec.toNat = vv x % 64 := by
    show ((Int32.ofInt x).toBitVec &&& 63#32).toNat = _
    rw [BitVec.toNat_and]
    exact Nat.and_two_pow_sub_one_eq_mod _ 6
  unfold z_and
  rw [i32_ofNat (x := Int32.ofInt x &&& Int32.ofInt 63) (by rw [h1]; omega), h1]
def j_f1 (x : Int) : Int := z_sub x (z_and (z_ush x 1) 1431655765)
def j_f2 (x : Int) : Int := z_add (z_and x 858993459) (z_and (z_ush x 2) 858993459)
def j_f3 (x : Int) : Int := z_and (z_add x (z_ush x 4)) 252645135
def j_f4 (x : Int) : Int := z_add x (z_ush x 8)
def j_f5 (x : Int) : Int := z_add x (z_ush x 16)
theorem j_masks : vv 1431655765 = bk 85 4 ∧ vv 858993459 = bk 51 4 ∧ vv 252645135 = bk 15 4 := by decide +kernel
theorem j_f1_ok (x : Int) : vv (j_f1 x) = bm bf1 4 (vv x) := by
  have hx : vv x < 256 ^ 4 := vv_lt x
  have e := bk_sh (k := 2) (q := 128) (c := 85) rfl (by decide) (by decide) (by decide +kernel) 4 (vv x) hx
  obtain ⟨h1, h2⟩ := bm_sub (g := fun b => b / 2 &&& 85) (fun b hb => (bf_lt b hb).2.2.2) 4 (vv x) hx
  unfold j_f1
  rw [vv_sub, vv_and, (vv_ush x).1, j_masks.1, e, show 2 ^ 32 - bm (fun b => b / 2 &&& 85) 4 (vv x) + vv x = 2 ^ 32 + (vv x - bm (fun b => b / 2 &&& 85) 4 (vv x)) by omega, h2, Nat.add_mod_left]
  exact Nat.mod_eq_of_lt (bm_lt (g := bf1) (fun b hb => (bf_lt b hb).1) 4 (vv x))
theorem j_f2_ok {x : Int} {g : Nat → Nat} {X : Nat} (hx : vv x = bm g 4 X) (hg : ∀ b, b < 256 → g b < 256) (hs : ∀ b, b < 256 → bf2 (g b) < 256) : vv (j_f2 x) = bm (fun b => bf2 (g b)) 4 X := by
  have hX : bm g 4 X < 256 ^ 4 := bm_lt hg 4 X
  have e1 := bk_and (c := 51) (by decide) 4 _ hX
  have e2 := bk_sh (k := 4) (q := 64) (c := 51) rfl (by decide) (by decide) (by decide +kernel) 4 _ hX
  have h2 : bm (fun b => bf2 (g b)) 4 X < 2 ^ 32 := bm_lt hs 4 X
  unfold j_f2
  rw [vv_add, vv_and, vv_and, (vv_ush x).2.1, j_masks.2.1, hx, e1, e2, bm_bm hg, bm_bm hg, bm_add]
  exact Nat.mod_eq_of_lt h2
theorem bm_1 {g : Nat → Nat} {q : Nat} (hg : ∀ b, b < 256 → g b ≤ q) : ∀ n Y, bm g n Y ≤ q * bk 1 n
  | 0, _ => Nat.zero_le _
  | n + 1, Y => by
    have h1 := hg (Y % 256) (Nat.mod_lt _ (by decide))
    have h2 := bm_1 hg n (Y / 256)
    show g (Y % 256) + 256 * bm g n (Y / 256) ≤ q * (1 + 256 * bk 1 n)
    rw [Nat.mul_add, Nat.mul_one, ← Nat.mul_assoc, Nat.mul_comm q 256, Nat.mul_assoc]
    omega
theorem j_f3_ok {x : Int} {g : Nat → Nat} {X : Nat} (hx : vv x = bm g 4 X) (hg : ∀ b, b < 256 → g b % 16 ≤ 4 ∧ g b / 16 ≤ 4) : vv (j_f3 x) = bm (fun b => bf3 (g b)) 4 X := by
  have hX : bm g 4 X < 2 ^ 31 := by
    have h8 := bm_1 (g := g) (q := 68) (fun b hb => by have := hg b hb; omega) 4 X
    have h9 : 68 * bk 1 4 < 2 ^ 31 := by decide +kernel
    omega
  have e := (bm_nib hg 4 X).1
  unfold j_f3
  rw [vv_and, vv_add, (vv_ush x).2.2.1, j_masks.2.2, hx, Nat.mod_eq_of_lt (show bm g 4 X + bm g 4 X / 16 < 2 ^ 32 by omega), e]
  rfl
theorem pc_r4 {a b c d : Nat} : (a + 256 * b + (c + 256 * d)) % 64 = (a + c) % 64 := by omega
theorem pc_sum4 {Z : Nat} (X : Nat) (hZ : Z = bm (pcN 8) 4 X) : (Z + Z / 256 + (Z + Z / 256) / 65536) % 64 = pcN 32 X ∧ Z < 2 ^ 29 := by
  have e : pcN 32 X = pcN 8 (X % 256) + (pcN 8 (X / 256 % 256) + (pcN 8 (X / 256 / 256 % 256) + (pcN 8 (X / 256 / 256 / 256 % 256) + 0))) := by
    rw [pcN_8 24, pcN_8 16, pcN_8 8, pcN_8 0 (X / 256 / 256 / 256)]
    rfl
  have z : Z = pcN 8 (X % 256) + 256 * (pcN 8 (X / 256 % 256) + 256 * (pcN 8 (X / 256 / 256 % 256) + 256 * (pcN 8 (X / 256 / 256 / 256 % 256) + 256 * 0))) := hZ
  rw [e]
  have c0 := pc_le (b := X % 256) (Nat.mod_lt _ (by decide))
  have c1 := pc_le (b := X / 256 % 256) (Nat.mod_lt _ (by decide))
  have c2 := pc_le (b := X / 256 / 256 % 256) (Nat.mod_lt _ (by decide))
  have c3 := pc_le (b := X / 256 / 256 / 256 % 256) (Nat.mod_lt _ (by decide))
  clear e hZ
  generalize pcN 8 (X % 256) = d0 at *
  generalize pcN 8 (X / 256 % 256) = d1 at *
  generalize pcN 8 (X / 256 / 256 % 256) = d2 at *
  generalize pcN 8 (X / 256 / 256 / 256 % 256) = d3 at *
  have q1 : Z / 256 = d1 + 256 * (d2 + 256 * d3) := by omega
  have s1 : Z + Z / 256 = (d0 + d1) + 256 * ((d1 + d2) + 256 * ((d2 + d3) + 256 * d3)) := by omega
  have hz : Z < 2 ^ 29 := by omega
  refine ⟨?_, hz⟩
  rw [s1]
  clear s1 q1 hz z
  rw [show ((d0 + d1) + 256 * ((d1 + d2) + 256 * ((d2 + d3) + 256 * d3))) / 65536 = (d2 + d3) + 256 * d3 by omega, pc_r4]
  omega
theorem pc32 (x : Int) : hr_pc x = ((qc (zb x) 32 : Nat) : Int) := by
  have e0 : hr_pc x = z_and (j_f5 (j_f4 (j_f3 (j_f2 (j_f1 x))))) 63 := rfl
  have e1 := j_f1_ok x
  have e2 := j_f2_ok e1 (fun b hb => (bf_lt b hb).1) (fun b hb => by have := (bf_lt b hb).2.1; omega)
  have e3 := j_f3_ok e2 (fun b hb => (bf_lt b hb).2.1)
  have e3 : vv (j_f3 (j_f2 (j_f1 x))) = bm (pcN 8) 4 (vv x) := e3.trans (bm_cg (fun b hb => (bf_lt b hb).2.2.1) 4 (vv x))
  obtain ⟨p1, p2⟩ := pc_sum4 (vv x) e3
  rw [e0]
  generalize j_f3 (j_f2 (j_f1 x)) = y at e3 p1 p2 ⊢
  have a4 : vv (j_f4 y) = vv y + vv y / 256 := by
    unfold j_f4
    rw [vv_add, (vv_ush y).2.2.2.1]
    exact Nat.mod_eq_of_lt (by omega)
  have a5 : vv (j_f5 (j_f4 y)) = vv y + vv y / 256 + (vv y + vv y / 256) / 65536 := by
    unfold j_f5
    rw [vv_add, (vv_ush (j_f4 y)).2.2.2.2, a4]
    exact Nat.mod_eq_of_lt (by omega)
  rw [vv_63, a5, p1, pcN_qc]
  rfl
theorem qc_32 {S : Nat → Bool} (h : ∀ j, S j = true → j < 30) : qc S 32 = qc S 30 := by
  have e : ∀ j, 30 ≤ j → S j = false := fun j hj => by
    cases y : S j
    · rfl
    · have := h j y
      omega
  show qc S 30 + (if S 30 = true then 1 else 0) + (if S 31 = true then 1 else 0) = qc S 30
  rw [e 30 (by decide), e 31 (by decide), if_neg Bool.false_ne_true, Nat.add_zero]
/-! floorMod by 6 -/
theorem zx_neg {a : Int} (h1 : -2147483648 ≤ a) (h2 : a < 0) : z_xor a 6 < 0 := by
  have ha : (Int32.ofInt a).toBitVec.toInt = a := zr_of h1 (by omega)
  have m1 : (Int32.ofInt a).toBitVec.msb = true := by
    rw [BitVec.msb_eq_toInt, ha]
    exact decide_eq_true h2
  have m2 : (Int32.ofInt a ^^^ Int32.ofInt 6).toBitVec.msb = true := by
    rw [Int32.toBitVec_xor, BitVec.msb_xor, m1]
    rfl
  rw [BitVec.msb_eq_toInt] at m2
  exact of_decide_eq_true m2
theorem qt_fm (m : z_M) {a : Int} (h1 : -1073741824 ≤ a) (h2 : a ≤ 5) : z_R 114 (m, 0, [(0, a), (0, 6), (9, 0)], []) = some (m, some (0, a % 6)) := by
  rw [qt_flm_0, if_neg (by decide)]
  have er : z_rem a 6 = a.tmod 6 := z_rem_eq (by omega) (by omega) (by decide) (by decide)
  by_cases c : 0 ≤ a
  · have e : z_rem a 6 = a % 6 := z_rem_nn c (by omega) (by decide) (by decide)
    have ex : ∀ a, a < 6 → 0 ≤ z_xor ((a : Nat) : Int) 6 := by decide +kernel
    have ex := ex a.toNat (by omega)
    rw [show ((a.toNat : Nat) : Int) = a by omega] at ex
    rw [if_pos ex, e]
  · have ex := zx_neg (a := a) (by omega) (by omega)
    have et : a.tmod 6 = -((-a) % 6) := by
      have : (-(-a)).tmod 6 = -((-a).tmod 6) := Int.neg_tmod (-a) 6
      rw [Int.neg_neg, Int.tmod_eq_emod_of_nonneg (show 0 ≤ -a by omega)] at this
      exact this
    rw [if_neg (by omega), er, et]
    by_cases z : -((-a) % 6) = 0
    · rw [if_pos z, z]
      rw [show a % 6 = 0 by omega]
    · rw [if_neg z, z_add_eq (by omega) (by omega), show -((-a) % 6) + 6 = a % 6 by omega]
/-! what matters -/
def q_m0 (n : Nat) (D A : Nat → Int) (N d : Nat) : Bool := decide (d < 6 * n ∧ (¬ D d = 0) ∧ (¬ A (d / 6 + 18) = -1) ∧ (((d % 6 : Nat) : Int) - A 35) % 6 < (N : Int))
def q_M (n : Nat) (D A : Nat → Int) (N c d : Nat) : Bool := q_m0 n D A N d && decide (A (d / 6 + 18) % 3 = (c : Int))
def q_U (n : Nat) (D A : Nat → Int) (N c d : Nat) : Bool := q_m0 n D A N d && decide (A (d / 6 + 18) % 3 < (c : Int))
def q_full (w h n : Nat) (heat price : Int) (cs : List Int) (D A : Nat → Int) (N : Nat) (S : Nat → Bool) : Prop := s_sta w h n heat price cs (qS D S) (s_F w h A) N N 0 A = (N : Int)
def q_T (w h n : Nat) (heat price : Int) (cs : List Int) (D A : Nat → Int) (N c : Nat) (S : Nat → Bool) : Prop := s_stc w h n heat price cs (qS D S) (s_fl A) c N N 0 A = (N : Int)
theorem q_D_S {D : Nat → Int} (hD : q_D D) (S : Nat → Bool) : q_D (qS D S) := fun j hj => by
  have := hD j hj
  unfold qS
  split <;> omega
section
variable {w h n : Nat} {heat price : Int} {D A : Nat → Int} {c : Nat} {U : Nat → Nat → Int} {kn : Nat → Int} {KS : Nat → Nat → Int} {cs : List Int} {m : z_M}
theorem q_full_T {N : Nat} {S : Nat → Bool} : q_full w h n heat price cs D A N S ↔ q_T w h n heat price cs D A N 0 S ∧ q_T w h n heat price cs D A N 1 S ∧ q_T w h n heat price cs D A N 2 S := by
  have e := s_sta_min (w := w) (h := h) (n := n) (heat := heat) (price := price) (cs := cs) (D := qS D S) (A := A) (N := N) N 0 A (by omega)
  have b := fun c => (s_stc_x (w := w) (h := h) (n := n) (heat := heat) (price := price) (cs := cs) (D := qS D S) (F := s_fl A) (c := c) (N := N) N 0 A (by omega)).2
  have b0 := b 0
  have b1 := b 1
  have b2 := b 2
  unfold q_full q_T
  rw [e]
  unfold i_mn
  (repeat' split) <;> omega
theorem q_T_no {N c : Nat} {S : Nat → Bool} (hz : ∀ r : Nat, r < 9 → r % 3 = c → u_hs (w : Int) (h : Int) (r : Int) = 0) : q_T w h n heat price cs D A N c S := by
  have key : ∀ (f x : Nat) (B : Nat → Int), x + f = N → s_stc w h n heat price cs (qS D S) (s_fl A) c N f x B = (N : Int) := by
    intro f
    induction f with
    | zero => intro x B hx; rfl
    | succ f ih =>
      intro x B hx
      unfold s_stc
      have e : s_vio w h (s_fl A) c (hr_A w h heat price (c_ml cs) (wmD (qS D S) (B 35)) n B) = false := by
        cases y : s_vio w h (s_fl A) c (hr_A w h heat price (c_ml cs) (wmD (qS D S) (B 35)) n B)
        · rfl
        · obtain ⟨r, h1, h2, h3, -⟩ := s_vio_iff.mp y
          exact absurd (hz r h1 h2) h3
      rw [e, if_neg Bool.false_ne_true]
      exact ih (x + 1) _ (by omega)
  exact key N 0 A (by omega)
theorem q_T_cg {N c : Nat} {S S' : Nat → Bool} (hw : w ≤ 3 ∧ h ≤ 3 ∧ n ≤ 5) (hh : 0 ≤ heat ∧ heat ≤ 9) (hD : q_D D) (hok : hr_ok n A) (ht : 0 ≤ A 35 ∧ A 35 ≤ 1073741824) (hN : N ≤ 40) (he : ∀ d, d < 30 → q_M n D A N c d = true → S d = S' d) : q_T w h n heat price cs D A N c S ↔ q_T w h n heat price cs D A N c S' := by
  unfold q_T
  rw [s_stc_ag (price := price) (cs := cs) (c := c) (F := s_fl A) (F' := s_fl A) (N := N) (q_D_N hw hh (q_D_S hD S)) (q_D_N hw hh (q_D_S hD S')) (fun _ _ _ _ => rfl) N 0 A A ag_rf hok hok ht.1 (by omega) (fun p hp hi k hk => ?_)]
  obtain ⟨r, r1, r2, r3⟩ := hi
  have n5 := hw.2.2
  have hm : 0 ≤ (A 35 + (k : Int)) % 6 ∧ (A 35 + (k : Int)) % 6 < 6 := ⟨Int.emod_nonneg _ (by decide), Int.emod_lt_of_pos _ (by decide)⟩
  obtain ⟨q, hq⟩ : ∃ q : Nat, (A 35 + (k : Int)) % 6 = (q : Int) := ⟨((A 35 + (k : Int)) % 6).toNat, by omega⟩
  unfold wmD qS
  rw [hq, Int.toNat_natCast]
  by_cases z : D (6 * p + q) = 0
  · rw [z]
    (repeat' split) <;> rfl
  · have hM : q_M n D A N c (6 * p + q) = true := by
      unfold q_M q_m0
      have e1 : (6 * p + q) / 6 = p := by omega
      have e2 : (6 * p + q) % 6 = q := by omega
      rw [e1, e2, decide_eq_true (show 6 * p + q < 6 * n ∧ (¬ D (6 * p + q) = 0) ∧ (¬ A (p + 18) = -1) ∧ ((q : Int) - A 35) % 6 < (N : Int) from ⟨by omega, z, by omega, by omega⟩), Bool.true_and]
      exact decide_eq_true (by rw [r3]; omega)
    rw [he _ (by omega) hM]
theorem q_M_lt {N c d : Nat} (h : q_M n D A N c d = true) : d < 6 * n := by
  unfold q_M q_m0 at h
  exact (of_decide_eq_true (Bool.and_eq_true _ _ |>.mp h).1).1
theorem q_M_U {N c d : Nat} (h : q_M n D A N c d = true) : q_U n D A N (c + 1) d = true ∧ q_U n D A N c d = false := by
  unfold q_M at h
  obtain ⟨h1, h2⟩ := Bool.and_eq_true _ _ |>.mp h
  have h2 := of_decide_eq_true h2
  unfold q_U
  rw [h1, h2, Bool.true_and, Bool.true_and]
  exact ⟨decide_eq_true (by omega), decide_eq_false (by omega)⟩
theorem q_U_s {N c d : Nat} (hp : d < 6 * n → -1 ≤ A (d / 6 + 18)) : q_U n D A N (c + 1) d = (q_U n D A N c d || q_M n D A N c d) := by
  unfold q_U q_M
  cases h1 : q_m0 n D A N d
  · rfl
  · rw [Bool.true_and, Bool.true_and, Bool.true_and]
    by_cases e : A (d / 6 + 18) % 3 = (c : Int)
    · rw [decide_eq_true e, Bool.or_true]
      exact decide_eq_true (by omega)
    · rw [decide_eq_false e, Bool.or_false]
      exact decide_eq_decide.mpr ⟨fun z => by omega, fun z => by omega⟩
end
