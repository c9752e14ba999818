/-! HOW MANY BITS OF A LONG -/
def lv (x : Int) : Nat := (Int64.ofInt x).toBitVec.toNat
theorem l6_t (a : Int64) : lv a.toInt = a.toBitVec.toNat := by
  unfold lv
  rw [Int64.ofInt_toInt]
theorem l6_lt (x : Int) : lv x < 2 ^ 64 := (Int64.ofInt x).toBitVec.isLt
theorem l6_and (x y : Int) : lv (z_land x y) = lv x &&& lv y := by
  unfold z_land
  rw [l6_t]
  exact BitVec.toNat_and _ _
theorem l6_or (x y : Int) : lv (z_lor x y) = lv x ||| lv y := by
  unfold z_lor
  rw [l6_t]
  exact BitVec.toNat_or _ _
theorem l6_add (x y : Int) : lv (z_ladd x y) = (lv x + lv y) % 2 ^ 64 := by
  unfold z_ladd
  rw [l6_t]
  exact BitVec.toNat_add _ _
theorem l6_sub (x y : Int) : lv (z_lsub x y) = (2 ^ 64 - lv y + lv x) % 2 ^ 64 := by
  unfold z_lsub
  rw [l6_t]
  exact BitVec.toNat_sub _ _
theorem l6_ush1 {x y : Int} {s : UInt64} {k : Nat} (e : ((Int32.ofInt y).toInt64.toUInt64 &&& Int64.toUInt64 63) = s) (hk : s.toNat % 64 = k) : lv (z_lush x y) = lv x / 2 ^ k := by
  unfold z_lush
  rw [l6_t, e]
  show ((Int64.ofInt x).toUInt64 >>> s).toNat = _
  rw [UInt64.toNat_shiftRight, hk, Nat.shiftRight_eq_div_pow]
  rfl
theorem l6_ush (x : Int) : lv (z_lush x 1) = lv x / 2 ∧ lv (z_lush x 2) = lv x / 4 ∧ lv (z_lush x 4) = lv x / 16 ∧ lv (z_lush x 8) = lv x / 256 ∧ lv (z_lush x 16) = lv x / 65536 ∧ lv (z_lush x 32) = lv x / 4294967296 :=
  ⟨l6_ush1 (s := 1) (k := 1) (by decide +kernel) (by decide +kernel), l6_ush1 (s := 2) (k := 2) (by decide +kernel) (by decide +kernel), l6_ush1 (s := 4) (k := 4) (by decide +kernel) (by decide +kernel), l6_ush1 (s := 8) (k := 8) (by decide +kernel) (by decide +kernel), l6_ush1 (s := 16) (k := 16) (by decide +kernel) (by decide +kernel), l6_ush1 (s := 32) (k := 32) (by decide +kernel) (by decide +kernel)⟩
theorem l6_shl {k : Nat} (hk : k < 64) : lv (z_lshl 1 (k : Int)) = 2 ^ k := by
  have : ∀ k, k < 64 → lv (z_lshl 1 ((k : Nat) : Int)) = 2 ^ k := by decide +kernel
  exact this k hk
theorem l6_127 (x : Int) : z_and (z_l2i x) 127 = ((lv x % 128 : Nat) : Int) := by
  have e : Int32.ofInt (z_l2i x) = (Int64.ofInt x).toInt32 := by
    unfold z_l2i
    exact Int32.ofInt_toInt _
  have h0 : (Int64.ofInt x).toInt32.toBitVec.toNat = lv x % 2 ^ 32 := by
    rw [Int64.toBitVec_toInt32, BitVec.signExtend_eq_setWidth_of_le _ (by decide), BitVec.toNat_setWidth]
    rfl
  have h1 : ((Int64.ofInt x).toInt32 &&& Int32.ofInt 127).toBitVec.toNat = lv x % 128 := by
    show ((Int64.ofInt x).toInt32.toBitVec &&& 127#32).toNat = _
    rw [BitVec.toNat_and, h0]
    have : (lv x % 2 ^ 32) &&& (2 ^ 7 - 1) = lv x % 2 ^ 32 % 2 ^ 7 := Nat.and_two_pow_sub_one_eq_mod _ 7
    refine Eq.trans this ?_
    omega
  unfold z_and
  rw [e, i32_ofNat (x := (Int64.ofInt x).toInt32 &&& Int32.ofInt 127) (by rw [h1]; omega), h1]
/-! byte by byte -/
def bk (c : Nat) : Nat → Nat
  | 0 => 0
  | n + 1 => c + 256 * bk c n
def bm (g : Nat → Nat) : Nat → Nat → Nat
  | 0, _ => 0
  | n + 1, X => g (X % 256) + 256 * bm g n (X / 256)
theorem bb_and {a A c C : Nat} (ha : a < 256) (hc : c < 256) : (a + 256 * A) &&& (c + 256 * C) = (a &&& c) + 256 * (A &&& C) := by
  apply Nat.eq_of_testBit_eq
  intro i
  have ha : a < 2 ^ 8 := ha
  have hc : c < 2 ^ 8 := hc
  have hac : a &&& c < 2 ^ 8 := Nat.lt_of_le_of_lt Nat.and_le_left ha
  rw [Nat.testBit_and, Nat.add_comm a, Nat.add_comm c, Nat.add_comm (a &&& c)]
  show ((2 ^ 8 * A + a).testBit i && (2 ^ 8 * C + c).testBit i) = (2 ^ 8 * (A &&& C) + (a &&& c)).testBit i
  rw [Nat.testBit_two_pow_mul_add A ha, Nat.testBit_two_pow_mul_add C hc, Nat.testBit_two_pow_mul_add _ hac]
  split
  · exact (Nat.testBit_and _ _ _).symm
  · exact (Nat.testBit_and _ _ _).symm
theorem bm_lt {g : Nat → Nat} (hg : ∀ b, b < 256 → g b < 256) : ∀ n X, bm g n X < 256 ^ n
  | 0, _ => Nat.one_pos
  | n + 1, X => by
    have h1 := bm_lt hg n (X / 256)
    have h2 := hg (X % 256) (Nat.mod_lt _ (by decide))
    unfold bm
    rw [Nat.pow_succ]
    omega
theorem bm_cg {g g' : Nat → Nat} (h : ∀ b, b < 256 → g b = g' b) : ∀ n X, bm g n X = bm g' n X
  | 0, _ => rfl
  | n + 1, X => by
    unfold bm
    rw [h _ (Nat.mod_lt _ (by decide)), bm_cg h n]
theorem bm_bm {g g' : Nat → Nat} (hg : ∀ b, b < 256 → g' b < 256) : ∀ n X, bm g n (bm g' n X) = bm (fun b => g (g' b)) n X
  | 0, _ => rfl
  | n + 1, X => by
    have h1 := hg (X % 256) (Nat.mod_lt _ (by decide))
    show g ((g' (X % 256) + 256 * bm g' n (X / 256)) % 256) + 256 * bm g n ((g' (X % 256) + 256 * bm g' n (X / 256)) / 256) = g (g' (X % 256)) + 256 * bm (fun b => g (g' b)) n (X / 256)
    rw [show (g' (X % 256) + 256 * bm g' n (X / 256)) % 256 = g' (X % 256) by omega, show (g' (X % 256) + 256 * bm g' n (X / 256)) / 256 = bm g' n (X / 256) by omega, bm_bm hg n]
theorem bm_add (g g' : Nat → Nat) : ∀ n X, bm g n X + bm g' n X = bm (fun b => g b + g' b) n X
  | 0, _ => rfl
  | n + 1, X => by
    have := bm_add g g' n (X / 256)
    unfold bm
    omega
theorem bm_sub {g : Nat → Nat} (h : ∀ b, b < 256 → g b ≤ b) : ∀ n X, X < 256 ^ n → bm g n X ≤ X ∧ X - bm g n X = bm (fun b => b - g b) n X
  | 0, X, hX => by
    have : X = 0 := by
      have : X < 1 := hX
      omega
    subst this
    exact ⟨Nat.le_refl _, rfl⟩
  | n + 1, X, hX => by
    rw [Nat.pow_succ] at hX
    obtain ⟨h1, h2⟩ := bm_sub h n (X / 256) (by omega)
    have h3 := h (X % 256) (Nat.mod_lt _ (by decide))
    unfold bm
    omega
/-- a shift and a mask that lets nothing over from byte to byte -/
theorem bk_sh {k q c : Nat} (hkq : k * q = 256) (hk : 0 < k) (hc : c < 256) (h : ∀ b, b < 256 → ∀ t, t < k → (b / k + q * t) &&& c = b / k &&& c) : ∀ n X, X < 256 ^ n → X / k &&& bk c n = bm (fun b => b / k &&& c) n X
  | 0, X, hX => by
    show X / k &&& 0 = 0
    exact Nat.and_zero _
  | n + 1, X, hX => by
    rw [Nat.pow_succ] at hX
    have ih := bk_sh hkq hk hc h n (X / 256) (by omega)
    have hb : X % 256 < 256 := Nat.mod_lt _ (by decide)
    have ht : X / 256 % k < k := Nat.mod_lt _ hk
    have e1 : X / k = X % 256 / k + q * (X / 256) := by
      have e0 : X = X % 256 + k * (q * (X / 256)) := by
        rw [← Nat.mul_assoc, hkq]
        omega
      conv => lhs; rw [e0]
      rw [Nat.add_mul_div_left _ _ hk]
    have e2 : q * (X / 256) = q * (X / 256 % k) + 256 * (X / 256 / k) := by
      conv => lhs; rw [← Nat.mod_add_div (X / 256) k]
      rw [Nat.mul_add, ← Nat.mul_assoc, Nat.mul_comm q k, hkq]
    have hlt : X % 256 / k + q * (X / 256 % k) < 256 := by
      have a1 : X % 256 / k < q := (Nat.div_lt_iff_lt_mul hk).mpr (by rw [Nat.mul_comm, hkq]; exact hb)
      have a2 : q * (X / 256 % k) + q ≤ q * k := by
        rw [← Nat.mul_succ]
        exact Nat.mul_le_mul_left q ht
      rw [Nat.mul_comm q k, hkq] at a2
      omega
    show X / k &&& (c + 256 * bk c n) = (X % 256 / k &&& c) + 256 * bm (fun b => b / k &&& c) n (X / 256)
    rw [e1, e2, ← Nat.add_assoc, bb_and hlt hc, h _ hb _ ht, ih]
theorem bk_and {c : Nat} (hc : c < 256) : ∀ n X, X < 256 ^ n → X &&& bk c n = bm (fun b => b &&& c) n X
  | 0, X, hX => Nat.and_zero _
  | n + 1, X, hX => by
    rw [Nat.pow_succ] at hX
    have ih := bk_and hc n (X / 256) (by omega)
    have e : X = X % 256 + 256 * (X / 256) := by omega
    show X &&& (c + 256 * bk c n) = (X % 256 &&& c) + 256 * bm (fun b => b &&& c) n (X / 256)
    conv => lhs; rw [e]
    rw [bb_and (Nat.mod_lt _ (by decide)) hc, ih]
theorem bm_nib {f : Nat → Nat} (hf : ∀ b, b < 256 → f b % 16 ≤ 4 ∧ f b / 16 ≤ 4) : ∀ n X, (bm f n X + bm f n X / 16) &&& bk 15 n = bm (fun b => f b % 16 + f b / 16) n X ∧ bm f n X % 16 ≤ 4
  | 0, X => ⟨by show ((0 + 0 / 16 : Nat) &&& 0) = 0; rfl, Nat.zero_le _⟩
  | n + 1, X => by
    obtain ⟨ih, h4⟩ := bm_nib hf n (X / 256)
    have hb := hf (X % 256) (Nat.mod_lt _ (by decide))
    show ((f (X % 256) + 256 * bm f n (X / 256)) + (f (X % 256) + 256 * bm f n (X / 256)) / 16) &&& (15 + 256 * bk 15 n) = (f (X % 256) % 16 + f (X % 256) / 16) + 256 * bm (fun b => f b % 16 + f b / 16) n (X / 256) ∧ (f (X % 256) + 256 * bm f n (X / 256)) % 16 ≤ 4
    generalize bm f n (X / 256) = B at ih h4 ⊢
    generalize f (X % 256) = b at hb ⊢
    refine ⟨?_, by omega⟩
    rw [show (b + 256 * B) + (b + 256 * B) / 16 = (b + b / 16 + 16 * (B % 16)) + 256 * (B + B / 16) by omega, bb_and (by omega) (by decide), ih]
    have e : (b + b / 16 + 16 * (B % 16)) &&& (2 ^ 4 - 1) = (b + b / 16 + 16 * (B % 16)) % 2 ^ 4 := Nat.and_two_pow_sub_one_eq_mod _ 4
    have e : (b + b / 16 + 16 * (B % 16)) &&& 15 = (b + b / 16 + 16 * (B % 16)) % 16 := e
    rw [e]
    omega
/-! so many bits -/
def pcN : Nat → Nat → Nat
  | 0, _ => 0
  | f + 1, X => X % 2 + pcN f (X / 2)
def bf1 (b : Nat) : Nat := b - (b / 2 &&& 85)
def bf2 (b : Nat) : Nat := (b &&& 51) + (b / 4 &&& 51)
def bf3 (b : Nat) : Nat := b % 16 + b / 16
theorem bf_lt : ∀ b, b < 256 → bf1 b < 256 ∧ (bf2 (bf1 b) % 16 ≤ 4 ∧ bf2 (bf1 b) / 16 ≤ 4) ∧ bf3 (bf2 (bf1 b)) = pcN 8 b ∧ b / 2 &&& 85 ≤ b := by decide +kernel
theorem pcN_8 (f X : Nat) : pcN (f + 8) X = pcN 8 (X % 256) + pcN f (X / 256) := by
  have e : X / 2 / 2 / 2 / 2 / 2 / 2 / 2 / 2 = X / 256 := by omega
  simp only [pcN]
  rw [e]
  omega
theorem pc_le {b : Nat} (h : b < 256) : pcN 8 b ≤ 8 := by
  have : ∀ b, b < 256 → pcN 8 b ≤ 8 := by decide +kernel
  exact this b h
theorem pc_q {a b c d R : Nat} (h0 : a < 256) (h1 : b < 256) (h2 : c < 256) (h3 : d < 256) : (a + 256 * (b + 256 * (c + 256 * (d + 256 * R)))) / 4294967296 = R := by omega
theorem pc_r {a b c d : Nat} : (a + 256 * b + (c + 256 * d)) % 128 = (a + c) % 128 := by omega
theorem pc_sum {Z : Nat} (X : Nat) (hZ : Z = bm (pcN 8) 8 X) : ((Z + Z / 256 + (Z + Z / 256) / 65536) + ((Z + Z / 256) + (Z + Z / 256) / 65536) / 4294967296) % 128 = pcN 64 X ∧ Z < 2 ^ 60 := by
  have e : pcN 64 X = pcN 8 (X % 256) + (pcN 8 (X / 256 % 256) + (pcN 8 (X / 256 / 256 % 256) + (pcN 8 (X / 256 / 256 / 256 % 256) + (pcN 8 (X / 256 / 256 / 256 / 256 % 256) + (pcN 8 (X / 256 / 256 / 256 / 256 / 256 % 256) + (pcN 8 (X / 256 / 256 / 256 / 256 / 256 / 256 % 256) + (pcN 8 (X / 256 / 256 / 256 / 256 / 256 / 256 / 256 % 256) + 0))))))) := by
    rw [pcN_8 56, pcN_8 48, pcN_8 40, pcN_8 32, pcN_8 24, pcN_8 16, pcN_8 8, pcN_8 0 (X / 256 / 256 / 256 / 256 / 256 / 256 / 256)]
    rfl
  have z : Z = pcN 8 (X % 256) + 256 * (pcN 8 (X / 256 % 256) + 256 * (pcN 8 (X / 256 / 256 % 256) + 256 * (pcN 8 (X / 256 / 256 / 256 % 256) + 256 * (pcN 8 (X / 256 / 256 / 256 / 256 % 256) + 256 * (pcN 8 (X / 256 / 256 / 256 / 256 / 256 % 256) + 256 * (pcN 8 (X / 256 / 256 / 256 / 256 / 256 / 256 % 256) + 256 * (pcN 8 (X / 256 / 256 / 256 / 256 / 256 / 256 / 256 % 256) + 256 * 0))))))) := hZ
  rw [e]
  have c0 := pc_le (b := X % 256) (Nat.mod_lt _ (by decide))
  have c1 := pc_le (b := X / 256 % 256) (Nat.mod_lt _ (by decide))
  have c2 := pc_le (b := X / 256 / 256 % 256) (Nat.mod_lt _ (by decide))
  have c3 := pc_le (b := X / 256 / 256 / 256 % 256) (Nat.mod_lt _ (by decide))
  have c4 := pc_le (b := X / 256 / 256 / 256 / 256 % 256) (Nat.mod_lt _ (by decide))
  have c5 := pc_le (b := X / 256 / 256 / 256 / 256 / 256 % 256) (Nat.mod_lt _ (by decide))
  have c6 := pc_le (b := X / 256 / 256 / 256 / 256 / 256 / 256 % 256) (Nat.mod_lt _ (by decide))
  have c7 := pc_le (b := X / 256 / 256 / 256 / 256 / 256 / 256 / 256 % 256) (Nat.mod_lt _ (by decide))
  clear e hZ
  generalize pcN 8 (X % 256) = d0 at *
  generalize pcN 8 (X / 256 % 256) = d1 at *
  generalize pcN 8 (X / 256 / 256 % 256) = d2 at *
  generalize pcN 8 (X / 256 / 256 / 256 % 256) = d3 at *
  generalize pcN 8 (X / 256 / 256 / 256 / 256 % 256) = d4 at *
  generalize pcN 8 (X / 256 / 256 / 256 / 256 / 256 % 256) = d5 at *
  generalize pcN 8 (X / 256 / 256 / 256 / 256 / 256 / 256 % 256) = d6 at *
  generalize pcN 8 (X / 256 / 256 / 256 / 256 / 256 / 256 / 256 % 256) = d7 at *
  have q1 : Z / 256 = d1 + 256 * (d2 + 256 * (d3 + 256 * (d4 + 256 * (d5 + 256 * (d6 + 256 * d7))))) := by omega
  have s1 : Z + Z / 256 = (d0 + d1) + 256 * ((d1 + d2) + 256 * ((d2 + d3) + 256 * ((d3 + d4) + 256 * ((d4 + d5) + 256 * ((d5 + d6) + 256 * ((d6 + d7) + 256 * d7)))))) := by omega
  have hz : Z < 2 ^ 60 := by omega
  refine ⟨?_, hz⟩
  rw [s1]
  clear s1 q1 hz z
  have q2 : ((d0 + d1) + 256 * ((d1 + d2) + 256 * ((d2 + d3) + 256 * ((d3 + d4) + 256 * ((d4 + d5) + 256 * ((d5 + d6) + 256 * ((d6 + d7) + 256 * d7))))))) / 65536 = (d2 + d3) + 256 * ((d3 + d4) + 256 * ((d4 + d5) + 256 * ((d5 + d6) + 256 * ((d6 + d7) + 256 * d7)))) := by omega
  rw [q2]
  clear q2
  have s2 : ((d0 + d1) + 256 * ((d1 + d2) + 256 * ((d2 + d3) + 256 * ((d3 + d4) + 256 * ((d4 + d5) + 256 * ((d5 + d6) + 256 * ((d6 + d7) + 256 * d7))))))) + ((d2 + d3) + 256 * ((d3 + d4) + 256 * ((d4 + d5) + 256 * ((d5 + d6) + 256 * ((d6 + d7) + 256 * d7))))) = (d0 + d1 + d2 + d3) + 256 * ((d1 + d2 + d3 + d4) + 256 * ((d2 + d3 + d4 + d5) + 256 * ((d3 + d4 + d5 + d6) + 256 * ((d4 + d5 + d6 + d7) + 256 * ((d5 + d6 + d7) + 256 * ((d6 + d7) + 256 * d7)))))) := by omega
  rw [s2]
  clear s2
  rw [pc_q (by omega) (by omega) (by omega) (by omega), pc_r]
  omega
/-- the machine's way to count them -/
def l_f1 (x : Int) : Int := z_lsub x (z_land (z_lush x 1) 6148914691236517205)
def l_f2 (x : Int) : Int := z_ladd (z_land x 3689348814741910323) (z_land (z_lush x 2) 3689348814741910323)
def l_f3 (x : Int) : Int := z_land (z_ladd x (z_lush x 4)) 1085102592571150095
def l_f4 (x : Int) : Int := z_ladd x (z_lush x 8)
def l_f5 (x : Int) : Int := z_ladd x (z_lush x 16)
def l_f6 (x : Int) : Int := z_ladd x (z_lush x 32)
theorem l_masks : lv 6148914691236517205 = bk 85 8 ∧ lv 3689348814741910323 = bk 51 8 ∧ lv 1085102592571150095 = bk 15 8 := by decide +kernel
theorem l_f1_ok (x : Int) : lv (l_f1 x) = bm bf1 8 (lv x) := by
  have hx : lv x < 256 ^ 8 := l6_lt x
  have e := bk_sh (k := 2) (q := 128) (c := 85) rfl (by decide) (by decide) (by decide +kernel) 8 (lv x) hx
  obtain ⟨h1, h2⟩ := bm_sub (g := fun b => b / 2 &&& 85) (fun b hb => (bf_lt b hb).2.2.2) 8 (lv x) hx
  unfold l_f1
  rw [l6_sub, l6_and, (l6_ush x).1, l_masks.1, e, show 2 ^ 64 - bm (fun b => b / 2 &&& 85) 8 (lv x) + lv x = 2 ^ 64 + (lv x - bm (fun b => b / 2 &&& 85) 8 (lv x)) by omega, h2, Nat.add_mod_left]
  exact Nat.mod_eq_of_lt (bm_lt (g := bf1) (fun b hb => (bf_lt b hb).1) 8 (lv x))
theorem l_f2_ok {x : Int} {g : Nat → Nat} {X : Nat} (hx : lv x = bm g 8 X) (hg : ∀ b, b < 256 → g b < 256) (hs : ∀ b, b < 256 → bf2 (g b) < 256) : lv (l_f2 x) = bm (fun b => bf2 (g b)) 8 X := by
  have hX : bm g 8 X < 256 ^ 8 := bm_lt hg 8 X
  have e1 := bk_and (c := 51) (by decide) 8 _ hX
  have e2 := bk_sh (k := 4) (q := 64) (c := 51) rfl (by decide) (by decide) (by decide +kernel) 8 _ hX
  have h2 : bm (fun b => bf2 (g b)) 8 X < 2 ^ 64 := bm_lt hs 8 X
  unfold l_f2
  rw [l6_add, l6_and, l6_and, (l6_ush x).2.1, l_masks.2.1, hx, e1, e2, bm_bm hg, bm_bm hg, bm_add]
  exact Nat.mod_eq_of_lt h2
theorem l_f3_ok {x : Int} {g : Nat → Nat} {X : Nat} (hx : lv x = bm g 8 X) (hg : ∀ b, b < 256 → g b % 16 ≤ 4 ∧ g b / 16 ≤ 4) : lv (l_f3 x) = bm (fun b => bf3 (g b)) 8 X := by
  have hb : bm (fun b => g b % 69) 8 X = bm g 8 X := bm_cg (fun b hb => by have := hg b hb; omega) 8 X
  have hX : bm g 8 X < 2 ^ 63 := by
    have h := bm_lt (g := g) (fun b hb => by have := hg b hb; omega) 7 (X / 256)
    have h7 : ∀ n Y, bm g n Y ≤ 68 * bk 1 n := fun n => by
      induction n with
      | zero => intro Y; exact Nat.le_refl _
      | succ n ih =>
        intro Y
        have h1 := hg (Y % 256) (Nat.mod_lt _ (by decide))
        have h2 := ih (Y / 256)
        show g (Y % 256) + 256 * bm g n (Y / 256) ≤ 68 * (1 + 256 * bk 1 n)
        omega
    have h8 := h7 8 X
    have h9 : 68 * bk 1 8 < 2 ^ 63 := by decide +kernel
    omega
  have e := (bm_nib hg 8 X).1
  unfold l_f3
  rw [l6_and, l6_add, (l6_ush x).2.2.1, l_masks.2.2, hx, Nat.mod_eq_of_lt (show bm g 8 X + bm g 8 X / 16 < 2 ^ 64 by omega), e]
  rfl
theorem l_pc (x : Int) : z_and (z_l2i (l_f6 (l_f5 (l_f4 (l_f3 (l_f2 (l_f1 x))))))) 127 = ((pcN 64 (lv x) : Nat) : Int) := by
  have e1 := l_f1_ok x
  have e2 := l_f2_ok e1 (fun b hb => (bf_lt b hb).1) (fun b hb => by have := (bf_lt b hb).2.1; omega)
  have e3 := l_f3_ok e2 (fun b hb => (bf_lt b hb).2.1)
  have e3 : lv (l_f3 (l_f2 (l_f1 x))) = bm (pcN 8) 8 (lv x) := e3.trans (bm_cg (fun b hb => (bf_lt b hb).2.2.1) 8 (lv x))
  obtain ⟨p1, p2⟩ := pc_sum (lv x) e3
  generalize l_f3 (l_f2 (l_f1 x)) = y at e3 p1 p2 ⊢
  have a4 : lv (l_f4 y) = lv y + lv y / 256 := by
    unfold l_f4
    rw [l6_add, (l6_ush y).2.2.2.1]
    exact Nat.mod_eq_of_lt (by omega)
  have a5 : lv (l_f5 (l_f4 y)) = lv y + lv y / 256 + (lv y + lv y / 256) / 65536 := by
    unfold l_f5
    rw [l6_add, (l6_ush (l_f4 y)).2.2.2.2.1, a4]
    exact Nat.mod_eq_of_lt (by omega)
  have a6 : lv (l_f6 (l_f5 (l_f4 y))) = (lv y + lv y / 256 + (lv y + lv y / 256) / 65536) + (lv y + lv y / 256 + (lv y + lv y / 256) / 65536) / 4294967296 := by
    unfold l_f6
    rw [l6_add, (l6_ush (l_f5 (l_f4 y))).2.2.2.2.2, a5]
    exact Nat.mod_eq_of_lt (by omega)
  rw [l6_127, a6, p1]
/-- one bit more -/
theorem pcN_or : ∀ (f X k : Nat), k < f → pcN f (X ||| 2 ^ k) = pcN f X + (if X.testBit k = true then 0 else 1)
  | 0, _, _, h => absurd h (Nat.not_lt_zero _)
  | f + 1, X, 0, _ => by
    have h1 : (X ||| 2 ^ 0) % 2 = 1 := Nat.or_mod_two_eq_one.mpr (Or.inr rfl)
    have h2 : (X ||| 2 ^ 0) / 2 = X / 2 := by
      rw [Nat.or_div_two, show (2 ^ 0 / 2 : Nat) = 0 from rfl, Nat.or_zero]
    unfold pcN
    rw [h1, h2, Nat.testBit_zero]
    by_cases c : X % 2 = 1
    · rw [if_pos (decide_eq_true c)]
      omega
    · rw [if_neg (by rw [decide_eq_false c]; decide)]
      omega
  | f + 1, X, k + 1, h => by
    have h1 : (X ||| 2 ^ (k + 1)) % 2 = X % 2 := by
      have a : (X ||| 2 ^ (k + 1)) % 2 = 1 ↔ X % 2 = 1 ∨ 2 ^ (k + 1) % 2 = 1 := Nat.or_mod_two_eq_one
      have b : 2 ^ (k + 1) % 2 = 0 := by
        rw [Nat.pow_succ]
        omega
      omega
    have h2 : (X ||| 2 ^ (k + 1)) / 2 = X / 2 ||| 2 ^ k := by
      rw [Nat.or_div_two, show 2 ^ (k + 1) / 2 = 2 ^ k by rw [Nat.pow_succ]; omega]
    unfold pcN
    rw [h1, h2, pcN_or f (X / 2) k (by omega), Nat.testBit_add_one, Nat.add_assoc]
theorem bit_or (X : Nat) {k v : Nat} : (X ||| 2 ^ k).testBit v = (X.testBit v || decide (k = v)) := by
  rw [Nat.testBit_or, Nat.testBit_two_pow]
