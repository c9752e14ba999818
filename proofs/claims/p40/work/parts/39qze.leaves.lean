/-! LEAVE: in how many of ten to the n cases it stands -/
def lw (x : Int) : Int := (Int64.ofInt x).toInt
theorem lw_add (x y : Int) : lw (lw x + y) = lw (x + y) := by
  unfold lw
  rw [Int64.ofInt_add, Int64.ofInt_toInt, ← Int64.ofInt_add]
theorem lw_of {x : Int} (h1 : 0 ≤ x) (h2 : x ≤ 1000000000000) : lw x = x := Int64.toInt_ofInt_of_le (by omega) (by omega)
theorem lw_lw (x : Int) : lw (lw x) = lw x := by
  have := lw_add x 0
  rw [Int.add_zero, Int.add_zero] at this
  exact this
theorem z_ladd_lw (x y : Int) : z_ladd x y = lw (x + y) := by
  unfold z_ladd lw
  rw [Int64.ofInt_add]
theorem z_lmul_lw (x y : Int) : z_lmul x y = lw (x * y) := by
  unfold z_lmul lw
  rw [Int64.ofInt_mul]
theorem z_lcmp_lt {x y : Int} (hx : 0 ≤ x ∧ x ≤ 1000000000000) (hy : 0 ≤ y ∧ y ≤ 1000000000000) : z_lcmp x y < 0 ↔ x < y := by
  have ex : (Int64.ofInt x).toInt = x := lw_of hx.1 hx.2
  have ey : (Int64.ofInt y).toInt = y := lw_of hy.1 hy.2
  unfold z_lcmp lg_cmp
  by_cases h1 : Int64.ofInt x > Int64.ofInt y
  · have h1' : (Int64.ofInt y).toInt < (Int64.ofInt x).toInt := Int64.lt_iff_toInt_lt.mp h1
    rw [if_pos h1]
    rw [ex, ey] at h1'
    exact ⟨fun z => absurd z (by decide), fun z => by omega⟩
  · have h1' : ¬ (Int64.ofInt y).toInt < (Int64.ofInt x).toInt := fun z => h1 (Int64.lt_iff_toInt_lt.mpr z)
    rw [if_neg h1]
    rw [ex, ey] at h1'
    by_cases h2 : Int64.ofInt x = Int64.ofInt y
    · rw [if_pos h2]
      have : x = y := by rw [← ex, ← ey, h2]
      exact ⟨fun z => absurd z (by decide), fun z => by omega⟩
    · rw [if_neg h2]
      have : ¬ x = y := fun z => h2 (by rw [z])
      exact ⟨fun _ => by omega, fun _ => by decide⟩
theorem z_lcmp_0 {x : Int} (hx : 0 ≤ x ∧ x ≤ 1000000000000) : z_lcmp x 0 = 0 ↔ x = 0 := by
  have ex : (Int64.ofInt x).toInt = x := lw_of hx.1 hx.2
  have e0 : (0 : Int32).toInt = 0 := by decide
  unfold z_lcmp
  constructor
  · intro z
    have z' : lg_cmp (Int64.ofInt x) (Int64.ofInt 0) = 0 := Int32.toInt_inj.mp (z.trans e0.symm)
    have := congrArg Int64.toInt (lg_cmp_0.mp z')
    rw [ex] at this
    exact this
  · intro z
    rw [z, lg_cmp_0.mpr rfl]
    exact e0
/-! sums -/
def tw_sm (G : Nat → Int) : Nat → Int
  | 0 => 0
  | x + 1 => tw_sm G x + G x
theorem tw_sm_cg {G G' : Nat → Int} : ∀ x, (∀ q, q < x → G q = G' q) → tw_sm G x = tw_sm G' x
  | 0, _ => rfl
  | x + 1, h => by
    unfold tw_sm
    rw [tw_sm_cg x (fun q hq => h q (by omega)), h x (by omega)]
theorem tw_sm_2 (G : Nat → Int) : ∀ x, tw_sm G (2 * x) = tw_sm (fun q => G (2 * q) + G (2 * q + 1)) x
  | 0 => rfl
  | x + 1 => by
    show tw_sm G (2 * x) + G (2 * x) + G (2 * x + 1) = tw_sm (fun q => G (2 * q) + G (2 * q + 1)) x + (G (2 * x) + G (2 * x + 1))
    rw [tw_sm_2 G x, Int.add_assoc]
theorem tw_sm_add (G G' : Nat → Int) : ∀ x, tw_sm (fun q => G q + G' q) x = tw_sm G x + tw_sm G' x
  | 0 => rfl
  | x + 1 => by
    have := tw_sm_add G G' x
    unfold tw_sm
    omega
theorem tw_sm_mul (c : Int) (G : Nat → Int) : ∀ x, tw_sm (fun q => c * G q) x = c * tw_sm G x
  | 0 => (Int.mul_zero c).symm
  | x + 1 => by
    show tw_sm (fun q => c * G q) x + c * G x = c * (tw_sm G x + G x)
    rw [tw_sm_mul c G x, Int.mul_add]
theorem tw_sm_if (b : Bool) (G : Nat → Int) : ∀ x, tw_sm (fun q => if b = true then G q else 0) x = if b = true then tw_sm G x else 0
  | 0 => by
    cases b
    · exact (if_neg Bool.false_ne_true).symm
    · exact (if_pos rfl).symm
  | x + 1 => by
    have := tw_sm_if b G x
    cases b
    · rw [if_neg Bool.false_ne_true] at this ⊢
      show tw_sm _ x + (if false = true then G x else 0) = 0
      rw [this, if_neg Bool.false_ne_true]
      rfl
    · rw [if_pos rfl] at this ⊢
      show tw_sm _ x + (if true = true then G x else 0) = tw_sm G x + G x
      rw [this, if_pos rfl]
/-! ten to the k -/
def tw_e : Nat → Int
  | 0 => 1
  | k + 1 => 10 * tw_e k
theorem tw_e_b {k : Nat} (hk : k ≤ 8) : 1 ≤ tw_e k ∧ tw_e k ≤ 100000000 := by
  have : ∀ k, k < 9 → 1 ≤ tw_e k ∧ tw_e k ≤ 100000000 := by decide +kernel
  exact this k (by omega)
def tw_pw (v : Int) : Nat → Int
  | 0 => 1
  | k + 1 => v * tw_pw v k
theorem tw_pw_e (k : Nat) : tw_pw 10 k = tw_e k := by
  induction k with
  | zero => rfl
  | succ k ih => show 10 * tw_pw 10 k = 10 * tw_e k; rw [ih]
theorem tw_pw_b {v : Int} (h0 : 0 ≤ v) (h1 : v ≤ 10) : ∀ k, 0 ≤ tw_pw v k ∧ tw_pw v k ≤ tw_e k
  | 0 => ⟨by show (0 : Int) ≤ 1; decide, by show (1 : Int) ≤ tw_e 0; decide⟩
  | k + 1 => by
    obtain ⟨a, b⟩ := tw_pw_b h0 h1 k
    refine ⟨Int.mul_nonneg h0 a, ?_⟩
    show v * tw_pw v k ≤ 10 * tw_e k
    exact Int.mul_le_mul h1 b a (by decide)
/-! the tree -/
section
variable (St : (Nat → Int) → Int → (Nat → Int)) (ok : (Nat → Int) → Bool) (p fr : Int)
def tw_th : Nat → (Nat → Int) → Int
  | 0, _ => 1
  | j + 1, B => p * (if ok (St B 0) = true then tw_th j (St B 0) else 0) + (10 - p) * (if ok (St B fr) = true then tw_th j (St B fr) else 0)
def tw_bit (k path : Nat) : Bool := decide (path / 2 ^ k % 2 = 1)
def tw_nx (k path : Nat) (B : Nat → Int) : Nat → Int := St B (if tw_bit k path = true then 0 else fr)
def tw_is : Nat → Nat → Nat → (Nat → Int) → Bool
  | 0, _, _, _ => true
  | f + 1, k, path, B => ok (tw_nx St fr k path B) && tw_is f (k + 1) path (tw_nx St fr k path B)
def tw_pr : Nat → Nat → Nat → Int
  | 0, _, _ => 1
  | f + 1, k, path => (if tw_bit k path = true then p else 10 - p) * tw_pr f (k + 1) path
def tw_g (f k path : Nat) (B : Nat → Int) : Int := if tw_is St ok fr f k path B = true then tw_pr p f k path else 0
theorem tw_bit_s (k q b : Nat) (hb : b < 2) : tw_bit (k + 1) (2 * q + b) = tw_bit k q := by
  unfold tw_bit
  rw [Nat.pow_succ, Nat.mul_comm (2 ^ k) 2, ← Nat.div_div_eq_div_mul, show (2 * q + b) / 2 = q by omega]
theorem tw_is_s (q b : Nat) (hb : b < 2) : ∀ (f k : Nat) (B : Nat → Int), tw_is St ok fr f (k + 1) (2 * q + b) B = tw_is St ok fr f k q B
  | 0, _, _ => rfl
  | f + 1, k, B => by
    have e : tw_nx St fr (k + 1) (2 * q + b) B = tw_nx St fr k q B := by
      unfold tw_nx
      rw [tw_bit_s k q b hb]
    unfold tw_is
    rw [e, tw_is_s q b hb f (k + 1)]
theorem tw_pr_s (q b : Nat) (hb : b < 2) : ∀ (f k : Nat), tw_pr p f (k + 1) (2 * q + b) = tw_pr p f k q
  | 0, _ => rfl
  | f + 1, k => by
    unfold tw_pr
    rw [tw_bit_s k q b hb, tw_pr_s q b hb f (k + 1)]
theorem tw_g_s (f q b : Nat) (hb : b < 2) (B : Nat → Int) : tw_g St ok p fr (f + 1) 0 (2 * q + b) B = (if b = 1 then p else 10 - p) * (if ok (St B (if b = 1 then 0 else fr)) = true then tw_g St ok p fr f 0 q (St B (if b = 1 then 0 else fr)) else 0) := by
  have e0 : tw_bit 0 (2 * q + b) = decide (b = 1) := by
    unfold tw_bit
    rw [Nat.pow_zero, Nat.div_one]
    exact decide_eq_decide.mpr ⟨fun z => by omega, fun z => by omega⟩
  have en : tw_nx St fr 0 (2 * q + b) B = St B (if b = 1 then 0 else fr) := by
    unfold tw_nx
    rw [e0]
    by_cases c : b = 1
    · rw [if_pos (decide_eq_true c), if_pos c]
    · rw [if_neg (by rw [decide_eq_false c]; exact Bool.false_ne_true), if_neg c]
  have ep : (if tw_bit 0 (2 * q + b) = true then p else 10 - p) = if b = 1 then p else 10 - p := by
    rw [e0]
    by_cases c : b = 1
    · rw [if_pos (decide_eq_true c), if_pos c]
    · rw [if_neg (by rw [decide_eq_false c]; exact Bool.false_ne_true), if_neg c]
  unfold tw_g
  show (if (ok (tw_nx St fr 0 (2 * q + b) B) && tw_is St ok fr f (0 + 1) (2 * q + b) (tw_nx St fr 0 (2 * q + b) B)) = true then (if tw_bit 0 (2 * q + b) = true then p else 10 - p) * tw_pr p f (0 + 1) (2 * q + b) else 0) = _
  rw [en, ep, tw_is_s St ok fr q b hb, tw_pr_s p q b hb]
  generalize (if b = 1 then p else 10 - p) = c
  generalize St B (if b = 1 then 0 else fr) = B'
  cases h1 : ok B' <;> cases h2 : tw_is St ok fr f 0 q B' <;> simp
theorem tw_sum : ∀ (f : Nat) (B : Nat → Int), tw_sm (fun q => tw_g St ok p fr f 0 q B) (2 ^ f) = tw_th St ok p fr f B
  | 0, B => by
    show 0 + tw_g St ok p fr 0 0 0 B = 1
    unfold tw_g
    rw [if_pos (show tw_is St ok fr 0 0 0 B = true from rfl)]
    rfl
  | f + 1, B => by
    have h0 := fun q => tw_g_s St ok p fr f q 0 (by decide) B
    have h1 := fun q => tw_g_s St ok p fr f q 1 (by decide) B
    have h0' : ∀ q, tw_g St ok p fr (f + 1) 0 (2 * q) B = (10 - p) * (if ok (St B fr) = true then tw_g St ok p fr f 0 q (St B fr) else 0) := h0
    have h1' : ∀ q, tw_g St ok p fr (f + 1) 0 (2 * q + 1) B = p * (if ok (St B 0) = true then tw_g St ok p fr f 0 q (St B 0) else 0) := h1
    rw [Nat.pow_succ, Nat.mul_comm, tw_sm_2]
    refine (tw_sm_cg (G' := fun q => (10 - p) * (if ok (St B fr) = true then tw_g St ok p fr f 0 q (St B fr) else 0) + p * (if ok (St B 0) = true then tw_g St ok p fr f 0 q (St B 0) else 0)) (2 ^ f) (fun q _ => ?_)).trans ?_
    · show tw_g St ok p fr (f + 1) 0 (2 * q) B + tw_g St ok p fr (f + 1) 0 (2 * q + 1) B = _
      rw [h0', h1']
    rw [tw_sm_add, tw_sm_mul, tw_sm_mul, tw_sm_if, tw_sm_if, tw_sum f (St B fr), tw_sum f (St B 0)]
    exact Int.add_comm _ _
theorem tw_th_b (hp : 0 ≤ p ∧ p ≤ 10) : ∀ (j : Nat) (B : Nat → Int), 0 ≤ tw_th St ok p fr j B ∧ tw_th St ok p fr j B ≤ tw_e j
  | 0, _ => ⟨by show (0 : Int) ≤ 1; decide, by show (1 : Int) ≤ tw_e 0; decide⟩
  | j + 1, B => by
    have h1 := tw_th_b hp j (St B 0)
    have h2 := tw_th_b hp j (St B fr)
    have k1 : 0 ≤ (if ok (St B 0) = true then tw_th St ok p fr j (St B 0) else 0) ∧ (if ok (St B 0) = true then tw_th St ok p fr j (St B 0) else 0) ≤ tw_e j := by
      split
      · exact h1
      · exact ⟨by decide, by omega⟩
    have k2 : 0 ≤ (if ok (St B fr) = true then tw_th St ok p fr j (St B fr) else 0) ∧ (if ok (St B fr) = true then tw_th St ok p fr j (St B fr) else 0) ≤ tw_e j := by
      split
      · exact h2
      · exact ⟨by decide, by omega⟩
    unfold tw_th
    show _ ∧ _ ≤ 10 * tw_e j
    generalize (if ok (St B 0) = true then tw_th St ok p fr j (St B 0) else 0) = a at k1 ⊢
    generalize (if ok (St B fr) = true then tw_th St ok p fr j (St B fr) else 0) = b at k2 ⊢
    generalize tw_e j = e at k1 k2 ⊢
    have a1 : p * a ≤ p * e := Int.mul_le_mul_of_nonneg_left k1.2 hp.1
    have a2 : (10 - p) * b ≤ (10 - p) * e := Int.mul_le_mul_of_nonneg_left k2.2 (by omega)
    have a3 : 0 ≤ p * a := Int.mul_nonneg hp.1 k1.1
    have a4 : 0 ≤ (10 - p) * b := Int.mul_nonneg (by omega) k2.1
    have a5 : (10 - p) * e = 10 * e - p * e := Int.sub_mul _ _ _
    omega
/-! the product, by how many bits there are -/
def tw_ct : Nat → Nat → Nat → Nat
  | 0, _, _ => 0
  | f + 1, k, path => (if tw_bit k path = true then 1 else 0) + tw_ct f (k + 1) path
theorem tw_ct_le : ∀ (f k path : Nat), tw_ct f k path ≤ f
  | 0, _, _ => Nat.le_refl _
  | f + 1, k, path => by
    have := tw_ct_le f (k + 1) path
    unfold tw_ct
    split <;> omega
theorem tw_pr_ct : ∀ (f k path : Nat), tw_pr p f k path = tw_pw p (tw_ct f k path) * tw_pw (10 - p) (f - tw_ct f k path)
  | 0, _, _ => rfl
  | f + 1, k, path => by
    have h := tw_ct_le f (k + 1) path
    unfold tw_pr tw_ct
    rw [tw_pr_ct f (k + 1) path]
    by_cases c : tw_bit k path = true
    · rw [if_pos c, if_pos c, show f + 1 - (1 + tw_ct f (k + 1) path) = f - tw_ct f (k + 1) path by omega, Nat.add_comm 1]
      show _ = p * tw_pw p (tw_ct f (k + 1) path) * _
      rw [Int.mul_assoc]
    · rw [if_neg c, if_neg c, Nat.zero_add, show f + 1 - tw_ct f (k + 1) path = (f - tw_ct f (k + 1) path) + 1 by omega]
      show _ = _ * ((10 - p) * tw_pw (10 - p) (f - tw_ct f (k + 1) path))
      rw [← Int.mul_assoc, ← Int.mul_assoc, Int.mul_comm (10 - p) (tw_pw p _)]
end
theorem tw_bits : ∀ path, path < 256 → ∀ k, k < 8 → (z_and (z_shr ((path : Nat) : Int) ((k : Nat) : Int)) 1 = 1 ↔ tw_bit k path = true) := by decide +kernel
theorem tw_pcs : ∀ n, n < 9 → ∀ path, path < 2 ^ n → hr_pc ((path : Nat) : Int) = ((tw_ct n 0 path : Nat) : Int) := by decide +kernel
/-! the stretches, for each k at once -/
theorem tw_gtU {k : Nat} (hk : k < 8) (m : z_M) (f wt : Int) : z_R 141 (m, 0, [(2, 193), (0, (k : Int)), (0, f), (1, wt), (9, 0), (9, 0)], []) = if z_lcmp wt 0 = 0 then some (m, none) else (z_R 61 (m, 0, [(2, ((196 + 6 * (k + 1) : Nat) : Int)), (2, ((196 + 6 * k : Nat) : Int))], [])).bind fun qq => z_R 141 (qq.1, 38, [(2, 193), (0, (k : Int)), (0, f), (1, wt), (9, 0), (2, ((196 + 6 * (k + 1) : Nat) : Int))], qq.2.toList ++ []) := by
  rcases (show k = 0 ∨ k = 1 ∨ k = 2 ∨ k = 3 ∨ k = 4 ∨ k = 5 ∨ k = 6 ∨ k = 7 by omega) with rfl | rfl | rfl | rfl | rfl | rfl | rfl | rfl
  · exact tw_gt0_0 m f wt
  · exact tw_gt1_0 m f wt
  · exact tw_gt2_0 m f wt
  · exact tw_gt3_0 m f wt
  · exact tw_gt4_0 m f wt
  · exact tw_gt5_0 m f wt
  · exact tw_gt6_0 m f wt
  · exact tw_gt7_0 m f wt
theorem tw_gtU38 {k : Nat} (hk : k < 8) (m : z_M) (f wt : Int) : z_R 141 (m, 38, [(2, 193), (0, (k : Int)), (0, f), (1, wt), (9, 0), (2, ((196 + 6 * (k + 1) : Nat) : Int))], []) = (z_R 67 (z_up m (196 + 6 * (k + 1)) 8 f, 0, [(2, 24), (2, ((196 + 6 * (k + 1) : Nat) : Int)), (0, 1), (9, 0)], [])).bind fun qq => z_R 141 (qq.1, 54, [(2, 193), (0, (k : Int)), (0, f), (1, wt), (9, 0), (2, ((196 + 6 * (k + 1) : Nat) : Int))], qq.2.toList ++ []) := by
  rcases (show k = 0 ∨ k = 1 ∨ k = 2 ∨ k = 3 ∨ k = 4 ∨ k = 5 ∨ k = 6 ∨ k = 7 by omega) with rfl | rfl | rfl | rfl | rfl | rfl | rfl | rfl
  · exact tw_gt0_38 m _ f wt
  · exact tw_gt1_38 m _ f wt
  · exact tw_gt2_38 m _ f wt
  · exact tw_gt3_38 m _ f wt
  · exact tw_gt4_38 m _ f wt
  · exact tw_gt5_38 m _ f wt
  · exact tw_gt6_38 m _ f wt
  · exact tw_gt7_38 m _ f wt
theorem tw_gtU54 {k : Nat} (hk : k < 8) (m : z_M) (f wt : Int) : z_R 141 (m, 54, [(2, 193), (0, (k : Int)), (0, f), (1, wt), (9, 0), (2, ((196 + 6 * (k + 1) : Nat) : Int))], []) = if z_and (m 24 10) (m 193 7) = 0 then (z_R 140 (m, 0, [(2, 193), (0, z_add (k : Int) 1), (1, wt), (9, 0)], [])).bind fun qq => z_R 141 (qq.1, 77, [(2, 193), (0, (k : Int)), (0, f), (1, wt), (9, 0), (2, ((196 + 6 * (k + 1) : Nat) : Int))], qq.2.toList ++ []) else some (m, none) := by
  rcases (show k = 0 ∨ k = 1 ∨ k = 2 ∨ k = 3 ∨ k = 4 ∨ k = 5 ∨ k = 6 ∨ k = 7 by omega) with rfl | rfl | rfl | rfl | rfl | rfl | rfl | rfl
  · exact tw_gt0_54 m _ f wt
  · exact tw_gt1_54 m _ f wt
  · exact tw_gt2_54 m _ f wt
  · exact tw_gt3_54 m _ f wt
  · exact tw_gt4_54 m _ f wt
  · exact tw_gt5_54 m _ f wt
  · exact tw_gt6_54 m _ f wt
  · exact tw_gt7_54 m _ f wt
theorem tw_gtU77 {k : Nat} (hk : k < 8) (m : z_M) (f wt : Int) : z_R 141 (m, 77, [(2, 193), (0, (k : Int)), (0, f), (1, wt), (9, 0), (2, ((196 + 6 * (k + 1) : Nat) : Int))], []) = some (m, none) := by
  rcases (show k = 0 ∨ k = 1 ∨ k = 2 ∨ k = 3 ∨ k = 4 ∨ k = 5 ∨ k = 6 ∨ k = 7 by omega) with rfl | rfl | rfl | rfl | rfl | rfl | rfl | rfl
  · exact tw_gt0_77 m _ f wt
  · exact tw_gt1_77 m _ f wt
  · exact tw_gt2_77 m _ f wt
  · exact tw_gt3_77 m _ f wt
  · exact tw_gt4_77 m _ f wt
  · exact tw_gt5_77 m _ f wt
  · exact tw_gt6_77 m _ f wt
  · exact tw_gt7_77 m _ f wt
theorem tw_gfU {k : Nat} (hk : k < 9) (m : z_M) (wt : Int) : z_R 140 (m, 0, [(2, 193), (0, (k : Int)), (1, wt), (9, 0)], []) = if m 193 4 ≤ (k : Int) then some (z_up m 195 k (z_ladd (m 195 k) wt), none) else (z_R 141 (z_up m 195 k (z_ladd (m 195 k) wt), 0, [(2, 193), (0, (k : Int)), (0, 0), (1, z_lmul wt (z_i2l (m 193 5))), (9, 0), (9, 0)], [])).bind fun qq => z_R 140 (qq.1, 42, [(2, 193), (0, (k : Int)), (1, wt), (9, 0)], qq.2.toList ++ []) := by
  rcases (show k = 0 ∨ k = 1 ∨ k = 2 ∨ k = 3 ∨ k = 4 ∨ k = 5 ∨ k = 6 ∨ k = 7 ∨ k = 8 by omega) with rfl | rfl | rfl | rfl | rfl | rfl | rfl | rfl | rfl
  · exact tw_gf0_0 m wt
  · exact tw_gf1_0 m wt
  · exact tw_gf2_0 m wt
  · exact tw_gf3_0 m wt
  · exact tw_gf4_0 m wt
  · exact tw_gf5_0 m wt
  · exact tw_gf6_0 m wt
  · exact tw_gf7_0 m wt
  · exact tw_gf8_0 m wt
theorem tw_zst {k : Nat} (hk : k < 9) : z_st (196 + 6 * k) := by
  have : ∀ k, k < 9 → 196 + 6 * k ∈ z_stL := by decide
  exact ⟨this k hk, Or.inr (Or.inr (Or.inr (Or.inr (Or.inr (Or.inr (Or.inr (Or.inr (by omega))))))))⟩
def tw_St (w h n : Nat) (heat price : Int) (cs : List Int) (D : Nat → Int) (B : Nat → Int) (fr : Int) : Nat → Int := hr_A w h heat price (c_ml cs) (wmD D (B 35)) n (u_up B 36 fr)
def tw_ok (w h : Nat) (F : Int) (B : Nat → Int) : Bool := decide (z_and (s_G w h B) F = 0)
def tw_T (w h n : Nat) (heat price : Int) (cs : List Int) (D A : Nat → Int) (p : Int) : Nat → (Nat → Int) → Int := tw_th (tw_St w h n heat price cs D) (tw_ok w h (s_F w h A)) p (A 36)
def tw_lv (T : Nat → Int) (v : Int) : Nat → Nat → Int
  | 0, x => (x : Int)
  | f + 1, x => if T (x + 1) * 100 < v * tw_e (x + 1) then (x : Int) else tw_lv T v f (x + 1)
def tw_leave (w h n : Nat) (heat price : Int) (cs : List Int) (D A : Nat → Int) (p v : Int) : Int := if (0 ≤ p ∧ p ≤ 10) ∧ 0 ≤ v ∧ v ≤ 100 then tw_lv (fun j => tw_T w h n heat price cs D A p j A) v 8 0 else -1
section
variable {w h n : Nat} {heat price : Int} {D A : Nat → Int} {c : Nat} {U : Nat → Nat → Int} {kn : Nat → Int} {KS : Nat → Nat → Int} {cs : List Int} {m : z_M}
/-- an hour of the State at s, as goOn(s, 1) lets it go by -/
theorem tw_go1 {s : Nat} (hs : z_st s) (hN : w_N w h n heat D) (hi : C_is w h n heat price D A c U kn KS cs m) {B : Nat → Int} (hB : cS m s n = B) (hok : hr_ok n B) (ht : 0 ≤ B 35) (ht2 : B 35 ≤ 2147483646) (k6 : z_w (m 24 6) = m 24 6) (k9 : z_w (m 24 9) = m 24 9) : ∃ m1, z_R 67 (m, 0, [(2, 24), (2, ((s : Nat) : Int)), (0, 1), (9, 0)], []) = some (m1, none) ∧ cS m1 s n = hr_A w h heat price (c_ml cs) (wmD D (B 35)) n B ∧ m1 24 10 = s_G w h (hr_A w h heat price (c_ml cs) (wmD D (B 35)) n B) ∧ m1 24 6 = z_add (m 24 6) (hr_m w h heat (c_ml cs) (wmD D (B 35)) n B) ∧ z_w (m1 24 9) = m1 24 9 ∧ (hr_ok n (hr_A w h heat price (c_ml cs) (wmD D (B 35)) n B) ∧ hr_A w h heat price (c_ml cs) (wmD D (B 35)) n B 35 = B 35 + 1) ∧ z_same (c_LH s) m m1 := by
  obtain ⟨m1, a1, a2, a3, a4, a5, a6, a7, a8, a9⟩ := c_hour hs hN.1.1 hN.1.2.1 (price := price) ⟨hN.1.2.2, hN.2.1, c_ml_ok cs, hN.2.2⟩ m (C_cfg hi) hB hok ht (by omega) k6 k9
  refine ⟨m1, ?_, a2, by rw [a7, hr_K_gb hN.1.2.2], a3, by rw [a6, z_add_w]; exact z_w_w, ⟨hr_A_ok (price := price) hN.1.1 hN.1.2.1 hN.1.2.2 hN.2.1 (c_ml_ok cs) (hN.2.2 (B 35) ht) hok, by rw [hr_A_35 hN.1.1 hN.1.2.1 hN.1.2.2, z_add_eq (by omega) (by omega)]⟩, a9⟩
  rw [s_goOn_0 hs m 1 ⟨by decide, by decide⟩, s_goOn_2 hs m 1 0 ⟨by decide, by decide⟩ ⟨by decide, by decide⟩, if_neg (show ¬ (1 : Int) ≤ 0 by decide), a1, zb_n, s_goOn_19 hs m1 1 0 ⟨by decide, by decide⟩, s_goOn_2 hs m1 1 (0 + 1) ⟨by decide, by decide⟩ ⟨by decide, by decide⟩, if_pos (show (1 : Int) ≤ 0 + 1 by decide)]
def tw_inv (w h n : Nat) (heat price : Int) (D A : Nat → Int) (c : Nat) (U : Nat → Nat → Int) (kn : Nat → Int) (KS : Nat → Nat → Int) (cs : List Int) (p : Int) (m : z_M) : Prop := C_is w h n heat price D A c U kn KS cs m ∧ (m 193 4 = 8 ∧ m 193 5 = p ∧ m 193 6 = A 36 ∧ m 193 7 = s_F w h A) ∧ (z_w (m 24 6) = m 24 6 ∧ z_w (m 24 9) = m 24 9) ∧ ∀ q, q ≤ 8 → lw (m 195 q) = m 195 q
theorem tw_gt {p : Int} (hN : w_N w h n heat D) {k : Nat} (hk : k < 8) (IH : ∀ (wt : Int) (m : z_M) (B : Nat → Int), 0 ≤ wt → wt ≤ tw_e (k + 1) → tw_inv w h n heat price D A c U kn KS cs p m → cS m (196 + 6 * (k + 1)) n = B → hr_ok n B → 0 ≤ B 35 → B 35 + 10 ≤ 2147483647 + ((k + 1 : Nat) : Int) → ∃ m1, z_R 140 (m, 0, [(2, 193), (0, ((k + 1 : Nat) : Int)), (1, wt), (9, 0)], []) = some (m1, none) ∧ tw_inv w h n heat price D A c U kn KS cs p m1 ∧ (∀ q, k + 1 ≤ q → q ≤ 8 → m1 195 q = lw (m 195 q + wt * tw_T w h n heat price cs D A p (q - (k + 1)) B)) ∧ (∀ q, q < k + 1 → m1 195 q = m 195 q) ∧ ∀ i, i ≤ k + 1 → cS m1 (196 + 6 * i) n = cS m (196 + 6 * i) n) (f wt : Int) (m : z_M) (B : Nat → Int) (hf : 0 ≤ f ∧ f ≤ 9) (h0 : 0 ≤ wt) (h1 : wt ≤ tw_e (k + 1)) (hv : tw_inv w h n heat price D A c U kn KS cs p m) (hB : cS m (196 + 6 * k) n = B) (hok : hr_ok n B) (ht : 0 ≤ B 35) (ht2 : B 35 + 10 ≤ 2147483647 + (k : Int)) : ∃ m1, z_R 141 (m, 0, [(2, 193), (0, (k : Int)), (0, f), (1, wt), (9, 0), (9, 0)], []) = some (m1, none) ∧ tw_inv w h n heat price D A c U kn KS cs p m1 ∧ (∀ q, k + 1 ≤ q → q ≤ 8 → m1 195 q = lw (m 195 q + wt * (if tw_ok w h (s_F w h A) (tw_St w h n heat price cs D B f) = true then tw_T w h n heat price cs D A p (q - (k + 1)) (tw_St w h n heat price cs D B f) else 0))) ∧ (∀ q, q < k + 1 → m1 195 q = m 195 q) ∧ ∀ i, i ≤ k → cS m1 (196 + 6 * i) n = cS m (196 + 6 * i) n := by
  have he := tw_e_b (k := k + 1) (by omega)
  have hz := z_lcmp_0 (x := wt) ⟨h0, by omega⟩
  rw [tw_gtU hk]
  by_cases z : wt = 0
  · rw [if_pos (hz.mpr z)]
    refine ⟨m, rfl, hv, fun q _ hq => ?_, fun q _ => rfl, fun i _ => rfl⟩
    rw [z, Int.zero_mul, Int.add_zero, hv.2.2.2 q hq]
  rw [if_neg (fun y => z (hz.mp y))]
  have hst := tw_zst (k := k) (by omega)
  have hst1 := tw_zst (k := k + 1) (by omega)
  obtain ⟨m2, b1, b2, b3⟩ := c_become hst hst1 (by omega) m
  obtain ⟨hi, ⟨i4, i5, i6, i7⟩, ⟨k6, k9⟩, hl⟩ := hv
  have hC2 : C_is w h n heat price D A c U kn KS cs m2 := C_fr hi fun p k hk => by
    have hk' := hk
    unfold C_hit at hk'
    have hk' := of_decide_eq_true hk'
    exact b3.of (by (try unfold c_LH); (try unfold r_LHs); (repeat' (first | exact trivial | refine z_of_c ?_ ?_)) <;> omega)
  have hA2 : cS m2 (196 + 6 * (k + 1)) n = B := (cS_cR b2).trans hB
  rw [b1, zb_n, tw_gtU38 hk]
  have hC3 : C_is w h n heat price D A c U kn KS cs (z_up m2 (196 + 6 * (k + 1)) 8 f) := C_fr hC2 fun p j hk => zu_p fun z => by
    have hk' := hk
    unfold C_hit at hk'
    have hk' := of_decide_eq_true hk'
    omega
  have hA3 : cS (z_up m2 (196 + 6 * (k + 1)) 8 f) (196 + 6 * (k + 1)) n = u_up B 36 f := by rw [cS_frost, hA2]
  have s3 : ∀ p j, ¬ (196 + 6 * (k + 1) ≤ p ∧ p ≤ 196 + 6 * (k + 1) + 5) → (z_up m2 (196 + 6 * (k + 1)) 8 f) p j = m p j := fun p j hp => (zu_p (by omega)).trans (b3.of (by (try unfold c_LH); (try unfold r_LHs); (repeat' (first | exact trivial | refine z_of_c ?_ ?_)) <;> omega))
  generalize z_up m2 (196 + 6 * (k + 1)) 8 f = m3 at hC3 hA3 s3 ⊢
  have h35 : u_up B 36 f 35 = B 35 := u_up_ne (by decide)
  have hok3 : hr_ok n (u_up B 36 f) := hr_ok_up hok (by decide) (fun _ => hf) (fun p h1 h2 => by have := hN.1.2.2; omega)
  have j6 : m3 24 6 = m 24 6 := s3 24 6 (by omega)
  have j9 : m3 24 9 = m 24 9 := s3 24 9 (by omega)
  obtain ⟨m4, c1, c2, c3, c4, c5, c6, c7⟩ := tw_go1 hst1 hN hC3 hA3 hok3 (by rw [h35]; exact ht) (by rw [h35]; omega) (by rw [j6]; exact k6) (by rw [j9]; exact k9)
  rw [h35] at c2 c3 c6
  have e2 : hr_A w h heat price (c_ml cs) (wmD D (B 35)) n (u_up B 36 f) = tw_St w h n heat price cs D B f := rfl
  rw [e2] at c2 c3 c6
  rw [c1, zb_n, tw_gtU54 hk]
  have s4 : ∀ p j, ¬ (196 + 6 * (k + 1) ≤ p ∧ p ≤ 196 + 6 * (k + 1) + 5) → ¬ p = 24 → ¬ p = 25 → ¬ p = 26 → ¬ p = 6 → ¬ p = 7 → m4 p j = m p j := fun p j hp h24 h25 h26 h6 h7 => (c7.of (by (try unfold c_LH); (try unfold r_LHs); (repeat' (first | exact trivial | refine z_of_c ?_ ?_)) <;> omega)).trans (s3 p j hp)
  have hC4 : C_is w h n heat price D A c U kn KS cs m4 := C_fr hC3 fun p k hk => by
    have hk' := hk
    unfold C_hit at hk'
    have hk' := of_decide_eq_true hk'
    exact c7.of (by (try unfold c_LH); (try unfold r_LHs); (repeat' (first | exact trivial | refine z_of_c ?_ ?_)) <;> omega)
  have l6 : z_w (m4 24 6) = m4 24 6 := by rw [c4, z_add_w]; exact z_w_w
  have v4 : ∀ j, m4 193 j = m 193 j := fun j => s4 193 j (by omega) (by decide) (by decide) (by decide) (by decide) (by decide)
  have w4 : ∀ j, m4 195 j = m 195 j := fun j => s4 195 j (by omega) (by decide) (by decide) (by decide) (by decide) (by decide)
  have u4 : ∀ i, i ≤ k → cS m4 (196 + 6 * i) n = cS m (196 + 6 * i) n := fun i hi => cS_fr fun j q hj _ => s4 _ q (by omega) (by omega) (by omega) (by omega) (by omega) (by omega)
  have hv4 : tw_inv w h n heat price D A c U kn KS cs p m4 := ⟨hC4, ⟨by rw [v4]; exact i4, by rw [v4]; exact i5, by rw [v4]; exact i6, by rw [v4]; exact i7⟩, ⟨l6, c5⟩, fun q hq => by rw [w4]; exact hl q hq⟩
  rw [c3, hv4.2.1.2.2.2]
  have eo : tw_ok w h (s_F w h A) (tw_St w h n heat price cs D B f) = true ↔ z_and (s_G w h (tw_St w h n heat price cs D B f)) (s_F w h A) = 0 := decide_eq_true_iff
  by_cases y : z_and (s_G w h (tw_St w h n heat price cs D B f)) (s_F w h A) = 0
  · rw [if_pos y, z_add_eq (by omega) (by omega), tc1]
    obtain ⟨m5, d1, d2, d3, d4, d5⟩ := IH wt m4 (tw_St w h n heat price cs D B f) h0 h1 hv4 c2 c6.1 (by rw [c6.2]; omega) (by rw [c6.2]; omega)
    rw [d1, zb_n, tw_gtU77 hk]
    refine ⟨m5, rfl, d2, fun q q1 q2 => ?_, fun q hq => (d4 q hq).trans (w4 q), fun i hi => (d5 i (by omega)).trans (u4 i hi)⟩
    rw [d3 q q1 q2, w4, if_pos (eo.mpr y)]
  · rw [if_neg y]
    refine ⟨m4, rfl, hv4, fun q _ q2 => ?_, fun q hq => w4 q, u4⟩
    rw [if_neg (fun x => y (eo.mp x)), Int.mul_zero, Int.add_zero, w4, hl q q2]
theorem tw_gf {p : Int} (hN : w_N w h n heat D) (hp : 0 ≤ p ∧ p ≤ 10) (hfr : 0 ≤ A 36 ∧ A 36 ≤ 9) : ∀ (j k : Nat), k + j = 8 → ∀ (wt : Int) (m : z_M) (B : Nat → Int), 0 ≤ wt → wt ≤ tw_e k → tw_inv w h n heat price D A c U kn KS cs p m → cS m (196 + 6 * k) n = B → hr_ok n B → 0 ≤ B 35 → B 35 + 10 ≤ 2147483647 + (k : Int) → ∃ m1, z_R 140 (m, 0, [(2, 193), (0, (k : Int)), (1, wt), (9, 0)], []) = some (m1, none) ∧ tw_inv w h n heat price D A c U kn KS cs p m1 ∧ (∀ q, k ≤ q → q ≤ 8 → m1 195 q = lw (m 195 q + wt * tw_T w h n heat price cs D A p (q - k) B)) ∧ (∀ q, q < k → m1 195 q = m 195 q) ∧ ∀ i, i ≤ k → cS m1 (196 + 6 * i) n = cS m (196 + 6 * i) n := by
  intro j
  induction j with
  | zero =>
    intro k hk wt m B h0 h1 hv hB hok ht ht2
    obtain rfl : k = 8 := by omega
    obtain ⟨hi, hj, hkk, hl⟩ := hv
    rw [tw_gfU (by decide), hj.1, if_pos (by decide), z_ladd_lw]
    refine ⟨_, rfl, ⟨C_upn hi (by decide), ?_, ?_, fun q hq => ?_⟩, fun q q1 q2 => ?_, fun q hq => zu_k (by omega), fun i hi => cS_fr fun j q hj _ => zu_p (by omega)⟩
    · rw [zu_p (by decide), zu_p (by decide), zu_p (by decide), zu_p (by decide)]
      exact hj
    · rw [zu_p (by decide), zu_p (by decide)]
      exact hkk
    · by_cases e : q = 8
      · rw [e, zu_self, lw_lw]
      · rw [zu_k e]
        exact hl q hq
    · obtain rfl : q = 8 := by omega
      rw [zu_self]
      show _ = lw (_ + wt * 1)
      rw [Int.mul_one]
  | succ j ih =>
    intro k hk wt m B h0 h1 hv hB hok ht ht2
    obtain ⟨hi, hj, hkk, hl⟩ := hv
    have he := tw_e_b (k := k) (by omega)
    have IH := ih (k + 1) (by omega)
    rw [tw_gfU (by omega), hj.1, if_neg (by omega), z_ladd_lw, hj.2.1]
    have hv0 : tw_inv w h n heat price D A c U kn KS cs p (z_up m 195 k (lw (m 195 k + wt))) := by
      refine ⟨C_upn hi (by unfold C_hit; exact decide_eq_false (by omega)), ?_, ?_, fun q hq => ?_⟩
      · rw [zu_p (by decide), zu_p (by decide), zu_p (by decide), zu_p (by decide)]
        exact hj
      · rw [zu_p (by decide), zu_p (by decide)]
        exact hkk
      · by_cases e : q = k
        · rw [e, zu_self, lw_lw]
        · rw [zu_k e]
          exact hl q hq
    have g0 : ∀ q, ¬ q = k → (z_up m 195 k (lw (m 195 k + wt))) 195 q = m 195 q := fun q hq => zu_k hq
    have gk : (z_up m 195 k (lw (m 195 k + wt))) 195 k = lw (m 195 k + wt) := zu_self
    have gs : ∀ i, cS (z_up m 195 k (lw (m 195 k + wt))) (196 + 6 * i) n = cS m (196 + 6 * i) n := fun i => cS_fr fun j q hj _ => zu_p (by omega)
    generalize z_up m 195 k (lw (m 195 k + wt)) = m0 at hv0 g0 gk gs ⊢
    have w1 : 0 ≤ wt * p ∧ wt * p ≤ tw_e (k + 1) := by
      have a : wt * p ≤ wt * 10 := Int.mul_le_mul_of_nonneg_left hp.2 h0
      exact ⟨Int.mul_nonneg h0 hp.1, by show _ ≤ 10 * tw_e k; omega⟩
    have w2 : 0 ≤ wt * (10 - p) ∧ wt * (10 - p) ≤ tw_e (k + 1) := by
      have a : wt * (10 - p) ≤ wt * 10 := Int.mul_le_mul_of_nonneg_left (by omega) h0
      exact ⟨Int.mul_nonneg h0 (by omega), by show _ ≤ 10 * tw_e k; omega⟩
    have he1 := tw_e_b (k := k + 1) (by omega)
    have p1 : z_lmul wt (z_i2l p) = wt * p := by rw [z_i2l_eq (by omega) (by omega), z_lmul_lw, lw_of w1.1 (by omega)]
    have p2 : z_lmul wt (z_i2l (z_sub 10 p)) = wt * (10 - p) := by rw [z_sub_eq (by omega) (by omega), z_i2l_eq (by omega) (by omega), z_lmul_lw, lw_of w2.1 (by omega)]
    obtain ⟨m1, a1, a2, a3, a4, a5⟩ := tw_gt hN (by omega) IH 0 (wt * p) m0 B ⟨by decide, by decide⟩ w1.1 w1.2 hv0 ((gs k).trans hB) hok ht ht2
    rw [p1, a1, zb_n, tw_gf0_42, a2.2.1.2.2.1, a2.2.1.2.1, p2]
    obtain ⟨m2, b1, b2, b3, b4, b5⟩ := tw_gt hN (by omega) IH (A 36) (wt * (10 - p)) m1 B hfr w2.1 w2.2 a2 ((a5 k (Nat.le_refl k)).trans ((gs k).trans hB)) hok ht ht2
    rw [b1, zb_n, tw_gf0_61]
    refine ⟨m2, rfl, b2, fun q q1 q2 => ?_, fun q hq => ?_, fun i hi => (b5 i hi).trans ((a5 i hi).trans (gs i))⟩
    · by_cases e : q = k
      · rw [e, b4 k (by omega), a4 k (by omega), gk, Nat.sub_self]
        show _ = lw (_ + wt * 1)
        rw [Int.mul_one]
      · rw [b3 q (by omega) q2, a3 q (by omega) q2, g0 q e, lw_add, show q - k = (q - (k + 1)) + 1 by omega]
        congr 1
        show _ = _ + wt * (p * (if tw_ok w h (s_F w h A) (tw_St w h n heat price cs D B 0) = true then tw_T w h n heat price cs D A p (q - (k + 1)) (tw_St w h n heat price cs D B 0) else 0) + (10 - p) * (if tw_ok w h (s_F w h A) (tw_St w h n heat price cs D B (A 36)) = true then tw_T w h n heat price cs D A p (q - (k + 1)) (tw_St w h n heat price cs D B (A 36)) else 0))
        rw [Int.mul_add, ← Int.mul_assoc, ← Int.mul_assoc, Int.add_assoc]
    · rw [b4 q (by omega), a4 q (by omega), g0 q (by omega)]
theorem tw_floC {B : Nat → Int} (h8 : m 3 8 = (w : Int)) (h9 : m 3 9 = (h : Int)) (hB : cS m 12 n = B) : ∀ (f x : Nat) (b : Int), x + f = 9 → z_R 92 (m, 4, [(2, 3), (2, 12), (0, b), (0, (x : Int))], []) = some (m, some (0, s_bt (fun k => decide (¬ u_hs (w : Int) (h : Int) (k : Int) = 0 ∧ 0 < B k)) f x b)) := by
  intro f
  induction f with
  | zero =>
    intro x b hx
    rw [tw_flo_4, if_pos (by omega)]
    rfl
  | succ f ih =>
    intro x b hx
    have eB : m 13 x = B x := by
      rw [← hB]
      exact (cS_at1 (s := 12) (by omega)).symm
    rw [tw_flo_4, if_neg (show ¬ (9 : Int) ≤ (x : Int) by omega), h8, h9, z_add_eq (x := (x : Int)) (y := 1) (by omega) (by omega), tc1, Int.toNat_natCast, eB]
    unfold s_bt
    by_cases c1 : u_hs (w : Int) (h : Int) (x : Int) = 0
    · rw [if_neg (not_not_intro c1), if_neg (fun z => (of_decide_eq_true z).1 c1)]
      exact ih (x + 1) b (by omega)
    · rw [if_pos c1]
      by_cases c2 : B x ≤ 0
      · rw [if_pos c2, if_neg (fun z => by have := (of_decide_eq_true z).2; omega)]
        exact ih (x + 1) b (by omega)
      · rw [if_neg c2, if_pos (decide_eq_true ⟨c1, by omega⟩)]
        exact ih (x + 1) _ (by omega)
theorem tw_zr {x2 x3 : Int} : ∀ (f x : Nat) (m : z_M), x + f = 9 → (∀ q, q < x → m 195 q = 0) → ∃ m1, z_R 139 (m, 38, [(2, 193), (2, 12), (0, x2), (0, x3), (0, (x : Int))], []) = ((z_R 61 (m1, 0, [(2, 196), (2, 12)], [])).bind fun qq => z_R 139 (qq.1, 69, [(2, 193), (2, 12), (0, x2), (0, x3), (0, 9)], qq.2.toList ++ [])) ∧ (∀ q, q < 9 → m1 195 q = 0) ∧ ∀ p j, ¬ p = 195 → m1 p j = m p j := by
  intro f
  induction f with
  | zero =>
    intro x m hx h0
    obtain rfl : x = 9 := by omega
    rw [tw_sea_38, if_pos (by decide)]
    exact ⟨m, rfl, h0, fun _ _ _ => rfl⟩
  | succ f ih =>
    intro x m hx h0
    rw [tw_sea_38, if_neg (by omega), if_pos (by omega), tc1, Int.toNat_natCast]
    obtain ⟨m1, a1, a2, a3⟩ := ih (x + 1) (z_up m 195 x 0) (by omega) (fun q hq => by
      by_cases e : q = x
      · rw [e, zu_self]
      · rw [zu_k e]
        exact h0 q (by omega))
    exact ⟨m1, a1, a2, fun p j hp => (a3 p j hp).trans (zu_p hp)⟩
theorem tw_sea (hi : C_is w h n heat price D A c U kn KS cs m) (hN : w_N w h n heat D) (hok : hr_ok n A) (ht : 0 ≤ A 35 ∧ A 35 ≤ 1073741824) (k6 : z_w (m 24 6) = m 24 6) (k9 : z_w (m 24 9) = m 24 9) {p : Int} (hp : 0 ≤ p ∧ p ≤ 10) : ∃ m1, z_R 139 (m, 0, [(2, 193), (2, 12), (0, 8), (0, p), (9, 0)], []) = some (m1, none) ∧ C_is w h n heat price D A c U kn KS cs m1 ∧ ∀ q, q ≤ 8 → m1 195 q = tw_T w h n heat price cs D A p q A := by
  have e8 : m 12 8 = A 36 := by
    rw [← hi.2.2.1]
    exact (cS_at0 (s := 12) (j := 8) (by decide)).symm
  have hi0 : C_is w h n heat price D A c U kn KS cs (z_up (z_up (z_up m 193 4 8) 193 5 p) 193 6 (A 36)) := C_upn (C_upn (C_upn hi (by decide)) (by decide)) (by decide)
  have g4 : (z_up (z_up (z_up m 193 4 8) 193 5 p) 193 6 (A 36)) 193 4 = 8 := by rw [zu_k (by decide), zu_k (by decide), zu_self]
  have g5 : (z_up (z_up (z_up m 193 4 8) 193 5 p) 193 6 (A 36)) 193 5 = p := by rw [zu_k (by decide), zu_self]
  have g6 : (z_up (z_up (z_up m 193 4 8) 193 5 p) 193 6 (A 36)) 193 6 = A 36 := zu_self
  have s0 : ∀ p' j, ¬ p' = 193 → (z_up (z_up (z_up m 193 4 8) 193 5 p) 193 6 (A 36)) p' j = m p' j := fun p' j hp' => by rw [zu_p hp', zu_p hp', zu_p hp']
  rw [tw_sea_0, e8, if_neg (show ¬ (8 : Int) < 8 by decide)]
  generalize z_up (z_up (z_up m 193 4 8) 193 5 p) 193 6 (A 36) = m0 at hi0 g4 g5 g6 s0 ⊢
  have e := tw_floC (w := w) (h := h) (n := n) hi0.1.1 hi0.1.2.1 hi0.2.2.1 9 0 0 (by decide)
  have e : z_R 92 (m0, 4, [(2, 3), (2, 12), (0, 0), (0, 0)], []) = some (m0, some (0, s_F w h A)) := e
  rw [tw_flo_0, e, zb_v, tw_sea_32]
  have hi1 : C_is w h n heat price D A c U kn KS cs (z_up m0 193 7 (s_F w h A)) := C_upn hi0 (by decide)
  have f4 : (z_up m0 193 7 (s_F w h A)) 193 4 = 8 := (zu_k (by decide)).trans g4
  have f5 : (z_up m0 193 7 (s_F w h A)) 193 5 = p := (zu_k (by decide)).trans g5
  have f6 : (z_up m0 193 7 (s_F w h A)) 193 6 = A 36 := (zu_k (by decide)).trans g6
  have f7 : (z_up m0 193 7 (s_F w h A)) 193 7 = s_F w h A := zu_self
  have s1 : ∀ p' j, ¬ p' = 193 → (z_up m0 193 7 (s_F w h A)) p' j = m p' j := fun p' j hp' => (zu_p hp').trans (s0 p' j hp')
  generalize z_up m0 193 7 (s_F w h A) = m1 at hi1 f4 f5 f6 f7 s1 ⊢
  obtain ⟨m2, a1, a2, a3⟩ := tw_zr (x2 := 8) (x3 := p) 9 0 m1 (by decide) (fun q hq => absurd hq (Nat.not_lt_zero q))
  have a1 : z_R 139 (m1, 38, [(2, 193), (2, 12), (0, 8), (0, p), (0, 0)], []) = ((z_R 61 (m2, 0, [(2, 196), (2, 12)], [])).bind fun qq => z_R 139 (qq.1, 69, [(2, 193), (2, 12), (0, 8), (0, p), (0, 9)], qq.2.toList ++ [])) := a1
  have hi2 : C_is w h n heat price D A c U kn KS cs m2 := C_fr hi1 fun p' j hk => a3 p' j fun z => by
    have hk' := hk
    unfold C_hit at hk'
    have hk' := of_decide_eq_true hk'
    omega
  obtain ⟨m3, b1, b2, b3⟩ := c_become z_st_12 (tw_zst (k := 0) (by decide)) (by decide) m2
  have b1 : z_R 61 (m2, 0, [(2, 196), (2, 12)], []) = some (m3, none) := b1
  have hi3 : C_is w h n heat price D A c U kn KS cs m3 := C_fr hi2 fun p k hk => by
    have hk' := hk
    unfold C_hit at hk'
    have hk' := of_decide_eq_true hk'
    exact b3.of (by (try unfold c_LH); (try unfold r_LHs); (repeat' (first | exact trivial | refine z_of_c ?_ ?_)) <;> omega)
  have t3 : ∀ p' j, ¬ (196 ≤ p' ∧ p' ≤ 201) → ¬ p' = 195 → m3 p' j = m1 p' j := fun p' j h1 h2 => (b3.of (by (try unfold c_LH); (try unfold r_LHs); (repeat' (first | exact trivial | refine z_of_c ?_ ?_)) <;> omega)).trans (a3 p' j h2)
  have w3 : ∀ q, q < 9 → m3 195 q = 0 := fun q hq => (b3.of (by (try unfold c_LH); (try unfold r_LHs); (repeat' (first | exact trivial | refine z_of_c ?_ ?_)) <;> omega)).trans (a2 q hq)
  have hv : tw_inv w h n heat price D A c U kn KS cs p m3 := ⟨hi3, ⟨(t3 193 4 (by decide) (by decide)).trans f4, (t3 193 5 (by decide) (by decide)).trans f5, (t3 193 6 (by decide) (by decide)).trans f6, (t3 193 7 (by decide) (by decide)).trans f7⟩, ⟨by rw [t3 24 6 (by decide) (by decide), s1 24 6 (by decide)]; exact k6, by rw [t3 24 9 (by decide) (by decide), s1 24 9 (by decide)]; exact k9⟩, fun q hq => by rw [w3 q (by omega)]; exact lw_of (by decide) (by decide)⟩
  obtain ⟨m4, c1, c2, c3, -, -⟩ := tw_gf hN hp hok.2.2.2 8 0 (by decide) 1 m3 A (by decide) (by decide) hv ((cS_cR b2).trans hi2.2.2.1) hok ht.1 (by omega)
  have c1 : z_R 140 (m3, 0, [(2, 193), (0, 0), (1, 1), (9, 0)], []) = some (m4, none) := c1
  rw [a1, b1, zb_n, tw_sea_69, c1, zb_n, tw_sea_75]
  refine ⟨m4, rfl, c2.1, fun q hq => ?_⟩
  have hb := tw_th_b (tw_St w h n heat price cs D) (tw_ok w h (s_F w h A)) p (A 36) hp q A
  have he := tw_e_b hq
  rw [c3 q (Nat.zero_le q) hq, w3 q (by omega), Nat.sub_zero, Int.zero_add, Int.one_mul]
  exact lw_of hb.1 (by unfold tw_T at *; omega)
theorem tw_whL {N : Nat} (hN8 : N ≤ 8) (m : z_M) : ∀ (f x : Nat), x + f = N → z_R 142 (m, 4, [(0, (N : Int)), (1, tw_e x), (9, 0), (0, (x : Int))], []) = some (m, some (1, tw_e N)) := by
  intro f
  induction f with
  | zero =>
    intro x hx
    obtain rfl : x = N := by omega
    rw [tw_who_4, if_pos (Int.le_refl _)]
  | succ f ih =>
    intro x hx
    have he := tw_e_b (k := x) (by omega)
    have e : z_lmul (tw_e x) 10 = tw_e (x + 1) := by
      rw [z_lmul_lw, lw_of (by omega) (by omega)]
      exact Int.mul_comm _ _
    rw [tw_who_4, if_neg (by omega), e, z_add_eq (by omega) (by omega), tc1]
    exact ih (x + 1) (by omega)
theorem tw_wh {N : Nat} (hN8 : N ≤ 8) (m : z_M) : z_R 142 (m, 0, [(0, (N : Int)), (9, 0), (9, 0), (9, 0)], []) = some (m, some (1, tw_e N)) := by
  rw [tw_who_0]
  exact tw_whL hN8 m N 0 (by omega)
theorem tw_lcm {t v : Int} {N : Nat} (hN8 : N ≤ 8) (ht : 0 ≤ t ∧ t ≤ tw_e N) (hv : 0 ≤ v ∧ v ≤ 100) : z_lcmp (z_lmul t 100) (z_lmul (z_i2l v) (tw_e N)) < 0 ↔ t * 100 < v * tw_e N := by
  have he := tw_e_b hN8
  have h1 : v * tw_e N ≤ 100 * tw_e N := Int.mul_le_mul_of_nonneg_right hv.2 (by omega)
  have h2 : 0 ≤ v * tw_e N := Int.mul_nonneg hv.1 (by omega)
  rw [z_i2l_eq (by omega) (by omega), z_lmul_lw, z_lmul_lw, lw_of (x := t * 100) (by omega) (by omega), lw_of h2 (by omega)]
  exact z_lcmp_lt ⟨by omega, by omega⟩ ⟨h2, by omega⟩
theorem tw_Tb {p : Int} (hp : 0 ≤ p ∧ p ≤ 10) (j : Nat) (B : Nat → Int) : 0 ≤ tw_T w h n heat price cs D A p j B ∧ tw_T w h n heat price cs D A p j B ≤ tw_e j := tw_th_b (tw_St w h n heat price cs D) (tw_ok w h (s_F w h A)) p (A 36) hp j B
theorem C_lea1 {p v : Int} (hp : 0 ≤ p ∧ p ≤ 10) (hv : 0 ≤ v ∧ v ≤ 100) (hT : ∀ q, q ≤ 8 → m 195 q = tw_T w h n heat price cs D A p q A) : ∀ (f x : Nat), x + f = 8 → z_R 143 (m, 38, [(2, 0), (0, p), (0, v), (0, (x : Int))], []) = some (m, some (0, tw_lv (fun j => tw_T w h n heat price cs D A p j A) v f x)) := by
  intro f
  induction f with
  | zero =>
    intro x hx
    rw [tw_lea_38, if_pos (by omega)]
    rfl
  | succ f ih =>
    intro x hx
    have hl := tw_lcm (t := tw_T w h n heat price cs D A p (x + 1) A) (v := v) (N := x + 1) (by omega) (tw_Tb hp (x + 1) A) hv
    rw [tw_lea_38, if_neg (by omega), z_add_eq (x := (x : Int)) (y := 1) (by omega) (by omega), if_pos (by omega), tc1, Int.toNat_natCast, tw_wh (by omega), zb_v, tw_lea_67, z_add_eq (x := (x : Int)) (y := 1) (by omega) (by omega), tc1, hT (x + 1) (by omega)]
    unfold tw_lv
    by_cases z : tw_T w h n heat price cs D A p (x + 1) A * 100 < v * tw_e (x + 1)
    · rw [if_pos (hl.mpr z), if_pos z]
    · rw [if_neg (fun y => z (hl.mp y)), if_neg z]
      exact ih (x + 1) (by omega)
theorem C_leave (hi : C_is w h n heat price D A c U kn KS cs m) (hN : w_N w h n heat D) (hok : hr_ok n A) (ht : 0 ≤ A 35 ∧ A 35 ≤ 1073741824) (k6 : z_w (m 24 6) = m 24 6) (k9 : z_w (m 24 9) = m 24 9) (p v : Int) : ∃ m1, z_R 143 (m, 0, [(2, 0), (0, p), (0, v), (9, 0)], []) = some (m1, some (0, tw_leave w h n heat price cs D A p v)) ∧ C_is w h n heat price D A c U kn KS cs m1 := by
  rw [tw_lea_0]
  by_cases z : (0 ≤ p ∧ p ≤ 10) ∧ 0 ≤ v ∧ v ≤ 100
  · have e : tw_leave w h n heat price cs D A p v = tw_lv (fun j => tw_T w h n heat price cs D A p j A) v 8 0 := if_pos z
    obtain ⟨m1, a1, a2, a3⟩ := tw_sea hi hN hok ht k6 k9 z.1
    have b1 := C_lea1 (m := m1) z.1 z.2 a3 8 0 (by decide)
    have b1 : z_R 143 (m1, 38, [(2, 0), (0, p), (0, v), (0, 0)], []) = some (m1, some (0, tw_lv (fun j => tw_T w h n heat price cs D A p j A) v 8 0)) := b1
    rw [if_neg (by omega), if_neg (by omega), if_neg (by omega), if_pos (by omega), a1, zb_n, tw_lea_36, b1, e]
    exact ⟨m1, rfl, a2⟩
  · have e : tw_leave w h n heat price cs D A p v = -1 := if_neg z
    rw [e]
    refine ⟨m, ?_, hi⟩
    by_cases c1 : p < 0
    · rw [if_pos c1]
    by_cases c2 : 10 < p
    · rw [if_neg c1, if_pos c2]
    by_cases c3 : v < 0
    · rw [if_neg c1, if_neg c2, if_pos c3]
    · rw [if_neg c1, if_neg c2, if_neg c3, if_neg (by omega)]
/-! the reference -/
theorem tw_pwL {v : Int} (hv : 0 ≤ v ∧ v ≤ 10) {N : Nat} (hN8 : N ≤ 8) (m : z_M) : ∀ (f x : Nat), x + f = N → z_R 255 (m, 5, [(1, v), (9, 0), (0, (N : Int)), (1, tw_pw v x), (9, 0), (0, (x : Int))], []) = some (m, some (1, tw_pw v N)) := by
  intro f
  induction f with
  | zero =>
    intro x hx
    obtain rfl : x = N := by omega
    rw [tw_pow_5, if_pos (Int.le_refl _)]
  | succ f ih =>
    intro x hx
    have hb := tw_pw_b hv.1 hv.2 (x + 1)
    have he := tw_e_b (k := x + 1) (by omega)
    have e : z_lmul (tw_pw v x) v = tw_pw v (x + 1) := by
      rw [z_lmul_lw, Int.mul_comm]
      show lw (tw_pw v (x + 1)) = tw_pw v (x + 1)
      exact lw_of hb.1 (by omega)
    rw [tw_pow_5, if_neg (by omega), e, z_add_eq (by omega) (by omega), tc1]
    exact ih (x + 1) (by omega)
theorem tw_powR {v : Int} (hv : 0 ≤ v ∧ v ≤ 10) {N : Nat} (hN8 : N ≤ 8) (m : z_M) : z_R 255 (m, 0, [(1, v), (9, 0), (0, (N : Int)), (9, 0), (9, 0), (9, 0)], []) = some (m, some (1, tw_pw v N)) := by
  rw [tw_pow_0]
  exact tw_pwL hv hN8 m N 0 (by omega)
theorem tw_in (hN : w_N w h n heat D) (hok : hr_ok n A) {N path : Nat} (hN8 : N ≤ 8) (hp : path < 256) {p acc : Int} : ∀ (f k : Nat) (m : z_M) (B : Nat → Int), k + f = N → R_is w h n heat price D A c U kn KS cs m → rS m 264 n = B → hr_ok n B → 0 ≤ B 35 → B 35 + 10 ≤ 2147483647 + (k : Int) → ∃ m1 x8, z_R 254 (m, 29, [(2, 251), (0, (N : Int)), (0, p), (1, acc), (9, 0), (0, (path : Int)), (0, s_F w h A), (0, 1), (0, (k : Int))], []) = ((z_R 101 (m1, 0, [(0, (path : Int))], [])).bind fun qq => z_R 254 (qq.1, 108, [(2, 251), (0, (N : Int)), (0, p), (1, acc), (9, 0), (0, (path : Int)), (0, s_F w h A), (0, if tw_is (tw_St w h n heat price cs D) (tw_ok w h (s_F w h A)) (A 36) f k path B = true then 1 else 0), (0, x8)], qq.2.toList ++ [])) ∧ R_is w h n heat price D A c U kn KS cs m1 := by
  intro f
  induction f with
  | zero =>
    intro k m B hk hi hB hB2 ht ht2
    refine ⟨m, (k : Int), ?_, hi⟩
    rw [tw_tha_29, if_pos (by omega)]
    rfl
  | succ f ih =>
    intro k m B hk hi hB hB2 ht ht2
    have go : ∀ fr : Int, (0 ≤ fr ∧ fr ≤ 9) → tw_nx (tw_St w h n heat price cs D) (A 36) k path B = tw_St w h n heat price cs D B fr → ∃ m1 x8, ((z_R 208 (z_up m 264 36 fr, 0, [(2, 251), (2, 264), (9, 0), (9, 0), (9, 0)], [])).bind fun qq => z_R 254 (qq.1, 76, [(2, 251), (0, (N : Int)), (0, p), (1, acc), (9, 0), (0, (path : Int)), (0, s_F w h A), (0, 1), (0, (k : Int))], qq.2.toList ++ [])) = ((z_R 101 (m1, 0, [(0, (path : Int))], [])).bind fun qq => z_R 254 (qq.1, 108, [(2, 251), (0, (N : Int)), (0, p), (1, acc), (9, 0), (0, (path : Int)), (0, s_F w h A), (0, if tw_is (tw_St w h n heat price cs D) (tw_ok w h (s_F w h A)) (A 36) (f + 1) k path B = true then 1 else 0), (0, x8)], qq.2.toList ++ [])) ∧ R_is w h n heat price D A c U kn KS cs m1 := by
      intro fr hfr hnx
      have hR3 : R_is w h n heat price D A c U kn KS cs (z_up m 264 36 fr) := R_upn hi (by decide)
      have hA3 : rS (z_up m 264 36 fr) 264 n = u_up B 36 fr := by rw [rS_up (by decide) (a_vis_hi (by decide)), hB]
      generalize z_up m 264 36 fr = m3 at hR3 hA3 ⊢
      have h35 : u_up B 36 fr 35 = B 35 := u_up_ne (by decide)
      have hok3 : hr_ok n (u_up B 36 fr) := hr_ok_up hB2 (by decide) (fun _ => hfr) (fun p h1 h2 => by have := hN.1.2.2; omega)
      obtain ⟨m4, a1, a2, a3, a4, a5, a6, a7⟩ := r_hour (a := 264) z_A_264 (Or.inr rfl) hN.1.1 hN.1.2.1 (price := price) ⟨hN.1.2.2, hN.2.1, c_ml_ok cs, hN.2.2⟩ m3 (R_cfg hR3) hA3 hok3 (by rw [h35]; exact ht) (by rw [h35]; omega)
      have a1 : z_R 208 (m3, 0, [(2, 251), (2, 264), (9, 0), (9, 0), (9, 0)], []) = some (m4, none) := a1
      have s1 : z_same (r_LHs 264) m3 m4 := a7.subo (by (try unfold c_LH); (try unfold r_LHs); (repeat' (first | exact trivial | refine z_sbo_c ?_ ?_)) <;> (intro k h1 h2; first | exact z_on_h rfl (by omega) (by omega) | exact z_on_t (z_on_h rfl (by omega) (by omega)) | exact z_on_t (z_on_t (z_on_h rfl (by omega) (by omega))) | exact z_on_t (z_on_t (z_on_t (z_on_h rfl (by omega) (by omega)))) | exact z_on_t (z_on_t (z_on_t (z_on_t (z_on_h rfl (by omega) (by omega))))) | exact z_on_t (z_on_t (z_on_t (z_on_t (z_on_t (z_on_h rfl (by omega) (by omega)))))) | exact z_on_t (z_on_t (z_on_t (z_on_t (z_on_t (z_on_t (z_on_h rfl (by omega) (by omega))))))) | exact z_on_t (z_on_t (z_on_t (z_on_t (z_on_t (z_on_t (z_on_t (z_on_h rfl (by omega) (by omega)))))))) | exact z_on_t (z_on_t (z_on_t (z_on_t (z_on_t (z_on_t (z_on_t (z_on_t (z_on_h rfl (by omega) (by omega))))))))) | exact z_on_t (z_on_t (z_on_t (z_on_t (z_on_t (z_on_t (z_on_t (z_on_t (z_on_t (z_on_h rfl (by omega) (by omega)))))))))) | exact z_on_t (z_on_t (z_on_t (z_on_t (z_on_t (z_on_t (z_on_t (z_on_t (z_on_t (z_on_t (z_on_h rfl (by omega) (by omega))))))))))) | exact z_on_t (z_on_t (z_on_t (z_on_t (z_on_t (z_on_t (z_on_t (z_on_t (z_on_t (z_on_t (z_on_t (z_on_h rfl (by omega) (by omega)))))))))))) | exact z_on_t (z_on_t (z_on_t (z_on_t (z_on_t (z_on_t (z_on_t (z_on_t (z_on_t (z_on_t (z_on_t (z_on_t (z_on_h rfl (by omega) (by omega)))))))))))))))
      have hR4 := R_off264 hR3 s1
      have hok4 := hr_A_ok (price := price) hN.1.1 hN.1.2.1 hN.1.2.2 hN.2.1 (c_ml_ok cs) (hN.2.2 (u_up B 36 fr 35) (by rw [h35]; exact ht)) hok3
      have e35 : hr_A w h heat price (c_ml cs) (wmD D (u_up B 36 fr 35)) n (u_up B 36 fr) 35 = u_up B 36 fr 35 + 1 := by rw [hr_A_35 hN.1.1 hN.1.2.1 hN.1.2.2, z_add_eq (by omega) (by omega)]
      rw [h35] at a2 hok4 e35
      have e2 : hr_A w h heat price (c_ml cs) (wmD D (B 35)) n (u_up B 36 fr) = tw_nx (tw_St w h n heat price cs D) (A 36) k path B := hnx.symm
      rw [e2] at a2 hok4 e35
      have hv := R_tha (w := w) (h := h) (n := n) hR4.1.1 hR4.1.2.1 a2 9 0 0 (by decide) (by decide +kernel)
      have hv : z_R 223 (m4, 4, [(2, 251), (2, 264), (0, 0), (0, 0)], []) = some (m4, some (0, s_G w h (tw_nx (tw_St w h n heat price cs D) (A 36) k path B))) := hv
      rw [a1, zb_n, tw_tha_76, q_tha_0, hv, zb_v, tw_tha_84, z_add_eq (by omega) (by omega), tc1]
      have eo : tw_ok w h (s_F w h A) (tw_nx (tw_St w h n heat price cs D) (A 36) k path B) = true ↔ z_and (s_G w h (tw_nx (tw_St w h n heat price cs D) (A 36) k path B)) (s_F w h A) = 0 := decide_eq_true_iff
      unfold tw_is
      by_cases y : z_and (s_G w h (tw_nx (tw_St w h n heat price cs D) (A 36) k path B)) (s_F w h A) = 0
      · rw [if_pos y, eo.mpr y, Bool.true_and]
        exact ih (k + 1) m4 _ (by omega) hR4 a2 hok4 (by omega) (by omega)
      · have eb : tw_ok w h (s_F w h A) (tw_nx (tw_St w h n heat price cs D) (A 36) k path B) = false := decide_eq_false y
        refine ⟨m4, ((k + 1 : Nat) : Int), ?_, hR4⟩
        rw [if_neg y, eb, Bool.false_and, if_neg Bool.false_ne_true, tw_tha_29, if_pos (show (0 : Int) = 0 from rfl)]
        by_cases q : (N : Int) ≤ ((k + 1 : Nat) : Int)
        · rw [if_pos q]
        · rw [if_neg q]
    have hb := tw_bits path hp k (by omega)
    have e36 : m 252 36 = A 36 := R_A hi (by decide) (a_vis_hi (by decide))
    rw [tw_tha_29, if_neg (by omega), if_neg (show ¬ (1 : Int) = 0 by decide), t_has_0]
    by_cases y : z_and (z_shr (path : Int) (k : Int)) 1 = 1
    · have e : tw_nx (tw_St w h n heat price cs D) (A 36) k path B = tw_St w h n heat price cs D B 0 := by
        unfold tw_nx
        rw [if_pos (hb.mp y)]
      rw [if_pos y, zb_v, tw_tha_53, if_neg (show ¬ (1 : Int) = 0 by decide), if_pos (show (0 : Int) ≤ 36 ∧ (36 : Int) < 37 by decide)]
      exact go 0 (by decide) e
    · have e : tw_nx (tw_St w h n heat price cs D) (A 36) k path B = tw_St w h n heat price cs D B (A 36) := by
        unfold tw_nx
        rw [if_neg (fun z => y (hb.mpr z))]
      rw [if_neg y, zb_v, tw_tha_53, if_pos (show (0 : Int) = 0 from rfl), if_pos (show (0 : Int) ≤ 36 ∧ (36 : Int) < 37 by decide), e36]
      exact go (A 36) hok.2.2.2 e
theorem tw_out (hN : w_N w h n heat D) (hok : hr_ok n A) (ht : 0 ≤ A 35 ∧ A 35 ≤ 1073741824) {N : Nat} (hN8 : N ≤ 8) {p : Int} (hp : 0 ≤ p ∧ p ≤ 10) : ∀ (f x : Nat) (v6 v7 v8 : z_V) (m : z_M), x + f = 2 ^ N → R_is w h n heat price D A c U kn KS cs m → ∃ m1, z_R 254 (m, 5, [(2, 251), (0, (N : Int)), (0, p), (1, lw (tw_sm (fun q => tw_g (tw_St w h n heat price cs D) (tw_ok w h (s_F w h A)) p (A 36) N 0 q A) x)), (9, 0), (0, (x : Int)), v6, v7, v8], []) = some (m1, some (1, lw (tw_sm (fun q => tw_g (tw_St w h n heat price cs D) (tw_ok w h (s_F w h A)) p (A 36) N 0 q A) (2 ^ N)))) ∧ R_is w h n heat price D A c U kn KS cs m1 := by
  have e2 : z_shl 1 (N : Int) = ((2 ^ N : Nat) : Int) ∧ 2 ^ N ≤ 256 := by
    have : ∀ N, N < 9 → z_shl 1 ((N : Nat) : Int) = ((2 ^ N : Nat) : Int) ∧ 2 ^ N ≤ 256 := by decide +kernel
    exact this N (by omega)
  intro f
  induction f with
  | zero =>
    intro x v6 v7 v8 m hx hi
    obtain rfl : x = 2 ^ N := by omega
    rw [tw_tha_5, e2.1, if_pos (Int.le_refl _)]
    exact ⟨m, rfl, hi⟩
  | succ f ih =>
    intro x v6 v7 v8 m hx hi
    have e256 := e2.2
    obtain ⟨m2, b1, b2, b3⟩ := R_lt hi
    have hv := R_ice (w := w) (h := h) (n := n) b2.1.1 b2.1.2.1 b2.2.2.1 9 0 0 (by decide) (by decide +kernel)
    have hv : z_R 222 (m2, 4, [(2, 251), (0, 0), (0, 0)], []) = some (m2, some (0, s_F w h A)) := hv
    rw [tw_tha_5, e2.1, if_neg (by omega), b1, zb_n, tw_tha_17, q_ice_0, hv, zb_v, tw_tha_21]
    obtain ⟨m3, x8, c1, c2⟩ := tw_in hN hok hN8 (path := x) (by omega) (p := p) (acc := lw (tw_sm (fun q => tw_g (tw_St w h n heat price cs D) (tw_ok w h (s_F w h A)) p (A 36) N 0 q A) x)) N 0 m2 A (by omega) b2 b3 hok ht.1 (by omega)
    have c1 : z_R 254 (m2, 29, [(2, 251), (0, (N : Int)), (0, p), (1, lw (tw_sm (fun q => tw_g (tw_St w h n heat price cs D) (tw_ok w h (s_F w h A)) p (A 36) N 0 q A) x)), (9, 0), (0, (x : Int)), (0, s_F w h A), (0, 1), (0, 0)], []) = _ := c1
    have hpc := tw_pcs N (by omega) x (by omega)
    have hct := tw_ct_le N 0 x
    have es : ∀ v, v = lw (tw_sm (fun q => tw_g (tw_St w h n heat price cs D) (tw_ok w h (s_F w h A)) p (A 36) N 0 q A) x + tw_g (tw_St w h n heat price cs D) (tw_ok w h (s_F w h A)) p (A 36) N 0 x A) → v = lw (tw_sm (fun q => tw_g (tw_St w h n heat price cs D) (tw_ok w h (s_F w h A)) p (A 36) N 0 q A) (x + 1)) := fun v hv => hv
    rw [c1, t_bc_0, zb_v, hpc, tw_tha_108, z_add_eq (x := (x : Int)) (y := 1) (by omega) (by omega), tc1]
    generalize hG : tw_sm (fun q => tw_g (tw_St w h n heat price cs D) (tw_ok w h (s_F w h A)) p (A 36) N 0 q A) x = S at es ⊢
    by_cases y : tw_is (tw_St w h n heat price cs D) (tw_ok w h (s_F w h A)) (A 36) N 0 x A = true
    · have eg : tw_g (tw_St w h n heat price cs D) (tw_ok w h (s_F w h A)) p (A 36) N 0 x A = tw_pw p (tw_ct N 0 x) * tw_pw (10 - p) (N - tw_ct N 0 x) := (if_pos y).trans (tw_pr_ct p N 0 x)
      have en := es (z_ladd (lw S) (z_lmul (tw_pw p (tw_ct N 0 x)) (tw_pw (10 - p) (N - tw_ct N 0 x)))) (by rw [z_ladd_lw, z_lmul_lw, lw_add, Int.add_comm, lw_add, Int.add_comm, eg])
      rw [if_pos y, if_neg (show ¬ (1 : Int) = 0 by decide), z_i2l_eq (x := p) (by omega) (by omega), tw_powR hp (by omega), zb_v, tw_tha_123, z_sub_eq (x := 10) (y := p) (by omega) (by omega), z_i2l_eq (x := 10 - p) (by omega) (by omega), z_sub_eq (x := (N : Int)) (by omega) (by omega), show (N : Int) - ((tw_ct N 0 x : Nat) : Int) = ((N - tw_ct N 0 x : Nat) : Int) by omega, tw_powR (v := 10 - p) ⟨by omega, by omega⟩ (by omega), zb_v, tw_tha_135, z_add_eq (x := (x : Int)) (y := 1) (by omega) (by omega), tc1, en]
      exact ih (x + 1) _ _ _ m3 (by omega) c2
    · have eg : tw_g (tw_St w h n heat price cs D) (tw_ok w h (s_F w h A)) p (A 36) N 0 x A = 0 := if_neg y
      have en := es (z_ladd (lw S) 0) (by rw [z_ladd_lw, lw_add, eg])
      rw [if_neg y, if_pos (show (0 : Int) = 0 from rfl), en]
      exact ih (x + 1) _ _ _ m3 (by omega) c2
theorem tw_thR (hi : R_is w h n heat price D A c U kn KS cs m) (hN : w_N w h n heat D) (hok : hr_ok n A) (ht : 0 ≤ A 35 ∧ A 35 ≤ 1073741824) {N : Nat} (hN8 : N ≤ 8) {p : Int} (hp : 0 ≤ p ∧ p ≤ 10) : ∃ m1, z_R 254 (m, 0, [(2, 251), (0, (N : Int)), (0, p), (9, 0), (9, 0), (9, 0), (9, 0), (9, 0), (9, 0)], []) = some (m1, some (1, tw_T w h n heat price cs D A p N A)) ∧ R_is w h n heat price D A c U kn KS cs m1 := by
  obtain ⟨m1, a1, a2⟩ := tw_out hN hok ht hN8 hp (2 ^ N) 0 (9, 0) (9, 0) (9, 0) m (by omega) hi
  have e0 : lw (tw_sm (fun q => tw_g (tw_St w h n heat price cs D) (tw_ok w h (s_F w h A)) p (A 36) N 0 q A) 0) = 0 := by
    show lw 0 = 0
    decide +kernel
  have hb := tw_Tb (w := w) (h := h) (n := n) (heat := heat) (price := price) (cs := cs) (D := D) (A := A) hp N A
  have he := tw_e_b hN8
  have e1 : lw (tw_sm (fun q => tw_g (tw_St w h n heat price cs D) (tw_ok w h (s_F w h A)) p (A 36) N 0 q A) (2 ^ N)) = tw_T w h n heat price cs D A p N A := by
    rw [tw_sum]
    exact lw_of hb.1 (Int.le_trans hb.2 (by omega))
  rw [e0, e1] at a1
  have a1 : z_R 254 (m, 5, [(2, 251), (0, (N : Int)), (0, p), (1, 0), (9, 0), (0, 0), (9, 0), (9, 0), (9, 0)], []) = some (m1, some (1, tw_T w h n heat price cs D A p N A)) := a1
  rw [tw_tha_0]
  exact ⟨m1, a1, a2⟩
theorem R_lea1 (hN : w_N w h n heat D) (hok : hr_ok n A) (ht : 0 ≤ A 35 ∧ A 35 ≤ 1073741824) {p v : Int} (hp : 0 ≤ p ∧ p ≤ 10) (hv : 0 ≤ v ∧ v ≤ 100) : ∀ (f x : Nat) (m : z_M), x + f = 8 → R_is w h n heat price D A c U kn KS cs m → ∃ m1, z_R 256 (m, 29, [(2, 251), (0, p), (0, v), (0, (x : Int))], []) = some (m1, some (0, tw_lv (fun j => tw_T w h n heat price cs D A p j A) v f x)) ∧ R_is w h n heat price D A c U kn KS cs m1 := by
  intro f
  induction f with
  | zero =>
    intro x m hx hi
    rw [tw_tle_29, if_pos (by omega)]
    exact ⟨m, rfl, hi⟩
  | succ f ih =>
    intro x m hx hi
    obtain ⟨m1, a1, a2⟩ := tw_thR hi hN hok ht (N := x + 1) (by omega) hp
    have hl := tw_lcm (t := tw_T w h n heat price cs D A p (x + 1) A) (v := v) (N := x + 1) (by omega) (tw_Tb hp (x + 1) A) hv
    rw [tw_tle_29, if_neg (by omega), z_add_eq (x := (x : Int)) (y := 1) (by omega) (by omega), tc1, a1, zb_v, tw_tle_43, z_add_eq (x := (x : Int)) (y := 1) (by omega) (by omega), tc1, tw_powR ⟨by decide, by decide⟩ (by omega), zb_v, tw_tle_58, tw_pw_e, z_add_eq (x := (x : Int)) (y := 1) (by omega) (by omega), tc1]
    unfold tw_lv
    by_cases z : tw_T w h n heat price cs D A p (x + 1) A * 100 < v * tw_e (x + 1)
    · rw [if_pos (hl.mpr z), if_pos z]
      exact ⟨m1, rfl, a2⟩
    · rw [if_neg (fun y => z (hl.mp y)), if_neg z]
      exact ih (x + 1) m1 (by omega) a2
theorem R_leave (hi : R_is w h n heat price D A c U kn KS cs m) (hN : w_N w h n heat D) (hok : hr_ok n A) (ht : 0 ≤ A 35 ∧ A 35 ≤ 1073741824) (p v : Int) : ∃ m1, z_R 256 (m, 0, [(2, 251), (0, p), (0, v), (9, 0)], []) = some (m1, some (0, tw_leave w h n heat price cs D A p v)) ∧ R_is w h n heat price D A c U kn KS cs m1 := by
  have hu := R_upn (p0 := 251) (k0 := 11) (v := 0) hi (by decide)
  rw [tw_tle_0]
  by_cases z1 : 0 ≤ p ∧ p ≤ 10
  · rw [if_pos z1]
    by_cases z2 : 0 ≤ v ∧ v ≤ 100
    · have e : tw_leave w h n heat price cs D A p v = tw_lv (fun j => tw_T w h n heat price cs D A p j A) v 8 0 := if_pos ⟨z1, z2⟩
      rw [if_pos z2, e]
      exact R_lea1 hN hok ht z1 z2 8 0 _ (by decide) hu
    · have e : tw_leave w h n heat price cs D A p v = -1 := if_neg (fun z => z2 z.2)
      rw [if_neg z2, e]
      exact ⟨_, rfl, hu⟩
  · have e : tw_leave w h n heat price cs D A p v = -1 := if_neg (fun z => z1 z.1)
    rw [if_neg z1, e]
    exact ⟨_, rfl, hu⟩
end
theorem core_leave : l_rel2 Rel_C (1129, 168, 143, 2, false, 1146, 171, 256) := by
  intro M1 M2 M3 σ σ1 σ2 as v1 v2 C1 C2 ρ1 ρ2 ha hR hh hM1 hC1 hp1 hE1 hC2 hp2 hE2
  obtain ⟨p, v, rfl⟩ := as_two ha
  have hE1 : z_R 143 (z_m σ, 0, [(2, 0), (0, p.toInt), (0, v.toInt), (9, 0)], []) = some (z_m σ1, some (0, v1.toInt)) := z_R_iff.mpr hE1
  have hE2 : z_R 256 (z_m σ1, 0, [(2, 251), (0, p.toInt), (0, v.toInt), (9, 0)], []) = some (z_m σ2, some (0, v2.toInt)) := z_R_iff.mpr hE2
  have hT := T_two (y1 := 143) (y2 := 256) (by decide +kernel) (by decide +kernel) hC1 hC2 hp1 hp2 hR.1
  obtain ⟨w, h, n, heat, price, D, A, c, U, kn, KS, cs, cC, cR, cW⟩ := hR.2
  obtain ⟨b1, b2, -, -, hok, b35, -, b7⟩ := core_b hh hM1 cR
  have hN : w_N w h n heat D := ⟨b1, b2, b7⟩
  have kk := core_24 hh
  have f1 := R_off2_ok (y := 143) (by decide +kernel) hC1 hp1
  have f2 := C_off_ok (y := 256) (by decide +kernel) hC2 hp2
  have cR1 := R_fr cR f1
  have z := core_do cR1 (fun q => C_fr q f2) (C_leave cC hN hok b35 kk.1 kk.2 p.toInt v.toInt) (fun q => R_leave q hN hok b35 p.toInt v.toInt) hE1 hE2
  exact ⟨⟨hT, Core_mk z.1.1 z.1.2 cW⟩, fun _ => z.2⟩
