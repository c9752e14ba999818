/-! THE NUMBERS' OPERATIONS over bounds -/
abbrev A_R : Type := A_E × A_F × A_V
def r_ok (B : Int) (ρ : List Int) (R : A_R) (x : Int32) : Prop := ∃ ρ', r_ext ρ ρ' ∧ e_ok B R.1 ρ' ∧ f_ok R.2.1 ρ' ∧ a_ev ρ' R.2.2 = some x.toInt ∧ a_isI R.2.2 = true
def a_mkF (E : A_E) (F : A_F) (lo hi : Int) : A_R := match a_mk E lo hi with | (E', a) => (E', F, a)
theorem r_mk {B : Int} {E : A_E} {F : A_F} {ρ : List Int} (e : e_ok B E ρ) (f : f_ok F ρ) {lo hi : Int} (x : Int32) (h : i_m ≤ lo → hi ≤ i_M → lo ≤ x.toInt ∧ x.toInt ≤ hi) : r_ok B ρ (a_mkF E F lo hi) x := by
  obtain ⟨ρ', g1, g2, g3, g4⟩ := a_mk_ok e x h
  exact ⟨ρ', g1, g2, f_ok_ext g1 f, g3, g4⟩
theorem r_any {B : Int} {E : A_E} {F : A_F} {ρ : List Int} (e : e_ok B E ρ) (f : f_ok F ρ) (x : Int32) : r_ok B ρ (a_mkF E F i_m i_M) x := r_mk e f x (fun _ _ => i32_rng x)
theorem r_same {B : Int} {E : A_E} {F : A_F} {ρ : List Int} (e : e_ok B E ρ) (f : f_ok F ρ) {a : A_V} {x y : Int32} (hi : a_isI a = true) (h : a_ev ρ a = some y.toInt) (hxy : y.toInt = x.toInt) : r_ok B ρ (E, F, a) x := ⟨ρ, r_ext.rf, e, f, by rw [h, hxy], hi⟩
theorem a_ofInt {ρ : List Int} {a : A_V} {x : Int32} (h : a_ev ρ a = some x.toInt) (hc : a_cst a = true) : Int32.ofInt a.2.2 = x := by
  rw [← a_ev_cst h hc]; exact i32_of x
def a_addF (E : A_E) (F : A_F) (a : A_V) (k : Int) : A_R := match a_addk E F a k with | (E', a') => (E', F, a')
theorem r_addk {B : Int} {E : A_E} {F : A_F} {ρ : List Int} (e : e_ok B E ρ) (f : f_ok F ρ) {a : A_V} {x : Int32} {k : Int} (hi : a_isI a = true) (h : a_ev ρ a = some x.toInt) : r_ok B ρ (a_addF E F a k) (x + Int32.ofInt k) := by
  obtain ⟨ρ', g1, g2, g3, g4⟩ := a_addk_ok e f (k := k) hi h
  exact ⟨ρ', g1, g2, f_ok_ext g1 f, g3, g4⟩
def a_add (E : A_E) (F : A_F) (a b : A_V) : A_R :=
  bif a_cst b then a_addF E F a b.2.2 else bif a_cst a then a_addF E F b a.2.2 else a_mkF E F (a_lo E F a + a_lo E F b) (i_min (a_hi E F a + a_hi E F b) (f_us E F 3 a.2.1 b.2.1 + a.2.2 + b.2.2))
theorem a_add_ok {B : Int} {E : A_E} {F : A_F} {ρ : List Int} (e : e_ok B E ρ) (f : f_ok F ρ) {a b : A_V} {x y : Int32} (ia : a_isI a = true) (ib : a_isI b = true) (ha : a_ev ρ a = some x.toInt) (hb : a_ev ρ b = some y.toInt) : r_ok B ρ (a_add E F a b) (x + y) := by
  unfold a_add
  cases cb : a_cst b
  · cases ca : a_cst a
    · simp only [cond_false]
      obtain ⟨r, r1, h1⟩ := a_ev_var ha ca
      obtain ⟨r', r2, h2⟩ := a_ev_var hb cb
      have u1 := a_lo_ok e f ha
      have u2 := a_lo_ok e f hb
      have u3 := a_hi_ok e f ha
      have u4 := a_hi_ok e f hb
      have u5 := f_us_ok e f 3 _ _ r r' r1 r2
      refine r_mk e f _ (fun g1 g2 => ?_)
      have u6 : x.toInt + y.toInt ≤ i_min (a_hi E F a + a_hi E F b) (f_us E F 3 a.2.1 b.2.1 + a.2.2 + b.2.2) := i_min_le (by omega) (by omega)
      rw [i32_add (by omega) (by omega)]
      omega
    · simp only [cond_false, cond_true]
      rw [← a_ofInt ha ca, Int32.add_comm]
      exact r_addk e f ib hb
  · simp only [cond_true]
    rw [← a_ofInt hb cb]
    exact r_addk e f ia ha
def a_sub (E : A_E) (F : A_F) (a b : A_V) : A_R :=
  bif a_cst b then a_addF E F a (-b.2.2) else
  bif a_cst a then (bif i_le i_m (a.2.2 - a_hi E F b) && i_le (a.2.2 - a_lo E F b) i_M then (E ++ [(a.2.2 - a_hi E F b, a.2.2 - a_lo E F b, false)], (E.length, false, b.2.1, a.2.2 - b.2.2) :: F, (1, E.length, 0)) else a_mkF E F i_m i_M) else
  bif Nat.beq a.2.1 b.2.1 then a_mkF E F (a.2.2 - b.2.2) (a.2.2 - b.2.2) else
  a_mkF E F (i_max (a_lo E F a - a_hi E F b) (a.2.2 - b.2.2 - f_ub E F 3 b.2.1 a.2.1)) (i_min (a_hi E F a - a_lo E F b) (f_ub E F 3 a.2.1 b.2.1 + a.2.2 - b.2.2))
theorem i32_neg_add (x y : Int32) : x + Int32.ofInt (-y.toInt) = x - y := by
  apply Int32.toInt_inj.mp
  rw [Int32.toInt_add, Int32.toInt_sub, Int32.toInt_ofInt]
  simp [Int.sub_eq_add_neg]
theorem a_sub_ok {B : Int} {E : A_E} {F : A_F} {ρ : List Int} (e : e_ok B E ρ) (f : f_ok F ρ) {a b : A_V} {x y : Int32} (ia : a_isI a = true) (ib : a_isI b = true) (ha : a_ev ρ a = some x.toInt) (hb : a_ev ρ b = some y.toInt) : r_ok B ρ (a_sub E F a b) (x - y) := by
  unfold a_sub
  have u1 := a_lo_ok e f ha
  have u2 := a_lo_ok e f hb
  have u3 := a_hi_ok e f ha
  have u4 := a_hi_ok e f hb
  cases cb : a_cst b
  · simp only [cond_false]
    obtain ⟨r', r2, h2⟩ := a_ev_var hb cb
    cases ca : a_cst a
    · simp only [cond_false]
      obtain ⟨r, r1, h1⟩ := a_ev_var ha ca
      cases hv : Nat.beq a.2.1 b.2.1
      · simp only [cond_false]
        have u5 := f_ub_ok e f 3 _ _ r r' r1 r2
        have u7 := f_ub_ok e f 3 _ _ r' r r2 r1
        refine r_mk e f _ (fun g1 g2 => ?_)
        have u6 : x.toInt - y.toInt ≤ i_min (a_hi E F a - a_lo E F b) (f_ub E F 3 a.2.1 b.2.1 + a.2.2 - b.2.2) := i_min_le (by omega) (by omega)
        have u8 : i_max (a_lo E F a - a_hi E F b) (a.2.2 - b.2.2 - f_ub E F 3 b.2.1 a.2.1) ≤ x.toInt - y.toInt := i_max_le (by omega) (by omega)
        rw [i32_sub (by omega) (by omega)]
        omega
      · simp only [cond_true]
        have hv := Nat.eq_of_beq_eq_true hv
        rw [hv] at r1
        have : r = r' := Option.some.inj (r1.symm.trans r2)
        refine r_mk e f _ (fun g1 g2 => ?_)
        rw [i32_sub (by omega) (by omega)]
        omega
    · simp only [cond_true]
      have h1 := a_ev_cst ha ca
      cases hz : i_le i_m (a.2.2 - a_hi E F b) && i_le (a.2.2 - a_lo E F b) i_M
      · exact r_any e f _
      · simp only [cond_true]
        obtain ⟨b1, b2⟩ := Bool.and_eq_true _ _ |>.mp hz
        have b1 := i_le_iff.mp b1
        have b2 := i_le_iff.mp b2
        have es : (x - y).toInt = x.toInt - y.toInt := i32_sub (by omega) (by omega)
        refine ⟨ρ ++ [(x - y).toInt], r_ext.push _, e_ok_push e ⟨by rw [es]; show a.2.2 - a_hi E F b ≤ _; omega, by rw [es]; show _ ≤ a.2.2 - a_lo E F b; omega, fun z => by cases z⟩, ?_, ?_, rfl⟩
        · intro q hq
          rcases List.mem_cons.mp hq with rfl | hq
          · exact ⟨(x - y).toInt, r', r_at_push _ e, r_ext.push _ _ _ r2, (fun z => by cases z), (fun _ => by rw [es]; show _ ≤ a.2.2 - b.2.2; omega)⟩
          · exact f_ok_ext (r_ext.push _) f q hq
        · show ((ρ ++ [(x - y).toInt])[E.length]?).map (fun r => r + 0) = _
          rw [r_at_push _ e]; simp
  · simp only [cond_true]
    have h2 := a_ev_cst hb cb
    rw [← h2, ← i32_neg_add]
    exact r_addk e f ia ha
/-- products: the greatest and the least of the corners -/
theorem mul_le_corner {x y la ha lb hb M : Int} (h1 : la ≤ x) (h2 : x ≤ ha) (h3 : lb ≤ y) (h4 : y ≤ hb) (c1 : la * lb ≤ M) (c2 : la * hb ≤ M) (c3 : ha * lb ≤ M) (c4 : ha * hb ≤ M) : x * y ≤ M := by
  have row : ∀ k : Int, k * lb ≤ M → k * hb ≤ M → k * y ≤ M := by
    intro k k1 k2
    rcases Int.le_total 0 k with hk | hk
    · exact Int.le_trans (Int.mul_le_mul_of_nonneg_left h4 hk) k2
    · exact Int.le_trans (Int.mul_le_mul_of_nonpos_left hk h3) k1
  have r1 := row la c1 c2
  have r2 := row ha c3 c4
  rcases Int.le_total 0 y with hy | hy
  · exact Int.le_trans (Int.mul_le_mul_of_nonneg_right h2 hy) r2
  · exact Int.le_trans (Int.mul_le_mul_of_nonpos_right h1 hy) r1
theorem corner_le_mul {x y la ha lb hb m : Int} (h1 : la ≤ x) (h2 : x ≤ ha) (h3 : lb ≤ y) (h4 : y ≤ hb) (c1 : m ≤ la * lb) (c2 : m ≤ la * hb) (c3 : m ≤ ha * lb) (c4 : m ≤ ha * hb) : m ≤ x * y := by
  have := mul_le_corner (x := -x) (y := y) (la := -ha) (ha := -la) (lb := lb) (hb := hb) (M := -m) (by omega) (by omega) h3 h4 (by rw [Int.neg_mul]; omega) (by rw [Int.neg_mul]; omega) (by rw [Int.neg_mul]; omega) (by rw [Int.neg_mul]; omega)
  rw [Int.neg_mul] at this
  omega
def a_mul (E : A_E) (F : A_F) (a b : A_V) : A_R :=
  bif a_cst b && (i_le 1 b.2.2 && i_le b.2.2 1) then (E, F, a) else
  match a_lo E F a, a_hi E F a, a_lo E F b, a_hi E F b with
  | la, ha, lb, hb => a_mkF E F (i_min (i_min (la * lb) (la * hb)) (i_min (ha * lb) (ha * hb))) (i_max (i_max (la * lb) (la * hb)) (i_max (ha * lb) (ha * hb)))
theorem a_mul_ok {B : Int} {E : A_E} {F : A_F} {ρ : List Int} (e : e_ok B E ρ) (f : f_ok F ρ) {a b : A_V} {x y : Int32} (ia : a_isI a = true) (ha : a_ev ρ a = some x.toInt) (hb : a_ev ρ b = some y.toInt) : r_ok B ρ (a_mul E F a b) (x * y) := by
  unfold a_mul
  have u1 := a_lo_ok e f ha
  have u2 := a_lo_ok e f hb
  have u3 := a_hi_ok e f ha
  have u4 := a_hi_ok e f hb
  cases hc : a_cst b && (i_le 1 b.2.2 && i_le b.2.2 1)
  · simp only [cond_false]
    refine r_mk e f _ (fun g1 g2 => ?_)
    generalize a_lo E F a = la at *
    generalize a_hi E F a = ha' at *
    generalize a_lo E F b = lb at *
    generalize a_hi E F b = hb' at *
    have v1 := @le_max (la * lb) (la * hb')
    have v2 := @le_max (ha' * lb) (ha' * hb')
    have v3 := @le_max (i_max (la * lb) (la * hb')) (i_max (ha' * lb) (ha' * hb'))
    have w1 := @min_le (la * lb) (la * hb')
    have w2 := @min_le (ha' * lb) (ha' * hb')
    have w3 := @min_le (i_min (la * lb) (la * hb')) (i_min (ha' * lb) (ha' * hb'))
    have z1 := mul_le_corner u1 u3 u2 u4 (M := i_max (i_max (la * lb) (la * hb')) (i_max (ha' * lb) (ha' * hb'))) (by omega) (by omega) (by omega) (by omega)
    have z2 := corner_le_mul u1 u3 u2 u4 (m := i_min (i_min (la * lb) (la * hb')) (i_min (ha' * lb) (ha' * hb'))) (by omega) (by omega) (by omega) (by omega)
    rw [i32_mul (by omega) (by omega)]
    exact ⟨z2, z1⟩
  · simp only [cond_true]
    obtain ⟨b1, b2⟩ := Bool.and_eq_true _ _ |>.mp hc
    have h2 := a_ev_cst hb b1
    obtain ⟨b3, b4⟩ := Bool.and_eq_true _ _ |>.mp b2
    have b3 := i_le_iff.mp b3
    have b4 := i_le_iff.mp b4
    have h3 : b.2.2 = 1 := by omega
    have : y = 1 := by
      apply Int32.toInt_inj.mp
      rw [h2, h3]; rfl
    subst this
    rw [Int32.mul_one]
    exact r_same e f ia ha rfl
/-- quotient and rest by a number above 0 -/
def a_two (g : Int32 → Int32 → Int32) (k : A_E → A_F → A_V → A_V → A_R) (E : A_E) (F : A_F) (a b : A_V) : A_R := bif a_cst a && a_cst b then (E, F, (0, 0, (g (Int32.ofInt a.2.2) (Int32.ofInt b.2.2)).toInt)) else k E F a b
theorem a_two_ok {B : Int} {E : A_E} {F : A_F} {ρ : List Int} (e : e_ok B E ρ) (f : f_ok F ρ) {a b : A_V} {x y : Int32} {g : Int32 → Int32 → Int32} {k : A_E → A_F → A_V → A_V → A_R} (ha : a_ev ρ a = some x.toInt) (hb : a_ev ρ b = some y.toInt) (h : r_ok B ρ (k E F a b) (g x y)) : r_ok B ρ (a_two g k E F a b) (g x y) := by
  unfold a_two
  cases hc : a_cst a && a_cst b
  · exact h
  · obtain ⟨b1, b2⟩ := Bool.and_eq_true _ _ |>.mp hc
    simp only [cond_true]
    rw [a_ofInt ha b1, a_ofInt hb b2]
    exact ⟨ρ, r_ext.rf, e, f, rfl, rfl⟩
def a_div1 (E : A_E) (F : A_F) (a b : A_V) : A_R := bif a_cst b && (i_le 1 b.2.2 && i_le 0 (a_lo E F a)) then a_mkF E F (a_lo E F a / b.2.2) (a_hi E F a / b.2.2) else a_mkF E F i_m i_M
def a_div (E : A_E) (F : A_F) (a b : A_V) : A_R := a_two (fun x y => x / y) a_div1 E F a b
theorem a_div_ok {B : Int} {E : A_E} {F : A_F} {ρ : List Int} (e : e_ok B E ρ) (f : f_ok F ρ) {a b : A_V} {x y : Int32} (ha : a_ev ρ a = some x.toInt) (hb : a_ev ρ b = some y.toInt) : r_ok B ρ (a_div E F a b) (x / y) := by
  refine a_two_ok (g := fun x y => x / y) e f ha hb ?_
  unfold a_div1
  cases hc : a_cst b && (i_le 1 b.2.2 && i_le 0 (a_lo E F a))
  · exact r_any e f _
  · obtain ⟨b1, b2⟩ := Bool.and_eq_true _ _ |>.mp hc
    obtain ⟨b2, b3⟩ := Bool.and_eq_true _ _ |>.mp b2
    have h2 := a_ev_cst hb b1
    have b2 := i_le_iff.mp b2
    have b3 := i_le_iff.mp b3
    have u1 := a_lo_ok e f ha
    have u3 := a_hi_ok e f ha
    simp only [cond_true]
    refine r_mk e f _ (fun g1 g2 => ?_)
    have hne : y ≠ -1 := fun z => by subst z; have : (-1 : Int32).toInt = -1 := rfl; omega
    show _ ≤ (x / y).toInt ∧ (x / y).toInt ≤ _
    rw [Int32.toInt_div_of_ne_right x y hne, Int.tdiv_eq_ediv_of_nonneg (by omega), h2]
    exact ⟨Int.ediv_le_ediv (by omega) u1, Int.ediv_le_ediv (by omega) u3⟩
def a_rem1 (E : A_E) (F : A_F) (a b : A_V) : A_R := bif a_cst b && i_le 1 b.2.2 then (bif i_le 0 (a_lo E F a) then (bif i_le (a_hi E F a + 1) b.2.2 then (E, F, a) else a_mkF E F 0 (b.2.2 - 1)) else a_mkF E F (1 - b.2.2) (b.2.2 - 1)) else a_mkF E F i_m i_M
def a_rem (E : A_E) (F : A_F) (a b : A_V) : A_R := a_two (fun x y => x - x / y * y) a_rem1 E F a b
theorem a_rem_ok {B : Int} {E : A_E} {F : A_F} {ρ : List Int} (e : e_ok B E ρ) (f : f_ok F ρ) {a b : A_V} {x y : Int32} (ia : a_isI a = true) (ha : a_ev ρ a = some x.toInt) (hb : a_ev ρ b = some y.toInt) : r_ok B ρ (a_rem E F a b) (x - x / y * y) := by
  refine a_two_ok (g := fun x y => x - x / y * y) e f ha hb ?_
  unfold a_rem1
  have hr : (x - x / y * y).toInt = x.toInt.tmod y.toInt := rem_toInt x y
  cases hc : a_cst b && i_le 1 b.2.2
  · exact r_any e f _
  · obtain ⟨b1, b2⟩ := Bool.and_eq_true _ _ |>.mp hc
    have h2 := a_ev_cst hb b1
    have b2 := i_le_iff.mp b2
    have u1 := a_lo_ok e f ha
    have u3 := a_hi_ok e f ha
    have tb := tmod_bounds (a := x.toInt) (M := y.toInt) (by omega)
    simp only [cond_true]
    cases b3 : i_le 0 (a_lo E F a)
    · simp only [cond_false]
      refine r_mk e f _ (fun g1 g2 => ?_)
      show _ ≤ (x - x / y * y).toInt ∧ (x - x / y * y).toInt ≤ _
      rw [hr]; omega
    · have b3 := i_le_iff.mp b3
      simp only [cond_true]
      cases b4 : i_le (a_hi E F a + 1) b.2.2
      · simp only [cond_false]
        refine r_mk e f _ (fun g1 g2 => ?_)
        show _ ≤ (x - x / y * y).toInt ∧ (x - x / y * y).toInt ≤ _
        rw [hr]
        have := Int.tmod_nonneg (a := x.toInt) y.toInt (by omega)
        omega
      · have b4 := i_le_iff.mp b4
        refine r_same e f ia ha ?_
        show _ = (x - x / y * y).toInt
        rw [hr, Int.tmod_eq_emod_of_nonneg (by omega), Int.emod_eq_of_lt (by omega) (by omega)]
/-- and, or, xor, shifts -/
theorem i32_nat {x : Int32} (h : 0 ≤ x.toInt) : x.toInt = x.toBitVec.toNat ∧ x.toBitVec.toNat < 2 ^ 31 := by
  have h1 : x.toInt = x.toBitVec.toInt := rfl
  have h2 := x.toBitVec.isLt
  rw [h1, BitVec.toInt_eq_toNat_cond] at h ⊢
  split <;> rename_i hc
  · rw [if_pos hc] at h; omega
  · rw [if_neg hc] at h; omega
theorem i32_ofNat {x : Int32} (h : x.toBitVec.toNat < 2 ^ 31) : x.toInt = x.toBitVec.toNat := by
  have h1 : x.toInt = x.toBitVec.toInt := rfl
  rw [h1, BitVec.toInt_eq_toNat_cond, if_pos (by omega)]
theorem i32_and_r {x y : Int32} (h : 0 ≤ y.toInt) : 0 ≤ (x &&& y).toInt ∧ (x &&& y).toInt ≤ y.toInt := by
  obtain ⟨h1, h2⟩ := i32_nat h
  have h3 : (x &&& y).toBitVec.toNat ≤ y.toBitVec.toNat := by
    rw [Int32.toBitVec_and, BitVec.toNat_and]; exact Nat.and_le_right
  rw [i32_ofNat (by omega : (x &&& y).toBitVec.toNat < 2 ^ 31), h1]
  omega
theorem i32_and_l {x y : Int32} (h : 0 ≤ x.toInt) : 0 ≤ (x &&& y).toInt ∧ (x &&& y).toInt ≤ x.toInt := by
  obtain ⟨h1, h2⟩ := i32_nat h
  have h3 : (x &&& y).toBitVec.toNat ≤ x.toBitVec.toNat := by
    rw [Int32.toBitVec_and, BitVec.toNat_and]; exact Nat.and_le_left
  rw [i32_ofNat (by omega : (x &&& y).toBitVec.toNat < 2 ^ 31), h1]
  omega
def a_and1 (E : A_E) (F : A_F) (a b : A_V) : A_R := bif i_le 0 (a_lo E F b) then (bif i_le 0 (a_lo E F a) then a_mkF E F 0 (i_min (a_hi E F a) (a_hi E F b)) else a_mkF E F 0 (a_hi E F b)) else (bif i_le 0 (a_lo E F a) then a_mkF E F 0 (a_hi E F a) else a_mkF E F i_m i_M)
def a_and (E : A_E) (F : A_F) (a b : A_V) : A_R := a_two (fun x y => x &&& y) a_and1 E F a b
theorem a_and_ok {B : Int} {E : A_E} {F : A_F} {ρ : List Int} (e : e_ok B E ρ) (f : f_ok F ρ) {a b : A_V} {x y : Int32} (ha : a_ev ρ a = some x.toInt) (hb : a_ev ρ b = some y.toInt) : r_ok B ρ (a_and E F a b) (x &&& y) := by
  refine a_two_ok (g := fun x y => x &&& y) e f ha hb ?_
  have u1 := a_lo_ok e f ha
  have u2 := a_lo_ok e f hb
  have u3 := a_hi_ok e f ha
  have u4 := a_hi_ok e f hb
  unfold a_and1
  cases c1 : i_le 0 (a_lo E F b)
  · cases c2 : i_le 0 (a_lo E F a)
    · exact r_any e f _
    · have c2 := i_le_iff.mp c2
      have := i32_and_l (x := x) (y := y) (by omega)
      exact r_mk e f _ (fun _ _ => ⟨this.1, Int.le_trans this.2 u3⟩)
  · have c1 := i_le_iff.mp c1
    have w := i32_and_r (x := x) (y := y) (by omega)
    cases c2 : i_le 0 (a_lo E F a)
    · exact r_mk e f _ (fun _ _ => ⟨w.1, Int.le_trans w.2 u4⟩)
    · have c2 := i_le_iff.mp c2
      have := i32_and_l (x := x) (y := y) (by omega)
      exact r_mk e f _ (fun _ _ => ⟨this.1, i_min_le (Int.le_trans this.2 u3) (Int.le_trans w.2 u4)⟩)
/-- 2^k - 1, the least that n reaches to, k up to 31 -/
def a_pw (n : Int) : Nat → Nat → Nat
  | 0, k => k
  | m + 1, k => bif i_le n (2 ^ k - 1) then k else a_pw n m (k + 1)
theorem a_pw_ok {n : Int} : ∀ (m k : Nat), n ≤ 2 ^ (a_pw n m k) - 1 ∨ a_pw n m k = m + k
  | 0, k => Or.inr (by simp [a_pw])
  | m + 1, k => by
    unfold a_pw
    cases h : i_le n (2 ^ k - 1)
    · rcases a_pw_ok m (k + 1) with h | h
      · exact Or.inl h
      · exact Or.inr (by simp only [cond_false]; omega)
    · exact Or.inl (i_le_iff.mp h)
def a_orx (E : A_E) (F : A_F) (a b : A_V) : A_R := bif i_le 0 (a_lo E F a) && i_le 0 (a_lo E F b) then a_mkF E F 0 (2 ^ (a_pw (i_max (a_hi E F a) (a_hi E F b)) 31 0) - 1) else a_mkF E F i_m i_M
theorem a_orx_ok {B : Int} {E : A_E} {F : A_F} {ρ : List Int} (e : e_ok B E ρ) (f : f_ok F ρ) {a b : A_V} {x y z : Int32} (ha : a_ev ρ a = some x.toInt) (hb : a_ev ρ b = some y.toInt)
    (hz : ∀ k : Nat, x.toBitVec.toNat < 2 ^ k → y.toBitVec.toNat < 2 ^ k → z.toBitVec.toNat < 2 ^ k) : r_ok B ρ (a_orx E F a b) z := by
  have u1 := a_lo_ok e f ha
  have u2 := a_lo_ok e f hb
  have u3 := a_hi_ok e f ha
  have u4 := a_hi_ok e f hb
  unfold a_orx
  cases hc : i_le 0 (a_lo E F a) && i_le 0 (a_lo E F b)
  · exact r_any e f _
  · obtain ⟨b1, b2⟩ := Bool.and_eq_true _ _ |>.mp hc
    have b1 := i_le_iff.mp b1
    have b2 := i_le_iff.mp b2
    obtain ⟨x1, x2⟩ := i32_nat (x := x) (by omega)
    obtain ⟨y1, y2⟩ := i32_nat (x := y) (by omega)
    simp only [cond_true]
    refine r_mk e f _ (fun g1 g2 => ?_)
    have hm := @le_max (a_hi E F a) (a_hi E F b)
    generalize i_max (a_hi E F a) (a_hi E F b) = M at *
    have z31 := i32_ofNat (hz 31 x2 y2)
    have key : z.toBitVec.toNat < 2 ^ (a_pw M 31 0) := by
      rcases a_pw_ok (n := M) 31 0 with h | h
      · have e2 : ((2 ^ (a_pw M 31 0) : Nat) : Int) = 2 ^ (a_pw M 31 0) := by push_cast; rfl
        exact hz _ (by omega) (by omega)
      · rw [h]; exact hz 31 x2 y2
    have e2 : ((2 ^ (a_pw M 31 0) : Nat) : Int) = 2 ^ (a_pw M 31 0) := by push_cast; rfl
    omega
def a_or (E : A_E) (F : A_F) (a b : A_V) : A_R := a_two (fun x y => x ||| y) a_orx E F a b
theorem a_or_ok {B : Int} {E : A_E} {F : A_F} {ρ : List Int} (e : e_ok B E ρ) (f : f_ok F ρ) {a b : A_V} {x y : Int32} (ha : a_ev ρ a = some x.toInt) (hb : a_ev ρ b = some y.toInt) : r_ok B ρ (a_or E F a b) (x ||| y) := by
  refine a_two_ok (g := fun x y => x ||| y) e f ha hb (a_orx_ok e f ha hb (fun k h1 h2 => ?_))
  rw [Int32.toBitVec_or, BitVec.toNat_or]; exact Nat.or_lt_two_pow h1 h2
def a_xor (E : A_E) (F : A_F) (a b : A_V) : A_R := a_two (fun x y => x ^^^ y) a_orx E F a b
theorem a_xor_ok {B : Int} {E : A_E} {F : A_F} {ρ : List Int} (e : e_ok B E ρ) (f : f_ok F ρ) {a b : A_V} {x y : Int32} (ha : a_ev ρ a = some x.toInt) (hb : a_ev ρ b = some y.toInt) : r_ok B ρ (a_xor E F a b) (x ^^^ y) := by
  refine a_two_ok (g := fun x y => x ^^^ y) e f ha hb (a_orx_ok e f ha hb (fun k h1 h2 => ?_))
  rw [Int32.toBitVec_xor, BitVec.toNat_xor]; exact Nat.xor_lt_two_pow h1 h2
def a_shl1 (E : A_E) (F : A_F) (a b : A_V) : A_R := bif a_cst a && (i_le 1 a.2.2 && i_le a.2.2 1) && (i_le 0 (a_lo E F b) && i_le (a_hi E F b) 30) then a_mkF E F (2 ^ (a_lo E F b).toNat) (2 ^ (a_hi E F b).toNat) else a_mkF E F i_m i_M
def a_shl (E : A_E) (F : A_F) (a b : A_V) : A_R := a_two (fun x y => x <<< (y &&& 31)) a_shl1 E F a b
theorem shl_one : ∀ n : Nat, n < 31 → ((1 : Int32) <<< (Int32.ofInt n &&& 31)).toInt = 2 ^ n := by decide +kernel
theorem a_shl_ok {B : Int} {E : A_E} {F : A_F} {ρ : List Int} (e : e_ok B E ρ) (f : f_ok F ρ) {a b : A_V} {x y : Int32} (ha : a_ev ρ a = some x.toInt) (hb : a_ev ρ b = some y.toInt) : r_ok B ρ (a_shl E F a b) (x <<< (y &&& 31)) := by
  refine a_two_ok (g := fun x y => x <<< (y &&& 31)) e f ha hb ?_
  unfold a_shl1
  cases hc : a_cst a && (i_le 1 a.2.2 && i_le a.2.2 1) && (i_le 0 (a_lo E F b) && i_le (a_hi E F b) 30)
  · exact r_any e f _
  · obtain ⟨b1, b2⟩ := Bool.and_eq_true _ _ |>.mp hc
    obtain ⟨b1, b3⟩ := Bool.and_eq_true _ _ |>.mp b1
    obtain ⟨b3, b4⟩ := Bool.and_eq_true _ _ |>.mp b3
    obtain ⟨b5, b6⟩ := Bool.and_eq_true _ _ |>.mp b2
    have b3 := i_le_iff.mp b3
    have b4 := i_le_iff.mp b4
    have b5 := i_le_iff.mp b5
    have b6 := i_le_iff.mp b6
    have u2 := a_lo_ok e f hb
    have u4 := a_hi_ok e f hb
    have h1 := a_ev_cst ha b1
    have hx : x = 1 := by
      apply Int32.toInt_inj.mp
      rw [h1, show a.2.2 = 1 by omega]; rfl
    subst hx
    have hy : Int32.ofInt (y.toInt.toNat : Nat) = y := by
      rw [Int.toNat_of_nonneg (by omega)]; exact i32_of y
    have hs := shl_one y.toInt.toNat (by omega)
    rw [hy] at hs
    simp only [cond_true]
    refine r_mk e f _ (fun g1 g2 => ?_)
    show _ ≤ ((1 : Int32) <<< (y &&& 31)).toInt ∧ ((1 : Int32) <<< (y &&& 31)).toInt ≤ _
    rw [hs]
    have p1 : (2 : Nat) ^ (a_lo E F b).toNat ≤ 2 ^ y.toInt.toNat := Nat.pow_le_pow_right (by decide) (by omega)
    have p2 : (2 : Nat) ^ y.toInt.toNat ≤ 2 ^ (a_hi E F b).toNat := Nat.pow_le_pow_right (by decide) (by omega)
    have q1 : ((2 ^ (a_lo E F b).toNat : Nat) : Int) ≤ ((2 ^ y.toInt.toNat : Nat) : Int) := Int.ofNat_le.mpr p1
    have q2 : ((2 ^ y.toInt.toNat : Nat) : Int) ≤ ((2 ^ (a_hi E F b).toNat : Nat) : Int) := Int.ofNat_le.mpr p2
    push_cast at q1 q2
    exact ⟨q1, q2⟩
def a_shr1 (E : A_E) (F : A_F) (a _b : A_V) : A_R := bif i_le 0 (a_lo E F a) then a_mkF E F 0 (a_hi E F a) else a_mkF E F i_m i_M
def a_shr (E : A_E) (F : A_F) (a b : A_V) : A_R := a_two (fun x y => x >>> (y &&& 31)) a_shr1 E F a b
theorem i32_shr {x y : Int32} (h : 0 ≤ x.toInt) : 0 ≤ (x >>> y).toInt ∧ (x >>> y).toInt ≤ x.toInt := by
  have e1 : (x >>> y).toInt = x.toInt >>> (y.toBitVec.smod 32).toNat := by
    show (x >>> y).toBitVec.toInt = _
    rw [Int32.toBitVec_shiftRight]; exact BitVec.toInt_sshiftRight
  rw [e1, Int.shiftRight_eq_div_pow]
  exact ⟨Int.ediv_nonneg h (by exact_mod_cast Nat.zero_le _), Int.ediv_le_self _ h⟩
theorem a_shr_ok {B : Int} {E : A_E} {F : A_F} {ρ : List Int} (e : e_ok B E ρ) (f : f_ok F ρ) {a b : A_V} {x y : Int32} (ha : a_ev ρ a = some x.toInt) (hb : a_ev ρ b = some y.toInt) : r_ok B ρ (a_shr E F a b) (x >>> (y &&& 31)) := by
  refine a_two_ok (g := fun x y => x >>> (y &&& 31)) e f ha hb ?_
  have u1 := a_lo_ok e f ha
  have u3 := a_hi_ok e f ha
  unfold a_shr1
  cases hc : i_le 0 (a_lo E F a)
  · exact r_any e f _
  · have hc := i_le_iff.mp hc
    have := i32_shr (x := x) (y := y &&& 31) (by omega)
    exact r_mk e f _ (fun _ _ => ⟨this.1, Int.le_trans this.2 u3⟩)
def j_ushr (x y : Int32) : Int32 := (x.toUInt32 >>> (y.toUInt32 &&& Int32.toUInt32 31)).toInt32
def a_ush1 (E : A_E) (F : A_F) (_a b : A_V) : A_R := bif a_cst b && (i_le 1 b.2.2 && i_le b.2.2 31) then a_mkF E F 0 (2 ^ (32 - b.2.2.toNat) - 1) else a_mkF E F i_m i_M
def a_ush (E : A_E) (F : A_F) (a b : A_V) : A_R := a_two j_ushr a_ush1 E F a b
theorem ush_amt : ∀ n : Nat, n < 32 → ((Int32.ofInt n).toUInt32 &&& Int32.toUInt32 31).toBitVec % 32 = BitVec.ofNat 32 n := by decide +kernel
theorem a_ush_ok {B : Int} {E : A_E} {F : A_F} {ρ : List Int} (e : e_ok B E ρ) (f : f_ok F ρ) {a b : A_V} {x y : Int32} (ha : a_ev ρ a = some x.toInt) (hb : a_ev ρ b = some y.toInt) : r_ok B ρ (a_ush E F a b) (j_ushr x y) := by
  refine a_two_ok (g := j_ushr) e f ha hb ?_
  unfold a_ush1
  cases hc : a_cst b && (i_le 1 b.2.2 && i_le b.2.2 31)
  · exact r_any e f _
  · obtain ⟨b1, b2⟩ := Bool.and_eq_true _ _ |>.mp hc
    obtain ⟨b2, b3⟩ := Bool.and_eq_true _ _ |>.mp b2
    have b2 := i_le_iff.mp b2
    have b3 := i_le_iff.mp b3
    have h1 := a_ev_cst hb b1
    simp only [cond_true]
    refine r_mk e f _ (fun g1 g2 => ?_)
    have hy : Int32.ofInt (b.2.2.toNat : Nat) = y := by
      rw [Int.toNat_of_nonneg (by omega), ← h1]; exact i32_of y
    have ht := ush_amt b.2.2.toNat (by omega)
    rw [hy] at ht
    have hv : (j_ushr x y).toBitVec.toNat = x.toBitVec.toNat >>> b.2.2.toNat := by
      show (x.toUInt32 >>> (y.toUInt32 &&& Int32.toUInt32 31)).toBitVec.toNat = _
      rw [UInt32.toBitVec_shiftRight, ht, BitVec.ushiftRight_eq', BitVec.toNat_ushiftRight]
      rw [BitVec.toNat_ofNat, Nat.mod_eq_of_lt (by omega)]
      rfl
    rw [Nat.shiftRight_eq_div_pow] at hv
    have hx := x.toBitVec.isLt
    have hp : (2 : Nat) ^ 32 = 2 ^ (32 - b.2.2.toNat) * 2 ^ b.2.2.toNat := by rw [← Nat.pow_add]; congr 1; omega
    have hlt : (j_ushr x y).toBitVec.toNat < 2 ^ (32 - b.2.2.toNat) := by
      rw [hv]; exact Nat.div_lt_of_lt_mul (by rw [Nat.mul_comm, ← hp]; exact hx)
    have h31 : (2 : Nat) ^ (32 - b.2.2.toNat) ≤ 2 ^ 31 := Nat.pow_le_pow_right (by decide) (by omega)
    rw [i32_ofNat (by omega)]
    have e2 : ((2 ^ (32 - b.2.2.toNat) : Nat) : Int) = 2 ^ (32 - b.2.2.toNat) := by push_cast; rfl
    omega
/-- one number: its negative, its low bytes -/
def a_neg (E : A_E) (F : A_F) (a : A_V) : A_R := a_mkF E F (-a_hi E F a) (-a_lo E F a)
theorem a_neg_ok {B : Int} {E : A_E} {F : A_F} {ρ : List Int} (e : e_ok B E ρ) (f : f_ok F ρ) {a : A_V} {x : Int32} (ha : a_ev ρ a = some x.toInt) : r_ok B ρ (a_neg E F a) (-x) := by
  have u1 := a_lo_ok e f ha
  have u3 := a_hi_ok e f ha
  refine r_mk e f _ (fun g1 g2 => ?_)
  rw [Int32.toInt_neg, i32_bm (by omega) (by omega)]
  omega
def a_nar (lo hi : Int) (E : A_E) (F : A_F) (a : A_V) : A_R := bif i_le lo (a_lo E F a) && i_le (a_hi E F a) hi then (E, F, a) else a_mkF E F lo hi
theorem a_nar_ok {B : Int} {E : A_E} {F : A_F} {ρ : List Int} (e : e_ok B E ρ) (f : f_ok F ρ) {a : A_V} {x y : Int32} {lo hi : Int} (ia : a_isI a = true) (ha : a_ev ρ a = some x.toInt) (hr : lo ≤ y.toInt ∧ y.toInt ≤ hi) (hs : lo ≤ x.toInt → x.toInt ≤ hi → y.toInt = x.toInt) : r_ok B ρ (a_nar lo hi E F a) y := by
  have u1 := a_lo_ok e f ha
  have u3 := a_hi_ok e f ha
  unfold a_nar
  cases hc : i_le lo (a_lo E F a) && i_le (a_hi E F a) hi
  · exact r_mk e f _ (fun _ _ => hr)
  · obtain ⟨b1, b2⟩ := Bool.and_eq_true _ _ |>.mp hc
    have b1 := i_le_iff.mp b1
    have b2 := i_le_iff.mp b2
    exact r_same e f ia ha (hs (by omega) (by omega)).symm
theorem nar_b (x : Int32) : (-128 ≤ x.toInt8.toInt32.toInt ∧ x.toInt8.toInt32.toInt ≤ 127) ∧ (-128 ≤ x.toInt → x.toInt ≤ 127 → x.toInt8.toInt32.toInt = x.toInt) := by
  rw [Int8.toInt_toInt32, Int32.toInt_toInt8]
  have h1 := Int.le_bmod (x := x.toInt) (m := 2 ^ 8) (by decide)
  have h2 := Int.bmod_lt (x := x.toInt) (m := 2 ^ 8) (by decide)
  exact ⟨⟨by omega, by omega⟩, fun g1 g2 => Int.bmod_eq_of_le (by omega) (by omega)⟩
theorem nar_s (x : Int32) : (-32768 ≤ x.toInt16.toInt32.toInt ∧ x.toInt16.toInt32.toInt ≤ 32767) ∧ (-32768 ≤ x.toInt → x.toInt ≤ 32767 → x.toInt16.toInt32.toInt = x.toInt) := by
  rw [Int16.toInt_toInt32, Int32.toInt_toInt16]
  have h1 := Int.le_bmod (x := x.toInt) (m := 2 ^ 16) (by decide)
  have h2 := Int.bmod_lt (x := x.toInt) (m := 2 ^ 16) (by decide)
  exact ⟨⟨by omega, by omega⟩, fun g1 g2 => Int.bmod_eq_of_le (by omega) (by omega)⟩
theorem nar_c (x : Int32) : (0 ≤ (x.toUInt32 % 65536).toInt32.toInt ∧ (x.toUInt32 % 65536).toInt32.toInt ≤ 65535) ∧ (0 ≤ x.toInt → x.toInt ≤ 65535 → (x.toUInt32 % 65536).toInt32.toInt = x.toInt) := by
  have hv : (x.toUInt32 % 65536).toInt32.toBitVec.toNat = x.toBitVec.toNat % 65536 := by
    show (x.toUInt32 % 65536).toBitVec.toNat = _
    rw [UInt32.toBitVec_mod, BitVec.toNat_umod]; rfl
  have hl : x.toBitVec.toNat % 65536 < 65536 := Nat.mod_lt _ (by decide)
  rw [i32_ofNat (by omega)]
  refine ⟨⟨by omega, by omega⟩, fun g1 g2 => ?_⟩
  obtain ⟨h1, h2⟩ := i32_nat g1
  rw [hv, h1, Nat.mod_eq_of_lt (by omega)]
