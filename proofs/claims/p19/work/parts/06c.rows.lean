/-! ONE INSTRUCTION over both: the machine, and the plain numbers -/
theorem i32_eqI {x y : Int32} : x = y ↔ x.toInt = y.toInt := Int32.toInt_inj.symm
theorem i32_z0 {y : Int32} (h : y.toInt = 0) : y = 0 := i32_eqI.mpr h
theorem i64_z0 {y : Int64} (h : y.toInt = 0) : y = 0 := Int64.toInt_inj.mp h
theorem z_cn_eq_t {x y : Int32} (q : x = y) : z_cn .eq x.toInt y.toInt = true := decide_eq_true (i32_eqI.mp q)
theorem z_cn_eq_f {x y : Int32} (q : ¬ x = y) : z_cn .eq x.toInt y.toInt = false := decide_eq_false (fun z => q (i32_eqI.mpr z))
theorem z_cn_ne_t {x y : Int32} (q : ¬ x = y) : z_cn .ne x.toInt y.toInt = true := by
  show (!decide (x.toInt = y.toInt)) = true
  rw [decide_eq_false (fun z => q (i32_eqI.mpr z))]; rfl
theorem z_cn_ne_f {x y : Int32} (q : x = y) : z_cn .ne x.toInt y.toInt = false := by
  show (!decide (x.toInt = y.toInt)) = false
  rw [decide_eq_true (i32_eqI.mp q)]; rfl
theorem z_cn_lt_t {x y : Int32} (q : x < y) : z_cn .lt x.toInt y.toInt = true := decide_eq_true (Int32.lt_iff_toInt_lt.mp q)
theorem z_cn_lt_f {x y : Int32} (q : ¬ x < y) : z_cn .lt x.toInt y.toInt = false := decide_eq_false (fun z => q (Int32.lt_iff_toInt_lt.mpr z))
theorem z_cn_gt_t {x y : Int32} (q : y < x) : z_cn .gt x.toInt y.toInt = true := decide_eq_true (Int32.lt_iff_toInt_lt.mp q)
theorem z_cn_gt_f {x y : Int32} (q : ¬ y < x) : z_cn .gt x.toInt y.toInt = false := decide_eq_false (fun z => q (Int32.lt_iff_toInt_lt.mpr z))
theorem z_cn_le_t {x y : Int32} (q : x ≤ y) : z_cn .le x.toInt y.toInt = true := decide_eq_true (Int32.le_iff_toInt_le.mp q)
theorem z_cn_le_f {x y : Int32} (q : ¬ x ≤ y) : z_cn .le x.toInt y.toInt = false := decide_eq_false (fun z => q (Int32.le_iff_toInt_le.mpr z))
theorem z_cn_ge_t {x y : Int32} (q : y ≤ x) : z_cn .ge x.toInt y.toInt = true := decide_eq_true (Int32.le_iff_toInt_le.mp q)
theorem z_cn_ge_f {x y : Int32} (q : ¬ y ≤ x) : z_cn .ge x.toInt y.toInt = false := decide_eq_false (fun z => q (Int32.le_iff_toInt_le.mpr z))
theorem x_tab3' : ∀ {j : Nat}, j < 2 → ∀ z ∈ x_tab j, i_m ≤ z ∧ z ≤ i_M
  | 0, _ => by decide
  | 1, _ => by decide
  | j + 2, h => absurd h (by omega)
theorem z_add_ok (x y : Int32) : z_add x.toInt y.toInt = (x + y).toInt := by unfold z_add; rw [i32_of, i32_of]
theorem z_sub_ok (x y : Int32) : z_sub x.toInt y.toInt = (x - y).toInt := by unfold z_sub; rw [i32_of, i32_of]
theorem z_mul_ok (x y : Int32) : z_mul x.toInt y.toInt = (x * y).toInt := by unfold z_mul; rw [i32_of, i32_of]
theorem z_and_ok (x y : Int32) : z_and x.toInt y.toInt = (x &&& y).toInt := by unfold z_and; rw [i32_of, i32_of]
theorem z_or_ok (x y : Int32) : z_or x.toInt y.toInt = (x ||| y).toInt := by unfold z_or; rw [i32_of, i32_of]
theorem z_xor_ok (x y : Int32) : z_xor x.toInt y.toInt = (x ^^^ y).toInt := by unfold z_xor; rw [i32_of, i32_of]
theorem z_shl_ok (x y : Int32) : z_shl x.toInt y.toInt = (x <<< (y &&& 31)).toInt := by unfold z_shl; rw [i32_of, i32_of]
theorem z_shr_ok (x y : Int32) : z_shr x.toInt y.toInt = (x >>> (y &&& 31)).toInt := by unfold z_shr; rw [i32_of, i32_of]
theorem z_ush_ok (x y : Int32) : z_ush x.toInt y.toInt = (x.toUInt32 >>> (y.toUInt32 &&& Int32.toUInt32 31)).toInt32.toInt := by unfold z_ush; rw [i32_of, i32_of]; rfl
theorem z_div_ok (x y : Int32) : z_div x.toInt y.toInt = (x / y).toInt := by unfold z_div; rw [i32_of, i32_of]
theorem z_rem_ok (x y : Int32) : z_rem x.toInt y.toInt = (x - x / y * y).toInt := by unfold z_rem; rw [i32_of, i32_of]
theorem z_neg_ok (x : Int32) : z_neg x.toInt = (-x).toInt := by unfold z_neg; rw [i32_of]
theorem z_i2b_ok (x : Int32) : z_i2b x.toInt = x.toInt8.toInt32.toInt := by unfold z_i2b; rw [i32_of]
theorem z_i2s_ok (x : Int32) : z_i2s x.toInt = x.toInt16.toInt32.toInt := by unfold z_i2s; rw [i32_of]
theorem z_i2c_ok (x : Int32) : z_i2c x.toInt = (x.toUInt32 % 65536).toInt32.toInt := by unfold z_i2c; rw [i32_of]
theorem z_i2l_ok (x : Int32) : z_i2l x.toInt = x.toInt64.toInt := by unfold z_i2l; rw [i32_of]
theorem z_l2i_ok (x : Int64) : z_l2i x.toInt = x.toInt32.toInt := by unfold z_l2i; rw [i64_of]
theorem z_ladd_ok (x y : Int64) : z_ladd x.toInt y.toInt = (x + y).toInt := by unfold z_ladd; rw [i64_of, i64_of]
theorem z_lsub_ok (x y : Int64) : z_lsub x.toInt y.toInt = (x - y).toInt := by unfold z_lsub; rw [i64_of, i64_of]
theorem z_lmul_ok (x y : Int64) : z_lmul x.toInt y.toInt = (x * y).toInt := by unfold z_lmul; rw [i64_of, i64_of]
theorem z_land_ok (x y : Int64) : z_land x.toInt y.toInt = (x &&& y).toInt := by unfold z_land; rw [i64_of, i64_of]
theorem z_lor_ok (x y : Int64) : z_lor x.toInt y.toInt = (x ||| y).toInt := by unfold z_lor; rw [i64_of, i64_of]
theorem z_ldiv_ok (x y : Int64) : z_ldiv x.toInt y.toInt = (x / y).toInt := by unfold z_ldiv; rw [i64_of, i64_of]
theorem z_lrem_ok (x y : Int64) : z_lrem x.toInt y.toInt = (x - x / y * y).toInt := by unfold z_lrem; rw [i64_of, i64_of]
theorem z_lshl_ok (x : Int64) (y : Int32) : z_lshl x.toInt y.toInt = (x <<< (y.toInt64 &&& 63)).toInt := by unfold z_lshl; rw [i64_of, i32_of]
theorem z_lush_ok (x : Int64) (y : Int32) : z_lush x.toInt y.toInt = (x.toUInt64 >>> (y.toInt64.toUInt64 &&& Int64.toUInt64 63)).toInt64.toInt := by unfold z_lush; rw [i64_of, i32_of]
theorem z_lcmp_ok (x y : Int64) : z_lcmp x.toInt y.toInt = (lg_cmp x y).toInt := by unfold z_lcmp; rw [i64_of, i64_of]
theorem z_by_ok (x : Int32) : z_by x.toInt = (vp_nar .byte x).toInt := by unfold z_by; rw [i32_of]
theorem z_ch_ok (x : Int32) : z_ch x.toInt = (vp_nar .char x).toInt := by unfold z_ch; rw [i32_of]
theorem z_bo_ok (x : Int32) : z_bo x.toInt = (vp_nar .boolean x).toInt := by unfold z_bo; rw [i32_of]
theorem z_cat {v : Value} : (v.category == 2) = ((z_v v).1 == 1) := by cases v <;> rfl
theorem z_cat1 {v : Value} (h : v.category = 1) : ((z_v v).1 == 1) = false := by rw [← z_cat, h]; rfl
theorem z_cat2 {v : Value} (h : v.category = 2) : ((z_v v).1 == 1) = true := by rw [← z_cat, h]; rfl
theorem z_lr_ld {nL j : Nat} {zl : z_L} {ls : List (Nat × Value)} {v : Value} (h : z_lr nL zl ls) (hj : m_ld j ls = some v) : zl[j]? = some (z_v v) := by
  unfold m_ld at hj
  obtain ⟨q, h1, h2⟩ := Option.map_eq_some_iff.mp hj
  have hq := List.find?_some h1
  have := h.2 q (List.mem_of_find?_eq_some h1)
  have hq : q.1 = j := by simpa using hq
  rw [hq, h2] at this
  exact this
theorem z_lr_st {nL j : Nat} {zl : z_L} {ls ls' : List (Nat × Value)} {v : Value} (h : z_lr nL zl ls) (hj : j < nL) (hs : ∀ q ∈ ls', q = (j, v) ∨ (¬ q.1 = j ∧ q ∈ ls)) : z_lr nL (zl.set j (z_v v)) ls' := by
  refine ⟨by rw [List.length_set]; exact h.1, fun q hq => ?_⟩
  rcases hs q hq with rfl | ⟨hne, hu⟩
  · exact List.getElem?_set_self (Nat.lt_of_lt_of_le hj h.1)
  · rw [List.getElem?_set_ne (Ne.symm hne)]
    exact h.2 q hu
theorem z_lr_st1 {nL j : Nat} {zl : z_L} {ls : List (Nat × Value)} {v : Value} (h : z_lr nL zl ls) (hj : j < nL) : z_lr nL (zl.set j (z_v v)) (m_st1 j v ls) := z_lr_st h hj fun q hq => by
  rcases List.mem_cons.mp hq with rfl | hq
  · exact Or.inl rfl
  · obtain ⟨h1, h2⟩ := List.mem_filter.mp hq
    obtain ⟨h3, -⟩ := Bool.and_eq_true _ _ |>.mp h2
    exact Or.inr ⟨by simpa using h3, h1⟩
theorem z_lr_st2 {nL j : Nat} {zl : z_L} {ls : List (Nat × Value)} {v : Value} (h : z_lr nL zl ls) (hj : j < nL) : z_lr nL (zl.set j (z_v v)) (m_st2 j v ls) := z_lr_st h hj fun q hq => by
  rcases List.mem_cons.mp hq with rfl | hq
  · exact Or.inl rfl
  · obtain ⟨h1, h2⟩ := List.mem_filter.mp hq
    obtain ⟨h3, -⟩ := Bool.and_eq_true _ _ |>.mp h2
    exact Or.inr ⟨by simpa using h3, h1⟩
theorem z_args_at : ∀ (vs : List Value) (n : Nat), ∀ q ∈ lv_args n vs, n ≤ q.1 ∧ (z_args (z_s vs))[q.1 - n]? = some (z_v q.2)
  | [], _, q, h => by cases h
  | v :: vs, n, q, h => by
    have e : z_args (z_s (v :: vs)) = bif v.category == 2 then z_v v :: (9, 0) :: z_args (z_s vs) else z_v v :: z_args (z_s vs) := by rw [z_cat]; rfl
    have h2 : q ∈ (n, v) :: lv_args (if v.category = 2 then n + 2 else n + 1) vs := h
    rw [e]
    rcases List.mem_cons.mp h2 with rfl | h3
    · refine ⟨Nat.le_refl _, ?_⟩
      show _[n - n]? = _
      rw [Nat.sub_self]
      cases v.category == 2 <;> rfl
    · by_cases hc : v.category = 2
      · rw [if_pos hc] at h3
        obtain ⟨g1, g2⟩ := z_args_at vs (n + 2) q h3
        have hb : (v.category == 2) = true := by rw [hc]; rfl
        refine ⟨by omega, ?_⟩
        rw [hb, show q.1 - n = (q.1 - (n + 2)) + 2 by omega]
        exact g2
      · rw [if_neg hc] at h3
        obtain ⟨g1, g2⟩ := z_args_at vs (n + 1) q h3
        have hb : (v.category == 2) = false := by simpa using hc
        refine ⟨by omega, ?_⟩
        rw [hb, show q.1 - n = (q.1 - (n + 1)) + 1 by omega]
        exact g2
theorem z_fr_ok {y n : Nat} {vs : List Value} (h : n ≤ z_nl y) : z_lr n (z_fr y (z_s vs)) (lv_args 0 vs) := by
  refine ⟨by unfold z_fr; rw [List.length_append, List.length_replicate]; omega, fun q hq => ?_⟩
  obtain ⟨-, h2⟩ := z_args_at vs 0 q hq
  have h2 : (z_args (z_s vs))[q.1]? = some (z_v q.2) := h2
  unfold z_fr
  rw [List.getElem?_append_left (List.getElem?_eq_some_iff.mp h2).1]
  exact h2
theorem z_m_set {σ : m_H} {p k : Nat} {kd : Nat ⊕ Nat} {vs : List Value} {v : Value} (h : σ[p]? = some (kd, vs)) (hk : k < vs.length) : z_m (σ.set p (kd, vs.set k v)) = z_up (z_m σ) p k (z_vn v) := by
  funext p' k'
  unfold z_m z_up
  rw [c_at_set h]
  by_cases hq : p' = p ∧ k' = k
  · rw [if_pos ⟨hq.1, hq.2, hk⟩, if_pos hq]
  · rw [if_neg (fun z => hq ⟨z.1, z.2.1⟩), if_neg hq]
theorem z_m_at {σ : m_H} {p k : Nat} {kd : Nat ⊕ Nat} {vs : List Value} {v : Value} (h : σ[p]? = some (kd, vs)) (hv : vs[k]? = some v) : z_m σ p k = z_vn v := by
  unfold z_m
  rw [c_at_eq h, hv]
theorem fits_tag {ty : FieldType} {v : Value} (h : fits ty v = true) : z_vt v = z_ft ty := by
  cases ty <;> cases v <;> first | rfl | (simp [fits] at h; done)
theorem z_in {σ : m_H} (hz : z_ok σ) {q : Nat} {kd : Nat ⊕ Nat} {vs : List Value} (h : σ[q]? = some (kd, vs)) : q < h_N ∧ h_kd q = kd ∧ vs.length = h_ln q ∧ ∀ (k : Nat) (v : Value), vs[k]? = some v → z_vt v = z_tt q k ∧ ((h_ty q k).1 = 1 → v = .ref (h_ty q k).2.1.toNat) := by
  have hl := (List.getElem?_eq_some_iff.mp h).1
  rw [hz.1] at hl
  obtain ⟨ws, w1, w2, w3⟩ := hz.2 q hl
  rw [h] at w1
  obtain ⟨rfl, rfl⟩ : kd = h_kd q ∧ vs = ws := by
    have := Option.some.inj w1
    exact ⟨congrArg Prod.fst this, congrArg Prod.snd this⟩
  exact ⟨hl, rfl, w2, w3⟩
theorem z_ok_set {σ : m_H} (hz : z_ok σ) {p k : Nat} {kd : Nat ⊕ Nat} {vs : List Value} {v : Value} (h : σ[p]? = some (kd, vs)) (ht : z_vt v = z_tt p k) (hc : ¬ (h_ty p k).1 = 1) : z_ok (σ.set p (kd, vs.set k v)) := by
  obtain ⟨a1, a2, a3, a4⟩ := z_in hz h
  refine ⟨by rw [List.length_set]; exact hz.1, fun p' hp' => ?_⟩
  by_cases hp : p' = p
  · subst hp
    have hl := (List.getElem?_eq_some_iff.mp h).1
    refine ⟨vs.set k v, by rw [a2]; exact List.getElem?_set_self hl, by rw [List.length_set]; exact a3, fun k' u hu => ?_⟩
    by_cases hk : k = k'
    · subst hk
      have hlt := (List.getElem?_eq_some_iff.mp hu).1
      rw [List.getElem?_set_self (by simpa using hlt)] at hu
      cases hu
      exact ⟨ht, fun z => absurd z hc⟩
    · rw [List.getElem?_set_ne hk] at hu
      exact a4 k' u hu
  · obtain ⟨ws, w1, w2, w3⟩ := hz.2 p' hp'
    exact ⟨ws, by rw [List.getElem?_set_ne (Ne.symm hp)]; exact w1, w2, w3⟩
/-- places that never change: final fields, and rows of places -/
def z_cstc : Bool := (List.range h_N).all fun p => match h_at p with
  | (.inl t, _, ts) => bif Nat.beq t 5 then true else ts.all fun y => !(Nat.beq y.1 1)
  | (.inr ci, n, ts) => Nat.beq ts.length n && (match vwCl[ci]? with
    | some r => (List.range ts.length).all fun k => match ts[k]? with
      | some y => !(Nat.beq y.1 1) || (r.2.1 k).2.2.2
      | none => false
    | none => false)
set_option maxRecDepth 100000 in
theorem z_cst : z_cstc = true := by decide +kernel
theorem z_cstA {q t : Nat} (hq : q < h_N) (h : h_kd q = .inl t) (ht : ¬ t = 5) (k : Nat) : ¬ (h_ty q k).1 = 1 := by
  have hc := List.all_eq_true.mp z_cst q (List.mem_range.mpr hq)
  unfold h_kd at h
  unfold h_ty t_at
  generalize h_at q = c at h hc ⊢
  obtain ⟨kd, n, ts⟩ := c
  simp only at h
  subst h
  simp only at hc ⊢
  have h5 : Nat.beq t 5 = false := by
    cases hb : Nat.beq t 5
    · rfl
    · exact absurd (Nat.eq_of_beq_eq_true hb) ht
  rw [h5] at hc
  split
  · rename_i y hy
    have := List.all_eq_true.mp hc y (List.mem_of_getElem? hy)
    intro z
    rw [z] at this
    cases this
  · intro z; cases z
theorem z_cstO {q ci : Nat} {r : vw_C} (hq : q < h_N) (h : h_kd q = .inr ci) (hr : vwCl[ci]? = some r) {k : Nat} (hk : k < h_ln q) (hf : (r.2.1 k).2.2.2 = false) : ¬ (h_ty q k).1 = 1 := by
  have hc := List.all_eq_true.mp z_cst q (List.mem_range.mpr hq)
  unfold h_kd at h
  unfold h_ln at hk
  unfold h_ty t_at
  generalize h_at q = c at h hc hk ⊢
  obtain ⟨kd, n, ts⟩ := c
  simp only at h hk
  subst h
  simp only at hc ⊢
  obtain ⟨c1, c2⟩ := Bool.and_eq_true _ _ |>.mp hc
  have c1 := Nat.eq_of_beq_eq_true c1
  rw [hr] at c2
  simp only at c2
  have hkl : k < ts.length := by omega
  have e := List.all_eq_true.mp c2 k (List.mem_range.mpr hkl)
  rw [Nat.mod_eq_of_lt hkl]
  split
  · rename_i y hy
    rw [hy] at e
    simp only at e
    rw [hf] at e
    intro z
    rw [z] at e
    cases e
  · intro z; cases z
theorem z_ix_ok {i : Int32} {n : Nat} (h : vp_in i n) : z_ix i.toInt n = true ∧ i.toNatClampNeg = i.toInt.toNat ∧ i.toInt.toNat < n := by
  have h1 : ¬ i < 0 := fun z => h (Or.inl z)
  have h2 := m_vp_lt h
  have e : i.toNatClampNeg = i.toInt.toNat := rfl
  have h3 : ¬ i.toInt < 0 := fun z => h1 (Int32.lt_iff_toInt_lt.mpr z)
  refine ⟨?_, e, by omega⟩
  unfold z_ix
  rw [decide_eq_true (show (0 : Int) ≤ i.toInt by omega), decide_eq_true (show i.toInt < (n : Int) by omega)]; rfl
theorem z_rf (q : Nat) : ((q : Int)).toNat = q := Int.toNat_natCast q
theorem z_blt {q n : Nat} (h : q < n) : Nat.blt q n = true := Nat.ble_eq_true_of_le h
theorem z_ln_lt {q : Nat} (h : q < h_N) : z_ln q = h_ln q := by unfold z_ln; rw [z_blt h]; rfl
theorem z_rd_lt {m : z_M} {q k : Nat} (h : q < h_N) : z_rd m q k = m q k := by unfold z_rd; rw [z_blt h]; rfl
theorem z_pi {m : z_M} {pc : Nat} {ls : z_L} {t : Nat} {a b : Int} {st : List z_V} (h : a = b) : (some (m, pc, ls, (t, a) :: st) : Option z_G) = some (m, pc, ls, (t, b) :: st) := by rw [h]
theorem z_gf_ok {σ : m_H} {q ci k : Nat} {fs : List Value} {v : Value} (hz : z_ok σ) (hσ : σ[q]? = some (.inr ci, fs)) (hv : fs[k]? = some v) : z_gf (z_m σ) q ci k = z_v v := by
  obtain ⟨a1, a2, a3, a4⟩ := z_in hz hσ
  obtain ⟨b1, b2⟩ := a4 k v hv
  unfold z_gf
  cases hb : Nat.beq (h_ty q k).1 1
  · simp only [cond_false]
    rw [z_m_at hσ hv]
    unfold z_tt at b1
    rw [a2] at b1
    simp only at b1
    rw [← b1]; rfl
  · simp only [cond_true]
    rw [b2 (Nat.eq_of_beq_eq_true hb)]; rfl
theorem z_ga_ok {σ : m_H} {q k r : Nat} {vs : List Value} (hz : z_ok σ) (hσ : σ[q]? = some (.inl 5, vs)) (hv : vs[k]? = some (.ref r)) : z_ga (z_m σ) q k = (2, (r : Int)) := by
  obtain ⟨a1, a2, a3, a4⟩ := z_in hz hσ
  obtain ⟨b1, b2⟩ := a4 k _ hv
  unfold z_ga
  cases hb : Nat.beq (h_ty q k).1 1
  · simp only [cond_false]
    rw [z_m_at hσ hv]; rfl
  · simp only [cond_true]
    have := b2 (Nat.eq_of_beq_eq_true hb)
    cases this; rfl
theorem z_ok_put {σ : m_H} {q ci k : Nat} {r : vw_C} {fs : List Value} {v : Value} (hz : z_ok σ) (hσ : σ[q]? = some (.inr ci, fs)) (hc : vwCl[ci]? = some r) (hf : (r.2.1 k).2.2.2 = false) (hfit : fits (a_ty ci k) v = true) (hl : k < fs.length) : z_ok (σ.set q (.inr ci, fs.set k v)) := by
  obtain ⟨a1, a2, a3, a4⟩ := z_in hz hσ
  refine z_ok_set hz hσ ?_ (z_cstO a1 a2 hc (by omega) hf)
  unfold z_tt
  rw [a2]
  exact fits_tag hfit
theorem z_ok_ast {σ : m_H} {q t k : Nat} {vs : List Value} {v : Value} (hz : z_ok σ) (hσ : σ[q]? = some (.inl t, vs)) (ht : ¬ t = 5) (h6 : t < 5) (hv : z_vt v = if t = 4 then 1 else if t = 5 then 2 else 0) : z_ok (σ.set q (.inl t, vs.set k v)) := by
  obtain ⟨a1, a2, a3, a4⟩ := z_in hz hσ
  refine z_ok_set hz hσ ?_ (z_cstA a1 a2 ht k)
  unfold z_tt
  rw [a2]
  exact hv
/-- the machine comes to QQ from every frame that this small frame is a picture of, and Z tells of the small frame what the machine ends with -/
noncomputable def mW (K : List (List a_K)) (Z : z_G → z_Q → Prop) (p : Program) (l : Launch) (e : Env) (R : Room) (s : State) (m : MethodId) (args : Array Value) (below : List Frame) (meth : Method) (c : Code) (QQ : z_Q → State → Prop) (dC : Nat → ClassId) (dI : Nat → Nat → Nat) (aC : Nat → ClassId) (A : Nat → Prop) (n0 : Nat) (ad0 xa : Nat → Nat) (nL : Nat) (g : m_G) : Prop :=
  z_cl K Z → z_ok g.1 → ∀ zl : z_L, z_lr nL zl g.2.2.2.2.1 → mV p l e R s m args below meth c (fun t => ∃ r, Z (z_g zl g) r ∧ QQ r t) dC dI aC A n0 ad0 xa nL g
section ZR
variable {p : Program} {l : Launch} {e : Env} {R : Room} {s : State} {m : MethodId} {args : Array Value} {below : List Frame} {meth : Method} {c : Code} {QQ : z_Q → State → Prop} {dC : Nat → ClassId} {dI : Nat → Nat → Nat} {aC : Nat → ClassId} {A : Nat → Prop} {n0 : Nat} {ad0 xa : Nat → Nat} {nL : Nat} {cc : ByteArray} {own : String} {X : Nat → Option (List Int32)} {Y : (Nat → Prop) → State → Heap → Prop}
variable {K : List (List a_K)} {Z : z_G → z_Q → Prop} {aux : List Nat}
variable {σ : m_H} {ce sl pc : Nat} {ls : List (Nat × Value)} {st : List Value}
theorem w_st {i : Jvm.ClassFile.Instr} {n : Nat} {zl zl' : z_L} (hcl : z_cl K Z) (hd : z_dx K cc pc i n aux) (hk : z_kd i aux = 0) {g' : m_G} (hs : ∀ fl, z_step (pc, i, n, fl, aux) (z_m σ, pc, zl, z_s st) = some (z_g zl' g')) (k : mV p l e R s m args below meth c (fun t => ∃ r, Z (z_g zl' g') r ∧ QQ r t) dC dI aC A n0 ad0 xa nL g') : mV p l e R s m args below meth c (fun t => ∃ r, Z (z_m σ, pc, zl, z_s st) r ∧ QQ r t) dC dI aC A n0 ad0 xa nL g' := by
  obtain ⟨fl, hq⟩ := hd.2
  exact mV_mono (fun t ⟨r, r1, r2⟩ => ⟨r, hcl.1 (pc, i, n, fl, aux) (z_m σ, pc, zl, z_s st) _ hq hk (hs fl) r r1, r2⟩) k
theorem mW_iconst (hC : m_Ctx p s m args meth c cc nL own dC dI aC A xa X Y) {n : Int} (hd : z_dx K cc pc (.iconst n) 1 aux)  (k : mW K Z p l e R s m args below meth c QQ dC dI aC A n0 ad0 xa nL (σ, ce, sl, pc + 1, ls, .int (Int32.ofInt n) :: st)) : mW K Z p l e R s m args below meth c QQ dC dI aC A n0 ad0 xa nL (σ, ce, sl, pc, ls, st) := fun hcl hz zl hl => mV_iconst hC hd.1  (w_st hcl hd rfl (fun _ => rfl) (k hcl hz zl hl))
theorem mW_bipush (hC : m_Ctx p s m args meth c cc nL own dC dI aC A xa X Y) {n : Int} (hd : z_dx K cc pc (.bipush n) 2 aux)  (k : mW K Z p l e R s m args below meth c QQ dC dI aC A n0 ad0 xa nL (σ, ce, sl, pc + 2, ls, .int (Int8.ofInt n).toInt32 :: st)) : mW K Z p l e R s m args below meth c QQ dC dI aC A n0 ad0 xa nL (σ, ce, sl, pc, ls, st) := fun hcl hz zl hl => mV_bipush hC hd.1  (w_st hcl hd rfl (fun _ => rfl) (k hcl hz zl hl))
theorem mW_sipush (hC : m_Ctx p s m args meth c cc nL own dC dI aC A xa X Y) {n : Int} (hd : z_dx K cc pc (.sipush n) 3 aux)  (k : mW K Z p l e R s m args below meth c QQ dC dI aC A n0 ad0 xa nL (σ, ce, sl, pc + 3, ls, .int (Int16.ofInt n).toInt32 :: st)) : mW K Z p l e R s m args below meth c QQ dC dI aC A n0 ad0 xa nL (σ, ce, sl, pc, ls, st) := fun hcl hz zl hl => mV_sipush hC hd.1  (w_st hcl hd rfl (fun _ => rfl) (k hcl hz zl hl))
theorem mW_lconst (hC : m_Ctx p s m args meth c cc nL own dC dI aC A xa X Y) {n : Fin 2} (hd : z_dx K cc pc (.lconst n) 1 aux)  (k : mW K Z p l e R s m args below meth c QQ dC dI aC A n0 ad0 xa nL (σ, ce, sl, pc + 1, ls, .long (Int64.ofNat (n : Nat)) :: st)) : mW K Z p l e R s m args below meth c QQ dC dI aC A n0 ad0 xa nL (σ, ce, sl, pc, ls, st) := fun hcl hz zl hl => mV_lconst hC hd.1  (w_st hcl hd rfl (fun _ => rfl) (k hcl hz zl hl))
theorem mW_ldc (hC : m_Ctx p s m args meth c cc nL own dC dI aC A xa X Y) {i v : Nat} (hd : z_dx K cc pc (.ldc i) 2 [v]) (hw : Cond.constant own i (Int32.ofInt ((v : Int) - 2147483648)) ∈ a_tb) (k : mW K Z p l e R s m args below meth c QQ dC dI aC A n0 ad0 xa nL (σ, ce, sl, pc + 2, ls, .int (Int32.ofInt ((v : Int) - 2147483648)) :: st)) : mW K Z p l e R s m args below meth c QQ dC dI aC A n0 ad0 xa nL (σ, ce, sl, pc, ls, st) := fun hcl hz zl hl => mV_ldc hC hd.1 hw (w_st hcl hd rfl (fun _ => rfl) (k hcl hz zl hl))
theorem mW_ldcw (hC : m_Ctx p s m args meth c cc nL own dC dI aC A xa X Y) {i v : Nat} (hd : z_dx K cc pc (.ldc_w i) 3 [v]) (hw : Cond.constant own i (Int32.ofInt ((v : Int) - 2147483648)) ∈ a_tb) (k : mW K Z p l e R s m args below meth c QQ dC dI aC A n0 ad0 xa nL (σ, ce, sl, pc + 3, ls, .int (Int32.ofInt ((v : Int) - 2147483648)) :: st)) : mW K Z p l e R s m args below meth c QQ dC dI aC A n0 ad0 xa nL (σ, ce, sl, pc, ls, st) := fun hcl hz zl hl => mV_ldcw hC hd.1 hw (w_st hcl hd rfl (fun _ => rfl) (k hcl hz zl hl))
theorem mW_ldc2 (hC : m_Ctx p s m args meth c cc nL own dC dI aC A xa X Y) {i v : Nat} (hd : z_dx K cc pc (.ldc2_w i) 3 [v]) (hw : Cond.constantLong own i (Int64.ofInt ((v : Int) - 9223372036854775808)) ∈ a_tb) (k : mW K Z p l e R s m args below meth c QQ dC dI aC A n0 ad0 xa nL (σ, ce, sl, pc + 3, ls, .long (Int64.ofInt ((v : Int) - 9223372036854775808)) :: st)) : mW K Z p l e R s m args below meth c QQ dC dI aC A n0 ad0 xa nL (σ, ce, sl, pc, ls, st) := fun hcl hz zl hl => mV_ldc2 hC hd.1 hw (w_st hcl hd rfl (fun _ => rfl) (k hcl hz zl hl))
theorem mW_iadd (hC : m_Ctx p s m args meth c cc nL own dC dI aC A xa X Y) {x y : Int32} (hd : z_dx K cc pc (.iadd) 1 aux)  (k : mW K Z p l e R s m args below meth c QQ dC dI aC A n0 ad0 xa nL (σ, ce, sl, pc + 1, ls, .int (x + y) :: st)) : mW K Z p l e R s m args below meth c QQ dC dI aC A n0 ad0 xa nL (σ, ce, sl, pc, ls, .int y :: .int x :: st) := fun hcl hz zl hl => mV_iadd hC hd.1  (w_st hcl hd rfl (fun _ => z_pi (z_add_ok x y)) (k hcl hz zl hl))
theorem mW_isub (hC : m_Ctx p s m args meth c cc nL own dC dI aC A xa X Y) {x y : Int32} (hd : z_dx K cc pc (.isub) 1 aux)  (k : mW K Z p l e R s m args below meth c QQ dC dI aC A n0 ad0 xa nL (σ, ce, sl, pc + 1, ls, .int (x - y) :: st)) : mW K Z p l e R s m args below meth c QQ dC dI aC A n0 ad0 xa nL (σ, ce, sl, pc, ls, .int y :: .int x :: st) := fun hcl hz zl hl => mV_isub hC hd.1  (w_st hcl hd rfl (fun _ => z_pi (z_sub_ok x y)) (k hcl hz zl hl))
theorem mW_imul (hC : m_Ctx p s m args meth c cc nL own dC dI aC A xa X Y) {x y : Int32} (hd : z_dx K cc pc (.imul) 1 aux)  (k : mW K Z p l e R s m args below meth c QQ dC dI aC A n0 ad0 xa nL (σ, ce, sl, pc + 1, ls, .int (x * y) :: st)) : mW K Z p l e R s m args below meth c QQ dC dI aC A n0 ad0 xa nL (σ, ce, sl, pc, ls, .int y :: .int x :: st) := fun hcl hz zl hl => mV_imul hC hd.1  (w_st hcl hd rfl (fun _ => z_pi (z_mul_ok x y)) (k hcl hz zl hl))
theorem mW_iand (hC : m_Ctx p s m args meth c cc nL own dC dI aC A xa X Y) {x y : Int32} (hd : z_dx K cc pc (.iand) 1 aux)  (k : mW K Z p l e R s m args below meth c QQ dC dI aC A n0 ad0 xa nL (σ, ce, sl, pc + 1, ls, .int (x &&& y) :: st)) : mW K Z p l e R s m args below meth c QQ dC dI aC A n0 ad0 xa nL (σ, ce, sl, pc, ls, .int y :: .int x :: st) := fun hcl hz zl hl => mV_iand hC hd.1  (w_st hcl hd rfl (fun _ => z_pi (z_and_ok x y)) (k hcl hz zl hl))
theorem mW_ior (hC : m_Ctx p s m args meth c cc nL own dC dI aC A xa X Y) {x y : Int32} (hd : z_dx K cc pc (.ior) 1 aux)  (k : mW K Z p l e R s m args below meth c QQ dC dI aC A n0 ad0 xa nL (σ, ce, sl, pc + 1, ls, .int (x ||| y) :: st)) : mW K Z p l e R s m args below meth c QQ dC dI aC A n0 ad0 xa nL (σ, ce, sl, pc, ls, .int y :: .int x :: st) := fun hcl hz zl hl => mV_ior hC hd.1  (w_st hcl hd rfl (fun _ => z_pi (z_or_ok x y)) (k hcl hz zl hl))
theorem mW_ixor (hC : m_Ctx p s m args meth c cc nL own dC dI aC A xa X Y) {x y : Int32} (hd : z_dx K cc pc (.ixor) 1 aux)  (k : mW K Z p l e R s m args below meth c QQ dC dI aC A n0 ad0 xa nL (σ, ce, sl, pc + 1, ls, .int (x ^^^ y) :: st)) : mW K Z p l e R s m args below meth c QQ dC dI aC A n0 ad0 xa nL (σ, ce, sl, pc, ls, .int y :: .int x :: st) := fun hcl hz zl hl => mV_ixor hC hd.1  (w_st hcl hd rfl (fun _ => z_pi (z_xor_ok x y)) (k hcl hz zl hl))
theorem mW_ishl (hC : m_Ctx p s m args meth c cc nL own dC dI aC A xa X Y) {x y : Int32} (hd : z_dx K cc pc (.ishl) 1 aux)  (k : mW K Z p l e R s m args below meth c QQ dC dI aC A n0 ad0 xa nL (σ, ce, sl, pc + 1, ls, .int (x <<< (y &&& 31)) :: st)) : mW K Z p l e R s m args below meth c QQ dC dI aC A n0 ad0 xa nL (σ, ce, sl, pc, ls, .int y :: .int x :: st) := fun hcl hz zl hl => mV_ishl hC hd.1  (w_st hcl hd rfl (fun _ => z_pi (z_shl_ok x y)) (k hcl hz zl hl))
theorem mW_ishr (hC : m_Ctx p s m args meth c cc nL own dC dI aC A xa X Y) {x y : Int32} (hd : z_dx K cc pc (.ishr) 1 aux)  (k : mW K Z p l e R s m args below meth c QQ dC dI aC A n0 ad0 xa nL (σ, ce, sl, pc + 1, ls, .int (x >>> (y &&& 31)) :: st)) : mW K Z p l e R s m args below meth c QQ dC dI aC A n0 ad0 xa nL (σ, ce, sl, pc, ls, .int y :: .int x :: st) := fun hcl hz zl hl => mV_ishr hC hd.1  (w_st hcl hd rfl (fun _ => z_pi (z_shr_ok x y)) (k hcl hz zl hl))
theorem mW_idiv (hC : m_Ctx p s m args meth c cc nL own dC dI aC A xa X Y) {x y : Int32} (hd : z_dx K cc pc (.idiv) 1 aux) (hne : ¬ y = 0) (k : mW K Z p l e R s m args below meth c QQ dC dI aC A n0 ad0 xa nL (σ, ce, sl, pc + 1, ls, .int (x / y) :: st)) : mW K Z p l e R s m args below meth c QQ dC dI aC A n0 ad0 xa nL (σ, ce, sl, pc, ls, .int y :: .int x :: st) := fun hcl hz zl hl => mV_idiv hC hd.1 hne (w_st hcl hd rfl (fun _ => (if_neg (fun z => hne (i32_z0 z))).trans (z_pi (z_div_ok x y))) (k hcl hz zl hl))
theorem mW_irem (hC : m_Ctx p s m args meth c cc nL own dC dI aC A xa X Y) {x y : Int32} (hd : z_dx K cc pc (.irem) 1 aux) (hne : ¬ y = 0) (k : mW K Z p l e R s m args below meth c QQ dC dI aC A n0 ad0 xa nL (σ, ce, sl, pc + 1, ls, .int (x - x / y * y) :: st)) : mW K Z p l e R s m args below meth c QQ dC dI aC A n0 ad0 xa nL (σ, ce, sl, pc, ls, .int y :: .int x :: st) := fun hcl hz zl hl => mV_irem hC hd.1 hne (w_st hcl hd rfl (fun _ => (if_neg (fun z => hne (i32_z0 z))).trans (z_pi (z_rem_ok x y))) (k hcl hz zl hl))
theorem mW_ineg (hC : m_Ctx p s m args meth c cc nL own dC dI aC A xa X Y) {x : Int32} (hd : z_dx K cc pc (.ineg) 1 aux)  (k : mW K Z p l e R s m args below meth c QQ dC dI aC A n0 ad0 xa nL (σ, ce, sl, pc + 1, ls, .int (-x) :: st)) : mW K Z p l e R s m args below meth c QQ dC dI aC A n0 ad0 xa nL (σ, ce, sl, pc, ls, .int x :: st) := fun hcl hz zl hl => mV_ineg hC hd.1  (w_st hcl hd rfl (fun _ => z_pi (z_neg_ok x)) (k hcl hz zl hl))
theorem mW_i2b (hC : m_Ctx p s m args meth c cc nL own dC dI aC A xa X Y) {x : Int32} (hd : z_dx K cc pc (.i2b) 1 aux)  (k : mW K Z p l e R s m args below meth c QQ dC dI aC A n0 ad0 xa nL (σ, ce, sl, pc + 1, ls, .int x.toInt8.toInt32 :: st)) : mW K Z p l e R s m args below meth c QQ dC dI aC A n0 ad0 xa nL (σ, ce, sl, pc, ls, .int x :: st) := fun hcl hz zl hl => mV_i2b hC hd.1  (w_st hcl hd rfl (fun _ => z_pi (z_i2b_ok x)) (k hcl hz zl hl))
theorem mW_i2s (hC : m_Ctx p s m args meth c cc nL own dC dI aC A xa X Y) {x : Int32} (hd : z_dx K cc pc (.i2s) 1 aux)  (k : mW K Z p l e R s m args below meth c QQ dC dI aC A n0 ad0 xa nL (σ, ce, sl, pc + 1, ls, .int x.toInt16.toInt32 :: st)) : mW K Z p l e R s m args below meth c QQ dC dI aC A n0 ad0 xa nL (σ, ce, sl, pc, ls, .int x :: st) := fun hcl hz zl hl => mV_i2s hC hd.1  (w_st hcl hd rfl (fun _ => z_pi (z_i2s_ok x)) (k hcl hz zl hl))
theorem mW_i2c (hC : m_Ctx p s m args meth c cc nL own dC dI aC A xa X Y) {x : Int32} (hd : z_dx K cc pc (.i2c) 1 aux)  (k : mW K Z p l e R s m args below meth c QQ dC dI aC A n0 ad0 xa nL (σ, ce, sl, pc + 1, ls, .int (x.toUInt32 % 65536).toInt32 :: st)) : mW K Z p l e R s m args below meth c QQ dC dI aC A n0 ad0 xa nL (σ, ce, sl, pc, ls, .int x :: st) := fun hcl hz zl hl => mV_i2c hC hd.1  (w_st hcl hd rfl (fun _ => z_pi (z_i2c_ok x)) (k hcl hz zl hl))
theorem mW_i2l (hC : m_Ctx p s m args meth c cc nL own dC dI aC A xa X Y) {x : Int32} (hd : z_dx K cc pc (.i2l) 1 aux)  (k : mW K Z p l e R s m args below meth c QQ dC dI aC A n0 ad0 xa nL (σ, ce, sl, pc + 1, ls, .long x.toInt64 :: st)) : mW K Z p l e R s m args below meth c QQ dC dI aC A n0 ad0 xa nL (σ, ce, sl, pc, ls, .int x :: st) := fun hcl hz zl hl => mV_i2l hC hd.1  (w_st hcl hd rfl (fun _ => z_pi (z_i2l_ok x)) (k hcl hz zl hl))
theorem mW_iushr (hC : m_Ctx p s m args meth c cc nL own dC dI aC A xa X Y) {x y : Int32} (hd : z_dx K cc pc (.iushr) 1 aux)  (k : mW K Z p l e R s m args below meth c QQ dC dI aC A n0 ad0 xa nL (σ, ce, sl, pc + 1, ls, .int (x.toUInt32 >>> (y.toUInt32 &&& Int32.toUInt32 31)).toInt32 :: st)) : mW K Z p l e R s m args below meth c QQ dC dI aC A n0 ad0 xa nL (σ, ce, sl, pc, ls, .int y :: .int x :: st) := fun hcl hz zl hl => mV_iushr hC hd.1  (w_st hcl hd rfl (fun _ => z_pi (z_ush_ok x y)) (k hcl hz zl hl))
theorem mW_ladd (hC : m_Ctx p s m args meth c cc nL own dC dI aC A xa X Y) {x y : Int64} (hd : z_dx K cc pc (.ladd) 1 aux)  (k : mW K Z p l e R s m args below meth c QQ dC dI aC A n0 ad0 xa nL (σ, ce, sl, pc + 1, ls, .long (x + y) :: st)) : mW K Z p l e R s m args below meth c QQ dC dI aC A n0 ad0 xa nL (σ, ce, sl, pc, ls, .long y :: .long x :: st) := fun hcl hz zl hl => mV_ladd hC hd.1  (w_st hcl hd rfl (fun _ => z_pi (z_ladd_ok x y)) (k hcl hz zl hl))
theorem mW_lsub (hC : m_Ctx p s m args meth c cc nL own dC dI aC A xa X Y) {x y : Int64} (hd : z_dx K cc pc (.lsub) 1 aux)  (k : mW K Z p l e R s m args below meth c QQ dC dI aC A n0 ad0 xa nL (σ, ce, sl, pc + 1, ls, .long (x - y) :: st)) : mW K Z p l e R s m args below meth c QQ dC dI aC A n0 ad0 xa nL (σ, ce, sl, pc, ls, .long y :: .long x :: st) := fun hcl hz zl hl => mV_lsub hC hd.1  (w_st hcl hd rfl (fun _ => z_pi (z_lsub_ok x y)) (k hcl hz zl hl))
theorem mW_lmul (hC : m_Ctx p s m args meth c cc nL own dC dI aC A xa X Y) {x y : Int64} (hd : z_dx K cc pc (.lmul) 1 aux)  (k : mW K Z p l e R s m args below meth c QQ dC dI aC A n0 ad0 xa nL (σ, ce, sl, pc + 1, ls, .long (x * y) :: st)) : mW K Z p l e R s m args below meth c QQ dC dI aC A n0 ad0 xa nL (σ, ce, sl, pc, ls, .long y :: .long x :: st) := fun hcl hz zl hl => mV_lmul hC hd.1  (w_st hcl hd rfl (fun _ => z_pi (z_lmul_ok x y)) (k hcl hz zl hl))
theorem mW_land (hC : m_Ctx p s m args meth c cc nL own dC dI aC A xa X Y) {x y : Int64} (hd : z_dx K cc pc (.land) 1 aux)  (k : mW K Z p l e R s m args below meth c QQ dC dI aC A n0 ad0 xa nL (σ, ce, sl, pc + 1, ls, .long (x &&& y) :: st)) : mW K Z p l e R s m args below meth c QQ dC dI aC A n0 ad0 xa nL (σ, ce, sl, pc, ls, .long y :: .long x :: st) := fun hcl hz zl hl => mV_land hC hd.1  (w_st hcl hd rfl (fun _ => z_pi (z_land_ok x y)) (k hcl hz zl hl))
theorem mW_lor (hC : m_Ctx p s m args meth c cc nL own dC dI aC A xa X Y) {x y : Int64} (hd : z_dx K cc pc (.lor) 1 aux)  (k : mW K Z p l e R s m args below meth c QQ dC dI aC A n0 ad0 xa nL (σ, ce, sl, pc + 1, ls, .long (x ||| y) :: st)) : mW K Z p l e R s m args below meth c QQ dC dI aC A n0 ad0 xa nL (σ, ce, sl, pc, ls, .long y :: .long x :: st) := fun hcl hz zl hl => mV_lor hC hd.1  (w_st hcl hd rfl (fun _ => z_pi (z_lor_ok x y)) (k hcl hz zl hl))
theorem mW_ldiv (hC : m_Ctx p s m args meth c cc nL own dC dI aC A xa X Y) {x y : Int64} (hd : z_dx K cc pc (.ldiv) 1 aux) (hne : ¬ y = 0) (k : mW K Z p l e R s m args below meth c QQ dC dI aC A n0 ad0 xa nL (σ, ce, sl, pc + 1, ls, .long (x / y) :: st)) : mW K Z p l e R s m args below meth c QQ dC dI aC A n0 ad0 xa nL (σ, ce, sl, pc, ls, .long y :: .long x :: st) := fun hcl hz zl hl => mV_ldiv hC hd.1 hne (w_st hcl hd rfl (fun _ => (if_neg (fun z => hne (i64_z0 z))).trans (z_pi (z_ldiv_ok x y))) (k hcl hz zl hl))
theorem mW_lrem (hC : m_Ctx p s m args meth c cc nL own dC dI aC A xa X Y) {x y : Int64} (hd : z_dx K cc pc (.lrem) 1 aux) (hne : ¬ y = 0) (k : mW K Z p l e R s m args below meth c QQ dC dI aC A n0 ad0 xa nL (σ, ce, sl, pc + 1, ls, .long (x - x / y * y) :: st)) : mW K Z p l e R s m args below meth c QQ dC dI aC A n0 ad0 xa nL (σ, ce, sl, pc, ls, .long y :: .long x :: st) := fun hcl hz zl hl => mV_lrem hC hd.1 hne (w_st hcl hd rfl (fun _ => (if_neg (fun z => hne (i64_z0 z))).trans (z_pi (z_lrem_ok x y))) (k hcl hz zl hl))
theorem mW_lshl (hC : m_Ctx p s m args meth c cc nL own dC dI aC A xa X Y) {x : Int64} {y : Int32} (hd : z_dx K cc pc (.lshl) 1 aux)  (k : mW K Z p l e R s m args below meth c QQ dC dI aC A n0 ad0 xa nL (σ, ce, sl, pc + 1, ls, .long (x <<< (y.toInt64 &&& 63)) :: st)) : mW K Z p l e R s m args below meth c QQ dC dI aC A n0 ad0 xa nL (σ, ce, sl, pc, ls, .int y :: .long x :: st) := fun hcl hz zl hl => mV_lshl hC hd.1  (w_st hcl hd rfl (fun _ => z_pi (z_lshl_ok x y)) (k hcl hz zl hl))
theorem mW_lushr (hC : m_Ctx p s m args meth c cc nL own dC dI aC A xa X Y) {x : Int64} {y : Int32} (hd : z_dx K cc pc (.lushr) 1 aux)  (k : mW K Z p l e R s m args below meth c QQ dC dI aC A n0 ad0 xa nL (σ, ce, sl, pc + 1, ls, .long (x.toUInt64 >>> (y.toInt64.toUInt64 &&& Int64.toUInt64 63)).toInt64 :: st)) : mW K Z p l e R s m args below meth c QQ dC dI aC A n0 ad0 xa nL (σ, ce, sl, pc, ls, .int y :: .long x :: st) := fun hcl hz zl hl => mV_lushr hC hd.1  (w_st hcl hd rfl (fun _ => z_pi (z_lush_ok x y)) (k hcl hz zl hl))
theorem mW_lcmp (hC : m_Ctx p s m args meth c cc nL own dC dI aC A xa X Y) {x y : Int64} (hd : z_dx K cc pc (.lcmp) 1 aux)  (k : mW K Z p l e R s m args below meth c QQ dC dI aC A n0 ad0 xa nL (σ, ce, sl, pc + 1, ls, .int (lg_cmp x y) :: st)) : mW K Z p l e R s m args below meth c QQ dC dI aC A n0 ad0 xa nL (σ, ce, sl, pc, ls, .long y :: .long x :: st) := fun hcl hz zl hl => mV_lcmp hC hd.1  (w_st hcl hd rfl (fun _ => z_pi (z_lcmp_ok x y)) (k hcl hz zl hl))
theorem mW_l2i (hC : m_Ctx p s m args meth c cc nL own dC dI aC A xa X Y) {x : Int64} (hd : z_dx K cc pc (.l2i) 1 aux)  (k : mW K Z p l e R s m args below meth c QQ dC dI aC A n0 ad0 xa nL (σ, ce, sl, pc + 1, ls, .int x.toInt32 :: st)) : mW K Z p l e R s m args below meth c QQ dC dI aC A n0 ad0 xa nL (σ, ce, sl, pc, ls, .long x :: st) := fun hcl hz zl hl => mV_l2i hC hd.1  (w_st hcl hd rfl (fun _ => z_pi (z_l2i_ok x)) (k hcl hz zl hl))
theorem mW_dup (hC : m_Ctx p s m args meth c cc nL own dC dI aC A xa X Y) {a : Value} (hd : z_dx K cc pc (.dup) 1 aux) (ha : a.category = 1) (k : mW K Z p l e R s m args below meth c QQ dC dI aC A n0 ad0 xa nL (σ, ce, sl, pc + 1, ls, a :: a :: st)) : mW K Z p l e R s m args below meth c QQ dC dI aC A n0 ad0 xa nL (σ, ce, sl, pc, ls, a :: st) := fun hcl hz zl hl => mV_dup hC hd.1 ha (w_st hcl hd rfl (fun _ => rfl) (k hcl hz zl hl))
theorem mW_pop (hC : m_Ctx p s m args meth c cc nL own dC dI aC A xa X Y) {a : Value} (hd : z_dx K cc pc (.pop) 1 aux) (ha : a.category = 1) (k : mW K Z p l e R s m args below meth c QQ dC dI aC A n0 ad0 xa nL (σ, ce, sl, pc + 1, ls, st)) : mW K Z p l e R s m args below meth c QQ dC dI aC A n0 ad0 xa nL (σ, ce, sl, pc, ls, a :: st) := fun hcl hz zl hl => mV_pop hC hd.1 ha (w_st hcl hd rfl (fun _ => rfl) (k hcl hz zl hl))
theorem mW_dup_x1 (hC : m_Ctx p s m args meth c cc nL own dC dI aC A xa X Y) {a b : Value} (hd : z_dx K cc pc (.dup_x1) 1 aux) (ha : a.category = 1) (hb : b.category = 1) (k : mW K Z p l e R s m args below meth c QQ dC dI aC A n0 ad0 xa nL (σ, ce, sl, pc + 1, ls, a :: b :: a :: st)) : mW K Z p l e R s m args below meth c QQ dC dI aC A n0 ad0 xa nL (σ, ce, sl, pc, ls, a :: b :: st) := fun hcl hz zl hl => mV_dup_x1 hC hd.1 ha hb (w_st hcl hd rfl (fun _ => rfl) (k hcl hz zl hl))
theorem mW_dup2 (hC : m_Ctx p s m args meth c cc nL own dC dI aC A xa X Y) {a b : Value} (hd : z_dx K cc pc (.dup2) 1 aux) (ha : a.category = 1) (hb : b.category = 1) (k : mW K Z p l e R s m args below meth c QQ dC dI aC A n0 ad0 xa nL (σ, ce, sl, pc + 1, ls, a :: b :: a :: b :: st)) : mW K Z p l e R s m args below meth c QQ dC dI aC A n0 ad0 xa nL (σ, ce, sl, pc, ls, a :: b :: st) := fun hcl hz zl hl => mV_dup2 hC hd.1 ha hb (w_st hcl hd rfl (fun _ => (congrArg (fun z => bif z then some (z_m σ, pc + 1, zl, z_v a :: z_v a :: z_v b :: z_s st) else some (z_m σ, pc + 1, zl, z_v a :: z_v b :: z_v a :: z_v b :: z_s st)) (z_cat1 ha))) (k hcl hz zl hl))
theorem mW_dup2w (hC : m_Ctx p s m args meth c cc nL own dC dI aC A xa X Y) {a : Value} (hd : z_dx K cc pc (.dup2) 1 aux) (ha : a.category = 2) (k : mW K Z p l e R s m args below meth c QQ dC dI aC A n0 ad0 xa nL (σ, ce, sl, pc + 1, ls, a :: a :: st)) : mW K Z p l e R s m args below meth c QQ dC dI aC A n0 ad0 xa nL (σ, ce, sl, pc, ls, a :: st) := fun hcl hz zl hl => mV_dup2w hC hd.1 ha (w_st hcl hd rfl (fun _ => (congrArg (fun z => bif z then some (z_m σ, pc + 1, zl, z_v a :: z_v a :: z_s st) else (match z_s st with | b :: r => some (z_m σ, pc + 1, zl, z_v a :: b :: z_v a :: b :: r) | _ => none)) (z_cat2 ha))) (k hcl hz zl hl))
theorem mW_pop2w (hC : m_Ctx p s m args meth c cc nL own dC dI aC A xa X Y) {a : Value} (hd : z_dx K cc pc (.pop2) 1 aux) (ha : a.category = 2) (k : mW K Z p l e R s m args below meth c QQ dC dI aC A n0 ad0 xa nL (σ, ce, sl, pc + 1, ls, st)) : mW K Z p l e R s m args below meth c QQ dC dI aC A n0 ad0 xa nL (σ, ce, sl, pc, ls, a :: st) := fun hcl hz zl hl => mV_pop2w hC hd.1 ha (w_st hcl hd rfl (fun _ => rfl) (k hcl hz zl hl))
theorem mW_iload_n (hC : m_Ctx p s m args meth c cc nL own dC dI aC A xa X Y) {j : Fin 4} {x : Int32} (hd : z_dx K cc pc (.iload_n j) 1 aux) (hl : m_ld (j : Nat) ls = some (.int x)) (k : mW K Z p l e R s m args below meth c QQ dC dI aC A n0 ad0 xa nL (σ, ce, sl, pc + 1, ls, .int x :: st)) : mW K Z p l e R s m args below meth c QQ dC dI aC A n0 ad0 xa nL (σ, ce, sl, pc, ls, st) := fun hcl hz zl hzl => mV_iload_n hC hd.1 hl (w_st hcl hd rfl (fun _ => by
  have e := z_lr_ld hzl hl
  show (match zl[(j : Nat)]? with | some (_, x) => some (z_m σ, pc + 1, zl, (0, x) :: z_s st) | none => none) = _
  rw [e]; rfl) (k hcl hz zl hzl))
theorem mW_iload (hC : m_Ctx p s m args meth c cc nL own dC dI aC A xa X Y) {j : Nat} {x : Int32} (hd : z_dx K cc pc (.iload j) 2 aux) (hl : m_ld j ls = some (.int x)) (k : mW K Z p l e R s m args below meth c QQ dC dI aC A n0 ad0 xa nL (σ, ce, sl, pc + 2, ls, .int x :: st)) : mW K Z p l e R s m args below meth c QQ dC dI aC A n0 ad0 xa nL (σ, ce, sl, pc, ls, st) := fun hcl hz zl hzl => mV_iload hC hd.1 hl (w_st hcl hd rfl (fun _ => by
  have e := z_lr_ld hzl hl
  show (match zl[j]? with | some (_, x) => some (z_m σ, pc + 2, zl, (0, x) :: z_s st) | none => none) = _
  rw [e]; rfl) (k hcl hz zl hzl))
theorem mW_istore_n (hC : m_Ctx p s m args meth c cc nL own dC dI aC A xa X Y) {j : Fin 4} {x : Int32} (hd : z_dx K cc pc (.istore_n j) 1 aux) (hn : (j : Nat) < nL) (k : mW K Z p l e R s m args below meth c QQ dC dI aC A n0 ad0 xa nL (σ, ce, sl, pc + 1, (m_st1 (j : Nat) (.int x) ls), st)) : mW K Z p l e R s m args below meth c QQ dC dI aC A n0 ad0 xa nL (σ, ce, sl, pc, ls, .int x :: st) := fun hcl hz zl hl => mV_istore_n hC hd.1 hn (w_st (zl' := zl.set (j : Nat) (z_v (.int x))) hcl hd rfl (fun _ => rfl) (k hcl hz _ (z_lr_st1 hl (show (j : Nat) < nL by omega))))
theorem mW_istore (hC : m_Ctx p s m args meth c cc nL own dC dI aC A xa X Y) {j : Nat} {x : Int32} (hd : z_dx K cc pc (.istore j) 2 aux) (hn : j < nL) (k : mW K Z p l e R s m args below meth c QQ dC dI aC A n0 ad0 xa nL (σ, ce, sl, pc + 2, (m_st1 j (.int x) ls), st)) : mW K Z p l e R s m args below meth c QQ dC dI aC A n0 ad0 xa nL (σ, ce, sl, pc, ls, .int x :: st) := fun hcl hz zl hl => mV_istore hC hd.1 hn (w_st (zl' := zl.set j (z_v (.int x))) hcl hd rfl (fun _ => rfl) (k hcl hz _ (z_lr_st1 hl (show j < nL by omega))))
theorem mW_lload_n (hC : m_Ctx p s m args meth c cc nL own dC dI aC A xa X Y) {j : Fin 4} {x : Int64} (hd : z_dx K cc pc (.lload_n j) 1 aux) (hl : m_ld (j : Nat) ls = some (.long x)) (k : mW K Z p l e R s m args below meth c QQ dC dI aC A n0 ad0 xa nL (σ, ce, sl, pc + 1, ls, .long x :: st)) : mW K Z p l e R s m args below meth c QQ dC dI aC A n0 ad0 xa nL (σ, ce, sl, pc, ls, st) := fun hcl hz zl hzl => mV_lload_n hC hd.1 hl (w_st hcl hd rfl (fun _ => by
  have e := z_lr_ld hzl hl
  show (match zl[(j : Nat)]? with | some (_, x) => some (z_m σ, pc + 1, zl, (1, x) :: z_s st) | none => none) = _
  rw [e]; rfl) (k hcl hz zl hzl))
theorem mW_lload (hC : m_Ctx p s m args meth c cc nL own dC dI aC A xa X Y) {j : Nat} {x : Int64} (hd : z_dx K cc pc (.lload j) 2 aux) (hl : m_ld j ls = some (.long x)) (k : mW K Z p l e R s m args below meth c QQ dC dI aC A n0 ad0 xa nL (σ, ce, sl, pc + 2, ls, .long x :: st)) : mW K Z p l e R s m args below meth c QQ dC dI aC A n0 ad0 xa nL (σ, ce, sl, pc, ls, st) := fun hcl hz zl hzl => mV_lload hC hd.1 hl (w_st hcl hd rfl (fun _ => by
  have e := z_lr_ld hzl hl
  show (match zl[j]? with | some (_, x) => some (z_m σ, pc + 2, zl, (1, x) :: z_s st) | none => none) = _
  rw [e]; rfl) (k hcl hz zl hzl))
theorem mW_lstore_n (hC : m_Ctx p s m args meth c cc nL own dC dI aC A xa X Y) {j : Fin 4} {x : Int64} (hd : z_dx K cc pc (.lstore_n j) 1 aux) (hn : (j : Nat) + 1 < nL) (k : mW K Z p l e R s m args below meth c QQ dC dI aC A n0 ad0 xa nL (σ, ce, sl, pc + 1, (m_st2 (j : Nat) (.long x) ls), st)) : mW K Z p l e R s m args below meth c QQ dC dI aC A n0 ad0 xa nL (σ, ce, sl, pc, ls, .long x :: st) := fun hcl hz zl hl => mV_lstore_n hC hd.1 hn (w_st (zl' := zl.set (j : Nat) (z_v (.long x))) hcl hd rfl (fun _ => rfl) (k hcl hz _ (z_lr_st2 hl (show (j : Nat) < nL by omega))))
theorem mW_lstore (hC : m_Ctx p s m args meth c cc nL own dC dI aC A xa X Y) {j : Nat} {x : Int64} (hd : z_dx K cc pc (.lstore j) 2 aux) (hn : j + 1 < nL) (k : mW K Z p l e R s m args below meth c QQ dC dI aC A n0 ad0 xa nL (σ, ce, sl, pc + 2, (m_st2 j (.long x) ls), st)) : mW K Z p l e R s m args below meth c QQ dC dI aC A n0 ad0 xa nL (σ, ce, sl, pc, ls, .long x :: st) := fun hcl hz zl hl => mV_lstore hC hd.1 hn (w_st (zl' := zl.set j (z_v (.long x))) hcl hd rfl (fun _ => rfl) (k hcl hz _ (z_lr_st2 hl (show j < nL by omega))))
theorem mW_aload_n (hC : m_Ctx p s m args meth c cc nL own dC dI aC A xa X Y) {j : Fin 4} {x : Nat} (hd : z_dx K cc pc (.aload_n j) 1 aux) (hl : m_ld (j : Nat) ls = some (.ref x)) (k : mW K Z p l e R s m args below meth c QQ dC dI aC A n0 ad0 xa nL (σ, ce, sl, pc + 1, ls, .ref x :: st)) : mW K Z p l e R s m args below meth c QQ dC dI aC A n0 ad0 xa nL (σ, ce, sl, pc, ls, st) := fun hcl hz zl hzl => mV_aload_n hC hd.1 hl (w_st hcl hd rfl (fun _ => by
  have e := z_lr_ld hzl hl
  show (match zl[(j : Nat)]? with | some (_, x) => some (z_m σ, pc + 1, zl, (2, x) :: z_s st) | none => none) = _
  rw [e]; rfl) (k hcl hz zl hzl))
theorem mW_aload (hC : m_Ctx p s m args meth c cc nL own dC dI aC A xa X Y) {j : Nat} {x : Nat} (hd : z_dx K cc pc (.aload j) 2 aux) (hl : m_ld j ls = some (.ref x)) (k : mW K Z p l e R s m args below meth c QQ dC dI aC A n0 ad0 xa nL (σ, ce, sl, pc + 2, ls, .ref x :: st)) : mW K Z p l e R s m args below meth c QQ dC dI aC A n0 ad0 xa nL (σ, ce, sl, pc, ls, st) := fun hcl hz zl hzl => mV_aload hC hd.1 hl (w_st hcl hd rfl (fun _ => by
  have e := z_lr_ld hzl hl
  show (match zl[j]? with | some (_, x) => some (z_m σ, pc + 2, zl, (2, x) :: z_s st) | none => none) = _
  rw [e]; rfl) (k hcl hz zl hzl))
theorem mW_astore_n (hC : m_Ctx p s m args meth c cc nL own dC dI aC A xa X Y) {j : Fin 4} {x : Nat} (hd : z_dx K cc pc (.astore_n j) 1 aux) (hn : (j : Nat) < nL) (k : mW K Z p l e R s m args below meth c QQ dC dI aC A n0 ad0 xa nL (σ, ce, sl, pc + 1, (m_st1 (j : Nat) (.ref x) ls), st)) : mW K Z p l e R s m args below meth c QQ dC dI aC A n0 ad0 xa nL (σ, ce, sl, pc, ls, .ref x :: st) := fun hcl hz zl hl => mV_astore_n hC hd.1 hn (w_st (zl' := zl.set (j : Nat) (z_v (.ref x))) hcl hd rfl (fun _ => rfl) (k hcl hz _ (z_lr_st1 hl (show (j : Nat) < nL by omega))))
theorem mW_astore (hC : m_Ctx p s m args meth c cc nL own dC dI aC A xa X Y) {j : Nat} {x : Nat} (hd : z_dx K cc pc (.astore j) 2 aux) (hn : j < nL) (k : mW K Z p l e R s m args below meth c QQ dC dI aC A n0 ad0 xa nL (σ, ce, sl, pc + 2, (m_st1 j (.ref x) ls), st)) : mW K Z p l e R s m args below meth c QQ dC dI aC A n0 ad0 xa nL (σ, ce, sl, pc, ls, .ref x :: st) := fun hcl hz zl hl => mV_astore hC hd.1 hn (w_st (zl' := zl.set j (z_v (.ref x))) hcl hd rfl (fun _ => rfl) (k hcl hz _ (z_lr_st1 hl (show j < nL by omega))))
theorem mW_iinc (hC : m_Ctx p s m args meth c cc nL own dC dI aC A xa X Y) {j : Nat} {n : Int} {x : Int32} (hd : z_dx K cc pc (.iinc j n) 3 aux) (hl : m_ld j ls = some (.int x)) (hn : j < nL) (k : mW K Z p l e R s m args below meth c QQ dC dI aC A n0 ad0 xa nL (σ, ce, sl, pc + 3, (m_st1 j (.int (x + Int32.ofInt n)) ls), st)) : mW K Z p l e R s m args below meth c QQ dC dI aC A n0 ad0 xa nL (σ, ce, sl, pc, ls, st) := fun hcl hz zl hzl => mV_iinc hC hd.1 hl hn (w_st (zl' := zl.set j (z_v (.int (x + Int32.ofInt n)))) hcl hd rfl (fun _ => by
  have e : z_add x.toInt n = (x + Int32.ofInt n).toInt := by unfold z_add; rw [i32_of]
  have e2 := z_lr_ld hzl hl
  show (match zl[j]? with | some (_, x) => some (z_m σ, pc + 3, zl.set j (0, z_add x n), z_s st) | none => none) = some (z_m σ, pc + 3, zl.set j (0, (x + Int32.ofInt n).toInt), z_s st)
  rw [e2]
  show some (z_m σ, pc + 3, zl.set j (0, z_add x.toInt n), z_s st) = _
  rw [e]) (k hcl hz _ (z_lr_st1 hzl hn)))
theorem z_tgt_ok {pc tgt : Nat} {off : Int} (h : (pc : Int) + off = (tgt : Int)) : z_tgt pc off = tgt := by unfold z_tgt; rw [h]; exact Int.toNat_natCast tgt
theorem mW_if_eq (hC : m_Ctx p s m args meth c cc nL own dC dI aC A xa X Y) {x : Int32} {off : Int} {tgt : Nat} (hd : z_dx K cc pc (.ifCond .eq off) 3 aux) (ht : (pc : Int) + off = (tgt : Int)) (kt : x = 0 → mW K Z p l e R s m args below meth c QQ dC dI aC A n0 ad0 xa nL (σ, ce, sl, tgt, ls, st)) (kf : ¬ x = 0 → mW K Z p l e R s m args below meth c QQ dC dI aC A n0 ad0 xa nL (σ, ce, sl, pc + 3, ls, st)) : mW K Z p l e R s m args below meth c QQ dC dI aC A n0 ad0 xa nL (σ, ce, sl, pc, ls, .int x :: st) := fun hcl hz zl hl => mV_if_eq hC hd.1 ht (fun q => w_st hcl hd rfl (fun _ => (congrArg (fun b => some (z_m σ, bif b then z_tgt pc off else pc + 3, zl, z_s st)) (z_cn_eq_t q)).trans (congrArg (fun t => some (z_m σ, t, zl, z_s st)) (z_tgt_ok ht))) (kt q hcl hz zl hl)) (fun q => w_st hcl hd rfl (fun _ => (congrArg (fun b => some (z_m σ, bif b then z_tgt pc off else pc + 3, zl, z_s st)) (z_cn_eq_f q))) (kf q hcl hz zl hl))
theorem mW_icmp_eq (hC : m_Ctx p s m args meth c cc nL own dC dI aC A xa X Y) {x y : Int32} {off : Int} {tgt : Nat} (hd : z_dx K cc pc (.if_icmp .eq off) 3 aux) (ht : (pc : Int) + off = (tgt : Int)) (kt : x = y → mW K Z p l e R s m args below meth c QQ dC dI aC A n0 ad0 xa nL (σ, ce, sl, tgt, ls, st)) (kf : ¬ x = y → mW K Z p l e R s m args below meth c QQ dC dI aC A n0 ad0 xa nL (σ, ce, sl, pc + 3, ls, st)) : mW K Z p l e R s m args below meth c QQ dC dI aC A n0 ad0 xa nL (σ, ce, sl, pc, ls, .int y :: .int x :: st) := fun hcl hz zl hl => mV_icmp_eq hC hd.1 ht (fun q => w_st hcl hd rfl (fun _ => (congrArg (fun b => some (z_m σ, bif b then z_tgt pc off else pc + 3, zl, z_s st)) (z_cn_eq_t q)).trans (congrArg (fun t => some (z_m σ, t, zl, z_s st)) (z_tgt_ok ht))) (kt q hcl hz zl hl)) (fun q => w_st hcl hd rfl (fun _ => (congrArg (fun b => some (z_m σ, bif b then z_tgt pc off else pc + 3, zl, z_s st)) (z_cn_eq_f q))) (kf q hcl hz zl hl))
theorem mW_if_ne (hC : m_Ctx p s m args meth c cc nL own dC dI aC A xa X Y) {x : Int32} {off : Int} {tgt : Nat} (hd : z_dx K cc pc (.ifCond .ne off) 3 aux) (ht : (pc : Int) + off = (tgt : Int)) (kt : ¬ x = 0 → mW K Z p l e R s m args below meth c QQ dC dI aC A n0 ad0 xa nL (σ, ce, sl, tgt, ls, st)) (kf : x = 0 → mW K Z p l e R s m args below meth c QQ dC dI aC A n0 ad0 xa nL (σ, ce, sl, pc + 3, ls, st)) : mW K Z p l e R s m args below meth c QQ dC dI aC A n0 ad0 xa nL (σ, ce, sl, pc, ls, .int x :: st) := fun hcl hz zl hl => mV_if_ne hC hd.1 ht (fun q => w_st hcl hd rfl (fun _ => (congrArg (fun b => some (z_m σ, bif b then z_tgt pc off else pc + 3, zl, z_s st)) (z_cn_ne_t q)).trans (congrArg (fun t => some (z_m σ, t, zl, z_s st)) (z_tgt_ok ht))) (kt q hcl hz zl hl)) (fun q => w_st hcl hd rfl (fun _ => (congrArg (fun b => some (z_m σ, bif b then z_tgt pc off else pc + 3, zl, z_s st)) (z_cn_ne_f q))) (kf q hcl hz zl hl))
theorem mW_icmp_ne (hC : m_Ctx p s m args meth c cc nL own dC dI aC A xa X Y) {x y : Int32} {off : Int} {tgt : Nat} (hd : z_dx K cc pc (.if_icmp .ne off) 3 aux) (ht : (pc : Int) + off = (tgt : Int)) (kt : ¬ x = y → mW K Z p l e R s m args below meth c QQ dC dI aC A n0 ad0 xa nL (σ, ce, sl, tgt, ls, st)) (kf : x = y → mW K Z p l e R s m args below meth c QQ dC dI aC A n0 ad0 xa nL (σ, ce, sl, pc + 3, ls, st)) : mW K Z p l e R s m args below meth c QQ dC dI aC A n0 ad0 xa nL (σ, ce, sl, pc, ls, .int y :: .int x :: st) := fun hcl hz zl hl => mV_icmp_ne hC hd.1 ht (fun q => w_st hcl hd rfl (fun _ => (congrArg (fun b => some (z_m σ, bif b then z_tgt pc off else pc + 3, zl, z_s st)) (z_cn_ne_t q)).trans (congrArg (fun t => some (z_m σ, t, zl, z_s st)) (z_tgt_ok ht))) (kt q hcl hz zl hl)) (fun q => w_st hcl hd rfl (fun _ => (congrArg (fun b => some (z_m σ, bif b then z_tgt pc off else pc + 3, zl, z_s st)) (z_cn_ne_f q))) (kf q hcl hz zl hl))
theorem mW_if_lt (hC : m_Ctx p s m args meth c cc nL own dC dI aC A xa X Y) {x : Int32} {off : Int} {tgt : Nat} (hd : z_dx K cc pc (.ifCond .lt off) 3 aux) (ht : (pc : Int) + off = (tgt : Int)) (kt : x < 0 → mW K Z p l e R s m args below meth c QQ dC dI aC A n0 ad0 xa nL (σ, ce, sl, tgt, ls, st)) (kf : ¬ x < 0 → mW K Z p l e R s m args below meth c QQ dC dI aC A n0 ad0 xa nL (σ, ce, sl, pc + 3, ls, st)) : mW K Z p l e R s m args below meth c QQ dC dI aC A n0 ad0 xa nL (σ, ce, sl, pc, ls, .int x :: st) := fun hcl hz zl hl => mV_if_lt hC hd.1 ht (fun q => w_st hcl hd rfl (fun _ => (congrArg (fun b => some (z_m σ, bif b then z_tgt pc off else pc + 3, zl, z_s st)) (z_cn_lt_t q)).trans (congrArg (fun t => some (z_m σ, t, zl, z_s st)) (z_tgt_ok ht))) (kt q hcl hz zl hl)) (fun q => w_st hcl hd rfl (fun _ => (congrArg (fun b => some (z_m σ, bif b then z_tgt pc off else pc + 3, zl, z_s st)) (z_cn_lt_f q))) (kf q hcl hz zl hl))
theorem mW_icmp_lt (hC : m_Ctx p s m args meth c cc nL own dC dI aC A xa X Y) {x y : Int32} {off : Int} {tgt : Nat} (hd : z_dx K cc pc (.if_icmp .lt off) 3 aux) (ht : (pc : Int) + off = (tgt : Int)) (kt : x < y → mW K Z p l e R s m args below meth c QQ dC dI aC A n0 ad0 xa nL (σ, ce, sl, tgt, ls, st)) (kf : ¬ x < y → mW K Z p l e R s m args below meth c QQ dC dI aC A n0 ad0 xa nL (σ, ce, sl, pc + 3, ls, st)) : mW K Z p l e R s m args below meth c QQ dC dI aC A n0 ad0 xa nL (σ, ce, sl, pc, ls, .int y :: .int x :: st) := fun hcl hz zl hl => mV_icmp_lt hC hd.1 ht (fun q => w_st hcl hd rfl (fun _ => (congrArg (fun b => some (z_m σ, bif b then z_tgt pc off else pc + 3, zl, z_s st)) (z_cn_lt_t q)).trans (congrArg (fun t => some (z_m σ, t, zl, z_s st)) (z_tgt_ok ht))) (kt q hcl hz zl hl)) (fun q => w_st hcl hd rfl (fun _ => (congrArg (fun b => some (z_m σ, bif b then z_tgt pc off else pc + 3, zl, z_s st)) (z_cn_lt_f q))) (kf q hcl hz zl hl))
theorem mW_if_ge (hC : m_Ctx p s m args meth c cc nL own dC dI aC A xa X Y) {x : Int32} {off : Int} {tgt : Nat} (hd : z_dx K cc pc (.ifCond .ge off) 3 aux) (ht : (pc : Int) + off = (tgt : Int)) (kt : 0 ≤ x → mW K Z p l e R s m args below meth c QQ dC dI aC A n0 ad0 xa nL (σ, ce, sl, tgt, ls, st)) (kf : ¬ 0 ≤ x → mW K Z p l e R s m args below meth c QQ dC dI aC A n0 ad0 xa nL (σ, ce, sl, pc + 3, ls, st)) : mW K Z p l e R s m args below meth c QQ dC dI aC A n0 ad0 xa nL (σ, ce, sl, pc, ls, .int x :: st) := fun hcl hz zl hl => mV_if_ge hC hd.1 ht (fun q => w_st hcl hd rfl (fun _ => (congrArg (fun b => some (z_m σ, bif b then z_tgt pc off else pc + 3, zl, z_s st)) (z_cn_ge_t q)).trans (congrArg (fun t => some (z_m σ, t, zl, z_s st)) (z_tgt_ok ht))) (kt q hcl hz zl hl)) (fun q => w_st hcl hd rfl (fun _ => (congrArg (fun b => some (z_m σ, bif b then z_tgt pc off else pc + 3, zl, z_s st)) (z_cn_ge_f q))) (kf q hcl hz zl hl))
theorem mW_icmp_ge (hC : m_Ctx p s m args meth c cc nL own dC dI aC A xa X Y) {x y : Int32} {off : Int} {tgt : Nat} (hd : z_dx K cc pc (.if_icmp .ge off) 3 aux) (ht : (pc : Int) + off = (tgt : Int)) (kt : y ≤ x → mW K Z p l e R s m args below meth c QQ dC dI aC A n0 ad0 xa nL (σ, ce, sl, tgt, ls, st)) (kf : ¬ y ≤ x → mW K Z p l e R s m args below meth c QQ dC dI aC A n0 ad0 xa nL (σ, ce, sl, pc + 3, ls, st)) : mW K Z p l e R s m args below meth c QQ dC dI aC A n0 ad0 xa nL (σ, ce, sl, pc, ls, .int y :: .int x :: st) := fun hcl hz zl hl => mV_icmp_ge hC hd.1 ht (fun q => w_st hcl hd rfl (fun _ => (congrArg (fun b => some (z_m σ, bif b then z_tgt pc off else pc + 3, zl, z_s st)) (z_cn_ge_t q)).trans (congrArg (fun t => some (z_m σ, t, zl, z_s st)) (z_tgt_ok ht))) (kt q hcl hz zl hl)) (fun q => w_st hcl hd rfl (fun _ => (congrArg (fun b => some (z_m σ, bif b then z_tgt pc off else pc + 3, zl, z_s st)) (z_cn_ge_f q))) (kf q hcl hz zl hl))
theorem mW_if_gt (hC : m_Ctx p s m args meth c cc nL own dC dI aC A xa X Y) {x : Int32} {off : Int} {tgt : Nat} (hd : z_dx K cc pc (.ifCond .gt off) 3 aux) (ht : (pc : Int) + off = (tgt : Int)) (kt : 0 < x → mW K Z p l e R s m args below meth c QQ dC dI aC A n0 ad0 xa nL (σ, ce, sl, tgt, ls, st)) (kf : ¬ 0 < x → mW K Z p l e R s m args below meth c QQ dC dI aC A n0 ad0 xa nL (σ, ce, sl, pc + 3, ls, st)) : mW K Z p l e R s m args below meth c QQ dC dI aC A n0 ad0 xa nL (σ, ce, sl, pc, ls, .int x :: st) := fun hcl hz zl hl => mV_if_gt hC hd.1 ht (fun q => w_st hcl hd rfl (fun _ => (congrArg (fun b => some (z_m σ, bif b then z_tgt pc off else pc + 3, zl, z_s st)) (z_cn_gt_t q)).trans (congrArg (fun t => some (z_m σ, t, zl, z_s st)) (z_tgt_ok ht))) (kt q hcl hz zl hl)) (fun q => w_st hcl hd rfl (fun _ => (congrArg (fun b => some (z_m σ, bif b then z_tgt pc off else pc + 3, zl, z_s st)) (z_cn_gt_f q))) (kf q hcl hz zl hl))
theorem mW_icmp_gt (hC : m_Ctx p s m args meth c cc nL own dC dI aC A xa X Y) {x y : Int32} {off : Int} {tgt : Nat} (hd : z_dx K cc pc (.if_icmp .gt off) 3 aux) (ht : (pc : Int) + off = (tgt : Int)) (kt : y < x → mW K Z p l e R s m args below meth c QQ dC dI aC A n0 ad0 xa nL (σ, ce, sl, tgt, ls, st)) (kf : ¬ y < x → mW K Z p l e R s m args below meth c QQ dC dI aC A n0 ad0 xa nL (σ, ce, sl, pc + 3, ls, st)) : mW K Z p l e R s m args below meth c QQ dC dI aC A n0 ad0 xa nL (σ, ce, sl, pc, ls, .int y :: .int x :: st) := fun hcl hz zl hl => mV_icmp_gt hC hd.1 ht (fun q => w_st hcl hd rfl (fun _ => (congrArg (fun b => some (z_m σ, bif b then z_tgt pc off else pc + 3, zl, z_s st)) (z_cn_gt_t q)).trans (congrArg (fun t => some (z_m σ, t, zl, z_s st)) (z_tgt_ok ht))) (kt q hcl hz zl hl)) (fun q => w_st hcl hd rfl (fun _ => (congrArg (fun b => some (z_m σ, bif b then z_tgt pc off else pc + 3, zl, z_s st)) (z_cn_gt_f q))) (kf q hcl hz zl hl))
theorem mW_if_le (hC : m_Ctx p s m args meth c cc nL own dC dI aC A xa X Y) {x : Int32} {off : Int} {tgt : Nat} (hd : z_dx K cc pc (.ifCond .le off) 3 aux) (ht : (pc : Int) + off = (tgt : Int)) (kt : x ≤ 0 → mW K Z p l e R s m args below meth c QQ dC dI aC A n0 ad0 xa nL (σ, ce, sl, tgt, ls, st)) (kf : ¬ x ≤ 0 → mW K Z p l e R s m args below meth c QQ dC dI aC A n0 ad0 xa nL (σ, ce, sl, pc + 3, ls, st)) : mW K Z p l e R s m args below meth c QQ dC dI aC A n0 ad0 xa nL (σ, ce, sl, pc, ls, .int x :: st) := fun hcl hz zl hl => mV_if_le hC hd.1 ht (fun q => w_st hcl hd rfl (fun _ => (congrArg (fun b => some (z_m σ, bif b then z_tgt pc off else pc + 3, zl, z_s st)) (z_cn_le_t q)).trans (congrArg (fun t => some (z_m σ, t, zl, z_s st)) (z_tgt_ok ht))) (kt q hcl hz zl hl)) (fun q => w_st hcl hd rfl (fun _ => (congrArg (fun b => some (z_m σ, bif b then z_tgt pc off else pc + 3, zl, z_s st)) (z_cn_le_f q))) (kf q hcl hz zl hl))
theorem mW_icmp_le (hC : m_Ctx p s m args meth c cc nL own dC dI aC A xa X Y) {x y : Int32} {off : Int} {tgt : Nat} (hd : z_dx K cc pc (.if_icmp .le off) 3 aux) (ht : (pc : Int) + off = (tgt : Int)) (kt : x ≤ y → mW K Z p l e R s m args below meth c QQ dC dI aC A n0 ad0 xa nL (σ, ce, sl, tgt, ls, st)) (kf : ¬ x ≤ y → mW K Z p l e R s m args below meth c QQ dC dI aC A n0 ad0 xa nL (σ, ce, sl, pc + 3, ls, st)) : mW K Z p l e R s m args below meth c QQ dC dI aC A n0 ad0 xa nL (σ, ce, sl, pc, ls, .int y :: .int x :: st) := fun hcl hz zl hl => mV_icmp_le hC hd.1 ht (fun q => w_st hcl hd rfl (fun _ => (congrArg (fun b => some (z_m σ, bif b then z_tgt pc off else pc + 3, zl, z_s st)) (z_cn_le_t q)).trans (congrArg (fun t => some (z_m σ, t, zl, z_s st)) (z_tgt_ok ht))) (kt q hcl hz zl hl)) (fun q => w_st hcl hd rfl (fun _ => (congrArg (fun b => some (z_m σ, bif b then z_tgt pc off else pc + 3, zl, z_s st)) (z_cn_le_f q))) (kf q hcl hz zl hl))
theorem mW_goto (hC : m_Ctx p s m args meth c cc nL own dC dI aC A xa X Y) {off : Int} {tgt : Nat} (hd : z_dx K cc pc (.goto off) 3 aux) (ht : (pc : Int) + off = (tgt : Int)) (k : mW K Z p l e R s m args below meth c QQ dC dI aC A n0 ad0 xa nL (σ, ce, sl, tgt, ls, st)) : mW K Z p l e R s m args below meth c QQ dC dI aC A n0 ad0 xa nL (σ, ce, sl, pc, ls, st) := fun hcl hz zl hl => mV_goto hC hd.1 ht (w_st hcl hd rfl (fun _ => (congrArg (fun t => some (z_m σ, t, zl, z_s st)) (z_tgt_ok ht))) (k hcl hz zl hl))
theorem mW_lookup (hC : m_Ctx p s m args meth c cc nL own dC dI aC A xa X Y) {dflt : Int} {ps : Array (Int × Int)} {len : Nat} {x : Int32} {off : Int} {tgt : Nat} (hd : z_dx K cc pc (.lookupswitch dflt ps) len aux) (hp : (ps.toList.zip (ps.toList.drop 1)).all (fun (a, next) => a.1 < next.1) = true) (ho : Op.lookupswitch.offset ps.toList dflt x.toInt = off) (ht : (pc : Int) + off = (tgt : Int)) (k : mW K Z p l e R s m args below meth c QQ dC dI aC A n0 ad0 xa nL (σ, ce, sl, tgt, ls, st)) : mW K Z p l e R s m args below meth c QQ dC dI aC A n0 ad0 xa nL (σ, ce, sl, pc, ls, .int x :: st) := fun hcl hz zl hl => mV_lookup hC hd.1 hp ho ht (w_st hcl hd rfl (fun _ => (congrArg (fun t => some (z_m σ, z_tgt pc t, zl, z_s st)) ho).trans (congrArg (fun t => some (z_m σ, t, zl, z_s st)) (z_tgt_ok ht))) (k hcl hz zl hl))
theorem mW_tableIn (hC : m_Ctx p s m args meth c cc nL own dC dI aC A xa X Y) {dflt lo hi : Int} {offs : Array Int} {len : Nat} {x : Int32} {off : Int} {tgt : Nat} (hd : z_dx K cc pc (.tableswitch dflt lo hi offs) len aux) (g1 : ¬ x.toInt < lo) (g2 : ¬ hi < x.toInt) (ho : offs[(x.toInt - lo).toNat]? = some off) (ht : (pc : Int) + off = (tgt : Int)) (k : mW K Z p l e R s m args below meth c QQ dC dI aC A n0 ad0 xa nL (σ, ce, sl, tgt, ls, st)) : mW K Z p l e R s m args below meth c QQ dC dI aC A n0 ad0 xa nL (σ, ce, sl, pc, ls, .int x :: st) := fun hcl hz zl hl => mV_tableIn hC hd.1 g1 g2 ho ht (w_st hcl hd rfl (fun _ => by
  have e : z_tbo dflt lo hi offs.toList x.toInt = off := by
    unfold z_tbo
    rw [if_pos ⟨by omega, by omega⟩, Array.getElem?_toList, ho]; rfl
  exact (congrArg (fun t => some (z_m σ, z_tgt pc t, zl, z_s st)) e).trans (congrArg (fun t => some (z_m σ, t, zl, z_s st)) (z_tgt_ok ht))) (k hcl hz zl hl))
theorem mW_tableOut (hC : m_Ctx p s m args meth c cc nL own dC dI aC A xa X Y) {dflt lo hi : Int} {offs : Array Int} {len : Nat} {x : Int32} {tgt : Nat} (hd : z_dx K cc pc (.tableswitch dflt lo hi offs) len aux) (g1 : x.toInt < lo ∨ hi < x.toInt) (ht : (pc : Int) + dflt = (tgt : Int)) (k : mW K Z p l e R s m args below meth c QQ dC dI aC A n0 ad0 xa nL (σ, ce, sl, tgt, ls, st)) : mW K Z p l e R s m args below meth c QQ dC dI aC A n0 ad0 xa nL (σ, ce, sl, pc, ls, .int x :: st) := fun hcl hz zl hl => mV_tableOut hC hd.1 g1 ht (w_st hcl hd rfl (fun _ => by
  have e : z_tbo dflt lo hi offs.toList x.toInt = dflt := by
    unfold z_tbo
    rw [if_neg (by omega)]
  exact (congrArg (fun t => some (z_m σ, z_tgt pc t, zl, z_s st)) e).trans (congrArg (fun t => some (z_m σ, t, zl, z_s st)) (z_tgt_ok ht))) (k hcl hz zl hl))
theorem mW_getfield (hC : m_Ctx p s m args meth c cc nL own dC dI aC A xa X Y) {q ci k idx j ne : Nat} {r : vw_C} {fs : List Value} {v : Value} (hd : z_dx K cc pc (.getfield idx) 3 [j, ci, k, ne]) (hσ : σ[q]? = some (.inr ci, fs)) (hc : vwCl[ci]? = some r) (hk : k < r.2.2) (hw : Cond.fieldLink own idx (r.2.1 k).1 (r.2.1 k).2.1 (r.2.1 k).2.2.1 ∈ a_tb) (hv : fs[k]? = some v) (kk : mW K Z p l e R s m args below meth c QQ dC dI aC A n0 ad0 xa nL (σ, ce, sl, pc + 3, ls, v :: st)) : mW K Z p l e R s m args below meth c QQ dC dI aC A n0 ad0 xa nL (σ, ce, sl, pc, ls, .ref q :: st) := fun hcl hz zl hl => mV_getfield hC hd.1 hσ hc hk hw hv (w_st hcl hd rfl (fun _ => by
  show some (z_m σ, pc + 3, zl, z_gf (z_m σ) ((q : Int)).toNat ci k :: z_s st) = some (z_m σ, pc + 3, zl, z_v v :: z_s st)
  rw [z_rf, z_gf_ok hz hσ hv]) (kk hcl hz zl hl))
theorem mW_putfield (hC : m_Ctx p s m args meth c cc nL own dC dI aC A xa X Y) {q ci k idx j ne : Nat} {r : vw_C} {fs : List Value} {v : Value} (hd : z_dx K cc pc (.putfield idx) 3 [j, ci, k, ne]) (hσ : σ[q]? = some (.inr ci, fs)) (hc : vwCl[ci]? = some r) (hk : k < r.2.2) (hw : Cond.fieldLink own idx (r.2.1 k).1 (r.2.1 k).2.1 (r.2.1 k).2.2.1 ∈ a_tb) (hf : (r.2.1 k).2.2.2 = false) (hn : narrow (a_ty ci k) v = v) (hfit : fits (a_ty ci k) v = true) (hl : k < fs.length) (kk : mW K Z p l e R s m args below meth c QQ dC dI aC A n0 ad0 xa nL (σ.set q (.inr ci, fs.set k v), ce, sl, pc + 3, ls, st)) : mW K Z p l e R s m args below meth c QQ dC dI aC A n0 ad0 xa nL (σ, ce, sl, pc, ls, v :: .ref q :: st) := fun hcl hz zl hzl => mV_putfield hC hd.1 hσ hc hk hw hf hn hfit hl (w_st hcl hd rfl (fun _ => by
  show some (z_up (z_m σ) ((q : Int)).toNat k (z_vn v), pc + 3, zl, z_s st) = some (z_m (σ.set q (.inr ci, fs.set k v)), pc + 3, zl, z_s st)
  rw [z_rf, z_m_set hσ hl]) (kk hcl (z_ok_put hz hσ hc hf hfit hl) zl hzl))
theorem mW_getfieldN (hC : m_Ctx p s m args meth c cc nL own dC dI aC A xa X Y) {q ci k idx j ne : Nat} {host : String} {r : vw_C} {fs : List Value} {v : Value} (hd : z_dx K cc pc (.getfield idx) 3 [j, ci, k, ne]) (hσ : σ[q]? = some (.inr ci, fs)) (hc : vwCl[ci]? = some r) (hk : k < r.2.2) (hw : Cond.fieldLinkNest own idx (r.2.1 k).1 (r.2.1 k).2.1 (r.2.1 k).2.2.1 host ∈ a_nb) (hv : fs[k]? = some v) (kk : mW K Z p l e R s m args below meth c QQ dC dI aC A n0 ad0 xa nL (σ, ce, sl, pc + 3, ls, v :: st)) : mW K Z p l e R s m args below meth c QQ dC dI aC A n0 ad0 xa nL (σ, ce, sl, pc, ls, .ref q :: st) := fun hcl hz zl hl => mV_getfieldN hC hd.1 hσ hc hk hw hv (w_st hcl hd rfl (fun _ => by
  show some (z_m σ, pc + 3, zl, z_gf (z_m σ) ((q : Int)).toNat ci k :: z_s st) = some (z_m σ, pc + 3, zl, z_v v :: z_s st)
  rw [z_rf, z_gf_ok hz hσ hv]) (kk hcl hz zl hl))
theorem mW_putfieldN (hC : m_Ctx p s m args meth c cc nL own dC dI aC A xa X Y) {q ci k idx j ne : Nat} {host : String} {r : vw_C} {fs : List Value} {v : Value} (hd : z_dx K cc pc (.putfield idx) 3 [j, ci, k, ne]) (hσ : σ[q]? = some (.inr ci, fs)) (hc : vwCl[ci]? = some r) (hk : k < r.2.2) (hw : Cond.fieldLinkNest own idx (r.2.1 k).1 (r.2.1 k).2.1 (r.2.1 k).2.2.1 host ∈ a_nb) (hf : (r.2.1 k).2.2.2 = false) (hn : narrow (a_ty ci k) v = v) (hfit : fits (a_ty ci k) v = true) (hl : k < fs.length) (kk : mW K Z p l e R s m args below meth c QQ dC dI aC A n0 ad0 xa nL (σ.set q (.inr ci, fs.set k v), ce, sl, pc + 3, ls, st)) : mW K Z p l e R s m args below meth c QQ dC dI aC A n0 ad0 xa nL (σ, ce, sl, pc, ls, v :: .ref q :: st) := fun hcl hz zl hzl => mV_putfieldN hC hd.1 hσ hc hk hw hf hn hfit hl (w_st hcl hd rfl (fun _ => by
  show some (z_up (z_m σ) ((q : Int)).toNat k (z_vn v), pc + 3, zl, z_s st) = some (z_m (σ.set q (.inr ci, fs.set k v)), pc + 3, zl, z_s st)
  rw [z_rf, z_m_set hσ hl]) (kk hcl (z_ok_put hz hσ hc hf hfit hl) zl hzl))
theorem mW_iaload (hC : m_Ctx p s m args meth c cc nL own dC dI aC A xa X Y) {q : Nat} {i x : Int32} {vs : List Value} (hd : z_dx K cc pc (.iaload) 1 aux) (hσ : σ[q]? = some (.inl 0, vs)) (hi : vp_in i vs.length) (hv : vs[i.toNatClampNeg]? = some (.int x)) (k : mW K Z p l e R s m args below meth c QQ dC dI aC A n0 ad0 xa nL (σ, ce, sl, pc + 1, ls, .int x :: st)) : mW K Z p l e R s m args below meth c QQ dC dI aC A n0 ad0 xa nL (σ, ce, sl, pc, ls, .int i :: .ref q :: st) := fun hcl hz zl hl => mV_iaload hC hd.1 hσ hi hv (w_st hcl hd rfl (fun _ => by
  obtain ⟨a1, a2, a3, a4⟩ := z_in hz hσ
  obtain ⟨b1, b2, b3⟩ := z_ix_ok hi
  show (bif z_ix i.toInt (z_ln ((q : Int)).toNat) then some (z_m σ, pc + 1, zl, (0, z_rd (z_m σ) ((q : Int)).toNat i.toInt.toNat) :: z_s st) else none) = some (z_m σ, pc + 1, zl, (0, x.toInt) :: z_s st)
  rw [z_rf, z_ln_lt a1, ← a3, b1, z_rd_lt a1]
  rw [b2] at hv
  rw [z_m_at hσ hv]; rfl) (k hcl hz zl hl))
theorem mW_baload (hC : m_Ctx p s m args meth c cc nL own dC dI aC A xa X Y) {q : Nat} {i x : Int32} {vs : List Value} (hd : z_dx K cc pc (.baload) 1 aux) (hσ : σ[q]? = some (.inl 1, vs)) (hi : vp_in i vs.length) (hv : vs[i.toNatClampNeg]? = some (.int x)) (k : mW K Z p l e R s m args below meth c QQ dC dI aC A n0 ad0 xa nL (σ, ce, sl, pc + 1, ls, .int x :: st)) : mW K Z p l e R s m args below meth c QQ dC dI aC A n0 ad0 xa nL (σ, ce, sl, pc, ls, .int i :: .ref q :: st) := fun hcl hz zl hl => mV_baload hC hd.1 hσ hi hv (w_st hcl hd rfl (fun _ => by
  obtain ⟨a1, a2, a3, a4⟩ := z_in hz hσ
  obtain ⟨b1, b2, b3⟩ := z_ix_ok hi
  show (bif z_ix i.toInt (h_ln ((q : Int)).toNat) then some (z_m σ, pc + 1, zl, (0, z_m σ ((q : Int)).toNat i.toInt.toNat) :: z_s st) else none) = some (z_m σ, pc + 1, zl, (0, x.toInt) :: z_s st)
  rw [z_rf, ← a3, b1]
  rw [b2] at hv
  rw [z_m_at hσ hv]; rfl) (k hcl hz zl hl))
theorem mW_caload (hC : m_Ctx p s m args meth c cc nL own dC dI aC A xa X Y) {q : Nat} {i x : Int32} {vs : List Value} (hd : z_dx K cc pc (.caload) 1 aux) (hσ : σ[q]? = some (.inl 2, vs)) (hi : vp_in i vs.length) (hv : vs[i.toNatClampNeg]? = some (.int x)) (k : mW K Z p l e R s m args below meth c QQ dC dI aC A n0 ad0 xa nL (σ, ce, sl, pc + 1, ls, .int x :: st)) : mW K Z p l e R s m args below meth c QQ dC dI aC A n0 ad0 xa nL (σ, ce, sl, pc, ls, .int i :: .ref q :: st) := fun hcl hz zl hl => mV_caload hC hd.1 hσ hi hv (w_st hcl hd rfl (fun _ => by
  obtain ⟨a1, a2, a3, a4⟩ := z_in hz hσ
  obtain ⟨b1, b2, b3⟩ := z_ix_ok hi
  show (bif z_ix i.toInt (h_ln ((q : Int)).toNat) then some (z_m σ, pc + 1, zl, (0, z_m σ ((q : Int)).toNat i.toInt.toNat) :: z_s st) else none) = some (z_m σ, pc + 1, zl, (0, x.toInt) :: z_s st)
  rw [z_rf, ← a3, b1]
  rw [b2] at hv
  rw [z_m_at hσ hv]; rfl) (k hcl hz zl hl))
theorem mW_zaload (hC : m_Ctx p s m args meth c cc nL own dC dI aC A xa X Y) {q : Nat} {i x : Int32} {vs : List Value} (hd : z_dx K cc pc (.baload) 1 aux) (hσ : σ[q]? = some (.inl 3, vs)) (hi : vp_in i vs.length) (hv : vs[i.toNatClampNeg]? = some (.int x)) (k : mW K Z p l e R s m args below meth c QQ dC dI aC A n0 ad0 xa nL (σ, ce, sl, pc + 1, ls, .int x :: st)) : mW K Z p l e R s m args below meth c QQ dC dI aC A n0 ad0 xa nL (σ, ce, sl, pc, ls, .int i :: .ref q :: st) := fun hcl hz zl hl => mV_zaload hC hd.1 hσ hi hv (w_st hcl hd rfl (fun _ => by
  obtain ⟨a1, a2, a3, a4⟩ := z_in hz hσ
  obtain ⟨b1, b2, b3⟩ := z_ix_ok hi
  show (bif z_ix i.toInt (h_ln ((q : Int)).toNat) then some (z_m σ, pc + 1, zl, (0, z_m σ ((q : Int)).toNat i.toInt.toNat) :: z_s st) else none) = some (z_m σ, pc + 1, zl, (0, x.toInt) :: z_s st)
  rw [z_rf, ← a3, b1]
  rw [b2] at hv
  rw [z_m_at hσ hv]; rfl) (k hcl hz zl hl))
theorem mW_laload (hC : m_Ctx p s m args meth c cc nL own dC dI aC A xa X Y) {q : Nat} {i : Int32} {x : Int64} {vs : List Value} (hd : z_dx K cc pc (.laload) 1 aux) (hσ : σ[q]? = some (.inl 4, vs)) (hi : vp_in i vs.length) (hv : vs[i.toNatClampNeg]? = some (.long x)) (k : mW K Z p l e R s m args below meth c QQ dC dI aC A n0 ad0 xa nL (σ, ce, sl, pc + 1, ls, .long x :: st)) : mW K Z p l e R s m args below meth c QQ dC dI aC A n0 ad0 xa nL (σ, ce, sl, pc, ls, .int i :: .ref q :: st) := fun hcl hz zl hl => mV_laload hC hd.1 hσ hi hv (w_st hcl hd rfl (fun _ => by
  obtain ⟨a1, a2, a3, a4⟩ := z_in hz hσ
  obtain ⟨b1, b2, b3⟩ := z_ix_ok hi
  show (bif z_ix i.toInt (h_ln ((q : Int)).toNat) then some (z_m σ, pc + 1, zl, (1, z_m σ ((q : Int)).toNat i.toInt.toNat) :: z_s st) else none) = some (z_m σ, pc + 1, zl, (1, x.toInt) :: z_s st)
  rw [z_rf, ← a3, b1]
  rw [b2] at hv
  rw [z_m_at hσ hv]; rfl) (k hcl hz zl hl))
theorem mW_aaload (hC : m_Ctx p s m args meth c cc nL own dC dI aC A xa X Y) {q r : Nat} {i : Int32} {vs : List Value} (hd : z_dx K cc pc .aaload 1 aux) (hσ : σ[q]? = some (.inl 5, vs)) (hi : vp_in i vs.length) (hv : vs[i.toNatClampNeg]? = some (.ref r)) (k : mW K Z p l e R s m args below meth c QQ dC dI aC A n0 ad0 xa nL (σ, ce, sl, pc + 1, ls, .ref r :: st)) : mW K Z p l e R s m args below meth c QQ dC dI aC A n0 ad0 xa nL (σ, ce, sl, pc, ls, .int i :: .ref q :: st) := fun hcl hz zl hl => mV_aaload hC hd.1 hσ hi hv (w_st hcl hd rfl (fun _ => by
  obtain ⟨a1, a2, a3, a4⟩ := z_in hz hσ
  obtain ⟨b1, b2, b3⟩ := z_ix_ok hi
  show (bif z_ix i.toInt (h_ln ((q : Int)).toNat) then some (z_m σ, pc + 1, zl, z_ga (z_m σ) ((q : Int)).toNat i.toInt.toNat :: z_s st) else none) = some (z_m σ, pc + 1, zl, (2, (r : Int)) :: z_s st)
  rw [b2] at hv
  rw [z_rf, ← a3, b1, z_ga_ok hz hσ hv]; rfl) (k hcl hz zl hl))
theorem mW_iastore (hC : m_Ctx p s m args meth c cc nL own dC dI aC A xa X Y) {q : Nat} {i x : Int32} {vs : List Value} (hd : z_dx K cc pc (.iastore) 1 aux) (hσ : σ[q]? = some (.inl 0, vs)) (hi : vp_in i vs.length) (k : mW K Z p l e R s m args below meth c QQ dC dI aC A n0 ad0 xa nL (σ.set q (.inl 0, vs.set i.toNatClampNeg (.int x)), ce, sl, pc + 1, ls, st)) : mW K Z p l e R s m args below meth c QQ dC dI aC A n0 ad0 xa nL (σ, ce, sl, pc, ls, .int x :: .int i :: .ref q :: st) := fun hcl hz zl hl => mV_iastore hC hd.1 hσ hi (w_st hcl hd rfl (fun _ => by
  obtain ⟨a1, a2, a3, a4⟩ := z_in hz hσ
  obtain ⟨b1, b2, b3⟩ := z_ix_ok hi
  have e := z_m_set hσ (k := i.toNatClampNeg) (v := .int x) (m_vp_lt hi)
  rw [b2] at e
  show (bif z_ix i.toInt (h_ln ((q : Int)).toNat) then some (z_up (z_m σ) ((q : Int)).toNat i.toInt.toNat (x.toInt), pc + 1, zl, z_s st) else none) = some (z_m (σ.set q (.inl 0, vs.set i.toNatClampNeg (.int x))), pc + 1, zl, z_s st)
  rw [b2, e]
  rw [z_rf, ← a3, b1]
  rfl) (k hcl (z_ok_ast hz hσ (by decide) (by decide) rfl) zl hl))
theorem mW_castore (hC : m_Ctx p s m args meth c cc nL own dC dI aC A xa X Y) {q : Nat} {i x : Int32} {vs : List Value} (hd : z_dx K cc pc (.castore) 1 aux) (hσ : σ[q]? = some (.inl 2, vs)) (hi : vp_in i vs.length) (k : mW K Z p l e R s m args below meth c QQ dC dI aC A n0 ad0 xa nL (σ.set q (.inl 2, vs.set i.toNatClampNeg (.int (vp_nar .char x))), ce, sl, pc + 1, ls, st)) : mW K Z p l e R s m args below meth c QQ dC dI aC A n0 ad0 xa nL (σ, ce, sl, pc, ls, .int x :: .int i :: .ref q :: st) := fun hcl hz zl hl => mV_castore hC hd.1 hσ hi (w_st hcl hd rfl (fun _ => by
  obtain ⟨a1, a2, a3, a4⟩ := z_in hz hσ
  obtain ⟨b1, b2, b3⟩ := z_ix_ok hi
  have e := z_m_set hσ (k := i.toNatClampNeg) (v := .int (vp_nar .char x)) (m_vp_lt hi)
  rw [b2] at e
  show (bif z_ix i.toInt (h_ln ((q : Int)).toNat) then some (z_up (z_m σ) ((q : Int)).toNat i.toInt.toNat (z_ch x.toInt), pc + 1, zl, z_s st) else none) = some (z_m (σ.set q (.inl 2, vs.set i.toNatClampNeg (.int (vp_nar .char x)))), pc + 1, zl, z_s st)
  rw [b2, e]
  rw [z_rf, ← a3, b1, z_ch_ok]
  rfl) (k hcl (z_ok_ast hz hσ (by decide) (by decide) rfl) zl hl))
theorem mW_lastore (hC : m_Ctx p s m args meth c cc nL own dC dI aC A xa X Y) {q : Nat} {i : Int32} {x : Int64} {vs : List Value} (hd : z_dx K cc pc (.lastore) 1 aux) (hσ : σ[q]? = some (.inl 4, vs)) (hi : vp_in i vs.length) (k : mW K Z p l e R s m args below meth c QQ dC dI aC A n0 ad0 xa nL (σ.set q (.inl 4, vs.set i.toNatClampNeg (.long x)), ce, sl, pc + 1, ls, st)) : mW K Z p l e R s m args below meth c QQ dC dI aC A n0 ad0 xa nL (σ, ce, sl, pc, ls, .long x :: .int i :: .ref q :: st) := fun hcl hz zl hl => mV_lastore hC hd.1 hσ hi (w_st hcl hd rfl (fun _ => by
  obtain ⟨a1, a2, a3, a4⟩ := z_in hz hσ
  obtain ⟨b1, b2, b3⟩ := z_ix_ok hi
  have e := z_m_set hσ (k := i.toNatClampNeg) (v := .long x) (m_vp_lt hi)
  rw [b2] at e
  show (bif z_ix i.toInt (h_ln ((q : Int)).toNat) then some (z_up (z_m σ) ((q : Int)).toNat i.toInt.toNat (x.toInt), pc + 1, zl, z_s st) else none) = some (z_m (σ.set q (.inl 4, vs.set i.toNatClampNeg (.long x))), pc + 1, zl, z_s st)
  rw [b2, e]
  rw [z_rf, ← a3, b1]
  rfl) (k hcl (z_ok_ast hz hσ (by decide) (by decide) rfl) zl hl))
theorem mW_bastore (hC : m_Ctx p s m args meth c cc nL own dC dI aC A xa X Y) {q : Nat} {i x : Int32} {vs : List Value} (hd : z_dx K cc pc (.bastore) 1 aux) (hσ : σ[q]? = some (.inl 1, vs)) (hi : vp_in i vs.length) (k : mW K Z p l e R s m args below meth c QQ dC dI aC A n0 ad0 xa nL (σ.set q (.inl 1, vs.set i.toNatClampNeg (.int (vp_nar .byte x))), ce, sl, pc + 1, ls, st)) : mW K Z p l e R s m args below meth c QQ dC dI aC A n0 ad0 xa nL (σ, ce, sl, pc, ls, .int x :: .int i :: .ref q :: st) := fun hcl hz zl hl => mV_bastore hC hd.1 hσ hi (w_st hcl hd rfl (fun _ => by
  obtain ⟨a1, a2, a3, a4⟩ := z_in hz hσ
  obtain ⟨b1, b2, b3⟩ := z_ix_ok hi
  have e := z_m_set hσ (k := i.toNatClampNeg) (v := .int (vp_nar .byte x)) (m_vp_lt hi)
  rw [b2] at e
  show (bif z_ix i.toInt (h_ln ((q : Int)).toNat) then some (z_up (z_m σ) ((q : Int)).toNat i.toInt.toNat ((match h_kd ((q : Int)).toNat with | .inl 1 => z_by x.toInt | _ => z_bo x.toInt)), pc + 1, zl, z_s st) else none) = some (z_m (σ.set q (.inl 1, vs.set i.toNatClampNeg (.int (vp_nar .byte x)))), pc + 1, zl, z_s st)
  rw [b2, e]
  rw [z_rf, ← a3, b1]
  simp only [a2, cond_true]
  rw [z_by_ok]
  rfl) (k hcl (z_ok_ast hz hσ (by decide) (by decide) rfl) zl hl))
theorem mW_zastore (hC : m_Ctx p s m args meth c cc nL own dC dI aC A xa X Y) {q : Nat} {i x : Int32} {vs : List Value} (hd : z_dx K cc pc (.bastore) 1 aux) (hσ : σ[q]? = some (.inl 3, vs)) (hi : vp_in i vs.length) (k : mW K Z p l e R s m args below meth c QQ dC dI aC A n0 ad0 xa nL (σ.set q (.inl 3, vs.set i.toNatClampNeg (.int (vp_nar .boolean x))), ce, sl, pc + 1, ls, st)) : mW K Z p l e R s m args below meth c QQ dC dI aC A n0 ad0 xa nL (σ, ce, sl, pc, ls, .int x :: .int i :: .ref q :: st) := fun hcl hz zl hl => mV_zastore hC hd.1 hσ hi (w_st hcl hd rfl (fun _ => by
  obtain ⟨a1, a2, a3, a4⟩ := z_in hz hσ
  obtain ⟨b1, b2, b3⟩ := z_ix_ok hi
  have e := z_m_set hσ (k := i.toNatClampNeg) (v := .int (vp_nar .boolean x)) (m_vp_lt hi)
  rw [b2] at e
  show (bif z_ix i.toInt (h_ln ((q : Int)).toNat) then some (z_up (z_m σ) ((q : Int)).toNat i.toInt.toNat ((match h_kd ((q : Int)).toNat with | .inl 1 => z_by x.toInt | _ => z_bo x.toInt)), pc + 1, zl, z_s st) else none) = some (z_m (σ.set q (.inl 3, vs.set i.toNatClampNeg (.int (vp_nar .boolean x)))), pc + 1, zl, z_s st)
  rw [b2, e]
  rw [z_rf, ← a3, b1]
  simp only [a2, cond_true]
  rw [z_bo_ok]
  rfl) (k hcl (z_ok_ast hz hσ (by decide) (by decide) rfl) zl hl))
theorem mW_alen (hC : m_Ctx p s m args meth c cc nL own dC dI aC A xa X Y) {q t : Nat} {vs : List Value} (hd : z_dx K cc pc .arraylength 1 aux) (hσ : σ[q]? = some (.inl t, vs)) (ht : t ≤ 5) (k : mW K Z p l e R s m args below meth c QQ dC dI aC A n0 ad0 xa nL (σ, ce, sl, pc + 1, ls, .int (Int32.ofNat vs.length) :: st)) : mW K Z p l e R s m args below meth c QQ dC dI aC A n0 ad0 xa nL (σ, ce, sl, pc, ls, .ref q :: st) := fun hcl hz zl hl => mV_alen hC hd.1 hσ ht (w_st hcl hd rfl (fun _ => by
  obtain ⟨a1, a2, a3, a4⟩ := z_in hz hσ
  show some (z_m σ, pc + 1, zl, (0, (Int32.ofNat (z_ln ((q : Int)).toNat)).toInt) :: z_s st) = some (z_m σ, pc + 1, zl, (0, (Int32.ofNat vs.length).toInt) :: z_s st)
  rw [z_rf, z_ln_lt a1, a3]) (k hcl hz zl hl))
/-- int rows outside -/
theorem mW_xaload (hC : m_Ctx p s m args meth c cc nL own dC dI aC A xa X Y) {i0 : Nat} {i : Int32} {L : List Int32} (hd : z_dx K cc pc .iaload 1 aux) (hX : X i0 = some L) (hi : vp_in i L.length) (hT : (i0 < 2 ∧ L = (x_tab i0).map Int32.ofInt) ∨ ∀ g r, Z g r) (k : mW K Z p l e R s m args below meth c QQ dC dI aC A n0 ad0 xa nL (σ, ce, sl, pc + 1, ls, .int (L.getD i.toNatClampNeg 0) :: st)) : mW K Z p l e R s m args below meth c QQ dC dI aC A n0 ad0 xa nL (σ, ce, sl, pc, ls, .int i :: .ref (m_X0 + i0) :: st) := by
  rcases hT with ⟨h2, hL⟩ | hT
  · refine fun hcl hz zl hzl => mV_xaload hC hd.1 hX hi (w_st hcl hd rfl (fun _ => ?_) (k hcl hz zl hzl))
    obtain ⟨b1, b2, b3⟩ := z_ix_ok hi
    show (bif z_ix i.toInt (z_ln (((m_X0 + i0 : Nat) : Int)).toNat) then some (z_m σ, pc + 1, zl, (0, z_rd (z_m σ) (((m_X0 + i0 : Nat) : Int)).toNat i.toInt.toNat) :: z_s st) else none) = some (z_m σ, pc + 1, zl, (0, (L.getD i.toNatClampNeg 0).toInt) :: z_s st)
    have e1 : Nat.blt (m_X0 + i0) h_N = false := by
      cases hb : Nat.blt (m_X0 + i0) h_N
      · rfl
      · have : m_X0 + i0 < h_N := Nat.le_of_ble_eq_true hb
        unfold m_X0 h_N at this
        omega
    have e2 : m_X0 + i0 - m_X0 = i0 := by omega
    have e3 : z_ln (m_X0 + i0) = L.length := by unfold z_ln; rw [e1, e2, hL]; simp
    have e4 : z_rd (z_m σ) (m_X0 + i0) i.toInt.toNat = (L.getD i.toNatClampNeg 0).toInt := by
      unfold z_rd
      rw [e1, e2, hL, b2]
      rw [hL, List.length_map] at b3
      have hx := x_tab3' h2
      simp only [cond_false, List.getD_eq_getElem?_getD, List.getElem?_map, List.getElem?_eq_getElem b3, Option.map_some, Option.getD_some]
      have hm := hx _ (List.getElem_mem b3)
      rw [Int32.toInt_ofInt]
      exact (i32_bm hm.1 hm.2).symm
    rw [z_rf, e3, b1, e4]; rfl
  · exact fun hcl hz zl hzl => mV_xaload hC hd.1 hX hi (mV_mono (fun t ⟨r, _, r2⟩ => ⟨r, hT _ _, r2⟩) (k hcl hz zl hzl))
theorem mW_xalen (hC : m_Ctx p s m args meth c cc nL own dC dI aC A xa X Y) {i0 : Nat} {L : List Int32} (hd : z_dx K cc pc .arraylength 1 aux) (hX : X i0 = some L) (hT : (i0 < 2 ∧ L = (x_tab i0).map Int32.ofInt) ∨ ∀ g r, Z g r) (k : mW K Z p l e R s m args below meth c QQ dC dI aC A n0 ad0 xa nL (σ, ce, sl, pc + 1, ls, .int (Int32.ofNat L.length) :: st)) : mW K Z p l e R s m args below meth c QQ dC dI aC A n0 ad0 xa nL (σ, ce, sl, pc, ls, .ref (m_X0 + i0) :: st) := by
  rcases hT with ⟨h2, hL⟩ | hT
  · refine fun hcl hz zl hzl => mV_xalen hC hd.1 hX (w_st hcl hd rfl (fun _ => ?_) (k hcl hz zl hzl))
    show some (z_m σ, pc + 1, zl, (0, (Int32.ofNat (z_ln (((m_X0 + i0 : Nat) : Int)).toNat)).toInt) :: z_s st) = some (z_m σ, pc + 1, zl, (0, (Int32.ofNat L.length).toInt) :: z_s st)
    have e1 : Nat.blt (m_X0 + i0) h_N = false := by
      cases hb : Nat.blt (m_X0 + i0) h_N
      · rfl
      · have : m_X0 + i0 < h_N := Nat.le_of_ble_eq_true hb
        unfold m_X0 h_N at this
        omega
    have e2 : m_X0 + i0 - m_X0 = i0 := by omega
    have e3 : z_ln (m_X0 + i0) = L.length := by unfold z_ln; rw [e1, e2, hL]; simp
    rw [z_rf, e3]
  · exact fun hcl hz zl hzl => mV_xalen hC hd.1 hX (mV_mono (fun t ⟨r, _, r2⟩ => ⟨r, hT _ _, r2⟩) (k hcl hz zl hzl))
theorem mW_places (hC : m_Ctx p s m args meth c cc nL own dC dI aC A xa X Y) {idx : Nat} (hd : z_dx K cc pc (.getstatic idx) 3 [0]) (hw : Cond.fieldLink own idx "LetByTheDegree$Lodging" "PLACES" "[I" ∈ a_tb) (k : mW K Z p l e R s m args below meth c QQ dC dI aC A n0 ad0 xa nL (σ, ce, sl, pc + 3, ls, .ref m_X0 :: st)) : mW K Z p l e R s m args below meth c QQ dC dI aC A n0 ad0 xa nL (σ, ce, sl, pc, ls, st) := fun hcl hz zl hl => mV_places hC hd.1 hw (w_st hcl hd rfl (fun _ => rfl) (k hcl hz zl hl))
theorem mW_steps (hC : m_Ctx p s m args meth c cc nL own dC dI aC A xa X Y) {idx : Nat} (hd : z_dx K cc pc (.getstatic idx) 3 [1]) (hw : Cond.fieldLink own idx "LetByTheDegree$StoveWay" "STEPS" "[I" ∈ a_tb) (k : mW K Z p l e R s m args below meth c QQ dC dI aC A n0 ad0 xa nL (σ, ce, sl, pc + 3, ls, .ref (m_X0 + 1) :: st)) : mW K Z p l e R s m args below meth c QQ dC dI aC A n0 ad0 xa nL (σ, ce, sl, pc, ls, st) := fun hcl hz zl hl => mV_steps hC hd.1 hw (w_st hcl hd rfl (fun _ => rfl) (k hcl hz zl hl))
end ZR
