/-! WHAT A CALL LEAVES, told on plain numbers; sign and end -/
/-- a cell that no contract of the method changes -/
noncomputable def md_off (y p k : Nat) : Bool := (cs_at y).all fun C => C.2.2.2.2.1.all fun q => !(Nat.beq q.1 p && (Nat.ble q.2.1 k && Nat.ble k q.2.2))
theorem md_off_ok {y p k : Nat} (h : md_off y p k = true) {C : A_C} (hC : C ∈ cs_at y) {alts : List A_A} {T : Int} {ρ : List Int} {σ σ' : m_H} {r : Option Value} (hp : c_post alts C.2.2.2.2.1 T ρ σ r σ') : z_m σ' p k = z_m σ p k := by
  have e := (c_post_h hp).2 p k (fun ⟨q, q1, q2, q3, q4⟩ => by
    have := List.all_eq_true.mp (List.all_eq_true.mp h C hC) q q1
    rw [q2, Nat.ble_eq_true_of_le q3, Nat.ble_eq_true_of_le q4] at this
    have hb : Nat.beq p p = true := Nat.beq_refl p
    rw [hb] at this
    cases this)
  unfold z_m
  rw [e]
/-- a cell that every contract of the method says to be 0 behind -/
noncomputable def md_zero (y p k : Nat) : Bool := (cs_at y).all fun C => C.2.2.2.2.2.2.2.1.all fun q => q.2.2.2.any fun u => Nat.beq u.1.1 p && (Nat.beq u.1.2 k && (Nat.beq u.2.1 0 && i_eq u.2.2.2 0))
theorem md_zero_ok {y p k : Nat} (h : md_zero y p k = true) {C : A_C} (hC : C ∈ cs_at y) {T : Int} {ρ : List Int} {σ σ' : m_H} {r : Option Value} (hp : c_post C.2.2.2.2.2.2.2.1 C.2.2.2.2.1 T ρ σ r σ') : z_m σ' p k = 0 := by
  obtain ⟨q, hq, ρ', c1, c2, c3, c4, c5, c6, c7⟩ := hp
  obtain ⟨u, hu, hb⟩ := List.any_eq_true.mp (List.all_eq_true.mp (List.all_eq_true.mp h C hC) q hq)
  obtain ⟨b1, hb⟩ := Bool.and_eq_true _ _ |>.mp hb
  obtain ⟨b2, hb⟩ := Bool.and_eq_true _ _ |>.mp hb
  obtain ⟨b3, b4⟩ := Bool.and_eq_true _ _ |>.mp hb
  have g1 := Nat.eq_of_beq_eq_true b1
  have g2 := Nat.eq_of_beq_eq_true b2
  have g3 := Nat.eq_of_beq_eq_true b3
  have g4 := i_eq_iff.mp b4
  obtain ⟨v, v1, v2⟩ := c6 u hu
  clear b1 b2 b3 b4
  obtain ⟨⟨up, uk⟩, ut, un, uc⟩ := u
  simp only at g1 g2 g3 g4 v1 v2
  subst g1; subst g2; subst g3; subst g4
  obtain ⟨x, rfl, hx⟩ : ∃ x : Int32, v = .int x ∧ x.toInt = 0 := v2
  unfold z_m
  rw [v1]
  exact hx
noncomputable def md_offr (y p : Nat) : Bool := (cs_at y).all fun C => C.2.2.2.2.1.all fun q => !(Nat.beq q.1 p)
theorem md_offr_ok {y p : Nat} (h : md_offr y p = true) {C : A_C} (hC : C ∈ cs_at y) {alts : List A_A} {T : Int} {ρ : List Int} {σ σ' : m_H} {r : Option Value} (hp : c_post alts C.2.2.2.2.1 T ρ σ r σ') : z_m σ' p = z_m σ p := by
  funext k
  have e := (c_post_h hp).2 p k (fun ⟨q, q1, q2, q3, q4⟩ => by
    have := List.all_eq_true.mp (List.all_eq_true.mp h C hC) q q1
    have hb : Nat.beq p p = true := Nat.beq_refl p
    rw [q2, hb] at this
    cases this)
  unfold z_m
  rw [e]
/-- a cell's number, by its type -/
theorem z_rng {B : Int} {σ : m_H} (h : h_ok B σ) {p k : Nat} {lo hi : Int} (hp : p < h_N) (hk : k < h_ln p) (ht : h_ty p k = (0, lo, hi)) : lo ≤ z_m σ p k ∧ z_m σ p k ≤ hi := by
  obtain ⟨vs, h1, h2, h3⟩ := h.2 p hp
  have hv : vs[k]? = some (vs[k]'(by omega)) := List.getElem?_eq_getElem _
  have h4 := (h3 k _ hv).1
  rw [ht] at h4
  obtain ⟨x, hx, g1, g2⟩ : ∃ x : Int32, vs[k]'(by omega) = .int x ∧ lo ≤ x.toInt ∧ x.toInt ≤ hi := h4
  rw [z_m_at h1 hv, hx]
  exact ⟨g1, g2⟩
theorem r_in (m : z_M) (a b c : Int) : z_R 162 (m, 0, [(0, a), (0, b), (0, c)], []) = some (m, some (0, if b ≤ a ∧ a ≤ c then 1 else 0)) := by
  rw [t_in_0]
  by_cases h1 : a < b
  · rw [if_pos h1, if_neg (by omega)]
  · rw [if_neg h1]
    by_cases h2 : c < a
    · rw [if_pos h2, if_neg (by omega)]
    · rw [if_neg h2, if_pos (by omega)]
theorem r_cut (m : z_M) (a : Int) : z_R 17 (m, 0, [(2, 1), (0, a)], []) = if 0 ≤ a ∧ a ≤ m 1 1 then some (z_up m 1 1 a, some (0, 1)) else some (m, some (0, 0)) := by
  rw [s_cut_0]
  by_cases h1 : a < 0
  · rw [if_pos h1, if_neg (by omega)]
  · rw [if_neg h1]
    by_cases h2 : a ≤ m 1 1
    · rw [if_pos h2, if_pos (by omega)]
    · rw [if_neg h2, if_neg (by omega)]
theorem r_end (m : z_M) (a : Int) : z_R 16 (m, 0, [(2, 0), (0, a)], []) = if 0 ≤ a ∧ a ≤ m 1 1 then some (z_up m 1 1 a, some (0, 1)) else some (m, some (0, 0)) := by
  rw [s_end_0, r_cut]
  by_cases h : 0 ≤ a ∧ a ≤ m 1 1
  · rw [if_pos h]
    exact s_end_8 _ _ _
  · rw [if_neg h]
    exact s_end_8 _ _ _
theorem q_end (m : z_M) (a : Int) : z_R 161 (m, 0, [(2, 251), (0, a)], []) = if 0 ≤ a ∧ a ≤ m 251 8 then some (z_up (z_up m 251 11 0) 251 8 a, some (0, 1)) else some (z_up m 251 11 0, some (0, 0)) := by
  rw [t_end_0, r_in]
  by_cases h : 0 ≤ a ∧ a ≤ m 251 8
  · rw [if_pos h, if_pos h]
    show z_R 161 (z_up m 251 11 0, 14, [(2, 251), (0, a)], [(0, 1)]) = _
    rw [t_end_14, if_neg (by decide)]
  · rw [if_neg h, if_neg h]
    show z_R 161 (z_up m 251 11 0, 14, [(2, 251), (0, a)], [(0, 0)]) = _
    rw [t_end_14, if_pos rfl]
/-! four signs -/
theorem i32_and255 (y : Int32) : (y &&& Int32.ofInt 255).toInt = y.toInt % 256 := by
  have h1 : (y &&& Int32.ofInt 255).toBitVec.toNat = y.toBitVec.toNat % 256 := by
    show (y.toBitVec &&& 255#32).toNat = _
    rw [BitVec.toNat_and]
    exact Nat.and_two_pow_sub_one_eq_mod _ 8
  have h2 := i32_ofNat (x := y &&& Int32.ofInt 255) (by rw [h1]; omega)
  have h3 : y.toInt = y.toBitVec.toInt := rfl
  rw [h2, h1, h3, BitVec.toInt_eq_toNat_cond]
  have := y.toBitVec.isLt
  split <;> omega
theorem i32_ushn (x : Int32) (n : Nat) (hn : n < 32) : (j_ushr x (Int32.ofInt n)).toBitVec.toNat = x.toBitVec.toNat / 2 ^ n := by
  have ht := ush_amt n hn
  show (x.toUInt32 >>> ((Int32.ofInt n).toUInt32 &&& Int32.toUInt32 31)).toBitVec.toNat = _
  rw [UInt32.toBitVec_shiftRight, ht, BitVec.ushiftRight_eq', BitVec.toNat_ushiftRight, BitVec.toNat_ofNat, Nat.mod_eq_of_lt (by omega), Nat.shiftRight_eq_div_pow]
  rfl
theorem i32_shrn (x : Int32) (n : Nat) (hn : (((Int32.ofInt n) &&& 31).toBitVec.smod 32).toNat = n) : (x >>> (Int32.ofInt n &&& 31)).toInt = x.toInt / ((2 ^ n : Nat) : Int) := by
  show (x >>> (Int32.ofInt n &&& 31)).toBitVec.toInt = _
  rw [Int32.toBitVec_shiftRight, BitVec.sshiftRight_eq', hn, BitVec.toInt_sshiftRight, Int.shiftRight_eq_div_pow]
  rfl
/-- the class's sign, the reference's -/
def u_cb (a s : Int) : Int := z_ch (z_i2c (z_and (z_ush a s) 255))
def u_tb (a s : Int) : Int := z_by (z_i2b (z_shr a s))
theorem u_cb_eq (x : Int32) (n : Nat) (hn : n < 32) : u_cb x.toInt n = (((x.toBitVec.toNat / 2 ^ n) % 256 : Nat) : Int) := by
  have e1 : z_ush x.toInt n = (j_ushr x (Int32.ofInt n)).toInt := by unfold z_ush; rw [Int32.ofInt_toInt]
  have e2 : z_and (z_ush x.toInt n) 255 = (((x.toBitVec.toNat / 2 ^ n) % 256 : Nat) : Int) := by
    rw [e1]
    unfold z_and
    rw [Int32.ofInt_toInt]
    have h1 : (j_ushr x (Int32.ofInt n) &&& Int32.ofInt 255).toBitVec.toNat = (x.toBitVec.toNat / 2 ^ n) % 256 := by
      show ((j_ushr x (Int32.ofInt n)).toBitVec &&& 255#32).toNat = _
      rw [BitVec.toNat_and, i32_ushn x n hn]
      exact Nat.and_two_pow_sub_one_eq_mod _ 8
    rw [i32_ofNat (by rw [h1]; omega), h1]
  unfold u_cb
  rw [e2]
  generalize hv : (x.toBitVec.toNat / 2 ^ n) % 256 = v
  have hv' : v < 256 := by omega
  have e3 : (Int32.ofInt (v : Int)).toInt = v := zr_of (by omega) (by omega)
  have e4 : z_i2c (v : Int) = v := by
    unfold z_i2c
    rw [(nar_c _).2 (by omega) (by omega), e3]
  rw [e4]
  unfold z_ch
  rw [vp_nar_char]
  have e5 : (Int32.ofInt (v : Int)).toUInt32.toUInt16.toUInt32.toInt32 = Int32.ofInt (v : Int) := by
    have : ∀ b : BitVec 8, (Int32.ofInt (b.toNat : Int)).toUInt32.toUInt16.toUInt32.toInt32 = Int32.ofInt (b.toNat : Int) := by decide +kernel
    have h := this (BitVec.ofNat 8 v)
    rw [BitVec.toNat_ofNat, Nat.mod_eq_of_lt (by omega)] at h
    exact h
  rw [e5, e3]
theorem u_tb_eq (x : Int32) (n : Nat) (hn : (((Int32.ofInt n) &&& 31).toBitVec.smod 32).toNat = n) : (-128 ≤ u_tb x.toInt n ∧ u_tb x.toInt n ≤ 127) ∧ z_and (u_tb x.toInt n) 255 = (x.toInt / ((2 ^ n : Nat) : Int)) % 256 := by
  have e1 : u_tb x.toInt n = (x >>> (Int32.ofInt n &&& 31)).toInt8.toInt32.toInt := by
    unfold u_tb z_by z_i2b z_shr
    rw [Int32.ofInt_toInt, Int32.ofInt_toInt, Int32.ofInt_toInt, vp_nar_byte]
    have := nar_b (x >>> (Int32.ofInt n &&& 31))
    exact (nar_b _).2 this.1.1 this.1.2
  have hb := nar_b (x >>> (Int32.ofInt n &&& 31))
  refine ⟨by rw [e1]; exact hb.1, ?_⟩
  unfold z_and
  rw [e1, Int32.ofInt_toInt, i32_and255, Int8.toInt_toInt32, Int32.toInt_toInt8, i32_shrn x n hn]
  exact Int.bmod_emod
theorem u_sign_eq (x : Int32) {s : Int} (hs : s = 24 ∨ s = 16 ∨ s = 8 ∨ s = 0) : u_cb x.toInt s = z_and (u_tb x.toInt s) 255 ∧ -128 ≤ u_tb x.toInt s ∧ u_tb x.toInt s ≤ 127 := by
  have h3 : x.toInt = x.toBitVec.toInt := rfl
  have hc := BitVec.toInt_eq_toNat_cond x.toBitVec
  have hl := x.toBitVec.isLt
  rcases hs with rfl | rfl | rfl | rfl
  · have a := u_cb_eq x 24 (by decide)
    have b := u_tb_eq x 24 (by decide +kernel)
    refine ⟨?_, b.1⟩
    rw [show (24 : Int) = ((24 : Nat) : Int) from rfl, a, b.2, h3, hc]
    split <;> omega
  · have a := u_cb_eq x 16 (by decide)
    have b := u_tb_eq x 16 (by decide +kernel)
    refine ⟨?_, b.1⟩
    rw [show (16 : Int) = ((16 : Nat) : Int) from rfl, a, b.2, h3, hc]
    split <;> omega
  · have a := u_cb_eq x 8 (by decide)
    have b := u_tb_eq x 8 (by decide +kernel)
    refine ⟨?_, b.1⟩
    rw [show (8 : Int) = ((8 : Nat) : Int) from rfl, a, b.2, h3, hc]
    split <;> omega
  · have a := u_cb_eq x 0 (by decide)
    have b := u_tb_eq x 0 (by decide +kernel)
    refine ⟨?_, b.1⟩
    rw [show (0 : Int) = ((0 : Nat) : Int) from rfl, a, b.2, h3, hc]
    split <;> omega
def u_up4 (a : Nat → Int) (n : Nat) (v1 v2 v3 v4 : Int) : Nat → Int := u_up (u_up (u_up (u_up a n v1) (n + 1) v2) (n + 2) v3) (n + 3) v4
theorem s_ap4 (m : z_M) (a s : Int) (h0 : 0 ≤ m 1 1) (h1 : m 1 1 < 80) (hs : 0 ≤ s) (hs2 : s ≤ 24) : ∃ m', z_R 15 (m, 14, [(2, 1), (0, a), (0, s)], []) = z_R 15 (m', 14, [(2, 1), (0, a), (0, s - 8)], []) ∧ m' 1 1 = m 1 1 + 1 ∧ m' 251 8 = m 251 8 ∧ m' 2 = u_up (m 2) (m 1 1).toNat (u_cb a s) ∧ m' 254 = m 254 := by
  refine ⟨z_up (z_up m 2 (m 1 1).toNat (u_cb a s)) 1 1 (m 1 1 + 1), ?_, zu_self, ?_, ?_, ?_⟩
  · rw [s_append_14, if_neg (by omega), if_pos ⟨h0, by omega⟩, z_add_eq (x := s) (y := -8) (by omega) (by omega), z_add_eq (x := m 1 1) (by omega) (by omega)]
    rfl
  · rw [zu_p (by decide), zu_p (by decide)]
  · rw [zu_rowne (by decide), zu_row]
  · rw [zu_rowne (by decide), zu_rowne (by decide)]
theorem r_append4 (m : z_M) (a : Int) (h0 : 0 ≤ m 1 1) (h : m 1 1 ≤ 76) : ∃ m', z_R 15 (m, 0, [(2, 1), (0, a), (9, 0)], []) = some (m', some (0, 1)) ∧ m' 251 8 = m 251 8 ∧ m' 1 1 = m 1 1 + 4 ∧ m' 2 = u_up4 (m 2) (m 1 1).toNat (u_cb a 24) (u_cb a 16) (u_cb a 8) (u_cb a 0) ∧ m' 254 = m 254 := by
  rw [s_append_0, if_pos h]
  obtain ⟨m1, e1, f1, g1, c1, d1⟩ := s_ap4 m a 24 h0 (by omega) (by omega) (by omega)
  obtain ⟨m2, e2, f2, g2, c2, d2⟩ := s_ap4 m1 a 16 (by omega) (by omega) (by omega) (by omega)
  obtain ⟨m3, e3, f3, g3, c3, d3⟩ := s_ap4 m2 a 8 (by omega) (by omega) (by omega) (by omega)
  obtain ⟨m4, e4, f4, g4, c4, d4⟩ := s_ap4 m3 a 0 (by omega) (by omega) (by omega) (by omega)
  refine ⟨m4, ?_, by omega, by omega, ?_, by rw [d4, d3, d2, d1]⟩
  · rw [e1, show (24 : Int) - 8 = 16 from rfl, e2, show (16 : Int) - 8 = 8 from rfl, e3, show (8 : Int) - 8 = 0 from rfl, e4, s_append_14, if_pos (by decide)]
  · unfold u_up4
    rw [c4, c3, c2, c1, f3, f2, f1, show (m 1 1 + 1).toNat = (m 1 1).toNat + 1 by omega, show (m 1 1 + 1 + 1).toNat = (m 1 1).toNat + 2 by omega, show (m 1 1 + 1 + 1 + 1).toNat = (m 1 1).toNat + 3 by omega]
theorem r_sign4 (m : z_M) (a : Int) (h0 : 0 ≤ m 1 1) (h : m 1 1 ≤ 76) : ∃ m', z_R 14 (m, 0, [(2, 0), (0, a)], []) = some (m', some (0, m 1 1 + 4)) ∧ m' 251 8 = m 251 8 ∧ m' 1 1 = m 1 1 + 4 ∧ m' 2 = u_up4 (m 2) (m 1 1).toNat (u_cb a 24) (u_cb a 16) (u_cb a 8) (u_cb a 0) ∧ m' 254 = m 254 := by
  obtain ⟨m', e, g, f, c, d⟩ := r_append4 m a h0 h
  rw [s_sign_0, e]
  refine ⟨m', ?_, g, f, c, d⟩
  show z_R 14 (m', 8, [(2, 0), (0, a)], [(0, 1)]) = _
  rw [s_sign_8, if_neg (by decide), f]
theorem r_sign0 (m : z_M) (a : Int) (h : ¬ m 1 1 ≤ 76) : z_R 14 (m, 0, [(2, 0), (0, a)], []) = some (m, some (0, -1)) := by
  rw [s_sign_0, s_append_0, if_neg h]
  show z_R 14 (m, 8, [(2, 0), (0, a)], [(0, 0)]) = _
  rw [s_sign_8, if_pos rfl]
theorem t_ap4 (m : z_M) (a k : Int) (h0 : 0 ≤ m 251 8) (h1 : m 251 8 < 80) (hs : 0 ≤ k) (hs2 : k ≤ 3) : ∃ m', z_R 160 (m, 20, [(2, 251), (0, a), (0, k)], []) = z_R 160 (m', 20, [(2, 251), (0, a), (0, k - 1)], []) ∧ m' 251 8 = m 251 8 + 1 ∧ m' 1 1 = m 1 1 ∧ m' 254 = u_up (m 254) (m 251 8).toNat (u_tb a (8 * k)) ∧ m' 2 = m 2 := by
  refine ⟨z_up (z_up m 251 8 (m 251 8 + 1)) 254 (m 251 8).toNat (u_tb a (8 * k)), ?_, ?_, ?_, ?_, ?_⟩
  · rw [t_sign_20, if_neg (by omega), if_pos ⟨h0, by omega⟩, z_add_eq (x := k) (y := -1) (by omega) (by omega), z_add_eq (x := m 251 8) (by omega) (by omega), z_mul_eq (by omega) (by omega)]
    rfl
  · rw [zu_p (by decide), zu_self]
  · rw [zu_p (by decide), zu_p (by decide)]
  · rw [zu_row, zu_rowne (by decide)]
  · rw [zu_rowne (by decide), zu_rowne (by decide)]
theorem q_sign4 (m : z_M) (a : Int) (h0 : 0 ≤ m 251 8) (h : m 251 8 ≤ 76) : ∃ m', z_R 160 (m, 0, [(2, 251), (0, a), (9, 0)], []) = some (m', some (0, m 251 8 + 4)) ∧ m' 251 8 = m 251 8 + 4 ∧ m' 1 1 = m 1 1 ∧ m' 254 = u_up4 (m 254) (m 251 8).toNat (u_tb a 24) (u_tb a 16) (u_tb a 8) (u_tb a 0) ∧ m' 2 = m 2 := by
  have e8 : (z_up m 251 11 0) 251 8 = m 251 8 := zu_k (by decide)
  have e1 : (z_up m 251 11 0) 1 1 = m 1 1 := zu_p (by decide)
  have e2 : (z_up m 251 11 0) 2 = m 2 := zu_rowne (by decide)
  have e4 : (z_up m 251 11 0) 254 = m 254 := zu_rowne (by decide)
  rw [t_sign_0, z_add_eq (by omega) (by omega), if_pos (by omega)]
  obtain ⟨m1, a1, f1, g1, c1, d1⟩ := t_ap4 (z_up m 251 11 0) a 3 (by omega) (by omega) (by omega) (by omega)
  obtain ⟨m2, a2, f2, g2, c2, d2⟩ := t_ap4 m1 a 2 (by omega) (by omega) (by omega) (by omega)
  obtain ⟨m3, a3, f3, g3, c3, d3⟩ := t_ap4 m2 a 1 (by omega) (by omega) (by omega) (by omega)
  obtain ⟨m4, a4, f4, g4, c4, d4⟩ := t_ap4 m3 a 0 (by omega) (by omega) (by omega) (by omega)
  refine ⟨m4, ?_, by omega, by omega, ?_, by rw [d4, d3, d2, d1, e2]⟩
  · rw [a1, show (3 : Int) - 1 = 2 from rfl, a2, show (2 : Int) - 1 = 1 from rfl, a3, show (1 : Int) - 1 = 0 from rfl, a4, t_sign_20, if_pos (by decide)]
    rw [show m4 251 8 = m 251 8 + 4 by omega]
  · unfold u_up4
    rw [c4, c3, c2, c1, f3, f2, f1, e8, e4, show (m 251 8 + 1).toNat = (m 251 8).toNat + 1 by omega, show (m 251 8 + 1 + 1).toNat = (m 251 8).toNat + 2 by omega, show (m 251 8 + 1 + 1 + 1).toNat = (m 251 8).toNat + 3 by omega]
    rfl
theorem q_sign0 (m : z_M) (a : Int) (h : ¬ m 251 8 ≤ 76) (h1 : m 251 8 ≤ 80) : z_R 160 (m, 0, [(2, 251), (0, a), (9, 0)], []) = some (z_up m 251 11 0, some (0, -1)) := by
  rw [t_sign_0, z_add_eq (by omega) (by omega), if_neg (by omega)]
theorem u_up4_eq {a b : Nat → Int} {n : Nat} {v1 v2 v3 v4 w1 w2 w3 w4 : Int} (h : ∀ k, k < n → a k = z_and (b k) 255) (h1 : v1 = z_and w1 255) (h2 : v2 = z_and w2 255) (h3 : v3 = z_and w3 255) (h4 : v4 = z_and w4 255) {k : Nat} (hk : k < n + 4) : u_up4 a n v1 v2 v3 v4 k = z_and (u_up4 b n w1 w2 w3 w4 k) 255 := by
  unfold u_up4 u_up
  by_cases c4 : k = n + 3
  · rw [if_pos c4, if_pos c4]; exact h4
  rw [if_neg c4, if_neg c4]
  by_cases c3 : k = n + 2
  · rw [if_pos c3, if_pos c3]; exact h3
  rw [if_neg c3, if_neg c3]
  by_cases c2 : k = n + 1
  · rw [if_pos c2, if_pos c2]; exact h2
  rw [if_neg c2, if_neg c2]
  by_cases c1 : k = n
  · rw [if_pos c1, if_pos c1]; exact h1
  · rw [if_neg c1, if_neg c1]; exact h k (by omega)
theorem as_one {as : List Int32} (h : as.length = 1) : ∃ a, as = [a] := by
  match as, h with
  | [a], _ => exact ⟨a, rfl⟩
theorem as_nil {as : List Int32} (h : as.length = 0) : as = [] := by
  match as, h with
  | [], _ => rfl
theorem h_ty_254 (k : Nat) : h_ty 254 k = (0, -128, 127) := by
  unfold h_ty t_at
  rw [show (h_at 254).2.2 = [(0, -128, 127)] from rfl]
  show (match ([(0, -128, 127)] : List (Nat × Int × Int))[k % 1]? with | some t => t | none => (9, 0, 0)) = _
  rw [Nat.mod_one]
  rfl
theorem as_two {as : List Int32} (h : as.length = 2) : ∃ a b, as = [a, b] := by
  match as, h with
  | [a, b], _ => exact ⟨a, b, rfl⟩
theorem as_three {as : List Int32} (h : as.length = 3) : ∃ a b c, as = [a, b, c] := by
  match as, h with
  | [a, b, c], _ => exact ⟨a, b, c, rfl⟩
theorem as_four {as : List Int32} (h : as.length = 4) : ∃ a b c d, as = [a, b, c, d] := by
  match as, h with
  | [a, b, c, d], _ => exact ⟨a, b, c, d, rfl⟩
/-- rule leaves no text -/
theorem r_rule0 (m : z_M) {q : z_Q} (h : z_R 39 (m, 0, [(2, 0), (9, 0)], []) = some q) : q.1 1 1 = 0 := by
  rw [s_rule_0] at h
  by_cases c : m 1 1 = 0
  · rw [if_pos c, s_untold_0] at h
    change z_R 39 (z_up (z_up (z_up (z_up m 5 0 1000) 5 1 2) 5 2 2047) 4 3 3, 20, [(2, 0), (9, 0)], []) = some q at h
    rw [s_rule_20] at h
    rw [← Option.some.inj h]
    show z_up (z_up (z_up (z_up m 5 0 1000) 5 1 2) 5 2 2047) 4 3 3 1 1 = 0
    rw [zu_p (by decide), zu_p (by decide), zu_p (by decide), zu_p (by decide)]
    exact c
  · rw [if_neg c] at h
    obtain ⟨r, h1, h⟩ := Option.bind_eq_some_iff.mp h
    obtain ⟨u, hu⟩ := z_tag (y := 40) (by decide +kernel) h1
    obtain ⟨mr, vr⟩ := r
    simp only at hu
    subst hu
    change z_R 39 (mr, 29, [(2, 0), (9, 0)], [(0, u)]) = some q at h
    rw [s_rule_29, s_empty_0] at h
    change z_R 39 (z_up mr 1 1 0, 37, [(2, 0), (0, u)], []) = some q at h
    rw [s_rule_37] at h
    by_cases c2 : u = 0
    · rw [if_pos c2] at h
      rw [← Option.some.inj h]
      show z_up mr 1 1 0 1 1 = 0
      exact zu_self
    · rw [if_neg c2] at h
      obtain ⟨r2, h2, h⟩ := Option.bind_eq_some_iff.mp h
      rw [s_become_0] at h2
      obtain ⟨mq, vq⟩ := r2
      have e := Prod.mk.inj (z_bif_some h2)
      have e1 := e.1
      have e2 := e.2
      subst e2
      change z_R 39 (mq, 75, [(2, 0), (0, u)], []) = some q at h
      rw [s_rule_75] at h
      rw [← Option.some.inj h]
      show mq 1 1 = 0
      rw [← e1, zc_p (by decide), zu_p (by decide), zu_self]
