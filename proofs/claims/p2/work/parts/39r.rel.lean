/-! WHAT IS KEPT, for end: both texts are of one length -/
def Rel_0 (σ : m_H) : Prop := z_m σ 1 1 = z_m σ 251 8
/-- a cell that no contract of the method changes -/
def md_off (y p k : Nat) : Bool := (cs_at y).all fun C => C.2.2.2.2.1.all fun q => !(Nat.beq q.1 p && (Nat.ble q.2.1 k && Nat.ble k q.2.2))
theorem md_off_ok {y p k : Nat} (h : md_off y p k = true) {C : A_C} (hC : C ∈ cs_at y) {alts : List A_A} {T : Int} {ρ : List Int} {σ σ' : m_H} {r : Option Value} (hp : c_post alts C.2.2.2.2.1 T ρ σ r σ') : z_m σ' p k = z_m σ p k := by
  have e := (c_post_h hp).2 p k (fun ⟨q, q1, q2, q3, q4⟩ => by
    have := List.all_eq_true.mp (List.all_eq_true.mp h C hC) q q1
    rw [q2, Nat.ble_eq_true_of_le q3, Nat.ble_eq_true_of_le q4] at this
    have hb : Nat.beq p p = true := Nat.beq_refl p
    rw [hb] at this
    cases this)
  unfold z_m
  rw [e]
/-- a cell that every contract of the method says to be 0 behind -/
def md_zero (y p k : Nat) : Bool := (cs_at y).all fun C => C.2.2.2.2.2.2.2.1.all fun q => q.2.2.2.any fun u => Nat.beq u.1.1 p && (Nat.beq u.1.2 k && (Nat.beq u.2.1 0 && i_eq u.2.2.2 0))
theorem md_zero_ok {y p k : Nat} (h : md_zero y p k = true) {C : A_C} (hC : C ∈ cs_at y) {T : Int} {ρ : List Int} {σ σ' : m_H} {r : Option Value} (hp : c_post C.2.2.2.2.2.2.2.1 C.2.2.2.2.1 T ρ σ r σ') : z_m σ' p k = 0 := by
  obtain ⟨q, hq, ρ', c1, c2, c3, c4, c5, c6, c7⟩ := hp
  obtain ⟨u, hu, hb⟩ := List.any_eq_true.mp (List.all_eq_true.mp (List.all_eq_true.mp h C hC) q hq)
  obtain ⟨b1, hb⟩ := Bool.and_eq_true _ _ |>.mp hb
  obtain ⟨b2, hb⟩ := Bool.and_eq_true _ _ |>.mp hb
  obtain ⟨b3, b4⟩ := Bool.and_eq_true _ _ |>.mp hb
  have g1 := Nat.eq_of_beq_eq_true b1
  have g2 := Nat.eq_of_beq_eq_true b2
  have g3 := Nat.eq_of_beq_eq_true b3
  have g4 := i_eq_iff.mp b4
  obtain ⟨v, v1, v2⟩ := c6 u hu
  clear b1 b2 b3 b4
  obtain ⟨⟨up, uk⟩, ut, un, uc⟩ := u
  simp only at g1 g2 g3 g4 v1 v2
  subst g1; subst g2; subst g3; subst g4
  obtain ⟨x, rfl, hx⟩ : ∃ x : Int32, v = .int x ∧ x.toInt = 0 := v2
  unfold z_m
  rw [v1]
  exact hx
theorem rel_off {c : l_C} (h : (md_off c.2.2.1 1 1 && (md_off c.2.2.1 251 8 && (md_off c.2.2.2.2.2.2.2 1 1 && (md_off c.2.2.2.2.2.2.2 251 8 && !c.2.2.2.2.1)))) = true) : l_rel2 Rel_0 c := by
  obtain ⟨h1, h⟩ := Bool.and_eq_true _ _ |>.mp h
  obtain ⟨h2, h⟩ := Bool.and_eq_true _ _ |>.mp h
  obtain ⟨h3, h⟩ := Bool.and_eq_true _ _ |>.mp h
  obtain ⟨h4, h5⟩ := Bool.and_eq_true _ _ |>.mp h
  intro M1 M2 M3 σ σ1 σ2 as v1 v2 C1 C2 ρ1 ρ2 ha hR hh hC1 hp1 hE1 hC2 hp2 hE2
  refine ⟨?_, fun z => by rw [z] at h5; cases h5⟩
  unfold Rel_0 at hR ⊢
  rw [md_off_ok h3 hC2 hp2, md_off_ok h1 hC1 hp1, md_off_ok h4 hC2 hp2, md_off_ok h2 hC1 hp1, hR]
theorem rel_zero {c : l_C} (h : (md_zero c.2.2.1 1 1 && (md_zero c.2.2.2.2.2.2.2 251 8 && (md_off c.2.2.2.2.2.2.2 1 1 && !c.2.2.2.2.1))) = true) : l_rel2 Rel_0 c := by
  obtain ⟨h1, h⟩ := Bool.and_eq_true _ _ |>.mp h
  obtain ⟨h2, h⟩ := Bool.and_eq_true _ _ |>.mp h
  obtain ⟨h3, h5⟩ := Bool.and_eq_true _ _ |>.mp h
  intro M1 M2 M3 σ σ1 σ2 as v1 v2 C1 C2 ρ1 ρ2 ha hR hh hC1 hp1 hE1 hC2 hp2 hE2
  refine ⟨?_, fun z => by rw [z] at h5; cases h5⟩
  unfold Rel_0
  rw [md_off_ok h3 hC2 hp2, md_zero_ok h1 hC1 hp1, md_zero_ok h2 hC2 hp2]
/-- a cell's number, by its type -/
theorem z_rng {B : Int} {σ : m_H} (h : h_ok B σ) {p k : Nat} {lo hi : Int} (hp : p < h_N) (hk : k < h_ln p) (ht : h_ty p k = (0, lo, hi)) : lo ≤ z_m σ p k ∧ z_m σ p k ≤ hi := by
  obtain ⟨vs, h1, h2, h3⟩ := h.2 p hp
  have hv : vs[k]? = some (vs[k]'(by omega)) := List.getElem?_eq_getElem _
  have h4 := (h3 k _ hv).1
  rw [ht] at h4
  obtain ⟨x, hx, g1, g2⟩ : ∃ x : Int32, vs[k]'(by omega) = .int x ∧ lo ≤ x.toInt ∧ x.toInt ≤ hi := h4
  rw [z_m_at h1 hv, hx]
  exact ⟨g1, g2⟩
theorem r_in (m : z_M) (a b c : Int) : z_R 162 (m, 0, [(0, a), (0, b), (0, c)], []) = some (m, some (0, if b ≤ a ∧ a ≤ c then 1 else 0)) := by
  rw [t_in_0]
  by_cases h1 : a < b
  · rw [if_pos h1, if_neg (by omega)]
  · rw [if_neg h1]
    by_cases h2 : c < a
    · rw [if_pos h2, if_neg (by omega)]
    · rw [if_neg h2, if_pos (by omega)]
theorem r_cut (m : z_M) (a : Int) : z_R 17 (m, 0, [(2, 1), (0, a)], []) = if 0 ≤ a ∧ a ≤ m 1 1 then some (z_up m 1 1 a, some (0, 1)) else some (m, some (0, 0)) := by
  rw [s_cut_0]
  by_cases h1 : a < 0
  · rw [if_pos h1, if_neg (by omega)]
  · rw [if_neg h1]
    by_cases h2 : a ≤ m 1 1
    · rw [if_pos h2, if_pos (by omega)]
    · rw [if_neg h2, if_neg (by omega)]
theorem r_end (m : z_M) (a : Int) : z_R 16 (m, 0, [(2, 0), (0, a)], []) = if 0 ≤ a ∧ a ≤ m 1 1 then some (z_up m 1 1 a, some (0, 1)) else some (m, some (0, 0)) := by
  rw [s_end_0, r_cut]
  by_cases h : 0 ≤ a ∧ a ≤ m 1 1
  · rw [if_pos h]
    exact s_end_8 _ _ _
  · rw [if_neg h]
    exact s_end_8 _ _ _
theorem q_end (m : z_M) (a : Int) : z_R 161 (m, 0, [(2, 251), (0, a)], []) = if 0 ≤ a ∧ a ≤ m 251 8 then some (z_up (z_up m 251 11 0) 251 8 a, some (0, 1)) else some (z_up m 251 11 0, some (0, 0)) := by
  rw [t_end_0, r_in]
  by_cases h : 0 ≤ a ∧ a ≤ m 251 8
  · rw [if_pos h, if_pos h]
    show z_R 161 (z_up m 251 11 0, 14, [(2, 251), (0, a)], [(0, 1)]) = _
    rw [t_end_14, if_neg (by decide)]
  · rw [if_neg h, if_neg h]
    show z_R 161 (z_up m 251 11 0, 14, [(2, 251), (0, a)], [(0, 0)]) = _
    rw [t_end_14, if_pos rfl]
/-- four signs -/
theorem s_ap (m : z_M) (a s : Int) (h0 : 0 ≤ m 1 1) (h1 : m 1 1 < 80) (hs : 0 ≤ s) (hs2 : s ≤ 24) : ∃ m', z_R 15 (m, 14, [(2, 1), (0, a), (0, s)], []) = z_R 15 (m', 14, [(2, 1), (0, a), (0, s - 8)], []) ∧ m' 1 1 = m 1 1 + 1 ∧ m' 251 8 = m 251 8 := by
  refine ⟨z_up (z_up m 2 (m 1 1).toNat (z_ch (z_i2c (z_and (z_ush a s) 255)))) 1 1 (z_add (m 1 1) 1), ?_, ?_, ?_⟩
  · rw [s_append_14, if_neg (by omega), if_pos ⟨h0, by omega⟩, z_add_eq (x := s) (y := -8) (by omega) (by omega)]
    rfl
  · rw [zu_self, z_add_eq (by omega) (by omega)]
  · rw [zu_p (by decide), zu_p (by decide)]
theorem r_append (m : z_M) (a : Int) (h0 : 0 ≤ m 1 1) : ∃ m' v, z_R 15 (m, 0, [(2, 1), (0, a), (9, 0)], []) = some (m', some (0, v)) ∧ m' 251 8 = m 251 8 ∧ (if m 1 1 ≤ 76 then m' 1 1 = m 1 1 + 4 ∧ v = 1 else m' 1 1 = m 1 1 ∧ v = 0) := by
  rw [s_append_0]
  by_cases h : m 1 1 ≤ 76
  · rw [if_pos h]
    obtain ⟨m1, e1, f1, g1⟩ := s_ap m a 24 h0 (by omega) (by omega) (by omega)
    obtain ⟨m2, e2, f2, g2⟩ := s_ap m1 a (24 - 8) (by omega) (by omega) (by omega) (by omega)
    obtain ⟨m3, e3, f3, g3⟩ := s_ap m2 a (24 - 8 - 8) (by omega) (by omega) (by omega) (by omega)
    obtain ⟨m4, e4, f4, g4⟩ := s_ap m3 a (24 - 8 - 8 - 8) (by omega) (by omega) (by omega) (by omega)
    refine ⟨m4, 1, ?_, by omega, ?_⟩
    · rw [e1, e2, e3, e4, s_append_14, if_pos (by omega)]
    · rw [if_pos h]
      exact ⟨by omega, rfl⟩
  · rw [if_neg h]
    refine ⟨m, 0, rfl, rfl, ?_⟩
    rw [if_neg h]
    exact ⟨rfl, rfl⟩
theorem r_sign (m : z_M) (a : Int) (h0 : 0 ≤ m 1 1) : ∃ m' v, z_R 14 (m, 0, [(2, 0), (0, a)], []) = some (m', some (0, v)) ∧ m' 251 8 = m 251 8 ∧ m' 1 1 = (if m 1 1 ≤ 76 then m 1 1 + 4 else m 1 1) ∧ v = (if m 1 1 ≤ 76 then m 1 1 + 4 else -1) := by
  obtain ⟨m', v, e, g, h⟩ := r_append m a h0
  rw [s_sign_0, e]
  show ∃ m'' v', z_R 14 (m', 8, [(2, 0), (0, a)], [(0, v)]) = some (m'', some (0, v')) ∧ _
  rw [s_sign_8]
  by_cases hc : m 1 1 ≤ 76
  · rw [if_pos hc] at h
    obtain ⟨h1, rfl⟩ := h
    rw [if_neg (by decide), if_pos hc, if_pos hc]
    exact ⟨m', _, rfl, g, h1, h1⟩
  · rw [if_neg hc] at h
    obtain ⟨h1, rfl⟩ := h
    rw [if_pos rfl, if_neg hc, if_neg hc]
    exact ⟨m', _, rfl, g, h1, rfl⟩
theorem t_ap (m : z_M) (a s : Int) (h0 : 0 ≤ m 251 8) (h1 : m 251 8 < 80) (hs : 0 ≤ s) (hs2 : s ≤ 3) : ∃ m', z_R 160 (m, 20, [(2, 251), (0, a), (0, s)], []) = z_R 160 (m', 20, [(2, 251), (0, a), (0, s - 1)], []) ∧ m' 251 8 = m 251 8 + 1 ∧ m' 1 1 = m 1 1 := by
  refine ⟨z_up (z_up m 251 8 (z_add (m 251 8) 1)) 254 (m 251 8).toNat (z_by (z_i2b (z_shr a (z_mul 8 s)))), ?_, ?_, ?_⟩
  · rw [t_sign_20, if_neg (by omega), if_pos ⟨h0, by omega⟩, z_add_eq (x := s) (y := -1) (by omega) (by omega)]
    rfl
  · rw [zu_p (by decide), zu_self, z_add_eq (by omega) (by omega)]
  · rw [zu_p (by decide), zu_p (by decide)]
theorem q_sign (m : z_M) (a : Int) (h0 : 0 ≤ m 251 8) (h1 : m 251 8 ≤ 80) : ∃ m' v, z_R 160 (m, 0, [(2, 251), (0, a), (9, 0)], []) = some (m', some (0, v)) ∧ m' 1 1 = m 1 1 ∧ m' 251 8 = (if m 251 8 ≤ 76 then m 251 8 + 4 else m 251 8) ∧ v = (if m 251 8 ≤ 76 then m 251 8 + 4 else -1) := by
  have e8 : (z_up m 251 11 0) 251 8 = m 251 8 := zu_k (by decide)
  have e1 : (z_up m 251 11 0) 1 1 = m 1 1 := zu_p (by decide)
  rw [t_sign_0, z_add_eq (by omega) (by omega)]
  by_cases h : m 251 8 ≤ 76
  · rw [if_pos (by omega), if_pos h, if_pos h]
    obtain ⟨m1, a1, f1, g1⟩ := t_ap (z_up m 251 11 0) a 3 (by omega) (by omega) (by omega) (by omega)
    obtain ⟨m2, a2, f2, g2⟩ := t_ap m1 a (3 - 1) (by omega) (by omega) (by omega) (by omega)
    obtain ⟨m3, a3, f3, g3⟩ := t_ap m2 a (3 - 1 - 1) (by omega) (by omega) (by omega) (by omega)
    obtain ⟨m4, a4, f4, g4⟩ := t_ap m3 a (3 - 1 - 1 - 1) (by omega) (by omega) (by omega) (by omega)
    refine ⟨m4, m4 251 8, ?_, by omega, by omega, by omega⟩
    rw [a1, a2, a3, a4, t_sign_20, if_pos (by omega)]
  · rw [if_neg (by omega), if_neg h, if_neg h]
    exact ⟨_, _, rfl, e1, e8, rfl⟩
theorem as_one {as : List Int32} (h : as.length = 1) : ∃ a, as = [a] := by
  match as, h with
  | [a], _ => exact ⟨a, rfl⟩
theorem rel_end : l_rel2 Rel_0 (244, 31, 16, 1, false, 255, 35, 161) := by
  intro M1 M2 M3 σ σ1 σ2 as v1 v2 C1 C2 ρ1 ρ2 ha hR hh hC1 hp1 hE1 hC2 hp2 hE2
  obtain ⟨a, rfl⟩ := as_one ha
  have hE1 := z_R_iff.mpr hE1
  have hE2 := z_R_iff.mpr hE2
  have hE1 : z_R 16 (z_m σ, 0, [(2, 0), (0, a.toInt)], []) = some (z_m σ1, some (0, v1.toInt)) := hE1
  have hE2 : z_R 161 (z_m σ1, 0, [(2, 251), (0, a.toInt)], []) = some (z_m σ2, some (0, v2.toInt)) := hE2
  rw [r_end] at hE1
  rw [q_end] at hE2
  unfold Rel_0 at hR ⊢
  by_cases h : 0 ≤ a.toInt ∧ a.toInt ≤ z_m σ 1 1
  · rw [if_pos h] at hE1
    have hE1 := Option.some.inj hE1
    have k1 : z_m σ1 = z_up (z_m σ) 1 1 a.toInt := (congrArg Prod.fst hE1).symm
    have k2 : v1.toInt = 1 := (congrArg (fun z : z_Q => (z.2.getD (0, 0)).2) hE1).symm
    have k3 : z_m σ1 251 8 = z_m σ 251 8 := by rw [k1]; exact zu_p (by decide)
    rw [if_pos (by omega)] at hE2
    have hE2 := Option.some.inj hE2
    have l1 : z_m σ2 = z_up (z_up (z_m σ1) 251 11 0) 251 8 a.toInt := (congrArg Prod.fst hE2).symm
    have l2 : v2.toInt = 1 := (congrArg (fun z : z_Q => (z.2.getD (0, 0)).2) hE2).symm
    refine ⟨?_, fun _ => Int32.toInt_inj.mp (by omega)⟩
    rw [l1, zu_self, zu_p (by decide), zu_p (by decide), k1, zu_self]
  · rw [if_neg h] at hE1
    have hE1 := Option.some.inj hE1
    have k1 : z_m σ1 = z_m σ := (congrArg Prod.fst hE1).symm
    have k2 : v1.toInt = 0 := (congrArg (fun z : z_Q => (z.2.getD (0, 0)).2) hE1).symm
    rw [if_neg (by rw [k1]; omega)] at hE2
    have hE2 := Option.some.inj hE2
    have l1 : z_m σ2 = z_up (z_m σ1) 251 11 0 := (congrArg Prod.fst hE2).symm
    have l2 : v2.toInt = 0 := (congrArg (fun z : z_Q => (z.2.getD (0, 0)).2) hE2).symm
    refine ⟨?_, fun _ => Int32.toInt_inj.mp (by omega)⟩
    rw [l1, zu_p (by decide), zu_k (by decide), k1, hR]
theorem rel_sign : l_rel2 Rel_0 (219, 26, 14, 1, true, 229, 30, 160) := by
  intro M1 M2 M3 σ σ1 σ2 as v1 v2 C1 C2 ρ1 ρ2 ha hR hh hC1 hp1 hE1 hC2 hp2 hE2
  obtain ⟨a, rfl⟩ := as_one ha
  have hE1 : z_R 14 (z_m σ, 0, [(2, 0), (0, a.toInt)], []) = some (z_m σ1, some (0, v1.toInt)) := z_R_iff.mpr hE1
  have hE2 : z_R 160 (z_m σ1, 0, [(2, 251), (0, a.toInt), (9, 0)], []) = some (z_m σ2, some (0, v2.toInt)) := z_R_iff.mpr hE2
  obtain ⟨r1, r2⟩ := z_rng hh (p := 1) (k := 1) (lo := 0) (hi := 80) (by decide) (by decide +kernel) (by decide +kernel)
  obtain ⟨m1, w1, d1, d2, d3, d4⟩ := r_sign (z_m σ) a.toInt r1
  rw [d1] at hE1
  have hE1 := Option.some.inj hE1
  have k1 : m1 = z_m σ1 := congrArg Prod.fst hE1
  have k2 : w1 = v1.toInt := congrArg (fun z : z_Q => (z.2.getD (0, 0)).2) hE1
  subst k1
  unfold Rel_0 at hR ⊢
  obtain ⟨m2, w2, f1, f2, f3, f4⟩ := q_sign (z_m σ1) a.toInt (by omega) (by omega)
  rw [f1] at hE2
  have hE2 := Option.some.inj hE2
  have l1 : m2 = z_m σ2 := congrArg Prod.fst hE2
  have l2 : w2 = v2.toInt := congrArg (fun z : z_Q => (z.2.getD (0, 0)).2) hE2
  subst l1
  rw [d2, ← hR] at f3 f4
  refine ⟨by rw [f2, d3, f3], fun _ => Int32.toInt_inj.mp (by omega)⟩
/-- rule leaves no text -/
theorem r_rule0 (m : z_M) {q : z_Q} (h : z_R 39 (m, 0, [(2, 0), (9, 0)], []) = some q) : q.1 1 1 = 0 := by
  rw [s_rule_0] at h
  by_cases c : m 1 1 = 0
  · rw [if_pos c, s_untold_0] at h
    change z_R 39 (z_up (z_up (z_up (z_up m 5 0 1000) 5 1 2) 5 2 2047) 4 3 3, 20, [(2, 0), (9, 0)], []) = some q at h
    rw [s_rule_20] at h
    rw [← Option.some.inj h]
    show z_up (z_up (z_up (z_up m 5 0 1000) 5 1 2) 5 2 2047) 4 3 3 1 1 = 0
    rw [zu_p (by decide), zu_p (by decide), zu_p (by decide), zu_p (by decide)]
    exact c
  · rw [if_neg c] at h
    obtain ⟨r, h1, h⟩ := Option.bind_eq_some_iff.mp h
    obtain ⟨u, hu⟩ := z_tag (y := 40) (by decide +kernel) h1
    obtain ⟨mr, vr⟩ := r
    simp only at hu
    subst hu
    change z_R 39 (mr, 29, [(2, 0), (9, 0)], [(0, u)]) = some q at h
    rw [s_rule_29, s_empty_0] at h
    change z_R 39 (z_up mr 1 1 0, 37, [(2, 0), (0, u)], []) = some q at h
    rw [s_rule_37] at h
    by_cases c2 : u = 0
    · rw [if_pos c2] at h
      rw [← Option.some.inj h]
      show z_up mr 1 1 0 1 1 = 0
      exact zu_self
    · rw [if_neg c2] at h
      obtain ⟨r2, h2, h⟩ := Option.bind_eq_some_iff.mp h
      rw [s_become_0] at h2
      obtain ⟨mq, vq⟩ := r2
      have e := Prod.mk.inj (z_bif_some h2)
      have e1 := e.1
      have e2 := e.2
      subst e2
      change z_R 39 (mq, 75, [(2, 0), (0, u)], []) = some q at h
      rw [s_rule_75] at h
      rw [← Option.some.inj h]
      show mq 1 1 = 0
      rw [← e1, zc_p (by decide), zu_p (by decide), zu_self]
theorem as_nil {as : List Int32} (h : as.length = 0) : as = [] := by
  match as, h with
  | [], _ => rfl
theorem rel_rule : l_rel2 Rel_0 (289, 45, 39, 0, false, 294, 48, 175) := by
  intro M1 M2 M3 σ σ1 σ2 as v1 v2 C1 C2 ρ1 ρ2 ha hR hh hC1 hp1 hE1 hC2 hp2 hE2
  obtain rfl := as_nil ha
  have hE1 : z_R 39 (z_m σ, 0, [(2, 0), (9, 0)], []) = some (z_m σ1, some (0, v1.toInt)) := z_R_iff.mpr hE1
  refine ⟨?_, fun z => by cases z⟩
  unfold Rel_0
  rw [md_off_ok (y := 175) (by decide +kernel) hC2 hp2, md_zero_ok (y := 175) (by decide +kernel) hC2 hp2]
  exact r_rule0 _ hE1
theorem rel_start : ∀ σ, xs_is σ → Rel_0 σ := fun σ h => by
  have := xs_ck_ok (f := fun σ => match c_at σ 1 1, c_at σ 251 8 with
    | some v, some w => i_eq (z_vn v) (z_vn w)
    | _, _ => false) (by decide +kernel) h
  split at this
  · rename_i v w e1 e2
    unfold Rel_0 z_m
    rw [e1, e2]
    exact i_eq_iff.mp this
  · cases this
theorem rel_cases : ∀ c ∈ law_cs, l_rel2 Rel_0 c := by
  unfold law_cs
  refine List.forall_mem_cons.mpr ⟨rel_sign, ?_⟩
  refine List.forall_mem_cons.mpr ⟨rel_end, ?_⟩
  refine List.forall_mem_cons.mpr ⟨rel_zero (by decide +kernel), ?_⟩
  refine List.forall_mem_cons.mpr ⟨rel_zero (by decide +kernel), ?_⟩
  refine List.forall_mem_cons.mpr ⟨rel_rule, ?_⟩
  refine List.forall_mem_cons.mpr ⟨rel_off (by decide +kernel), ?_⟩
  refine List.forall_mem_cons.mpr ⟨rel_off (by decide +kernel), ?_⟩
  refine List.forall_mem_cons.mpr ⟨rel_off (by decide +kernel), ?_⟩
  refine List.forall_mem_cons.mpr ⟨rel_off (by decide +kernel), ?_⟩
  refine List.forall_mem_cons.mpr ⟨rel_off (by decide +kernel), ?_⟩
  refine List.forall_mem_cons.mpr ⟨rel_off (by decide +kernel), ?_⟩
  refine List.forall_mem_cons.mpr ⟨rel_off (by decide +kernel), ?_⟩
  refine List.forall_mem_cons.mpr ⟨rel_off (by decide +kernel), ?_⟩
  refine List.forall_mem_cons.mpr ⟨rel_zero (by decide +kernel), ?_⟩
  refine List.forall_mem_cons.mpr ⟨rel_off (by decide +kernel), ?_⟩
  refine List.forall_mem_cons.mpr ⟨rel_off (by decide +kernel), ?_⟩
  refine List.forall_mem_cons.mpr ⟨rel_off (by decide +kernel), ?_⟩
  refine List.forall_mem_cons.mpr ⟨rel_off (by decide +kernel), ?_⟩
  refine List.forall_mem_cons.mpr ⟨rel_off (by decide +kernel), ?_⟩
  refine List.forall_mem_cons.mpr ⟨rel_off (by decide +kernel), ?_⟩
  refine List.forall_mem_cons.mpr ⟨rel_off (by decide +kernel), ?_⟩
  refine List.forall_mem_cons.mpr ⟨rel_off (by decide +kernel), ?_⟩
  refine List.forall_mem_cons.mpr ⟨rel_off (by decide +kernel), ?_⟩
  refine List.forall_mem_cons.mpr ⟨rel_off (by decide +kernel), ?_⟩
  refine List.forall_mem_cons.mpr ⟨rel_off (by decide +kernel), ?_⟩
  refine List.forall_mem_cons.mpr ⟨rel_off (by decide +kernel), ?_⟩
  refine List.forall_mem_cons.mpr ⟨rel_off (by decide +kernel), ?_⟩
  refine List.forall_mem_cons.mpr ⟨rel_off (by decide +kernel), ?_⟩
  refine List.forall_mem_cons.mpr ⟨rel_off (by decide +kernel), ?_⟩
  refine List.forall_mem_cons.mpr ⟨rel_off (by decide +kernel), ?_⟩
  refine List.forall_mem_cons.mpr ⟨rel_off (by decide +kernel), ?_⟩
  refine List.forall_mem_cons.mpr ⟨rel_off (by decide +kernel), ?_⟩
  refine List.forall_mem_cons.mpr ⟨rel_off (by decide +kernel), ?_⟩
  refine List.forall_mem_cons.mpr ⟨rel_off (by decide +kernel), ?_⟩
  refine List.forall_mem_cons.mpr ⟨rel_off (by decide +kernel), ?_⟩
  refine List.forall_mem_cons.mpr ⟨rel_off (by decide +kernel), ?_⟩
  refine List.forall_mem_cons.mpr ⟨rel_off (by decide +kernel), ?_⟩
  exact fun _ h => absurd h List.not_mem_nil
theorem rel3_off {y n : Nat} (h : (md_off y 1 1 && md_off y 251 8) = true) : l_rel3 Rel_0 y n := by
  obtain ⟨h1, h2⟩ := Bool.and_eq_true _ _ |>.mp h
  intro M1 M2 M3 σ σ1 σ2 as v C2 ρ2 ha hR hh hf hh1 hC2 hp2 hE2
  have hz : ∀ p k, (p = 1 ∨ p = 251) → z_m σ1 p k = z_m σ p k := fun p k hp => by
    have e := hf p k (fun ⟨q, q1, q2, _⟩ => by
      simp only [List.mem_cons, List.not_mem_nil, or_false] at q1
      rcases q1 with rfl | rfl | rfl <;> simp only at q2 <;> omega)
    unfold z_m
    rw [e]
  unfold Rel_0 at hR ⊢
  rw [md_off_ok h1 hC2 hp2, md_off_ok h2 hC2 hp2, hz 1 1 (Or.inl rfl), hz 251 8 (Or.inr rfl), hR]
theorem rel_5 : l_rel3 Rel_0 181 2 := rel3_off (by decide +kernel)
theorem rel_6 : l_rel3 Rel_0 190 2 := rel3_off (by decide +kernel)
theorem rel_39 : l_rel3 Rel_0 261 1 := rel3_off (by decide +kernel)
