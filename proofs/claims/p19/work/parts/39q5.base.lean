/-! THE TEXTS ARE ALIKE, sign by sign: what each call does to that -/
def u_R (m : z_M) : Prop := m 1 1 = m 251 8 ∧ ∀ k : Nat, (k : Int) < m 1 1 → m 2 k = z_and (m 254 k) 255
def Rel_T (σ : m_H) : Prop := u_R (z_m σ)
theorem u_R_sm {m m' : z_M} (h : u_R m) (h1 : m' 1 1 = m 1 1) (h2 : m' 251 8 = m 251 8) (h3 : m' 2 = m 2) (h4 : m' 254 = m 254) : u_R m' := by
  refine ⟨by rw [h1, h2]; exact h.1, fun k hk => ?_⟩
  rw [h3, h4]
  exact h.2 k (by rw [← h1]; exact hk)
theorem u_R_zero {m : z_M} (h1 : m 1 1 = 0) (h2 : m 251 8 = 0) : u_R m := ⟨by rw [h1, h2], fun k hk => by omega⟩
noncomputable def rel_offb (y : Nat) : Bool := md_off y 1 1 && (md_off y 251 8 && (md_offr y 2 && md_offr y 254))
theorem rel_offb_ok {y : Nat} (h : rel_offb y = true) {C : A_C} (hC : C ∈ cs_at y) {T : Int} {ρ : List Int} {σ σ' : m_H} {r : Option Value} (hp : c_post C.2.2.2.2.2.2.2.1 C.2.2.2.2.1 T ρ σ r σ') (hR : Rel_T σ) : Rel_T σ' := by
  obtain ⟨h1, h⟩ := Bool.and_eq_true _ _ |>.mp h
  obtain ⟨h2, h⟩ := Bool.and_eq_true _ _ |>.mp h
  obtain ⟨h3, h4⟩ := Bool.and_eq_true _ _ |>.mp h
  exact u_R_sm hR (md_off_ok h1 hC hp) (md_off_ok h2 hC hp) (md_offr_ok h3 hC hp) (md_offr_ok h4 hC hp)
theorem R_off {c : l_C} (h : (rel_offb c.2.2.1 && (rel_offb c.2.2.2.2.2.2.2 && !c.2.2.2.2.1)) = true) : l_rel2 Rel_T c := by
  obtain ⟨h1, h⟩ := Bool.and_eq_true _ _ |>.mp h
  obtain ⟨h2, h5⟩ := Bool.and_eq_true _ _ |>.mp h
  intro M1 M2 M3 σ σ1 σ2 as v1 v2 C1 C2 ρ1 ρ2 ha hR hh hM1 hC1 hp1 hE1 hC2 hp2 hE2
  exact ⟨rel_offb_ok h2 hC2 hp2 (rel_offb_ok h1 hC1 hp1 hR), fun z => by rw [z] at h5; cases h5⟩
theorem R_zero {c : l_C} (h : (md_zero c.2.2.1 1 1 && (md_zero c.2.2.2.2.2.2.2 251 8 && (md_off c.2.2.2.2.2.2.2 1 1 && !c.2.2.2.2.1))) = true) : l_rel2 Rel_T c := by
  obtain ⟨h1, h⟩ := Bool.and_eq_true _ _ |>.mp h
  obtain ⟨h2, h⟩ := Bool.and_eq_true _ _ |>.mp h
  obtain ⟨h3, h5⟩ := Bool.and_eq_true _ _ |>.mp h
  intro M1 M2 M3 σ σ1 σ2 as v1 v2 C1 C2 ρ1 ρ2 ha hR hh hM1 hC1 hp1 hE1 hC2 hp2 hE2
  exact ⟨u_R_zero ((md_off_ok h3 hC2 hp2).trans (md_zero_ok h1 hC1 hp1)) (md_zero_ok h2 hC2 hp2), fun z => by rw [z] at h5; cases h5⟩
theorem R_end : l_rel2 Rel_T (244, 31, 16, 1, false, 255, 35, 161) := by
  intro M1 M2 M3 σ σ1 σ2 as v1 v2 C1 C2 ρ1 ρ2 ha hR hh hM1 hC1 hp1 hE1 hC2 hp2 hE2
  obtain ⟨a, rfl⟩ := as_one ha
  have hE1 : z_R 16 (z_m σ, 0, [(2, 0), (0, a.toInt)], []) = some (z_m σ1, some (0, v1.toInt)) := z_R_iff.mpr hE1
  have hE2 : z_R 161 (z_m σ1, 0, [(2, 251), (0, a.toInt)], []) = some (z_m σ2, some (0, v2.toInt)) := z_R_iff.mpr hE2
  rw [r_end] at hE1
  rw [q_end] at hE2
  have hR' : u_R (z_m σ) := hR
  show u_R (z_m σ2) ∧ _
  by_cases h : 0 ≤ a.toInt ∧ a.toInt ≤ z_m σ 1 1
  · rw [if_pos h] at hE1
    have hE1 := Option.some.inj hE1
    have k1 : z_m σ1 = z_up (z_m σ) 1 1 a.toInt := (congrArg Prod.fst hE1).symm
    have k2 : v1.toInt = 1 := (congrArg (fun z : z_Q => (z.2.getD (0, 0)).2) hE1).symm
    have k3 : z_m σ1 251 8 = z_m σ 251 8 := by rw [k1]; exact zu_p (by decide)
    have k4 := hR'.1
    rw [if_pos (by omega)] at hE2
    have hE2 := Option.some.inj hE2
    have l1 : z_m σ2 = z_up (z_up (z_m σ1) 251 11 0) 251 8 a.toInt := (congrArg Prod.fst hE2).symm
    have l2 : v2.toInt = 1 := (congrArg (fun z : z_Q => (z.2.getD (0, 0)).2) hE2).symm
    refine ⟨⟨?_, fun k hk => ?_⟩, fun _ => Int32.toInt_inj.mp (by omega)⟩
    · rw [l1, zu_self, zu_p (by decide), zu_p (by decide), k1, zu_self]
    · have e11 : z_m σ2 1 1 = a.toInt := by rw [l1, zu_p (by decide), zu_p (by decide), k1, zu_self]
      have e2 : z_m σ2 2 = z_m σ 2 := by rw [l1, zu_rowne (by decide), zu_rowne (by decide), k1, zu_rowne (by decide)]
      have e4 : z_m σ2 254 = z_m σ 254 := by rw [l1, zu_rowne (by decide), zu_rowne (by decide), k1, zu_rowne (by decide)]
      rw [e2, e4]
      exact hR'.2 k (by omega)
  · rw [if_neg h] at hE1
    have hE1 := Option.some.inj hE1
    have k1 : z_m σ1 = z_m σ := (congrArg Prod.fst hE1).symm
    have k2 : v1.toInt = 0 := (congrArg (fun z : z_Q => (z.2.getD (0, 0)).2) hE1).symm
    have k4 := hR'.1
    rw [if_neg (by rw [k1]; omega)] at hE2
    have hE2 := Option.some.inj hE2
    have l1 : z_m σ2 = z_up (z_m σ1) 251 11 0 := (congrArg Prod.fst hE2).symm
    have l2 : v2.toInt = 0 := (congrArg (fun z : z_Q => (z.2.getD (0, 0)).2) hE2).symm
    refine ⟨?_, fun _ => Int32.toInt_inj.mp (by omega)⟩
    rw [l1, k1]
    exact u_R_sm hR' (zu_p (by decide)) (zu_k (by decide)) (zu_rowne (by decide)) (zu_rowne (by decide))
theorem R_sign : l_rel2 Rel_T (219, 26, 14, 1, false, 230, 30, 160) := by
  intro M1 M2 M3 σ σ1 σ2 as v1 v2 C1 C2 ρ1 ρ2 ha hR hh hM1 hC1 hp1 hE1 hC2 hp2 hE2
  obtain ⟨a, rfl⟩ := as_one ha
  have hE1 : z_R 14 (z_m σ, 0, [(2, 0), (0, a.toInt)], []) = some (z_m σ1, some (0, v1.toInt)) := z_R_iff.mpr hE1
  have hE2 : z_R 160 (z_m σ1, 0, [(2, 251), (0, a.toInt), (9, 0)], []) = some (z_m σ2, some (0, v2.toInt)) := z_R_iff.mpr hE2
  obtain ⟨r1, r2⟩ := z_rng hh (p := 1) (k := 1) (lo := 0) (hi := 80) (by decide) (by decide +kernel) (by decide +kernel)
  have hR' : u_R (z_m σ) := hR
  have k4 := hR'.1
  show u_R (z_m σ2) ∧ _
  by_cases h : z_m σ 1 1 ≤ 76
  · obtain ⟨m1, d1, d2, d3, d4, d5⟩ := r_sign4 (z_m σ) a.toInt r1 h
    rw [d1] at hE1
    have hE1 := Option.some.inj hE1
    have k1 : m1 = z_m σ1 := congrArg Prod.fst hE1
    have k2 : z_m σ 1 1 + 4 = v1.toInt := congrArg (fun z : z_Q => (z.2.getD (0, 0)).2) hE1
    subst k1
    obtain ⟨m2, f1, f2, f3, f4, f5⟩ := q_sign4 (z_m σ1) a.toInt (by omega) (by omega)
    rw [f1] at hE2
    have hE2 := Option.some.inj hE2
    have l1 : m2 = z_m σ2 := congrArg Prod.fst hE2
    have l2 : z_m σ1 251 8 + 4 = v2.toInt := congrArg (fun z : z_Q => (z.2.getD (0, 0)).2) hE2
    subst l1
    refine ⟨⟨by omega, fun k hk => ?_⟩, fun _ => Int32.toInt_inj.mp (by omega)⟩
    rw [f4, f5, d4, d5, d2, ← k4]
    exact u_up4_eq (fun j hj => hR'.2 j (by omega)) (u_sign_eq a (Or.inl rfl)).1 (u_sign_eq a (Or.inr (Or.inl rfl))).1 (u_sign_eq a (Or.inr (Or.inr (Or.inl rfl)))).1 (u_sign_eq a (Or.inr (Or.inr (Or.inr rfl)))).1 (by omega)
  · rw [r_sign0 _ _ h] at hE1
    have hE1 := Option.some.inj hE1
    have k1 : z_m σ = z_m σ1 := congrArg Prod.fst hE1
    have k2 : -1 = v1.toInt := congrArg (fun z : z_Q => (z.2.getD (0, 0)).2) hE1
    rw [← k1, q_sign0 _ _ (by omega) (by omega)] at hE2
    have hE2 := Option.some.inj hE2
    have l1 : z_up (z_m σ) 251 11 0 = z_m σ2 := congrArg Prod.fst hE2
    have l2 : -1 = v2.toInt := congrArg (fun z : z_Q => (z.2.getD (0, 0)).2) hE2
    refine ⟨?_, fun _ => Int32.toInt_inj.mp (by omega)⟩
    rw [← l1]
    exact u_R_sm hR' (zu_p (by decide)) (zu_k (by decide)) (zu_rowne (by decide)) (zu_rowne (by decide))
theorem u_nx_R {m : z_M} (h : u_R m) {s : Int} : u_nx (m 2) (m 1 1) s = u_nx (u_t m) (m 251 8) s := by
  funext i
  unfold u_nx u_t
  rw [← h.1]
  by_cases c : 0 ≤ i ∧ i < m 1 1 ∧ i < s
  · rw [if_pos c, if_pos c]
    exact h.2 _ (by omega)
  · rw [if_neg c, if_neg c]
/-- house: the texts stay alike, the answers are, and columns, storeys, persons come alike or stay -/
theorem H_house (M1 M2 M3 : Int) (σ σ1 σ2 : m_H) (as : List Int32) (v1 v2 : Int32) (C1 C2 : A_C) (ρ1 ρ2 : List Int) (ha : as.length = 0) (hR : Rel_T σ) (hh : h_ok M1 σ) (hC1 : C1 ∈ cs_at 18) (hp1 : c_post C1.2.2.2.2.2.2.2.1 C1.2.2.2.2.1 M2 ρ1 σ (some (.int v1)) σ1) (hE1 : z_R 18 (z_m σ, 0, [(2, 0), (9, 0), (9, 0)], []) = some (z_m σ1, some (0, v1.toInt))) (hC2 : C2 ∈ cs_at 163) (hp2 : c_post C2.2.2.2.2.2.2.2.1 C2.2.2.2.2.1 M3 ρ2 σ1 (some (.int v2)) σ2) (hE2 : z_R 163 (z_m σ1, 0, [(2, 251), (9, 0), (9, 0), (9, 0), (9, 0), (9, 0)], []) = some (z_m σ2, some (0, v2.toInt))) :
    (Rel_T σ2 ∧ v1 = v2) ∧ ∃ b : Option (Int × Int × Int), u_csp (z_m σ2) = b.getD (u_csp (z_m σ)) ∧ u_rsp (z_m σ2) = b.getD (u_rsp (z_m σ)) ∧ (b = none → z_m σ2 31 = z_m σ 31 ∧ z_m σ2 276 = z_m σ 276) ∧ (¬ b = none → (z_m σ2 31 0 = -1 ∧ z_m σ2 31 1 = -1) ∧ z_m σ2 276 0 = 0 ∧ z_m σ2 276 1 = 0) := by
  obtain ⟨r1, r2⟩ := z_rng hh (p := 1) (k := 1) (lo := 0) (hi := 80) (by decide) (by decide +kernel) (by decide +kernel)
  have hR' : u_R (z_m σ) := hR
  have o1 : z_m σ1 251 8 = z_m σ 251 8 := md_off_ok (y := 18) (by decide +kernel) hC1 hp1
  have o2 : z_m σ1 254 = z_m σ 254 := md_offr_ok (y := 18) (by decide +kernel) hC1 hp1
  have rb : ∀ k, k < 80 → -128 ≤ z_m σ 254 k ∧ z_m σ 254 k ≤ 127 := fun k hk => z_rng hh (p := 254) (k := k) (lo := -128) (hi := 127) (by decide) (by rw [show h_ln 254 = 80 by decide +kernel]; exact hk) (h_ty_254 k)
  obtain ⟨m1, d1, d2, d3⟩ := c_house (z_m σ) r1 r2
  rw [d1] at hE1
  have k1 : m1 = z_m σ1 := congrArg Prod.fst (Option.some.inj hE1)
  have k2 := (congrArg (fun z : z_Q => (z.2.getD (0, 0)).2) (Option.some.inj hE1)).symm
  obtain ⟨m2, f1, f2, f3⟩ := t_house (z_m σ1) (by rw [o1, ← hR'.1]; exact r1) (by rw [o1, ← hR'.1]; exact r2) (fun k hk => by rw [o2]; exact rb k hk)
  rw [f1] at hE2
  have l1 : m2 = z_m σ2 := congrArg Prod.fst (Option.some.inj hE2)
  have l2 := (congrArg (fun z : z_Q => (z.2.getD (0, 0)).2) (Option.some.inj hE2)).symm
  have eg : u_nx (u_t (z_m σ1)) (z_m σ1 251 8) 80 = u_nx (z_m σ 2) (z_m σ 1 1) 80 := by
    rw [u_nx_R hR']
    unfold u_t
    rw [o1, o2]
  simp only [Option.getD_some] at k2 l2
  rw [eg, o1, ← hR'.1] at l2 f2 f3
  have ee := u_hou_e (g := u_nx (z_m σ 2) (z_m σ 1 1) 80) (n := z_m σ 1 1) 3 0 3 0 (z_m σ 9) (z_m σ1 256)
  rw [k1] at d2 d3
  rw [l1] at f2 f3
  refine ⟨⟨u_R_zero ((md_off_ok (y := 163) (by decide +kernel) hC2 hp2).trans (md_zero_ok (y := 18) (by decide +kernel) hC1 hp1)) (md_zero_ok (y := 163) (by decide +kernel) hC2 hp2), Int32.toInt_inj.mp (by rw [k2, l2]; exact ee.ans)⟩, ?_⟩
  have n1 : u_csp (z_m σ2) = u_csp (z_m σ1) := by
    unfold u_csp
    rw [md_off_ok (y := 163) (p := 3) (k := 8) (by decide +kernel) hC2 hp2, md_off_ok (y := 163) (p := 3) (k := 9) (by decide +kernel) hC2 hp2, md_off_ok (y := 163) (p := 3) (k := 11) (by decide +kernel) hC2 hp2]
  have n2 : u_rsp (z_m σ1) = u_rsp (z_m σ) := by
    unfold u_rsp
    rw [md_off_ok (y := 18) (p := 251) (k := 1) (by decide +kernel) hC1 hp1, md_off_ok (y := 18) (p := 251) (k := 2) (by decide +kernel) hC1 hp1, md_off_ok (y := 18) (p := 251) (k := 3) (by decide +kernel) hC1 hp1]
  have n3 : z_m σ2 31 = z_m σ1 31 := md_offr_ok (y := 163) (by decide +kernel) hC2 hp2
  have n4 : z_m σ1 276 = z_m σ 276 := md_offr_ok (y := 18) (by decide +kernel) hC1 hp1
  unfold u_gone at d3 f3
  rw [← ee.1] at f3
  rw [n4] at f3
  rw [n3]
  unfold u_after at d2 f2
  rw [n2, ← ee.1, ← ee.2.1, ← ee.2.2.1] at f2
  rw [n1, d2, f2]
  by_cases c : (u_hou (u_nx (z_m σ 2) (z_m σ 1 1) 80) (z_m σ 1 1) 3 0 3 0 (z_m σ 9)).1 = true
  · exact ⟨some ((u_hou (u_nx (z_m σ 2) (z_m σ 1 1) 80) (z_m σ 1 1) 3 0 3 0 (z_m σ 9)).2.1, (u_hou (u_nx (z_m σ 2) (z_m σ 1 1) 80) (z_m σ 1 1) 3 0 3 0 (z_m σ 9)).2.2.1, 0), by rw [if_pos c]; rfl, by rw [if_pos c]; rfl, (fun z => by cases z), fun _ => ⟨d3.1 c, f3.1 c⟩⟩
  · exact ⟨none, by rw [if_neg c]; rfl, by rw [if_neg c]; rfl, (fun _ => ⟨d3.2 (Bool.eq_false_iff.mpr c), f3.2 (Bool.eq_false_iff.mpr c)⟩), fun z => absurd rfl z⟩
theorem R_house : l_rel2 Rel_T (263, 36, 18, 0, false, 268, 40, 163) := by
  intro M1 M2 M3 σ σ1 σ2 as v1 v2 C1 C2 ρ1 ρ2 ha hR hh hM1 hC1 hp1 hE1 hC2 hp2 hE2
  obtain rfl := as_nil ha
  have z := (H_house M1 M2 M3 σ σ1 σ2 [] v1 v2 C1 C2 ρ1 ρ2 rfl hR hh hC1 hp1 (z_R_iff.mpr hE1) hC2 hp2 (z_R_iff.mpr hE2)).1
  exact ⟨z.1, fun _ => z.2⟩
theorem R_rule (h0 : ((289, 45, 39, 0, false, 294, 48, 175) : l_C).2.2.2.2.1 = false) : l_rel2 Rel_T (289, 45, 39, 0, false, 294, 48, 175) := by
  intro M1 M2 M3 σ σ1 σ2 as v1 v2 C1 C2 ρ1 ρ2 ha hR hh hM1 hC1 hp1 hE1 hC2 hp2 hE2
  obtain rfl := as_nil ha
  have hE1 : z_R 39 (z_m σ, 0, [(2, 0), (9, 0)], []) = some (z_m σ1, some (0, v1.toInt)) := z_R_iff.mpr hE1
  exact ⟨u_R_zero ((md_off_ok (y := 175) (by decide +kernel) hC2 hp2).trans (r_rule0 _ hE1)) (md_zero_ok (y := 175) (by decide +kernel) hC2 hp2), fun z => absurd (h0.symm.trans z) (by decide)⟩
theorem R_start : ∀ σ, xs_is σ → Rel_T σ := fun σ h => by
  have := xs_ck_ok (f := fun σ => match c_at σ 1 1, c_at σ 251 8 with
    | some v, some w => i_eq (z_vn v) 0 && i_eq (z_vn w) 0
    | _, _ => false) (by decide +kernel) h
  split at this
  · rename_i v w e1 e2
    obtain ⟨a1, a2⟩ := Bool.and_eq_true _ _ |>.mp this
    refine u_R_zero ?_ ?_
    · unfold z_m
      rw [e1]
      exact i_eq_iff.mp a1
    · unfold z_m
      rw [e2]
      exact i_eq_iff.mp a2
  · cases this
theorem R3_off {y n : Nat} (h : rel_offb y = true) : l_rel3 Rel_T y n := by
  intro M1 M2 M3 σ σ1 σ2 as v C2 ρ2 ha hR hh hM1 hf hh1 hC2 hp2 hE2
  have hz : ∀ p k, (¬ p = 6 ∧ ¬ p = 7 ∧ ¬ p = 278) → z_m σ1 p k = z_m σ p k := fun p k hp => by
    have e := hf p k (fun ⟨q, q1, q2, _⟩ => by
      simp only [List.mem_cons, List.not_mem_nil, or_false] at q1
      rcases q1 with rfl | rfl | rfl <;> simp only at q2 <;> omega)
    unfold z_m
    rw [e]
  have hr : ∀ p, (¬ p = 6 ∧ ¬ p = 7 ∧ ¬ p = 278) → z_m σ1 p = z_m σ p := fun p hp => funext fun k => hz p k hp
  exact rel_offb_ok h hC2 hp2 (u_R_sm hR (hz 1 1 (by decide)) (hz 251 8 (by decide)) (hr 2 (by decide)) (hr 254 (by decide)))
/-! CELLS THAT ARE ALIKE: place, cell, place, cell, how many -/
abbrev u_X : Type := Nat × Nat × Nat × Nat × Nat
def u_E (L : List u_X) (m : z_M) : Prop := ∀ e ∈ L, ∀ j, j < e.2.2.2.2 → m e.1 (e.2.1 + j) = m e.2.2.1 (e.2.2.2.1 + j)
theorem u_E_nil {m : z_M} : u_E [] m := fun e h => absurd h List.not_mem_nil
theorem u_E_cons {e : u_X} {L : List u_X} {m : z_M} : u_E (e :: L) m ↔ (∀ j, j < e.2.2.2.2 → m e.1 (e.2.1 + j) = m e.2.2.1 (e.2.2.2.1 + j)) ∧ u_E L m := by
  constructor
  · intro h
    exact ⟨h e List.mem_cons_self, fun e' h' => h e' (List.mem_cons_of_mem _ h')⟩
  · rintro ⟨h1, h2⟩ e' h'
    rcases List.mem_cons.mp h' with rfl | h'
    · exact h1
    · exact h2 e' h'
theorem u_E_one {p k p' k' : Nat} {L : List u_X} {m : z_M} (h1 : m p k = m p' k') (h2 : u_E L m) : u_E ((p, k, p', k', 1) :: L) m := u_E_cons.mpr ⟨fun j hj => by
  obtain rfl : j = 0 := by simp only at hj; omega
  exact h1, h2⟩
noncomputable def md_offg (y p k n : Nat) : Bool := (cs_at y).all fun C => C.2.2.2.2.1.all fun q => !(Nat.beq q.1 p && (Nat.blt q.2.1 (k + n) && Nat.ble k q.2.2))
theorem md_offg_ok {y p k n : Nat} (h : md_offg y p k n = true) {C : A_C} (hC : C ∈ cs_at y) {alts : List A_A} {T : Int} {ρ : List Int} {σ σ' : m_H} {r : Option Value} (hp : c_post alts C.2.2.2.2.1 T ρ σ r σ') {j : Nat} (hj : j < n) : z_m σ' p (k + j) = z_m σ p (k + j) := by
  have e := (c_post_h hp).2 p (k + j) (fun ⟨q, q1, q2, q3, q4⟩ => by
    have := List.all_eq_true.mp (List.all_eq_true.mp h C hC) q q1
    have hb : Nat.beq p p = true := Nat.beq_refl p
    have h2 : Nat.blt q.2.1 (k + n) = true := Nat.ble_eq_true_of_le (show q.2.1 + 1 ≤ k + n by omega)
    rw [q2, hb, h2, Nat.ble_eq_true_of_le (show k ≤ q.2.2 by omega)] at this
    cases this)
  unfold z_m
  rw [e]
noncomputable def E_off (y : Nat) (L : List u_X) : Bool := L.all fun e => md_offg y e.1 e.2.1 e.2.2.2.2 && md_offg y e.2.2.1 e.2.2.2.1 e.2.2.2.2
theorem E_off_ok {y : Nat} {L : List u_X} (h : E_off y L = true) {C : A_C} (hC : C ∈ cs_at y) {alts : List A_A} {T : Int} {ρ : List Int} {σ σ' : m_H} {r : Option Value} (hp : c_post alts C.2.2.2.2.1 T ρ σ r σ') (hE : u_E L (z_m σ)) : u_E L (z_m σ') := fun e he j hj => by
  obtain ⟨h1, h2⟩ := Bool.and_eq_true _ _ |>.mp (List.all_eq_true.mp h e he)
  rw [md_offg_ok h1 hC hp hj, md_offg_ok h2 hC hp hj]
  exact hE e he j hj
/-- cells that no call of the case changes stay alike -/
theorem E_part {A : m_H → Prop} {L : List u_X} {c : l_C} (h1 : l_rel2 A c) (h : (E_off c.2.2.1 L && E_off c.2.2.2.2.2.2.2 L) = true) : l_rel2 (fun σ => A σ ∧ u_E L (z_m σ)) c := by
  obtain ⟨g1, g2⟩ := Bool.and_eq_true _ _ |>.mp h
  intro M1 M2 M3 σ σ1 σ2 as v1 v2 C1 C2 ρ1 ρ2 ha hR hh hM1 hC1 hp1 hE1 hC2 hp2 hE2
  have z := h1 M1 M2 M3 σ σ1 σ2 as v1 v2 C1 C2 ρ1 ρ2 ha hR.1 hh hM1 hC1 hp1 hE1 hC2 hp2 hE2
  exact ⟨⟨z.1, E_off_ok g2 hC2 hp2 (E_off_ok g1 hC1 hp1 hR.2)⟩, z.2⟩
/-- cells that room, person, row of the class leave -/
def E_far (L : List u_X) : Bool := L.all fun e => !(Nat.beq e.1 6 || (Nat.beq e.1 7 || (Nat.beq e.1 278 || (Nat.beq e.2.2.1 6 || (Nat.beq e.2.2.1 7 || Nat.beq e.2.2.1 278)))))
theorem E_part3 {A : m_H → Prop} {L : List u_X} {y n : Nat} (h1 : l_rel3 A y n) (h : (E_off y L && E_far L) = true) : l_rel3 (fun σ => A σ ∧ u_E L (z_m σ)) y n := by
  obtain ⟨g1, g2⟩ := Bool.and_eq_true _ _ |>.mp h
  intro M1 M2 M3 σ σ1 σ2 as v C2 ρ2 ha hR hh hM1 hf hh1 hC2 hp2 hE2
  have hz : ∀ p k, (¬ p = 6 ∧ ¬ p = 7 ∧ ¬ p = 278) → z_m σ1 p k = z_m σ p k := fun p k hp => by
    have e := hf p k (fun ⟨q, q1, q2, _⟩ => by
      simp only [List.mem_cons, List.not_mem_nil, or_false] at q1
      rcases q1 with rfl | rfl | rfl <;> simp only at q2 <;> omega)
    unfold z_m
    rw [e]
  refine ⟨h1 M1 M2 M3 σ σ1 σ2 as v C2 ρ2 ha hR.1 hh hM1 hf hh1 hC2 hp2 hE2, E_off_ok g1 hC2 hp2 fun e he j hj => ?_⟩
  have hb := List.all_eq_true.mp g2 e he
  have hn : ¬ e.1 = 6 ∧ ¬ e.1 = 7 ∧ ¬ e.1 = 278 ∧ ¬ e.2.2.1 = 6 ∧ ¬ e.2.2.1 = 7 ∧ ¬ e.2.2.1 = 278 := by
    refine ⟨fun z => ?_, fun z => ?_, fun z => ?_, fun z => ?_, fun z => ?_, fun z => ?_⟩ <;> (rw [z] at hb; simp at hb)
  rw [hz _ _ ⟨hn.1, hn.2.1, hn.2.2.1⟩, hz _ _ ⟨hn.2.2.2.1, hn.2.2.2.2.1, hn.2.2.2.2.2⟩]
  exact hR.2 e he j hj
/-- alike, as the cells stand -/
def E_ck (L : List u_X) (σ : m_H) : Bool := L.all fun e => (List.range e.2.2.2.2).all fun j => match c_at σ e.1 (e.2.1 + j), c_at σ e.2.2.1 (e.2.2.2.1 + j) with
  | some v, some w => i_eq (z_vn v) (z_vn w)
  | _, _ => false
theorem E_ck_ok {L : List u_X} {σ : m_H} (h : E_ck L σ = true) : u_E L (z_m σ) := fun e he j hj => by
  have := List.all_eq_true.mp (List.all_eq_true.mp h e he) j (List.mem_range.mpr hj)
  split at this
  · rename_i v w e1 e2
    unfold z_m
    rw [e1, e2]
    exact i_eq_iff.mp this
  · cases this
