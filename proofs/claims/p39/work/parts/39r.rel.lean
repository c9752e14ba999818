/-! WHAT IS KEPT, for again: both texts alike, columns, storeys, persons, and what is kept -/
def L_eq : List u_X := [(3, 8, 251, 1, 1), (3, 9, 251, 2, 1), (3, 11, 251, 3, 1)]
def Rel_P (σ : m_H) : Prop := Rel_T σ ∧ u_E L_eq (z_m σ)
theorem P_start : ∀ σ, xs_is σ → Rel_P σ := fun σ h => ⟨R_start σ h, by
  have := xs_ck_ok (f := fun σ => E_ck L_eq σ) (by decide +kernel) h
  exact E_ck_ok this⟩
theorem P_off {c : l_C} (h : ((E_off c.2.2.1 L_eq && E_off c.2.2.2.2.2.2.2 L_eq) && (rel_offb c.2.2.1 && (rel_offb c.2.2.2.2.2.2.2 && !c.2.2.2.2.1))) = true) : l_rel2 Rel_P c := by
  obtain ⟨h1, h2⟩ := Bool.and_eq_true _ _ |>.mp h
  exact E_part (R_off h2) h1
theorem P_zero {c : l_C} (h : ((E_off c.2.2.1 L_eq && E_off c.2.2.2.2.2.2.2 L_eq) && (md_zero c.2.2.1 1 1 && (md_zero c.2.2.2.2.2.2.2 251 8 && (md_off c.2.2.2.2.2.2.2 1 1 && !c.2.2.2.2.1)))) = true) : l_rel2 Rel_P c := by
  obtain ⟨h1, h2⟩ := Bool.and_eq_true _ _ |>.mp h
  exact E_part (R_zero h2) h1
theorem P_sign : l_rel2 Rel_P (219, 26, 14, 1, false, 230, 30, 160) := E_part R_sign (by decide +kernel)
theorem P_end : l_rel2 Rel_P (244, 31, 16, 1, false, 255, 35, 161) := E_part R_end (by decide +kernel)
theorem P_rule : l_rel2 Rel_P (289, 45, 39, 0, false, 294, 48, 175) := E_part (R_rule rfl) (by decide +kernel)
theorem P_house : l_rel2 Rel_P (263, 36, 18, 0, false, 268, 40, 163) := by
  intro M1 M2 M3 σ σ1 σ2 as v1 v2 C1 C2 ρ1 ρ2 ha hR hh hM1 hC1 hp1 hE1 hC2 hp2 hE2
  obtain rfl := as_nil ha
  obtain ⟨z, b, z1, z2, -⟩ := H_house M1 M2 M3 σ σ1 σ2 [] v1 v2 C1 C2 ρ1 ρ2 rfl hR.1 hh hC1 hp1 (z_R_iff.mpr hE1) hC2 hp2 (z_R_iff.mpr hE2)
  have e1 : z_m σ 3 8 = z_m σ 251 1 := hR.2 (3, 8, 251, 1, 1) (by decide) 0 (by decide)
  have e2 : z_m σ 3 9 = z_m σ 251 2 := hR.2 (3, 9, 251, 2, 1) (by decide) 0 (by decide)
  have e3 : z_m σ 3 11 = z_m σ 251 3 := hR.2 (3, 11, 251, 3, 1) (by decide) 0 (by decide)
  have e : u_csp (z_m σ) = u_rsp (z_m σ) := by unfold u_csp u_rsp; rw [e1, e2, e3]
  have ee : u_csp (z_m σ2) = u_rsp (z_m σ2) := by rw [z1, z2, e]
  have f := Prod.mk.inj ee
  have f' := Prod.mk.inj f.2
  exact ⟨⟨z.1, u_E_one f.1 (u_E_one f'.1 (u_E_one f'.2 u_E_nil))⟩, fun _ => z.2⟩
theorem u_gr_R {m : z_M} (h : u_R m) {s : Int} : u_gr (u_nx (m 2) (m 1 1) s) := fun i => by
  unfold u_nx
  by_cases c : 0 ≤ i ∧ i < m 1 1 ∧ i < s
  · rw [if_pos c, h.2 _ (by omega)]
    have e : z_and (m 254 i.toNat) 255 = (Int32.ofInt (m 254 i.toNat)).toInt % 256 := i32_and255 _
    omega
  · rw [if_neg c]; omega
theorem u_ls_1 {g : Int → Int} {c s n : Int} : ∀ (f : Nat) (i : Int) (j : Nat), (u_ls g c s n f i j).1 = true → j + 1 ≤ (u_ls g c s n f i j).2.2 := by
  intro f
  induction f with
  | zero => intro i j h; cases h
  | succ f ih =>
    intro i j h
    unfold u_ls at h ⊢
    by_cases c1 : (u_line g c s i).1 = false
    · rw [if_pos c1] at h; cases h
    rw [if_neg c1] at h ⊢
    by_cases c2 : n ≤ (u_line g c s i).2
    · rw [if_pos c2]; exact Nat.le_refl _
    rw [if_neg c2] at h ⊢
    by_cases c3 : g (u_line g c s i).2 = 59
    · rw [if_pos c3] at h ⊢
      have := ih _ _ h
      omega
    · rw [if_neg c3] at h; cases h
theorem H_people (M1 M2 M3 : Int) (σ σ1 σ2 : m_H) (v1 v2 : Int32) (C1 C2 : A_C) (ρ1 ρ2 : List Int) (hR : Rel_P σ) (hh : h_ok M1 σ) (hC1 : C1 ∈ cs_at 35) (hp1 : c_post C1.2.2.2.2.2.2.2.1 C1.2.2.2.2.1 M2 ρ1 σ (some (.int v1)) σ1) (hE1 : z_R 35 (z_m σ, 0, [(2, 0), (9, 0)], []) = some (z_m σ1, some (0, v1.toInt))) (hC2 : C2 ∈ cs_at 172) (hp2 : c_post C2.2.2.2.2.2.2.2.1 C2.2.2.2.2.1 M3 ρ2 σ1 (some (.int v2)) σ2) (hE2 : z_R 172 (z_m σ1, 0, [(2, 251), (9, 0), (9, 0), (9, 0), (9, 0), (9, 0)], []) = some (z_m σ2, some (0, v2.toInt))) : (Rel_P σ2 ∧ v1 = v2) ∧ ∃ q : Nat, z_m σ2 3 11 = z_m σ 3 11 + (q : Int) ∧ ((q = 0 ∧ z_m σ2 251 52 = z_m σ 251 52) ∨ (1 ≤ q ∧ z_m σ2 251 52 = z_add (z_m σ 251 52) 1)) := by
  have hT : u_R (z_m σ) := hR.1
  obtain ⟨r1, r2⟩ := z_rng hh (p := 1) (k := 1) (lo := 0) (hi := 80) (by decide) (by decide +kernel) (by decide +kernel)
  obtain ⟨w1, w2⟩ := z_rng hh (p := 3) (k := 8) (lo := 0) (hi := 3) (by decide) (by decide +kernel) (by decide +kernel)
  obtain ⟨w3, w4⟩ := z_rng hh (p := 3) (k := 9) (lo := 0) (hi := 3) (by decide) (by decide +kernel) (by decide +kernel)
  obtain ⟨w5, w6⟩ := z_rng hh (p := 3) (k := 11) (lo := 0) (hi := 5) (by decide) (by decide +kernel) (by decide +kernel)
  have rb : ∀ k, k < 80 → -128 ≤ z_m σ 254 k ∧ z_m σ 254 k ≤ 127 := fun k hk => z_rng hh (p := 254) (k := k) (lo := -128) (hi := 127) (by decide) (by rw [show h_ln 254 = 80 by decide +kernel]; exact hk) (h_ty_254 k)
  have e1 : z_m σ 3 8 = z_m σ 251 1 := hR.2 (3, 8, 251, 1, 1) (by decide) 0 (by decide)
  have e2 : z_m σ 3 9 = z_m σ 251 2 := hR.2 (3, 9, 251, 2, 1) (by decide) 0 (by decide)
  have e3 : z_m σ 3 11 = z_m σ 251 3 := hR.2 (3, 11, 251, 3, 1) (by decide) 0 (by decide)
  have o8 : z_m σ1 251 8 = z_m σ 251 8 := md_off_ok (y := 35) (by decide +kernel) hC1 hp1
  have o1 : z_m σ1 251 1 = z_m σ 251 1 := md_off_ok (y := 35) (by decide +kernel) hC1 hp1
  have o2 : z_m σ1 251 2 = z_m σ 251 2 := md_off_ok (y := 35) (by decide +kernel) hC1 hp1
  have o3 : z_m σ1 251 3 = z_m σ 251 3 := md_off_ok (y := 35) (by decide +kernel) hC1 hp1
  have o4 : z_m σ1 254 = z_m σ 254 := md_offr_ok (y := 35) (by decide +kernel) hC1 hp1
  have o5 : z_m σ1 253 = z_m σ 253 := md_offr_ok (y := 35) (by decide +kernel) hC1 hp1
  have q1 : z_m σ2 3 8 = z_m σ1 3 8 := md_off_ok (y := 172) (by decide +kernel) hC2 hp2
  have q2 : z_m σ2 3 9 = z_m σ1 3 9 := md_off_ok (y := 172) (by decide +kernel) hC2 hp2
  have q3 : z_m σ2 3 11 = z_m σ1 3 11 := md_off_ok (y := 172) (by decide +kernel) hC2 hp2
  have q4 : z_m σ2 8 = z_m σ1 8 := md_offr_ok (y := 172) (by decide +kernel) hC2 hp2
  have k1 : z_m σ1 3 8 = z_m σ 3 8 := md_off_ok (y := 35) (by decide +kernel) hC1 hp1
  have k2 : z_m σ1 3 9 = z_m σ 3 9 := md_off_ok (y := 35) (by decide +kernel) hC1 hp1
  have o52 : z_m σ1 251 52 = z_m σ 251 52 := md_off_ok (y := 35) (by decide +kernel) hC1 hp1
  have l1 : z_m σ2 251 1 = z_m σ1 251 1 := md_off_ok (y := 172) (by decide +kernel) hC2 hp2
  have l2 : z_m σ2 251 2 = z_m σ1 251 2 := md_off_ok (y := 172) (by decide +kernel) hC2 hp2
  have hpp : z_m σ 3 11 = (((z_m σ 3 11).toNat : Nat) : Int) := by omega
  generalize (z_m σ 3 11).toNat = p at hpp
  have hp5 : p ≤ 5 := by omega
  have eG : u_nx (u_t (z_m σ1)) (z_m σ1 251 8) 76 = u_nx (z_m σ 2) (z_m σ 1 1) 76 := by
    rw [u_nx_R hT]
    unfold u_t
    rw [o8, o4]
  obtain ⟨m1, d1, d2, d3, d4⟩ := c_people w2 w4 p hp5 (z_m σ) r1 r2 (u_gr_R hT) rfl rfl hpp rfl rfl
  obtain ⟨m2, f1, f2, f3, f4, f5⟩ := t_people w1 w2 w3 w4 p hp5 (z_m σ1) (by rw [o8, ← hT.1]; exact r1) (by rw [o8, ← hT.1]; exact r2) (fun k hk => by rw [o4]; exact rb k hk) (o1.trans e1.symm) (o2.trans e2.symm) (o3.trans (e3.symm.trans hpp)) eG rfl
  rw [show z_m σ1 251 8 = z_m σ 1 1 from o8.trans hT.1.symm] at f1 f2 f3 f4 f5
  have hl1 := u_ls_1 (g := u_nx (z_m σ 2) (z_m σ 1 1) 76) (c := z_m σ 3 8) (s := z_m σ 3 9) (n := z_m σ 1 1) (5 - p) 0 0
  generalize u_ls (u_nx (z_m σ 2) (z_m σ 1 1) 76) (z_m σ 3 8) (z_m σ 3 9) (z_m σ 1 1) (5 - p) 0 0 = S at d1 d2 d3 d4 f1 f2 f3 f4 f5 hl1
  rw [d1] at hE1
  rw [f1] at hE2
  have y1 : m1 = z_m σ1 := congrArg Prod.fst (Option.some.inj hE1)
  have y2 : m2 = z_m σ2 := congrArg Prod.fst (Option.some.inj hE2)
  have x1 := (congrArg (fun z : z_Q => (z.2.getD (0, 0)).2) (Option.some.inj hE1)).symm
  have x2 := (congrArg (fun z : z_Q => (z.2.getD (0, 0)).2) (Option.some.inj hE2)).symm
  simp only [Option.getD_some] at x1 x2
  subst y1 y2
  refine ⟨⟨⟨u_R_zero ((md_off_ok (y := 172) (by decide +kernel) hC2 hp2).trans (md_zero_ok (y := 35) (by decide +kernel) hC1 hp1)) (md_zero_ok (y := 172) (by decide +kernel) hC2 hp2), u_E_one (by rw [q1, k1, l1, o1]; exact e1) (u_E_one (by rw [q2, k2, l2, o2]; exact e2) (u_E_one (by rw [q3, d2, f2]) u_E_nil))⟩, Int32.toInt_inj.mp (x1.trans x2.symm)⟩, u_pn (z_m σ 1 1) S, by rw [q3, d2, hpp]; omega, ?_⟩
  unfold u_pn
  rw [o52] at f5
  by_cases z : z_m σ 1 1 = 0
  · rw [if_pos z] at f5 ⊢
    exact Or.inl ⟨rfl, f5⟩
  rw [if_neg z] at f5 ⊢
  by_cases k : S.1 = true
  · rw [if_pos k] at f5 ⊢
    exact Or.inr ⟨by have := hl1 k; omega, f5⟩
  · rw [if_neg k] at f5 ⊢
    exact Or.inl ⟨rfl, f5⟩
/-- one of the two that are kept: nothing in both, or d times people came since -/
def u_Kp (m : z_M) (i : Nat) : Prop := (m 276 i = 0 ∧ m 31 i = -1) ∨ (m 276 i = 1 ∧ ∃ d : Nat, 0 ≤ m 31 i ∧ m 31 i + (d : Int) ≤ m 3 11 ∧ (d = 0 → m 31 i = m 3 11) ∧ m 251 52 = (Int32.ofInt (m 277 i + (d : Int))).toInt ∧ -2147483648 ≤ m 277 i ∧ m 277 i ≤ 2147483647)
def u_K2 (m : z_M) : Prop := ∀ i, i < 2 → u_Kp m i
theorem u_Kp_same {m m' : z_M} {i : Nat} (h : u_Kp m i) (h1 : m' 31 i = m 31 i) (h2 : m' 276 i = m 276 i) (h3 : m' 277 i = m 277 i) (h4 : m' 3 11 = m 3 11) (h5 : m' 251 52 = m 251 52) : u_Kp m' i := by
  unfold u_Kp at h ⊢
  rw [h1, h2, h3, h4, h5]
  exact h
theorem u_Kp_again {m : z_M} {i : Nat} (h : u_Kp m i) (h0 : 0 ≤ m 3 11) (h1 : m 3 11 ≤ 5) : m 31 i = m 3 11 ↔ ¬ m 276 i = 0 ∧ m 277 i = m 251 52 := by
  rcases h with ⟨a, b⟩ | ⟨a, d, b1, b2, b3, b4, b5, b6⟩
  · constructor
    · intro z; omega
    · intro z; exact absurd a z.1
  · rw [Int32.toInt_ofInt] at b4
    constructor
    · intro z
      have hd : d = 0 := by omega
      subst hd
      refine ⟨by omega, ?_⟩
      rw [b4, show m 277 i + ((0 : Nat) : Int) = m 277 i by omega]
      exact (i32_bm b5 b6).symm
    · intro z
      refine b3 ?_
      have z2 := z.2
      rw [b4] at z2
      have hb := Int.bmod_emod (x := m 277 i + (d : Int)) (m := 4294967296)
      change m 277 i = (m 277 i + (d : Int)).bmod 4294967296 at z2
      rw [← z2] at hb
      omega
def L_k : List u_X := [(31, 0, 276, 0, 2), (277, 0, 277, 0, 2), (3, 11, 251, 52, 1)]
/-- a call that changes none of these cells -/
theorem K_off {y : Nat} (h : E_off y L_k = true) {C : A_C} (hC : C ∈ cs_at y) {alts : List A_A} {T : Int} {ρ : List Int} {σ σ' : m_H} {r : Option Value} (hp : c_post alts C.2.2.2.2.1 T ρ σ r σ') (hK : u_K2 (z_m σ)) : u_K2 (z_m σ') := fun i hi => by
  have b1 := List.all_eq_true.mp h (31, 0, 276, 0, 2) (by decide)
  have b2 := List.all_eq_true.mp h (277, 0, 277, 0, 2) (by decide)
  have b3 := List.all_eq_true.mp h (3, 11, 251, 52, 1) (by decide)
  obtain ⟨c1, c2⟩ := Bool.and_eq_true _ _ |>.mp b1
  obtain ⟨c3, -⟩ := Bool.and_eq_true _ _ |>.mp b2
  obtain ⟨c4, c5⟩ := Bool.and_eq_true _ _ |>.mp b3
  have d1 := md_offg_ok c1 hC hp hi
  have d2 := md_offg_ok c2 hC hp hi
  have d3 := md_offg_ok c3 hC hp hi
  have d4 := md_offg_ok c4 hC hp (show 0 < 1 by decide)
  have d5 := md_offg_ok c5 hC hp (show 0 < 1 by decide)
  simp only [Nat.zero_add, Nat.add_zero] at d1 d2 d3 d4 d5
  exact u_Kp_same (hK i hi) d1 d2 d3 d4 d5
def Rel_0 (σ : m_H) : Prop := Rel_P σ ∧ u_K2 (z_m σ)
theorem K_part {c : l_C} (h1 : l_rel2 Rel_P c) (h : (E_off c.2.2.1 L_k && E_off c.2.2.2.2.2.2.2 L_k) = true) : l_rel2 Rel_0 c := by
  obtain ⟨g1, g2⟩ := Bool.and_eq_true _ _ |>.mp h
  intro M1 M2 M3 σ σ1 σ2 as v1 v2 C1 C2 ρ1 ρ2 ha hR hh hM1 hC1 hp1 hE1 hC2 hp2 hE2
  have z := h1 M1 M2 M3 σ σ1 σ2 as v1 v2 C1 C2 ρ1 ρ2 ha hR.1 hh hM1 hC1 hp1 hE1 hC2 hp2 hE2
  exact ⟨⟨z.1, K_off g2 hC2 hp2 (K_off g1 hC1 hp1 hR.2)⟩, z.2⟩
theorem rel_off {c : l_C} (h : ((E_off c.2.2.1 L_k && E_off c.2.2.2.2.2.2.2 L_k) && ((E_off c.2.2.1 L_eq && E_off c.2.2.2.2.2.2.2 L_eq) && (rel_offb c.2.2.1 && (rel_offb c.2.2.2.2.2.2.2 && !c.2.2.2.2.1)))) = true) : l_rel2 Rel_0 c := by
  obtain ⟨h1, h2⟩ := Bool.and_eq_true _ _ |>.mp h
  exact K_part (P_off h2) h1
theorem rel_zero {c : l_C} (h : ((E_off c.2.2.1 L_k && E_off c.2.2.2.2.2.2.2 L_k) && ((E_off c.2.2.1 L_eq && E_off c.2.2.2.2.2.2.2 L_eq) && (md_zero c.2.2.1 1 1 && (md_zero c.2.2.2.2.2.2.2 251 8 && (md_off c.2.2.2.2.2.2.2 1 1 && !c.2.2.2.2.1))))) = true) : l_rel2 Rel_0 c := by
  obtain ⟨h1, h2⟩ := Bool.and_eq_true _ _ |>.mp h
  exact K_part (P_zero h2) h1
theorem rel_sign : l_rel2 Rel_0 (219, 26, 14, 1, false, 230, 30, 160) := K_part P_sign (by decide +kernel)
theorem rel_end : l_rel2 Rel_0 (244, 31, 16, 1, false, 255, 35, 161) := K_part P_end (by decide +kernel)
theorem rel_rule : l_rel2 Rel_0 (289, 45, 39, 0, false, 294, 48, 175) := K_part P_rule (by decide +kernel)
theorem rel_start : ∀ σ, xs_is σ → Rel_0 σ := fun σ h => ⟨P_start σ h, by
  have := xs_ck_ok (f := fun σ => (List.range 2).all fun i => match c_at σ 276 i, c_at σ 31 i with
    | some v, some w => i_eq (z_vn v) 0 && i_eq (z_vn w) (-1)
    | _, _ => false) (by decide +kernel) h
  intro i hi
  have := List.all_eq_true.mp this i (List.mem_range.mpr hi)
  split at this
  · rename_i v w e1 e2
    obtain ⟨a1, a2⟩ := Bool.and_eq_true _ _ |>.mp this
    refine Or.inl ⟨?_, ?_⟩
    · unfold z_m
      rw [e1]
      exact i_eq_iff.mp a1
    · unfold z_m
      rw [e2]
      exact i_eq_iff.mp a2
  · cases this⟩
theorem rel_house : l_rel2 Rel_0 (263, 36, 18, 0, false, 268, 40, 163) := by
  intro M1 M2 M3 σ σ1 σ2 as v1 v2 C1 C2 ρ1 ρ2 ha hR hh hM1 hC1 hp1 hE1 hC2 hp2 hE2
  have P := P_house M1 M2 M3 σ σ1 σ2 as v1 v2 C1 C2 ρ1 ρ2 ha hR.1 hh hM1 hC1 hp1 hE1 hC2 hp2 hE2
  refine ⟨⟨P.1, fun i hi => ?_⟩, P.2⟩
  obtain rfl := as_nil ha
  obtain ⟨-, b, z1, -, z3, z4⟩ := H_house M1 M2 M3 σ σ1 σ2 [] v1 v2 C1 C2 ρ1 ρ2 rfl hR.1.1 hh hC1 hp1 (z_R_iff.mpr hE1) hC2 hp2 (z_R_iff.mpr hE2)
  by_cases hb : b = none
  · obtain ⟨k31, k276⟩ := z3 hb
    rw [hb] at z1
    have z1 : (z_m σ2 3 8, z_m σ2 3 9, z_m σ2 3 11) = (z_m σ 3 8, z_m σ 3 9, z_m σ 3 11) := z1
    have a277 : z_m σ2 277 = z_m σ1 277 := md_offr_ok (y := 163) (by decide +kernel) hC2 hp2
    have b277 : z_m σ1 277 = z_m σ 277 := md_offr_ok (y := 18) (by decide +kernel) hC1 hp1
    have a52 : z_m σ2 251 52 = z_m σ1 251 52 := md_off_ok (y := 163) (by decide +kernel) hC2 hp2
    have b52 : z_m σ1 251 52 = z_m σ 251 52 := md_off_ok (y := 18) (by decide +kernel) hC1 hp1
    exact u_Kp_same (hR.2 i hi) (congrFun k31 i) (congrFun k276 i) (congrFun (a277.trans b277) i) (Prod.mk.inj (Prod.mk.inj z1).2).2 (a52.trans b52)
  · obtain ⟨⟨k0, k1⟩, g0, g1⟩ := z4 hb
    rcases (show i = 0 ∨ i = 1 by omega) with rfl | rfl
    · exact Or.inl ⟨g0, k0⟩
    · exact Or.inl ⟨g1, k1⟩
theorem rel_people : l_rel2 Rel_0 (276, 41, 35, 0, false, 281, 44, 172) := by
  intro M1 M2 M3 σ σ1 σ2 as v1 v2 C1 C2 ρ1 ρ2 ha hR hh hM1 hC1 hp1 hE1 hC2 hp2 hE2
  obtain rfl := as_nil ha
  obtain ⟨P, q, h11, h52⟩ := H_people M1 M2 M3 σ σ1 σ2 v1 v2 C1 C2 ρ1 ρ2 hR.1 hh hC1 hp1 (z_R_iff.mpr hE1) hC2 hp2 (z_R_iff.mpr hE2)
  refine ⟨⟨P.1, fun i hi => ?_⟩, fun _ => P.2⟩
  have a31 : z_m σ2 31 = z_m σ1 31 := md_offr_ok (y := 172) (by decide +kernel) hC2 hp2
  have b31 : z_m σ1 31 = z_m σ 31 := md_offr_ok (y := 35) (by decide +kernel) hC1 hp1
  have a276 : z_m σ2 276 = z_m σ1 276 := md_offr_ok (y := 172) (by decide +kernel) hC2 hp2
  have b276 : z_m σ1 276 = z_m σ 276 := md_offr_ok (y := 35) (by decide +kernel) hC1 hp1
  have a277 : z_m σ2 277 = z_m σ1 277 := md_offr_ok (y := 172) (by decide +kernel) hC2 hp2
  have b277 : z_m σ1 277 = z_m σ 277 := md_offr_ok (y := 35) (by decide +kernel) hC1 hp1
  have K := hR.2 i hi
  unfold u_Kp at K ⊢
  rw [congrFun (a31.trans b31) i, congrFun (a276.trans b276) i, congrFun (a277.trans b277) i, h11]
  rcases K with K | ⟨a, d, c1, c2, c3, c4, c5, c6⟩
  · exact Or.inl K
  · rcases h52 with ⟨q0, h52⟩ | ⟨q1, h52⟩
    · rw [h52]
      exact Or.inr ⟨a, d, c1, by omega, fun z => by have := c3 z; omega, c4, c5, c6⟩
    · rw [h52]
      refine Or.inr ⟨a, d + 1, c1, by omega, fun z => by omega, ?_, c5, c6⟩
      rw [c4]
      unfold z_add
      rw [Int32.ofInt_toInt, ← Int32.ofInt_add, show z_m σ 277 i + (d : Int) + 1 = z_m σ 277 i + ((d + 1 : Nat) : Int) by omega]
theorem rel_keep : l_rel2 Rel_0 (1197, 176, 150, 1, false, 1208, 179, 258) := by
  intro M1 M2 M3 σ σ1 σ2 as v1 v2 C1 C2 ρ1 ρ2 ha hR hh hM1 hC1 hp1 hE1 hC2 hp2 hE2
  obtain ⟨a, rfl⟩ := as_one ha
  have hE1 : z_R 150 (z_m σ, 0, [(2, 0), (0, a.toInt)], []) = some (z_m σ1, some (0, v1.toInt)) := z_R_iff.mpr hE1
  have hE2 : z_R 258 (z_m σ1, 0, [(2, 251), (0, a.toInt)], []) = some (z_m σ2, some (0, v2.toInt)) := z_R_iff.mpr hE2
  have w52 := z_rng hh (p := 251) (k := 52) (lo := -2147483648) (hi := 2147483647) (by decide) (by decide +kernel) (by decide +kernel)
  have w11 := z_rng hh (p := 3) (k := 11) (lo := 0) (hi := 5) (by decide) (by decide +kernel) (by decide +kernel)
  obtain ⟨m1, d1, d2⟩ := c_keep (z_m σ) a.toInt
  obtain ⟨m2, f1, f2, f3, f4⟩ := t_keep (z_m σ1) a.toInt
  rw [d1] at hE1
  rw [f1] at hE2
  have y1 : m1 = z_m σ1 := congrArg Prod.fst (Option.some.inj hE1)
  have y2 : m2 = z_m σ2 := congrArg Prod.fst (Option.some.inj hE2)
  have x1 := (congrArg (fun z : z_Q => (z.2.getD (0, 0)).2) (Option.some.inj hE1)).symm
  have x2 := (congrArg (fun z : z_Q => (z.2.getD (0, 0)).2) (Option.some.inj hE2)).symm
  simp only [Option.getD_some] at x1 x2
  subst y1 y2
  have a31 : z_m σ2 31 = z_m σ1 31 := md_offr_ok (y := 258) (by decide +kernel) hC2 hp2
  have a11 : z_m σ2 3 11 = z_m σ1 3 11 := md_off_ok (y := 258) (by decide +kernel) hC2 hp2
  have b11 : z_m σ1 3 11 = z_m σ 3 11 := md_off_ok (y := 150) (by decide +kernel) hC1 hp1
  have b276 : z_m σ1 276 = z_m σ 276 := md_offr_ok (y := 150) (by decide +kernel) hC1 hp1
  have b277 : z_m σ1 277 = z_m σ 277 := md_offr_ok (y := 150) (by decide +kernel) hC1 hp1
  have b52 : z_m σ1 251 52 = z_m σ 251 52 := md_off_ok (y := 150) (by decide +kernel) hC1 hp1
  refine ⟨⟨⟨rel_offb_ok (y := 258) (by decide +kernel) hC2 hp2 (rel_offb_ok (y := 150) (by decide +kernel) hC1 hp1 hR.1.1), E_off_ok (y := 258) (by decide +kernel) hC2 hp2 (E_off_ok (y := 150) (by decide +kernel) hC1 hp1 hR.1.2)⟩, fun i hi => ?_⟩, fun _ => Int32.toInt_inj.mp (x1.trans x2.symm)⟩
  by_cases c : 0 ≤ a.toInt ∧ a.toInt < 2 ∧ i = a.toInt.toNat
  · have e31 : z_m σ2 31 i = z_m σ 3 11 := by rw [a31, d2, if_pos c]
    have e276 : z_m σ2 276 i = 1 := by rw [f2, if_pos c]
    have e277 : z_m σ2 277 i = z_m σ 251 52 := by rw [f3, if_pos c, b52]
    have e52 : z_m σ2 251 52 = z_m σ 251 52 := f4.trans b52
    unfold u_Kp
    rw [e31, e276, e277, e52, a11, b11]
    refine Or.inr ⟨rfl, 0, w11.1, by omega, fun _ => rfl, ?_, w52.1, w52.2⟩
    rw [show z_m σ 251 52 + ((0 : Nat) : Int) = z_m σ 251 52 by omega]
    exact (zr_of w52.1 w52.2).symm
  · exact u_Kp_same (hR.2 i hi) (by rw [a31, d2, if_neg c]) (by rw [f2, if_neg c, b276]) (by rw [f3, if_neg c, b277]) (a11.trans b11) (f4.trans b52)
theorem rel_again : l_rel2 Rel_0 (1222, 180, 152, 1, true, 1232, 183, 259) := by
  intro M1 M2 M3 σ σ1 σ2 as v1 v2 C1 C2 ρ1 ρ2 ha hR hh hM1 hC1 hp1 hE1 hC2 hp2 hE2
  obtain ⟨a, rfl⟩ := as_one ha
  have hE1 : z_R 152 (z_m σ, 0, [(2, 0), (0, a.toInt)], []) = some (z_m σ1, some (0, v1.toInt)) := z_R_iff.mpr hE1
  have hE2 : z_R 259 (z_m σ1, 0, [(2, 251), (0, a.toInt), (9, 0)], []) = some (z_m σ2, some (0, v2.toInt)) := z_R_iff.mpr hE2
  have w11 := z_rng hh (p := 3) (k := 11) (lo := 0) (hi := 5) (by decide) (by decide +kernel) (by decide +kernel)
  obtain ⟨m1, d1⟩ := c_again (z_m σ) a.toInt
  obtain ⟨m2, f1⟩ := t_again (z_m σ1) a.toInt
  have b276 : z_m σ1 276 = z_m σ 276 := md_offr_ok (y := 152) (by decide +kernel) hC1 hp1
  have b277 : z_m σ1 277 = z_m σ 277 := md_offr_ok (y := 152) (by decide +kernel) hC1 hp1
  have b52 : z_m σ1 251 52 = z_m σ 251 52 := md_off_ok (y := 152) (by decide +kernel) hC1 hp1
  rw [b276, b277, b52] at f1
  rw [d1] at hE1
  rw [f1] at hE2
  have x1 := (congrArg (fun z : z_Q => (z.2.getD (0, 0)).2) (Option.some.inj hE1)).symm
  have x2 := (congrArg (fun z : z_Q => (z.2.getD (0, 0)).2) (Option.some.inj hE2)).symm
  simp only [Option.getD_some] at x1 x2
  have hK := K_off (y := 259) (by decide +kernel) hC2 hp2 (K_off (y := 152) (by decide +kernel) hC1 hp1 hR.2)
  refine ⟨⟨⟨rel_offb_ok (y := 259) (by decide +kernel) hC2 hp2 (rel_offb_ok (y := 152) (by decide +kernel) hC1 hp1 hR.1.1), E_off_ok (y := 259) (by decide +kernel) hC2 hp2 (E_off_ok (y := 152) (by decide +kernel) hC1 hp1 hR.1.2)⟩, hK⟩, fun _ => Int32.toInt_inj.mp ?_⟩
  rw [x1, x2]
  by_cases c : 0 ≤ a.toInt ∧ a.toInt < 2
  · have k := u_Kp_again (hR.2 a.toInt.toNat (by omega)) w11.1 w11.2
    by_cases e : z_m σ 31 a.toInt.toNat = z_m σ 3 11
    · rw [if_pos ⟨c.1, c.2, e⟩, if_pos ⟨c.1, c.2, (k.mp e).1, (k.mp e).2⟩]
    · rw [if_neg (fun z => e z.2.2), if_neg (fun z => e (k.mpr ⟨z.2.2.1, z.2.2.2⟩))]
  · rw [if_neg (fun z => c ⟨z.1, z.2.1⟩), if_neg (fun z => c ⟨z.1, z.2.1⟩)]
/-- room, person, row -/
theorem K3 {A : m_H → Prop} {y n : Nat} (h1 : l_rel3 A y n) (h : E_off y L_k = true) : l_rel3 (fun σ => A σ ∧ u_K2 (z_m σ)) y n := by
  intro M1 M2 M3 σ σ1 σ2 as v C2 ρ2 ha hR hh hM1 hf hh1 hC2 hp2 hE2
  have hz : ∀ p k, (¬ p = 6 ∧ ¬ p = 7 ∧ ¬ p = 278) → z_m σ1 p k = z_m σ p k := fun p k hp => by
    have e := hf p k (fun ⟨q, q1, q2, _⟩ => by
      simp only [List.mem_cons, List.not_mem_nil, or_false] at q1
      rcases q1 with rfl | rfl | rfl <;> simp only at q2 <;> omega)
    unfold z_m
    rw [e]
  exact ⟨h1 M1 M2 M3 σ σ1 σ2 as v C2 ρ2 ha hR.1 hh hM1 hf hh1 hC2 hp2 hE2, K_off h hC2 hp2 (fun i hi => u_Kp_same (hR.2 i hi) (hz 31 i (by decide)) (hz 276 i (by decide)) (hz 277 i (by decide)) (hz 3 11 (by decide)) (hz 251 52 (by decide)))⟩
theorem rel_cases : ∀ c ∈ law_cs, l_rel2 Rel_0 c := by
  unfold law_cs
  refine List.forall_mem_cons.mpr ⟨rel_sign, ?_⟩
  refine List.forall_mem_cons.mpr ⟨rel_end, ?_⟩
  refine List.forall_mem_cons.mpr ⟨rel_house, ?_⟩
  refine List.forall_mem_cons.mpr ⟨rel_people, ?_⟩
  refine List.forall_mem_cons.mpr ⟨rel_rule, ?_⟩
  refine List.forall_mem_cons.mpr ⟨rel_off (by decide +kernel), ?_⟩
  refine List.forall_mem_cons.mpr ⟨rel_off (by decide +kernel), ?_⟩
  refine List.forall_mem_cons.mpr ⟨rel_off (by decide +kernel), ?_⟩
  refine List.forall_mem_cons.mpr ⟨rel_off (by decide +kernel), ?_⟩
  refine List.forall_mem_cons.mpr ⟨rel_off (by decide +kernel), ?_⟩
  refine List.forall_mem_cons.mpr ⟨rel_off (by decide +kernel), ?_⟩
  refine List.forall_mem_cons.mpr ⟨rel_off (by decide +kernel), ?_⟩
  refine List.forall_mem_cons.mpr ⟨rel_off (by decide +kernel), ?_⟩
  refine List.forall_mem_cons.mpr ⟨rel_zero (by decide +kernel), ?_⟩
  refine List.forall_mem_cons.mpr ⟨rel_off (by decide +kernel), ?_⟩
  refine List.forall_mem_cons.mpr ⟨rel_off (by decide +kernel), ?_⟩
  refine List.forall_mem_cons.mpr ⟨rel_off (by decide +kernel), ?_⟩
  refine List.forall_mem_cons.mpr ⟨rel_off (by decide +kernel), ?_⟩
  refine List.forall_mem_cons.mpr ⟨rel_off (by decide +kernel), ?_⟩
  refine List.forall_mem_cons.mpr ⟨rel_off (by decide +kernel), ?_⟩
  refine List.forall_mem_cons.mpr ⟨rel_off (by decide +kernel), ?_⟩
  refine List.forall_mem_cons.mpr ⟨rel_off (by decide +kernel), ?_⟩
  refine List.forall_mem_cons.mpr ⟨rel_off (by decide +kernel), ?_⟩
  refine List.forall_mem_cons.mpr ⟨rel_off (by decide +kernel), ?_⟩
  refine List.forall_mem_cons.mpr ⟨rel_off (by decide +kernel), ?_⟩
  refine List.forall_mem_cons.mpr ⟨rel_off (by decide +kernel), ?_⟩
  refine List.forall_mem_cons.mpr ⟨rel_off (by decide +kernel), ?_⟩
  refine List.forall_mem_cons.mpr ⟨rel_off (by decide +kernel), ?_⟩
  refine List.forall_mem_cons.mpr ⟨rel_off (by decide +kernel), ?_⟩
  refine List.forall_mem_cons.mpr ⟨rel_off (by decide +kernel), ?_⟩
  refine List.forall_mem_cons.mpr ⟨rel_off (by decide +kernel), ?_⟩
  refine List.forall_mem_cons.mpr ⟨rel_off (by decide +kernel), ?_⟩
  refine List.forall_mem_cons.mpr ⟨rel_off (by decide +kernel), ?_⟩
  refine List.forall_mem_cons.mpr ⟨rel_off (by decide +kernel), ?_⟩
  refine List.forall_mem_cons.mpr ⟨rel_keep, ?_⟩
  refine List.forall_mem_cons.mpr ⟨rel_again, ?_⟩
  refine List.forall_mem_cons.mpr ⟨rel_off (by decide +kernel), ?_⟩
  exact fun _ h => absurd h List.not_mem_nil
theorem rel_5 : l_rel3 Rel_0 181 2 := K3 (E_part3 (R3_off (by decide +kernel)) (by decide +kernel)) (by decide +kernel)
theorem rel_6 : l_rel3 Rel_0 190 2 := K3 (E_part3 (R3_off (by decide +kernel)) (by decide +kernel)) (by decide +kernel)
theorem rel_39 : l_rel3 Rel_0 261 1 := K3 (E_part3 (R3_off (by decide +kernel)) (by decide +kernel)) (by decide +kernel)
