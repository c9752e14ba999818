/-! WHAT IS KEPT, for thaw: both texts are alike, sign by sign -/
def Rel_0 (σ : m_H) : Prop := Rel_T σ
theorem rel_start : ∀ σ, xs_is σ → Rel_0 σ := R_start
theorem rel_off {c : l_C} (h : (rel_offb c.2.2.1 && (rel_offb c.2.2.2.2.2.2.2 && !c.2.2.2.2.1)) = true) : l_rel2 Rel_0 c := R_off h
theorem rel_zero {c : l_C} (h : (md_zero c.2.2.1 1 1 && (md_zero c.2.2.2.2.2.2.2 251 8 && (md_off c.2.2.2.2.2.2.2 1 1 && !c.2.2.2.2.1))) = true) : l_rel2 Rel_0 c := R_zero h
theorem rel_rule : l_rel2 Rel_0 (289, 45, 39, 0, true, 293, 48, 175) := R_rule rfl
/-! a method that gives nothing; one that only gives longs -/
def z_onlyV1 (q : a_K) : Bool := match q.2.1 with
  | .ireturn => false
  | .lreturn => false
  | .new _ => false
  | _ => true
def z_onlyV (y : Nat) : Bool := (kt_at y).all fun r => r.all z_onlyV1
theorem z_ex_tagV {y : Nat} (hk : z_onlyV y = true) : ∀ (f : Nat) (g : z_G) (r : z_Q), z_ex f y g = some r → r.2 = none := by
  intro f
  induction f with
  | zero => intro g r h; cases h
  | succ f ih =>
    intro g r h
    unfold z_ex at h
    split at h
    · cases h
    · rename_i q hq
      obtain ⟨⟨row, h1, h2⟩, -⟩ := k_get_in hq
      have hb := List.all_eq_true.mp (List.all_eq_true.mp hk row h1) q h2
      split at h
      · split at h
        · exact ih _ _ h
        · cases h
      · obtain ⟨m, pc, ls, st⟩ := g
        unfold z_ret at h
        unfold z_onlyV1 at hb
        simp only at h
        split at h
        · rw [← Option.some.inj h]
        · rename_i e; rw [e] at hb; cases hb
        · rename_i e; rw [e] at hb; cases hb
        · rename_i e; rw [e] at hb; cases hb
        · cases h
      · split at h
        · split at h
          · exact ih _ _ h
          · cases h
        · cases h
theorem z_tagV {y : Nat} (hk : z_onlyV y = true) {g : z_G} {r : z_Q} (h : z_R y g = some r) : r.2 = none := by
  obtain ⟨f, h⟩ := z_R_iff.mp h
  exact z_ex_tagV hk f g r h
def z_onlyL1 (q : a_K) : Bool := match q.2.1 with
  | .return_ => false
  | .ireturn => false
  | .new _ => false
  | _ => true
def z_onlyL (y : Nat) : Bool := (kt_at y).all fun r => r.all z_onlyL1
theorem z_ex_tagL {y : Nat} (hk : z_onlyL y = true) : ∀ (f : Nat) (g : z_G) (r : z_Q), z_ex f y g = some r → ∃ u, r.2 = some (1, u) := by
  intro f
  induction f with
  | zero => intro g r h; cases h
  | succ f ih =>
    intro g r h
    unfold z_ex at h
    split at h
    · cases h
    · rename_i q hq
      obtain ⟨⟨row, h1, h2⟩, -⟩ := k_get_in hq
      have hb := List.all_eq_true.mp (List.all_eq_true.mp hk row h1) q h2
      split at h
      · split at h
        · exact ih _ _ h
        · cases h
      · obtain ⟨m, pc, ls, st⟩ := g
        unfold z_ret at h
        unfold z_onlyL1 at hb
        simp only at h
        split at h
        · rename_i e; rw [e] at hb; cases hb
        · rename_i e; rw [e] at hb; cases hb
        · rename_i e; rw [e] at hb; cases hb
        · split at h
          · exact ⟨_, by rw [← Option.some.inj h]⟩
          · cases h
        · cases h
      · split at h
        · split at h
          · exact ih _ _ h
          · cases h
        · cases h
theorem z_tagL {y : Nat} (hk : z_onlyL y = true) {g : z_G} {r : z_Q} (h : z_R y g = some r) : ∃ u, r.2 = some (1, u) := by
  obtain ⟨f, h⟩ := z_R_iff.mp h
  exact z_ex_tagL hk f g r h
/-- thaw's answer -/
def h_v (n p : Int) : Int := if (1 ≤ n ∧ n ≤ 8) ∧ 0 ≤ p ∧ p ≤ 10 then 0 else -1
theorem h_val {m m' : z_M} {x v : Int} (h : some (m, some (0, x)) = (some (m', some (0, v)) : Option z_Q)) : v = x := (congrArg (fun z : z_Q => (z.2.getD (0, 0)).2) (Option.some.inj h)).symm
theorem h_c {m m' : z_M} {n p v : Int} (h : z_R 138 (m, 0, [(2, 0), (0, n), (0, p)], []) = some (m', some (0, v))) : v = h_v n p := by
  unfold h_v
  rw [h_thw_0] at h
  by_cases c1 : n < 1
  · rw [if_pos c1] at h
    rw [if_neg (by omega)]
    exact h_val h
  rw [if_neg c1] at h
  by_cases c2 : 8 < n
  · rw [if_pos c2] at h
    rw [if_neg (by omega)]
    exact h_val h
  rw [if_neg c2] at h
  by_cases c3 : p < 0
  · rw [if_pos c3] at h
    rw [if_neg (by omega)]
    exact h_val h
  rw [if_neg c3] at h
  by_cases c4 : p ≤ 10
  · rw [if_pos c4] at h
    rw [if_pos (by omega)]
    obtain ⟨⟨m1, x1⟩, h1, h2⟩ := Option.bind_eq_some_iff.mp h
    have e1 := z_tagV (y := 139) (by decide +kernel) h1
    simp only at e1
    subst e1
    change z_R 138 (m1, 36, [(2, 0), (0, n), (0, p)], []) = some (m', some (0, v)) at h2
    rw [h_thw_36, if_pos (show 0 ≤ n ∧ n < 9 by omega)] at h2
    obtain ⟨⟨m2, x2⟩, h3, h4⟩ := Option.bind_eq_some_iff.mp h2
    obtain ⟨u, e2⟩ := z_tagL (y := 142) (by decide +kernel) h3
    simp only at e2
    subst e2
    change z_R 138 (m2, 50, [(2, 0), (0, n), (0, p)], [(1, u), (1, m1 195 n.toNat), (2, 0)]) = some (m', some (0, v)) at h4
    rw [h_thw_50] at h4
    obtain ⟨⟨m3, x3⟩, h5, h6⟩ := Option.bind_eq_some_iff.mp h4
    have e3 := z_tagV (y := 122) (by decide +kernel) h5
    simp only at e3
    subst e3
    change z_R 138 (m3, 53, [(2, 0), (0, n), (0, p)], []) = some (m', some (0, v)) at h6
    rw [h_thw_53] at h6
    exact h_val h6
  · rw [if_neg c4] at h
    rw [if_neg (by omega)]
    exact h_val h
theorem h_t {m m' : z_M} {n p v : Int} (h : z_R 253 (m, 0, [(2, 251), (0, n), (0, p)], []) = some (m', some (0, v))) : v = h_v n p := by
  unfold h_v
  rw [h_tht_0, r_in] at h
  by_cases c1 : 1 ≤ n ∧ n ≤ 8
  · rw [if_pos c1] at h
    change z_R 253 (z_up m 251 11 0, 12, [(2, 251), (0, n), (0, p)], [(0, 1)]) = some (m', some (0, v)) at h
    rw [h_tht_12, if_neg (show ¬ (1 : Int) = 0 by decide), r_in] at h
    by_cases c2 : 0 ≤ p ∧ p ≤ 10
    · rw [if_pos c2] at h
      change z_R 253 (z_up m 251 11 0, 22, [(2, 251), (0, n), (0, p)], [(0, 1)]) = some (m', some (0, v)) at h
      rw [h_tht_22, if_neg (show ¬ (1 : Int) = 0 by decide)] at h
      rw [if_pos ⟨c1, c2⟩]
      obtain ⟨⟨m1, x1⟩, h1, h2⟩ := Option.bind_eq_some_iff.mp h
      obtain ⟨u, e1⟩ := z_tagL (y := 254) (by decide +kernel) h1
      simp only at e1
      subst e1
      change z_R 253 (m1, 39, [(2, 251), (0, n), (0, p)], [(1, u), (2, 251)]) = some (m', some (0, v)) at h2
      rw [h_tht_39] at h2
      obtain ⟨⟨m2, x2⟩, h3, h4⟩ := Option.bind_eq_some_iff.mp h2
      obtain ⟨u2, e2⟩ := z_tagL (y := 255) (by decide +kernel) h3
      simp only at e2
      subst e2
      change z_R 253 (m2, 46, [(2, 251), (0, n), (0, p)], [(1, u2), (1, u), (2, 251)]) = some (m', some (0, v)) at h4
      rw [h_tht_46] at h4
      obtain ⟨⟨m3, x3⟩, h5, h6⟩ := Option.bind_eq_some_iff.mp h4
      have e3 := z_tagV (y := 240) (by decide +kernel) h5
      simp only at e3
      subst e3
      change z_R 253 (m3, 49, [(2, 251), (0, n), (0, p)], []) = some (m', some (0, v)) at h6
      rw [h_tht_49] at h6
      exact h_val h6
    · rw [if_neg c2] at h
      change z_R 253 (z_up m 251 11 0, 22, [(2, 251), (0, n), (0, p)], [(0, 0)]) = some (m', some (0, v)) at h
      rw [h_tht_22, if_pos rfl] at h
      rw [if_neg (fun z => c2 z.2)]
      exact h_val h
  · rw [if_neg c1] at h
    change z_R 253 (z_up m 251 11 0, 12, [(2, 251), (0, n), (0, p)], [(0, 0)]) = some (m', some (0, v)) at h
    rw [h_tht_12, if_pos rfl] at h
    rw [if_neg (fun z => c1 z.1)]
    exact h_val h
theorem rel_thaw : l_rel2 Rel_0 (1092, 164, 138, 2, false, 1109, 167, 253) := by
  intro M1 M2 M3 σ σ1 σ2 as v1 v2 C1 C2 ρ1 ρ2 ha hR hh hM1 hC1 hp1 hE1 hC2 hp2 hE2
  obtain ⟨n, p, rfl⟩ := as_two ha
  have hE1 : z_R 138 (z_m σ, 0, [(2, 0), (0, n.toInt), (0, p.toInt)], []) = some (z_m σ1, some (0, v1.toInt)) := z_R_iff.mpr hE1
  have hE2 : z_R 253 (z_m σ1, 0, [(2, 251), (0, n.toInt), (0, p.toInt)], []) = some (z_m σ2, some (0, v2.toInt)) := z_R_iff.mpr hE2
  exact ⟨rel_offb_ok (y := 253) (by decide +kernel) hC2 hp2 (rel_offb_ok (y := 138) (by decide +kernel) hC1 hp1 hR), fun _ => Int32.toInt_inj.mp ((h_c hE1).trans (h_t hE2).symm)⟩
theorem rel_cases : ∀ c ∈ law_cs, l_rel2 Rel_0 c := by
  unfold law_cs
  refine List.forall_mem_cons.mpr ⟨R_sign, ?_⟩
  refine List.forall_mem_cons.mpr ⟨R_end, ?_⟩
  refine List.forall_mem_cons.mpr ⟨R_house, ?_⟩
  refine List.forall_mem_cons.mpr ⟨rel_zero (by decide +kernel), ?_⟩
  refine List.forall_mem_cons.mpr ⟨rel_rule, ?_⟩
  refine List.forall_mem_cons.mpr ⟨rel_off (by decide +kernel), ?_⟩
  refine List.forall_mem_cons.mpr ⟨rel_off (by decide +kernel), ?_⟩
  refine List.forall_mem_cons.mpr ⟨rel_off (by decide +kernel), ?_⟩
  refine List.forall_mem_cons.mpr ⟨rel_off (by decide +kernel), ?_⟩
  refine List.forall_mem_cons.mpr ⟨rel_off (by decide +kernel), ?_⟩
  refine List.forall_mem_cons.mpr ⟨rel_off (by decide +kernel), ?_⟩
  refine List.forall_mem_cons.mpr ⟨rel_off (by decide +kernel), ?_⟩
  refine List.forall_mem_cons.mpr ⟨rel_off (by decide +kernel), ?_⟩
  refine List.forall_mem_cons.mpr ⟨rel_zero (by decide +kernel), ?_⟩
  refine List.forall_mem_cons.mpr ⟨rel_off (by decide +kernel), ?_⟩
  refine List.forall_mem_cons.mpr ⟨rel_off (by decide +kernel), ?_⟩
  refine List.forall_mem_cons.mpr ⟨rel_off (by decide +kernel), ?_⟩
  refine List.forall_mem_cons.mpr ⟨rel_off (by decide +kernel), ?_⟩
  refine List.forall_mem_cons.mpr ⟨rel_off (by decide +kernel), ?_⟩
  refine List.forall_mem_cons.mpr ⟨rel_off (by decide +kernel), ?_⟩
  refine List.forall_mem_cons.mpr ⟨rel_off (by decide +kernel), ?_⟩
  refine List.forall_mem_cons.mpr ⟨rel_off (by decide +kernel), ?_⟩
  refine List.forall_mem_cons.mpr ⟨rel_off (by decide +kernel), ?_⟩
  refine List.forall_mem_cons.mpr ⟨rel_off (by decide +kernel), ?_⟩
  refine List.forall_mem_cons.mpr ⟨rel_off (by decide +kernel), ?_⟩
  refine List.forall_mem_cons.mpr ⟨rel_off (by decide +kernel), ?_⟩
  refine List.forall_mem_cons.mpr ⟨rel_off (by decide +kernel), ?_⟩
  refine List.forall_mem_cons.mpr ⟨rel_off (by decide +kernel), ?_⟩
  refine List.forall_mem_cons.mpr ⟨rel_off (by decide +kernel), ?_⟩
  refine List.forall_mem_cons.mpr ⟨rel_off (by decide +kernel), ?_⟩
  refine List.forall_mem_cons.mpr ⟨rel_off (by decide +kernel), ?_⟩
  refine List.forall_mem_cons.mpr ⟨rel_thaw, ?_⟩
  refine List.forall_mem_cons.mpr ⟨rel_off (by decide +kernel), ?_⟩
  refine List.forall_mem_cons.mpr ⟨rel_off (by decide +kernel), ?_⟩
  refine List.forall_mem_cons.mpr ⟨rel_off (by decide +kernel), ?_⟩
  refine List.forall_mem_cons.mpr ⟨rel_off (by decide +kernel), ?_⟩
  refine List.forall_mem_cons.mpr ⟨rel_off (by decide +kernel), ?_⟩
  exact fun _ h => absurd h List.not_mem_nil
theorem rel_5 : l_rel3 Rel_0 181 2 := R3_off (by decide +kernel)
theorem rel_6 : l_rel3 Rel_0 190 2 := R3_off (by decide +kernel)
theorem rel_39 : l_rel3 Rel_0 261 1 := R3_off (by decide +kernel)
