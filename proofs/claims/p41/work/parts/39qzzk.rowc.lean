/-! ROW: the law's case -/
theorem rw_thrown {t : Int} {m m' : z_M} (h : z_R 262 (m, 0, [(2, 251)], []) = some (m', some (0, t))) : t = m 251 11 := by
  rw [rt_thr_0] at h
  have e := Option.some.inj h
  exact ((Prod.mk.inj (Option.some.inj (Prod.mk.inj e).2)).2).symm
theorem rw_row : l_rel3x Rel_W 158 1 261 262 1 := by
  intro M1 M2 M3 σ σ1 σ2 as r v t C2 ρ2 ha hR hh hM1 hf hh1 hO hC2 hp2 hE2
  have h0 := rw_q3 (y := 261) (n := 1) (lo_q3 (core_q3 (R3_off (by decide +kernel)) (by decide +kernel)) (by decide +kernel)) (by decide +kernel) M1 M2 M3 σ σ1 σ2 as (.long v) C2 ρ2 ha hR hh hM1 hf hh1 hC2 hp2 hE2
  refine ⟨h0, ?_⟩
  obtain ⟨a, rfl⟩ := as_one ha
  have hE2 : z_R 261 (z_m σ1, 0, [(2, 251), (0, a.toInt)], []) = some (z_m σ2, some (1, v.toInt)) := z_R_iff.mpr hE2
  have hz : ∀ p k, (¬ p = 6 ∧ ¬ p = 7 ∧ ¬ p = 278) → z_m σ1 p k = z_m σ p k := fun p k hp => by
    have e := hf p k (fun ⟨q, q1, q2, _⟩ => by
      simp only [List.mem_cons, List.not_mem_nil, or_false] at q1
      rcases q1 with rfl | rfl | rfl <;> simp only at q2 <;> omega)
    unfold z_m
    rw [e]
  have hth : z_Ev 262 (z_m σ2, 0, z_fr 262 (z_s [.ref 251]), []) (z_m σ2, some (0, t.toInt)) → t.toInt = z_m σ2 251 11 := fun hE => by
    have hE : z_R 262 (z_m σ2, 0, [(2, 251)], []) = some (z_m σ2, some (0, t.toInt)) := z_R_iff.mpr hE
    exact rw_thrown hE
  obtain ⟨b1, b2⟩ := z_rng hh (p := 0) (k := 13) (lo := 0) (hi := 9) (by decide) (by decide +kernel) (by decide +kernel)
  obtain ⟨q1, q2⟩ := hR.2
  have e10 : z_m σ1 251 10 = z_m σ 0 13 := (hz 251 10 (by decide)).trans q1
  rw [ct_tro_0, t_ifin, e10, z_sub_eq (by omega) (by omega)] at hE2
  have class_ : ∀ X : Option z_Q, z_R 158 (z_m σ, 0, [(2, 0), (0, a.toInt)], []) = X → (r = Int32.ofInt 1 ∧ ∃ m1, X = some (m1, some (9, 0))) ∨ (r = Int32.ofInt 0 ∧ ∃ (m1 : z_M) (u : Int), X = some (m1, some (1, u)) ∧ z_m σ1 = z_up m1 278 0 u) := fun X hX => by
    rcases hO with ⟨o1, o2⟩ | ⟨o1, m', u, o2, o3⟩
    · have o2 : z_R 158 (z_m σ, 0, [(2, 0), (0, a.toInt)], []) = some (z_m σ1, some (9, 0)) := z_R_iff.mpr o2
      exact Or.inl ⟨Value.int.inj (Option.some.inj o1), _, hX.symm.trans o2⟩
    · have o2 : z_R 158 (z_m σ, 0, [(2, 0), (0, a.toInt)], []) = some (m', some (1, u)) := z_R_iff.mpr o2
      exact Or.inr ⟨Value.int.inj (Option.some.inj o1), _, _, hX.symm.trans o2, o3⟩
  have kc := class_ _ (ct_row_0 _ _)
  by_cases hin : (0 : Int) ≤ a.toInt ∧ a.toInt ≤ z_m σ 0 13 - 1
  · obtain ⟨i, hi⟩ : ∃ i : Nat, a.toInt = (i : Int) := ⟨a.toInt.toNat, by omega⟩
    rw [if_pos hin, zb_v, ct_tro_16, if_neg (by decide), if_pos (by omega), hi, Int.toNat_natCast] at hE2
    rw [if_neg (show ¬ a.toInt < 0 by omega), if_pos (show a.toInt < z_m σ 0 13 by omega), if_pos (show 0 ≤ a.toInt ∧ a.toInt < 9 by omega), hi, Int.toNat_natCast] at kc
    have em := s_mem hE2
    have ev : (z_up (z_m σ1) 251 11 0) 255 i = v.toInt := (Prod.mk.inj (Option.some.inj (Prod.mk.inj (Option.some.inj hE2)).2)).2
    rw [X_up (by omega)] at ev
    rcases kc with ⟨-, m1, k2⟩ | ⟨k1, m1, u, k2, k3⟩
    · have e : ((1, z_m σ 250 i) : z_V) = (9, 0) := Option.some.inj (Prod.mk.inj (Option.some.inj k2)).2
      exact absurd (Prod.mk.inj e).1 (by decide)
    · have k4 : z_m σ 250 i = u := (Prod.mk.inj (Option.some.inj (Prod.mk.inj (Option.some.inj k2)).2)).2
      refine ⟨fun hE => ?_, fun _ => ?_⟩
      · refine Int32.toInt_inj.mp ?_
        rw [hth hE, em, zu_self, k1]
        all_goals decide
      · rw [em, X_up (by omega), k3, zu_self, ← k4, ← ev, hz 255 i (by omega)]
        exact (q2 i (by omega) (by omega)).symm
  · rw [if_neg hin, zb_v, ct_tro_16, if_pos rfl, rm_los_0, zb_v, ct_tro_32] at hE2
    have em := s_mem hE2
    have kc : (r = Int32.ofInt 1 ∧ ∃ m1, (some (z_m σ, some (9, 0)) : Option z_Q) = some (m1, some (9, 0))) ∨ (r = Int32.ofInt 0 ∧ ∃ (m1 : z_M) (u : Int), (some (z_m σ, some (9, 0)) : Option z_Q) = some (m1, some (1, u)) ∧ z_m σ1 = z_up m1 278 0 u) := by
      by_cases c1 : a.toInt < 0
      · rw [if_pos c1] at kc
        exact kc
      · rw [if_neg c1, if_neg (show ¬ a.toInt < z_m σ 0 13 by omega)] at kc
        exact kc
    rcases kc with ⟨k1, -⟩ | ⟨-, m1, u, k2, -⟩
    · refine ⟨fun hE => ?_, fun h => ?_⟩
      · refine Int32.toInt_inj.mp ?_
        rw [hth hE, em, zu_self, k1]
        all_goals decide
      · rw [k1] at h
        exact absurd h (by decide)
    · have e : ((9, 0) : z_V) = (1, u) := Option.some.inj (Prod.mk.inj (Option.some.inj k2)).2
      exact absurd (Prod.mk.inj e).1 (by decide)
