/-! ROOM, PERSON: the law's case -/
theorem rm_thrown {t : Int} {m m' : z_M} (h : z_R 262 (m, 0, [(2, 251)], []) = some (m', some (0, t))) : t = m 251 11 := by
  rw [rt_thr_0] at h
  have e := Option.some.inj h
  exact ((Prod.mk.inj (Option.some.inj (Prod.mk.inj e).2)).2).symm
theorem rm_cmp {o : Option Int} {mL : z_M} {v' : Int} {r v t : Int32} {y1 : Nat} {cv : List Value} {σ σ1 σ2 : m_H} (hC : z_R y1 (z_m σ, 0, z_fr y1 (z_s cv), []) = some (mL, some (rm_V o))) (hO : l_O y1 0 cv σ (some (.int r)) σ1) (hT : rm_T o v' (z_m σ2)) (hv : v' = v.toInt) (h278 : z_m σ2 278 0 = z_m σ1 278 0) : (z_Ev 262 (z_m σ2, 0, z_fr 262 (z_s [.ref 251]), []) (z_m σ2, some (0, t.toInt)) → t = r) ∧ (r = Int32.ofInt 0 → z_m σ2 278 0 = v.toInt) := by
  have hth : z_Ev 262 (z_m σ2, 0, z_fr 262 (z_s [.ref 251]), []) (z_m σ2, some (0, t.toInt)) → t.toInt = z_m σ2 251 11 := fun hE => by
    have hE : z_R 262 (z_m σ2, 0, [(2, 251)], []) = some (z_m σ2, some (0, t.toInt)) := z_R_iff.mpr hE
    exact rm_thrown hE
  rcases hO with ⟨o1, o2⟩ | ⟨o1, m', u, o2, o3⟩
  · have er : r = Int32.ofInt 1 := Value.int.inj (Option.some.inj o1)
    have o2 := z_R_iff.mpr o2
    rw [hC] at o2
    have e := Option.some.inj (Prod.mk.inj (Option.some.inj o2)).2
    cases o with
    | some q =>
      have e : ((0, q) : z_V) = (9, 0) := e
      exact absurd (Prod.mk.inj e).1 (by decide)
    | none =>
      have h11 : z_m σ2 251 11 = 1 := by
        rcases hT with ⟨-, h⟩ | ⟨h, -⟩
        · exact h
        · cases h
      refine ⟨fun hE => ?_, fun h0 => ?_⟩
      · have := hth hE
        rw [er]
        refine Int32.toInt_inj.mp ?_
        rw [this, h11]
        all_goals decide
      · rw [er] at h0
        exact absurd h0 (by decide)
  · have er : r = Int32.ofInt 0 := Value.int.inj (Option.some.inj o1)
    have o2 := z_R_iff.mpr o2
    rw [hC] at o2
    have e := Option.some.inj (Prod.mk.inj (Option.some.inj o2)).2
    cases o with
    | none =>
      have e : ((9, 0) : z_V) = (0, u) := e
      exact absurd (Prod.mk.inj e).1 (by decide)
    | some q =>
      have e : ((0, q) : z_V) = (0, u) := e
      have eq : q = u := (Prod.mk.inj e).2
      obtain ⟨hq, h11⟩ : q = v' ∧ z_m σ2 251 11 = 0 := by
        rcases hT with ⟨h, -⟩ | ⟨h, h'⟩
        · cases h
        · exact ⟨Option.some.inj h, h'⟩
      refine ⟨fun hE => ?_, fun _ => ?_⟩
      · have := hth hE
        rw [er]
        refine Int32.toInt_inj.mp ?_
        rw [this, h11]
        all_goals decide
      · rw [h278, o3, zu_self, ← eq, hq, hv]
theorem R_3 {w h n : Nat} {heat price : Int} {D A : Nat → Int} {c : Nat} {U : Nat → Nat → Int} {kn : Nat → Int} {KS : Nat → Nat → Int} {cs : List Int} {σ σ1 : m_H} (cR : R_is w h n heat price D A c U kn KS cs (z_m σ)) (hf : h_fr [(6, 0, 39), (7, 0, 6), (278, 0, 0)] σ σ1) : R_is w h n heat price D A c U kn KS cs (z_m σ1) := R_fr cR fun p k hk => by
  have hp : ¬ p = 6 ∧ ¬ p = 7 ∧ ¬ p = 278 := by
    have hk' := hk
    unfold R_hit at hk'
    have hk' := of_decide_eq_true hk'
    omega
  have e := hf p k (fun ⟨q, q1, q2, _⟩ => by
    simp only [List.mem_cons, List.not_mem_nil, or_false] at q1
    rcases q1 with rfl | rfl | rfl <;> simp only at q2 <;> omega)
  unfold z_m
  rw [e]
theorem core_room : l_rel3x Rel_C 155 0 181 262 2 := by
  intro M1 M2 M3 σ σ1 σ2 as r v t C2 ρ2 ha hR hh hM1 hf hh1 hO hC2 hp2 hE2
  have h0 := core_q3 (y := 181) (n := 2) (R3_off (by decide +kernel)) (by decide +kernel) M1 M2 M3 σ σ1 σ2 as (.int v) C2 ρ2 ha hR hh hM1 hf hh1 hC2 hp2 hE2
  refine ⟨h0, ?_⟩
  obtain ⟨a, b, rfl⟩ := as_two ha
  have hE2 : z_R 181 (z_m σ1, 0, [(2, 251), (0, a.toInt), (0, b.toInt)], []) = some (z_m σ2, some (0, v.toInt)) := z_R_iff.mpr hE2
  obtain ⟨w, h, n, heat, price, D, A, c, U, kn, KS, cs, cC, cR, cW⟩ := hR.2
  obtain ⟨b1, b2, -, -, hok, b35, -, b7⟩ := core_b hh hM1 cR
  have hN : w_N w h n heat D := ⟨b1, b2, b7⟩
  obtain ⟨m1, d1, d2⟩ := C_room cC hN b35 a.toInt b.toInt
  have d1 : z_R 155 (z_m σ, 0, z_fr 155 (z_s (.ref 0 :: [a, b].map Value.int)), []) = some (m1, some (rm_V (rm_R w h n heat cs D A a.toInt b.toInt))) := d1
  obtain ⟨m2, v', g1, g2, g3⟩ := R_room (R_3 cR hf) hN hok b35 a.toInt b.toInt
  obtain ⟨k1, k2⟩ := R_inj g1 hE2
  rw [k1] at g3
  exact rm_cmp d1 hO g3 k2 (md_off_ok (y := 181) (p := 278) (k := 0) (by decide +kernel) hC2 hp2)
theorem core_person : l_rel3x Rel_C 156 0 190 262 2 := by
  intro M1 M2 M3 σ σ1 σ2 as r v t C2 ρ2 ha hR hh hM1 hf hh1 hO hC2 hp2 hE2
  have h0 := core_q3 (y := 190) (n := 2) (R3_off (by decide +kernel)) (by decide +kernel) M1 M2 M3 σ σ1 σ2 as (.int v) C2 ρ2 ha hR hh hM1 hf hh1 hC2 hp2 hE2
  refine ⟨h0, ?_⟩
  obtain ⟨a, b, rfl⟩ := as_two ha
  have hE2 : z_R 190 (z_m σ1, 0, [(2, 251), (0, a.toInt), (0, b.toInt), (9, 0), (9, 0)], []) = some (z_m σ2, some (0, v.toInt)) := z_R_iff.mpr hE2
  obtain ⟨w, h, n, heat, price, D, A, c, U, kn, KS, cs, cC, cR, cW⟩ := hR.2
  obtain ⟨b1, b2, -, -, hok, b35, -, b7⟩ := core_b hh hM1 cR
  have hN : w_N w h n heat D := ⟨b1, b2, b7⟩
  obtain ⟨m1, d1, d2⟩ := C_person cC hN b35 a.toInt b.toInt
  have d1 : z_R 156 (z_m σ, 0, z_fr 156 (z_s (.ref 0 :: [a, b].map Value.int)), []) = some (m1, some (rm_V (rm_P n D A a.toInt b.toInt))) := d1
  obtain ⟨m2, v', g1, g2, g3⟩ := R_person (R_3 cR hf) hN b35 a.toInt b.toInt
  obtain ⟨k1, k2⟩ := R_inj g1 hE2
  rw [k1] at g3
  exact rm_cmp d1 hO g3 k2 (md_off_ok (y := 190) (p := 278) (k := 0) (by decide +kernel) hC2 hp2)
