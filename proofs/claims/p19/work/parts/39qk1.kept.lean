/-! keep and again, of what both are in -/
section
variable {w h n : Nat} {heat price : Int} {D A : Nat → Int} {c : Nat} {U : Nat → Nat → Int} {kn : Nat → Int} {KS : Nat → Nat → Int} {cs : List Int} {m : z_M}
theorem C_keep_no (a : Int) (ok : ¬ (0 ≤ a ∧ a < 2)) : z_R 150 (m, 0, [(2, 0), (0, a)], []) = some (m, some (0, 0)) := by
  have e : z_R 151 (m, 0, [(2, 28), (0, a), (2, 12), (0, m 3 11)], []) = some (m, some (0, 0)) := by
    rw [k_ka_0]
    by_cases h1 : a < 0
    · rw [if_pos h1]
    · rw [if_neg h1, if_neg (by omega)]
  rw [k_keep_0, e, zb_v, k_keep_19]
theorem C_keep (hi : C_is w h n heat price D A c U kn KS cs m) {i : Nat} (hi2 : i < 2) : ∃ m1, z_R 150 (m, 0, [(2, 0), (0, (i : Int))], []) = some (m1, some (0, 1)) ∧ C_is w h n heat price D A c U (u_up kn i (n : Int)) (fun j => if j = i then A else KS j) cs m1 := by
  obtain ⟨m1, a1, a2, a3⟩ := c_become z_st_12 (z_st_kept hi2) (by omega) m
  have a1 : z_R 61 (m, 0, [(2, ((104 + 6 * i : Nat) : Int)), (2, 12)], []) = some (m1, none) := a1
  rw [k_keep_0, k_ka_0, if_neg (by omega), if_pos (by omega), Int.toNat_natCast, ga30 hi2, a1, zb_n, k_ka_21, if_pos (by omega), Int.toNat_natCast, zb_v, k_keep_19, hi.1.2.2.1]
  refine ⟨_, rfl, ?_⟩
  have hfa : ∀ p k, ¬ (p = 31 ∧ k = i) → ¬ (104 + 6 * i ≤ p ∧ p ≤ 104 + 6 * i + 5) → (z_up m1 31 i (n : Int)) p k = m p k := fun p k n1 n2 => by
    rw [X_up n1]
    exact a3.of (by
      unfold c_LB
      (repeat' (first | exact trivial | refine z_of_c ?_ ?_)) <;> omega)
  have hA : cS (z_up m1 31 i (n : Int)) (104 + 6 * i) n = A := by
    rw [cS_off (by omega), cS_cR a2]
    exact hi.2.2.1
  obtain ⟨⟨q1, q2, q3, q4, q5, q6, q7, q8⟩, qb, qd, qu, qe, qf1, qf2, qf3, qf4⟩ := hi
  refine ⟨⟨?_, ?_, ?_, ?_, ?_, ?_, ?_, ?_⟩, fun j hj => (hfa 8 j (by omega) (by omega)).trans (qb j hj), ?_, c_un_fr qu (fun p k hp => hfa p k (by omega) (by omega)), fun j hj => ⟨?_, fun y => ?_⟩, ?_, qf2, qf3, ?_⟩
  · exact (hfa 3 8 (by omega) (by omega)).trans q1
  · exact (hfa 3 9 (by omega) (by omega)).trans q2
  · exact (hfa 3 11 (by omega) (by omega)).trans q3
  · exact (hfa 3 12 (by omega) (by omega)).trans q4
  · exact (hfa 3 13 (by omega) (by omega)).trans q5
  · rw [hfa 3 10 (by omega) (by omega)]
    exact q6
  · exact (hfa 24 4 (by omega) (by omega)).trans q7
  · exact (hfa 24 5 (by omega) (by omega)).trans q8
  · rw [cS_fr (fun j k hj _ => hfa (12 + j) k (by omega) (by omega))]
    exact qd
  · unfold u_up
    by_cases hji : j = i
    · rw [if_pos hji, hji, zu_self]
    · rw [if_neg hji, hfa 31 j (by omega) (by omega)]
      exact (qe j hj).1
  · show cS (z_up m1 31 i (n : Int)) (104 + 6 * j) (n : Int) = if j = i then A else KS j
    by_cases hji : j = i
    · rw [if_pos hji, hji]
      exact hA
    · unfold u_up at y
      rw [if_neg hji] at y
      rw [if_neg hji, cS_fr (fun j' k hj' _ => hfa (104 + 6 * j + j') k (by omega) (by omega))]
      exact (qe j hj).2 y
  · exact (hfa 4 3 (by omega) (by omega)).trans qf1
  · rw [show (z_up m1 31 i (n : Int)) 5 = m 5 from funext fun k => hfa 5 k (by omega) (by omega)]
    exact qf4
theorem R_keep_no (hi : R_is w h n heat price D A c U kn KS cs m) (a : Int) (ok : ¬ (0 ≤ a ∧ a < 2)) : ∃ m1, z_R 258 (m, 0, [(2, 251), (0, a)], []) = some (m1, some (0, 0)) ∧ R_is w h n heat price D A c U kn KS cs m1 := by
  refine ⟨z_up m 251 11 0, ?_, R_upn hi (by decide)⟩
  rw [k_tk_0, if_neg (by omega)]
theorem R_keep (hi : R_is w h n heat price D A c U kn KS cs m) (h52 : -2147483648 ≤ m 251 52 ∧ m 251 52 ≤ 2147483647) {i : Nat} (hi2 : i < 2) : ∃ m1, z_R 258 (m, 0, [(2, 251), (0, (i : Int))], []) = some (m1, some (0, 1)) ∧ R_is w h n heat price D A c U (u_up kn i (n : Int)) (fun j => if j = i then A else KS j) cs m1 := by
  rw [k_tk_0, if_pos (by omega), Int.toNat_natCast]
  have k6 : (z_up (z_up (z_up m 251 11 0) 276 i 1) 277 i (m 251 52)) 276 i = 1 := by rw [zu_p (by decide), zu_self]
  have k7 : (z_up (z_up (z_up m 251 11 0) 276 i 1) 277 i (m 251 52)) 277 i = m 251 52 := zu_self
  have kp : ∀ p k, ¬ (p = 251 ∧ k = 11) → ¬ ((p = 276 ∨ p = 277) ∧ k = i) → (z_up (z_up (z_up m 251 11 0) 276 i 1) 277 i (m 251 52)) p k = m p k := fun p k n1 n2 => by rw [X_up (by omega), X_up (by omega), X_up n1]
  generalize z_up (z_up (z_up m 251 11 0) 276 i 1) 277 i (m 251 52) = m0 at k6 k7 kp ⊢
  obtain ⟨m1, a1, a2, a3⟩ := t_layd (a := 252) (q := 275) (B := 37) k_lay_0 k_lay_2 (by decide) (b := 37 * i) (by omega) m0
  have a1 : z_R 198 (m0, 0, [(2, 252), (2, 275), (0, ((37 * i : Nat) : Int)), (9, 0)], []) = some (m1, none) := a1
  rw [show 37 * (i : Int) = ((37 * i : Nat) : Int) by omega, a1, zb_n, k_tk_48]
  refine ⟨m1, rfl, ?_⟩
  have fr : ∀ p k, ¬ (p = 251 ∧ k = 11) → ¬ ((p = 276 ∨ p = 277) ∧ k = i) → ¬ (p = 275 ∧ 37 * i ≤ k ∧ k < 37 * i + 37) → m1 p k = m p k := fun p k n1 n2 n3 => (a3 p k n3).trans (kp p k n1 n2)
  obtain ⟨⟨s1, s2, s3, s4, s5, s6⟩, sb, sd, su, se, sf⟩ := hi
  refine ⟨⟨?_, ?_, ?_, ?_, ?_, ?_⟩, fun j hj => (fr 253 j (by omega) (by omega) (by omega)).trans (sb j hj), ?_, r_un_fr su (fun p k hp => fr p k (by omega) (by omega) (by omega)), fun j hj => ?_, ?_⟩
  · exact (fr 251 1 (by omega) (by omega) (by omega)).trans s1
  · exact (fr 251 2 (by omega) (by omega) (by omega)).trans s2
  · exact (fr 251 3 (by omega) (by omega) (by omega)).trans s3
  · exact (fr 251 5 (by omega) (by omega) (by omega)).trans s4
  · exact (fr 251 6 (by omega) (by omega) (by omega)).trans s5
  · exact (fr 251 23 (by omega) (by omega) (by omega)).trans s6
  · rw [rS_row (funext fun k => fr 252 k (by omega) (by omega) (by omega))]
    exact sd
  · have e52 : m1 251 52 = m 251 52 := fr 251 52 (by omega) (by omega) (by omega)
    show r_kp n (u_up kn i (n : Int) j) (if j = i then A else KS j) j m1
    by_cases hji : j = i
    · subst hji
      have e6 : m1 276 j = 1 := (a3 276 j (by omega)).trans k6
      have e7 : m1 277 j = m 251 52 := (a3 277 j (by omega)).trans k7
      unfold r_kp
      rw [if_pos rfl, e6, e7, e52]
      have eu : u_up kn j (n : Int) j = (n : Int) := by unfold u_up; rw [if_pos rfl]
      rw [eu]
      refine ⟨Or.inr ⟨rfl, 0, by omega, by omega, fun _ => rfl, ?_, h52.1, h52.2⟩, fun _ => ?_⟩
      · rw [show m 251 52 + ((0 : Nat) : Int) = m 251 52 by omega]
        exact (zr_of h52.1 h52.2).symm
      · rw [uR_is (m := m) (a := 252) (fun k hk => (a2 k hk).trans (kp 252 k (by omega) (by omega)))]
        exact sd
    · have eu : u_up kn i (n : Int) j = kn j := by unfold u_up; rw [if_neg hji]
      have e6 : m1 276 j = m 276 j := fr 276 j (by omega) (by omega) (by omega)
      have e7 : m1 277 j = m 277 j := fr 277 j (by omega) (by omega) (by omega)
      have e275 : ∀ k, k < 37 → m1 275 (37 * j + k) = m 275 (37 * j + k) := fun k hk => fr 275 (37 * j + k) (by omega) (by omega) (by omega)
      obtain ⟨k1, k2⟩ := se j hj
      unfold r_kp
      rw [if_neg hji, eu, e6, e7, e52, uR_row (m := m) e275]
      exact ⟨k1, k2⟩
  · unfold r_ru
    rw [fr 251 20 (by omega) (by omega) (by omega), show m1 258 = m 258 from funext fun k => fr 258 k (by omega) (by omega) (by omega)]
    exact sf
theorem C_again_no (hi : C_is w h n heat price D A c U kn KS cs m) (a : Int) (ok : ¬ ((0 ≤ a ∧ a < 2) ∧ kn a.toNat = (n : Int))) : z_R 152 (m, 0, [(2, 0), (0, a)], []) = some (m, some (0, 0)) := by
  have e : z_R 153 (m, 0, [(2, 28), (0, a), (2, 12), (0, m 3 11)], []) = some (m, some (0, 0)) := by
    rw [k_bb_0]
    by_cases h1 : a < 0
    · rw [if_pos h1]
    rw [if_neg h1]
    by_cases h2 : 2 ≤ a
    · rw [if_pos h2]
    rw [if_neg h2, (hi.2.2.2.2.1 a.toNat (by omega)).1, hi.1.2.2.1, if_neg (fun z => ok ⟨⟨by omega, by omega⟩, z⟩)]
  rw [k_again_0, e, zb_v, k_again_19]
theorem C_again (hi : C_is w h n heat price D A c U kn KS cs m) {i : Nat} (hi2 : i < 2) (hk : kn i = (n : Int)) : ∃ m1, z_R 152 (m, 0, [(2, 0), (0, (i : Int))], []) = some (m1, some (0, 1)) ∧ C_is w h n heat price D (KS i) 0 U kn KS cs m1 := by
  obtain ⟨m1, a1, a2, a3⟩ := c_become (z_st_kept hi2) z_st_12 (by omega) m
  have a1 : z_R 61 (m, 0, [(2, 12), (2, ((104 + 6 * i : Nat) : Int))], []) = some (m1, none) := a1
  have hfa : ∀ p k, ¬ (12 ≤ p ∧ p ≤ 17) → m1 p k = m p k := fun p k hp => a3.of (by
    unfold c_LB
    (repeat' (first | exact trivial | refine z_of_c ?_ ?_)) <;> omega)
  rw [k_again_0, k_bb_0, if_neg (by omega), if_neg (by omega), Int.toNat_natCast, (hi.2.2.2.2.1 i hi2).1, hi.1.2.2.1, if_pos hk, ga30 hi2, a1, zb_n, k_bb_31, s_fdone_0, zb_n, k_bb_35, zb_v, k_again_19]
  refine ⟨_, rfl, C_mk hi (fun p k _ h1 h2 h3 => (zu_p h2).trans (hfa p k h1)) ?_ ⟨?_, zu_self, by decide, fun j hj => absurd hj (Nat.not_lt_zero j)⟩⟩
  · rw [cS_off (by omega), cS_cR a2]
    exact (hi.2.2.2.2.1 i hi2).2 hk
  · rw [zu_k (by decide), hfa 28 3 (by decide)]
    exact hi.2.2.2.1.1
theorem R_kq (hi : R_is w h n heat price D A c U kn KS cs m) (n5 : n ≤ 5) {i : Nat} (hi2 : i < 2) : kn i = (n : Int) ↔ ¬ m 276 i = 0 ∧ m 277 i = m 251 52 := by
  rcases (hi.2.2.2.2.1 i hi2).1 with ⟨a, b⟩ | ⟨a, d, b1, b2, b3, b4, b5, b6⟩
  · constructor
    · intro z; omega
    · intro z; exact absurd a z.1
  · rw [Int32.toInt_ofInt] at b4
    constructor
    · intro z
      have hd : d = 0 := by omega
      subst hd
      refine ⟨by omega, ?_⟩
      rw [b4, show m 277 i + ((0 : Nat) : Int) = m 277 i by omega]
      exact (i32_bm b5 b6).symm
    · intro z
      refine b3 ?_
      have z2 := z.2
      rw [b4] at z2
      have hb := Int.bmod_emod (x := m 277 i + (d : Int)) (m := 4294967296)
      change m 277 i = (m 277 i + (d : Int)).bmod 4294967296 at z2
      rw [← z2] at hb
      omega
theorem R_again_no (hi : R_is w h n heat price D A c U kn KS cs m) (n5 : n ≤ 5) (a : Int) (ok : ¬ ((0 ≤ a ∧ a < 2) ∧ kn a.toNat = (n : Int))) : ∃ m1, z_R 259 (m, 0, [(2, 251), (0, a), (9, 0)], []) = some (m1, some (0, 0)) ∧ R_is w h n heat price D A c U kn KS cs m1 := by
  refine ⟨z_up m 251 11 0, ?_, R_upn hi (by decide)⟩
  rw [k_ta_0]
  by_cases h1 : 0 ≤ a ∧ a ≤ 1
  · rw [if_pos h1]
    have q := R_kq hi n5 (i := a.toNat) (by omega)
    by_cases h2 : m 276 a.toNat = 0
    · rw [if_pos h2]
    rw [if_neg h2]
    by_cases h3 : m 277 a.toNat = m 251 52
    · exact absurd ⟨⟨h1.1, by omega⟩, q.mpr ⟨h2, h3⟩⟩ ok
    · rw [if_neg h3]
  · rw [if_neg h1]
theorem k_ag {i : Nat} (hi2 : i < 2) : ∀ (f x : Nat) (m : z_M), x + f = 37 → ∃ m', z_R 259 (m, 40, [(2, 251), (0, (i : Int)), (0, (x : Int))], []) = some (z_up m' 251 25 0, some (0, 1)) ∧ (∀ k, x ≤ k → k < 37 → m' 252 k = m 275 (37 * i + k)) ∧ ∀ p k, ¬ (p = 252 ∧ x ≤ k ∧ k < 37) → m' p k = m p k := by
  intro f
  induction f with
  | zero =>
    intro x m hx
    rw [k_ta_40 m i x (by omega), if_pos (by omega)]
    exact ⟨m, rfl, fun k h1 h2 => by omega, fun _ _ _ => rfl⟩
  | succ f ih =>
    intro x m hx
    have e2 : z_add (z_mul 37 (i : Int)) (x : Int) = ((37 * i + x : Nat) : Int) := by rw [z_mul_eq (by omega) (by omega), z_add_eq (by omega) (by omega)]; omega
    rw [k_ta_40 m i x (by omega), if_neg (by omega), e2, if_pos (by omega), Int.toNat_natCast, Int.toNat_natCast, tc1]
    obtain ⟨m', a1, a2, a3⟩ := ih (x + 1) (z_up m 252 x (m 275 (37 * i + x))) (by omega)
    refine ⟨m', a1, fun k h1 h2 => ?_, fun p k hn => ?_⟩
    · by_cases hk : k = x
      · rw [hk, a3 252 x (by omega), zu_self]
      · rw [a2 k (by omega) h2, zu_p (by decide)]
    · rw [a3 p k (by omega), X_up (by omega)]
theorem R_again (hi : R_is w h n heat price D A c U kn KS cs m) (n5 : n ≤ 5) {i : Nat} (hi2 : i < 2) (hk : kn i = (n : Int)) : ∃ m1, z_R 259 (m, 0, [(2, 251), (0, (i : Int)), (9, 0)], []) = some (m1, some (0, 1)) ∧ R_is w h n heat price D (KS i) 0 U kn KS cs m1 := by
  obtain ⟨q1, q2⟩ := (R_kq hi n5 hi2).mp hk
  rw [k_ta_0, if_pos (by omega), Int.toNat_natCast, if_neg q1, if_pos q2]
  have hu := R_upn (p0 := 251) (k0 := 11) (v := 0) hi (by decide)
  generalize z_up m 251 11 0 = m0 at hu ⊢
  obtain ⟨m', a1, a2, a3⟩ := k_ag hi2 37 0 m0 (by decide)
  have a1 : z_R 259 (m0, 40, [(2, 251), (0, (i : Int)), (0, 0)], []) = some (z_up m' 251 25 0, some (0, 1)) := a1
  refine ⟨_, a1, R_mk hu (fun p k _ h1 h2 h3 => (X_up h3).trans (a3 p k (fun z => h1 z.1))) ?_ ⟨zu_self, by decide, fun j hj => absurd hj (Nat.not_lt_zero j)⟩⟩
  rw [rS_row (zu_rowne (by decide)), rS_is (p := 275) (j := i) (m := m0) (fun k hk => a2 k (Nat.zero_le _) hk)]
  exact (hu.2.2.2.2.1 i hi2).2 hk
end
theorem core_keep : l_rel2 Rel_C (1197, 176, 150, 1, false, 1208, 179, 258) := by
  intro M1 M2 M3 σ σ1 σ2 as v1 v2 C1 C2 ρ1 ρ2 ha hR hh hM1 hC1 hp1 hE1 hC2 hp2 hE2
  obtain ⟨a, rfl⟩ := as_one ha
  have hE1 : z_R 150 (z_m σ, 0, [(2, 0), (0, a.toInt)], []) = some (z_m σ1, some (0, v1.toInt)) := z_R_iff.mpr hE1
  have hE2 : z_R 258 (z_m σ1, 0, [(2, 251), (0, a.toInt)], []) = some (z_m σ2, some (0, v2.toInt)) := z_R_iff.mpr hE2
  have hT := T_two (y1 := 150) (y2 := 258) (by decide +kernel) (by decide +kernel) hC1 hC2 hp1 hp2 hR.1
  obtain ⟨w, h, n, heat, price, D, A, c, U, kn, KS, cs, cC, cR, cW⟩ := hR.2
  have f1 := R_off2_ok (y := 150) (by decide +kernel) hC1 hp1
  have f2 := C_off_ok (y := 258) (by decide +kernel) hC2 hp2
  have cR1 := R_fr cR f1
  have w52 := z_rng (c_post_h hp1).1 (p := 251) (k := 52) (lo := -2147483648) (hi := 2147483647) (by decide) (by decide +kernel) (by decide +kernel)
  by_cases ok : 0 ≤ a.toInt ∧ a.toInt < 2
  · obtain ⟨i, hi⟩ : ∃ i : Nat, a.toInt = (i : Int) := ⟨a.toInt.toNat, by omega⟩
    rw [hi] at hE1 hE2
    have z := core_do cR1 (fun q => C_fr q f2) (C_keep cC (i := i) (by omega)) (fun q => R_keep q w52 (i := i) (by omega)) hE1 hE2
    exact ⟨⟨hT, Core_mk z.1.1 z.1.2 (w_W_keep cW)⟩, fun _ => z.2⟩
  · have z := core_do cR1 (fun q => C_fr q f2) ⟨_, C_keep_no _ ok, cC⟩ (fun q => R_keep_no q _ ok) hE1 hE2
    exact ⟨⟨hT, Core_mk z.1.1 z.1.2 cW⟩, fun _ => z.2⟩
theorem core_again : l_rel2 Rel_C (1222, 180, 152, 1, false, 1233, 183, 259) := by
  intro M1 M2 M3 σ σ1 σ2 as v1 v2 C1 C2 ρ1 ρ2 ha hR hh hM1 hC1 hp1 hE1 hC2 hp2 hE2
  obtain ⟨a, rfl⟩ := as_one ha
  have hE1 : z_R 152 (z_m σ, 0, [(2, 0), (0, a.toInt)], []) = some (z_m σ1, some (0, v1.toInt)) := z_R_iff.mpr hE1
  have hE2 : z_R 259 (z_m σ1, 0, [(2, 251), (0, a.toInt), (9, 0)], []) = some (z_m σ2, some (0, v2.toInt)) := z_R_iff.mpr hE2
  have hT := T_two (y1 := 152) (y2 := 259) (by decide +kernel) (by decide +kernel) hC1 hC2 hp1 hp2 hR.1
  obtain ⟨w, h, n, heat, price, D, A, c, U, kn, KS, cs, cC, cR, cW⟩ := hR.2
  obtain ⟨⟨-, -, n5⟩, -⟩ := core_b hh hM1 cR
  have f1 := R_off2_ok (y := 152) (by decide +kernel) hC1 hp1
  have f2 := C_off_ok (y := 259) (by decide +kernel) hC2 hp2
  have cR1 := R_fr cR f1
  by_cases ok : (0 ≤ a.toInt ∧ a.toInt < 2) ∧ kn a.toInt.toNat = (n : Int)
  · obtain ⟨i, hi⟩ : ∃ i : Nat, a.toInt = (i : Int) := ⟨a.toInt.toNat, by omega⟩
    rw [hi] at hE1 hE2 ok
    rw [Int.toNat_natCast] at ok
    have z := core_do cR1 (fun q => C_fr q f2) (C_again cC (i := i) (by omega) ok.2) (fun q => R_again q n5 (i := i) (by omega) ok.2) hE1 hE2
    exact ⟨⟨hT, Core_mk z.1.1 z.1.2 (w_W_again cW (by omega) ok.2)⟩, fun _ => z.2⟩
  · have z := core_do cR1 (fun q => C_fr q f2) ⟨_, C_again_no cC _ ok, cC⟩ (fun q => R_again_no q n5 _ ok) hE1 hE2
    exact ⟨⟨hT, Core_mk z.1.1 z.1.2 cW⟩, fun _ => z.2⟩
