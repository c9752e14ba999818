/-! people, of what both are in -/
theorem a_msk_cg {n : Int} {f g : Nat → Int} (h : ∀ k, a_vis n k = true → f k = g k) : a_msk n f = a_msk n g := by
  funext k
  unfold a_msk
  exact z_ifc (fun hk => h k hk) (fun _ => rfl)
theorem a_vis_is {n : Int} {k : Nat} (h : a_vis n k = true) : k < 18 ∨ 33 ≤ k ∨ (((k - 18) % 5 : Nat) : Int) < n := by
  unfold a_vis at h
  by_cases h1 : k < 18
  · exact Or.inl h1
  by_cases h2 : 33 ≤ k
  · exact Or.inr (Or.inl h2)
  rw [decide_eq_false h1, decide_eq_false h2, Bool.false_or, Bool.false_or] at h
  exact Or.inr (Or.inr (of_decide_eq_true h))
/-- doings, State with q more of the text G -/
def u_pD (D : Nat → Int) (G : Int → Int) (n q : Nat) : Nat → Int := fun j => if 6 * n ≤ j ∧ j < 6 * (n + q) then u_dg (G (10 * (((j - 6 * n) / 6 : Nat) : Int) + 3 + (((j - 6 * n) % 6 : Nat) : Int))) else D j
def u_pS (A : Nat → Int) (G : Int → Int) (n q : Nat) : Nat → Int := a_msk ((n + q : Nat) : Int) (fun k => if 18 ≤ k ∧ k < 33 ∧ n ≤ (k - 18) % 5 then (if k < 23 then u_rm G (10 * (((k - 18) % 5 - n : Nat) : Int)) else 0) else A k)
section
variable {w h n : Nat} {heat price : Int} {D A : Nat → Int} {c : Nat} {U : Nat → Nat → Int} {kn : Nat → Int} {KS : Nat → Nat → Int} {cs : List Int} {m : z_M}
theorem C_Ak (hi : C_is w h n heat price D A c U kn KS cs m) {k : Nat} (hv : a_vis n k = true) : A k = cR m 12 k := by
  rw [← hi.2.2.1]
  exact a_msk_at hv
theorem C_people_no (hi : C_is w h n heat price D A c U kn KS cs m) (hw : w ≤ 3) (hh : h ≤ 3) (n5 : n ≤ 5) (h0 : 0 ≤ m 1 1) (h1 : m 1 1 ≤ 80) (hr : u_gr (u_nx (m 2) (m 1 1) 76)) {G : Int → Int} (hG : u_nx (m 2) (m 1 1) 76 = G) {S : Bool × Int × Nat} (hS : u_ls G w h (m 1 1) (5 - n) 0 0 = S) (ok : ¬ (¬ m 1 1 = 0 ∧ S.1 = true)) : ∃ m', z_R 35 (m, 0, [(2, 0), (9, 0)], []) = some (m', some (0, u_pa (m 1 1) S)) ∧ C_is w h n heat price D A c U kn KS cs m' := by
  obtain ⟨e8, e9, e11, -⟩ := id hi.1
  obtain ⟨m1, a1, a2, a3, a4, a5⟩ := c_readPeople (w := (w : Int)) (h := (h : Int)) (by omega) (by omega) n n5 m h0 h1 hr e8 e9 e11
  rw [hG, hS] at a1 a2 a3
  have hb := u_ls_b (g := G) (by rw [← hG]; exact u_nx_b h1) (c := (w : Int)) (s := (h : Int)) (n := m 1 1) (5 - n) 0 0 (by decide) (by decide)
  rw [hS] at hb
  have hC : C_is w h n heat price D A c U kn KS cs (z_up m1 1 1 0) := C_fr hi fun p k hk => by
    have hk' := hk
    unfold C_hit at hk'
    have hk' := of_decide_eq_true hk'
    rw [X_up (by omega)]
    exact a5 p k (by omega) (by omega) (by omega) (by omega) (by omega)
  rw [s_people_0, a1]
  unfold u_pa
  by_cases z : m 1 1 = 0
  · rw [if_pos z] at a2 a3
    rw [if_pos z, if_pos z]
    show ∃ m', z_R 35 (m1, 11, [(2, 0), (9, 0)], [(0, 1)]) = _ ∧ _
    rw [s_people_11, s_empty_0]
    show ∃ m', z_R 35 (z_up m1 1 1 0, 19, [(2, 0), (0, 1)], []) = _ ∧ _
    have k37 : (z_up m1 1 1 0) 3 7 = 0 := (zu_p (by decide)).trans a3
    rw [s_people_19, if_neg (by decide), if_pos (by omega), s_people_61, k37]
    exact ⟨_, rfl, hC⟩
  · have k : ¬ S.1 = true := fun y => ok ⟨z, y⟩
    rw [if_neg z] at a2 a3
    rw [if_neg z, if_neg z, if_neg k, if_neg k]
    show ∃ m', z_R 35 (m1, 11, [(2, 0), (9, 0)], [(0, 0)]) = _ ∧ _
    rw [s_people_11, s_empty_0]
    show ∃ m', z_R 35 (z_up m1 1 1 0, 19, [(2, 0), (0, 0)], []) = _ ∧ _
    have k12 : (z_up m1 1 1 0) 1 2 = S.2.1 := (zu_k (by decide)).trans a2
    rw [s_people_19, if_pos rfl, k12, z_sub_eq (by omega) (by omega)]
    exact ⟨_, rfl, hC⟩
theorem C_people (hi : C_is w h n heat price D A c U kn KS cs m) (hw : w ≤ 3) (hh : h ≤ 3) (n5 : n ≤ 5) (hkn : ∀ i, i < 2 → kn i ≤ (n : Int)) (h0 : 0 ≤ m 1 1) (h1 : m 1 1 ≤ 80) (hr : u_gr (u_nx (m 2) (m 1 1) 76)) {G : Int → Int} (hG : u_nx (m 2) (m 1 1) 76 = G) {b : Bool} {i0 : Int} {q : Nat} (hS : u_ls G w h (m 1 1) (5 - n) 0 0 = (b, i0, q)) (z : ¬ m 1 1 = 0) (k : b = true) (hq : 1 ≤ q) : ∃ m', z_R 35 (m, 0, [(2, 0), (9, 0)], []) = some (m', some (0, (q : Int))) ∧ C_is w h (n + q) heat price (u_pD D G n q) (u_pS A G n q) 0 U kn KS cs m' := by
  obtain ⟨e8, e9, e11, -⟩ := id hi.1
  obtain ⟨m1, a1, a2, a3, a4, a5⟩ := c_readPeople (w := (w : Int)) (h := (h : Int)) (by omega) (by omega) n n5 m h0 h1 hr e8 e9 e11
  have hb := u_ls_b (g := G) (by rw [← hG]; exact u_nx_b h1) (c := (w : Int)) (s := (h : Int)) (n := m 1 1) (5 - n) 0 0 (by decide) (by decide)
  rw [hS] at hb
  have hq5 : q ≤ 0 + (5 - n) := hb.2.2.2
  rw [hG] at a4
  rw [hG, hS, if_neg z] at a1 a3
  have a3 : m1 3 7 = (q : Int) := a3
  rw [s_people_0, a1]
  show ∃ m', z_R 35 (m1, 11, [(2, 0), (9, 0)], [(0, if b = true then 1 else 0)]) = _ ∧ _
  rw [if_pos k, s_people_11, s_empty_0]
  show ∃ m', z_R 35 (z_up m1 1 1 0, 19, [(2, 0), (0, 1)], []) = _ ∧ _
  have k37 : (z_up m1 1 1 0) 3 7 = (q : Int) := (zu_p (by decide)).trans a3
  have k311 : (z_up m1 1 1 0) 3 11 = (n : Int) := (zu_p (by decide)).trans ((a5 3 11 (by omega) (by omega) (by omega) (by omega) (by omega)).trans e11)
  rw [s_people_19, if_neg (by decide), k37, if_neg (by omega), s_admit_0]
  obtain ⟨m2, b1, b2, b3, b4, b5, b6, b7⟩ := c_admit q 0 n (z_up m1 1 1 0) (by rw [k37, Nat.zero_add]) k311 (by omega) (Nat.zero_le _)
  rw [show ((0 : Nat) : Int) = 0 from rfl] at b1
  rw [b1]
  show ∃ m', z_R 35 (m2, 54, [(2, 0), (0, 1)], []) = _ ∧ _
  rw [s_people_54, s_fd_0]
  show ∃ m', z_R 35 (z_up m2 28 4 0, 61, [(2, 0), (0, 1)], []) = _ ∧ _
  have j37 : (z_up m2 28 4 0) 3 7 = (q : Int) := (zu_p (by decide)).trans ((b7 3 7 (by omega) (by omega) (by omega) (by omega) (by omega)).trans k37)
  rw [s_people_61, j37]
  have hfa : ∀ p k, C_hit p k k = true → ¬ (p = 3 ∧ k = 11) → ¬ p = 8 → ¬ (15 ≤ p ∧ p ≤ 17) → ¬ (p = 28 ∧ k = 4) → (z_up m2 28 4 0) p k = m p k := fun p k hk n1 n2 n3 n4 => by
    have hk' := hk
    unfold C_hit at hk'
    have hk' := of_decide_eq_true hk'
    rw [X_up n4, b7 p k n1 n2 (by omega) (by omega) (by omega), X_up (by omega)]
    exact a5 p k (by omega) (by omega) (by omega) (by omega) (by omega)
  have rows : ∀ p k, ¬ p = 28 → (z_up m2 28 4 0) p k = m2 p k := fun p k hp => zu_p hp
  have o1 : ∀ p k, ¬ p = 1 → ¬ p = 3 → ¬ p = 10 → ¬ p = 11 → (z_up m1 1 1 0) p k = m p k := fun p k n1 n2 n3 n4 => by
    rw [zu_p n1]
    exact a5 p k (by omega) (by omega) (by omega) (by omega) (by omega)
  refine ⟨_, rfl, ?_⟩
  have hA : cS (z_up m2 28 4 0) 12 ((n + q : Nat) : Int) = u_pS A G n q := by
    unfold cS u_pS
    refine a_msk_cg fun k hv => ?_
    have hv' := a_vis_is hv
    by_cases c18 : k < 18
    · rw [if_neg (by omega), C_Ak hi (a_vis_lo c18)]
      unfold cR
      by_cases c9 : k < 9
      · rw [if_pos c9, if_pos c9]
        exact hfa 13 k (hit_st (by decide) (by decide)) (by omega) (by omega) (by omega) (by omega)
      · rw [if_neg c9, if_neg c9, if_pos c18, if_pos c18]
        exact hfa 14 (k - 9) (hit_st (by decide) (by decide)) (by omega) (by omega) (by omega) (by omega)
    by_cases c33 : 33 ≤ k
    · rw [if_neg (by omega), C_Ak hi (a_vis_hi c33)]
      unfold cR
      rw [if_neg (show ¬ k < 9 by omega), if_neg (show ¬ k < 9 by omega), if_neg (show ¬ k < 18 by omega), if_neg (show ¬ k < 18 by omega), if_neg (show ¬ k < 23 by omega), if_neg (show ¬ k < 23 by omega), if_neg (show ¬ k < 28 by omega), if_neg (show ¬ k < 28 by omega), if_neg (show ¬ k < 33 by omega), if_neg (show ¬ k < 33 by omega)]
      refine z_ifc (fun _ => ?_) (fun _ => rfl)
      exact hfa 12 (k - 28) (hit_st (by decide) (by decide)) (by omega) (by omega) (by omega) (by omega)
    have hn : (k - 18) % 5 < n + q := by omega
    by_cases c23 : k < 23
    · have e1 : cR (z_up m2 28 4 0) 12 k = m2 15 (k - 18) := by
        unfold cR
        rw [if_neg (by omega), if_neg (by omega), if_pos c23]
        exact rows 15 _ (by decide)
      rw [e1, b4]
      by_cases cn : n ≤ (k - 18) % 5
      · rw [if_pos ⟨by omega, by omega⟩, if_pos ⟨by omega, by omega, cn⟩, if_pos c23, zu_p (by decide)]
        have := (a4 ((k - 18) % 5 - n) (by rw [a3]; omega)).1
        rw [show n + ((k - 18) % 5 - n) = k - 18 by omega] at this
        exact this
      · rw [if_neg (by omega), if_neg (by omega), C_Ak hi (a_vis_p (b := 18) (p := k - 18) (by omega) (by omega) (by omega) (by omega))]
        unfold cR
        rw [if_neg (by omega), if_neg (by omega), if_pos c23]
        exact o1 15 _ (by decide) (by decide) (by decide) (by decide)
    by_cases c28 : k < 28
    · have e1 : cR (z_up m2 28 4 0) 12 k = m2 16 (k - 23) := by
        unfold cR
        rw [if_neg (by omega), if_neg (by omega), if_neg c23, if_pos c28]
        exact rows 16 _ (by decide)
      rw [e1, b5]
      by_cases cn : n ≤ (k - 18) % 5
      · rw [if_pos ⟨by omega, by omega⟩, if_pos ⟨by omega, by omega, cn⟩, if_neg c23]
      · rw [if_neg (by omega), if_neg (by omega), C_Ak hi (a_vis_p (b := 23) (p := k - 23) (by omega) (by omega) (by omega) (by omega))]
        unfold cR
        rw [if_neg (by omega), if_neg (by omega), if_neg c23, if_pos c28]
        exact o1 16 _ (by decide) (by decide) (by decide) (by decide)
    · have e1 : cR (z_up m2 28 4 0) 12 k = m2 17 (k - 28) := by
        unfold cR
        rw [if_neg (by omega), if_neg (by omega), if_neg c23, if_neg c28, if_pos (by omega)]
        exact rows 17 _ (by decide)
      rw [e1, b6]
      by_cases cn : n ≤ (k - 18) % 5
      · rw [if_pos ⟨by omega, by omega⟩, if_pos ⟨by omega, by omega, cn⟩, if_neg c23]
      · rw [if_neg (by omega), if_neg (by omega), C_Ak hi (a_vis_p (b := 28) (p := k - 28) (by omega) (by omega) (by omega) (by omega))]
        unfold cR
        rw [if_neg (by omega), if_neg (by omega), if_neg c23, if_neg c28, if_pos (by omega)]
        exact o1 17 _ (by decide) (by decide) (by decide) (by decide)
  obtain ⟨⟨q1, q2, q3, q4, q5, q6, q7, q8⟩, qb, qd, qu, qe, qf1, qf2, qf3, qf4⟩ := hi
  refine ⟨⟨?_, ?_, ?_, ?_, ?_, ?_, ?_, ?_⟩, fun j hj => ?_, hA, ⟨?_, zu_self, by decide, fun i hi => absurd hi (Nat.not_lt_zero i)⟩, fun i hi => ⟨?_, fun y => ?_⟩, ?_, qf2, qf3, ?_⟩
  · exact (hfa 3 8 (by decide) (by decide) (by decide) (by decide) (by decide)).trans q1
  · exact (hfa 3 9 (by decide) (by decide) (by decide) (by decide) (by decide)).trans q2
  · exact (rows 3 11 (by decide)).trans b2
  · exact (hfa 3 12 (by decide) (by decide) (by decide) (by decide) (by decide)).trans q4
  · exact (hfa 3 13 (by decide) (by decide) (by decide) (by decide) (by decide)).trans q5
  · rw [hfa 3 10 (by decide) (by decide) (by decide) (by decide) (by decide)]
    exact q6
  · exact (hfa 24 4 (by decide) (by decide) (by decide) (by decide) (by decide)).trans q7
  · exact (hfa 24 5 (by decide) (by decide) (by decide) (by decide) (by decide)).trans q8
  · rw [rows 8 j (by decide), b3]
    unfold u_pD
    by_cases cj : 6 * n ≤ j ∧ j < 6 * (n + q)
    · rw [if_pos cj, if_pos cj, zu_p (by decide)]
      have := (a4 ((j - 6 * n) / 6) (by rw [a3]; omega)).2 ((j - 6 * n) % 6) (Nat.mod_lt _ (by decide))
      rw [show 6 * (n + (j - 6 * n) / 6) + (j - 6 * n) % 6 = j by omega] at this
      exact this
    · rw [if_neg cj, if_neg cj, o1 8 j (by decide) (by decide) (by decide) (by decide)]
      exact qb j hj
  · rw [hfa 28 3 (by decide) (by decide) (by decide) (by decide) (by decide)]
    exact qu.1
  · exact (hfa 31 i (hit_dk (by decide) (by decide)) (by omega) (by omega) (by omega) (by omega)).trans (qe i hi).1
  · have := hkn i hi
    omega
  · exact (hfa 4 3 (by decide) (by decide) (by decide) (by decide) (by decide)).trans qf1
  · rw [show (z_up m2 28 4 0) 5 = m 5 from funext fun k => hfa 5 k hit_5 (by omega) (by omega) (by omega) (by omega)]
    exact qf4
end
