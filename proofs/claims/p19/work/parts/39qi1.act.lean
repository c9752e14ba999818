/-! WHAT CHANGES THE STATE: set, doing, move, stove, pay, undo; each of both, by what they are in -/
def u_cons (A : Nat → Int) (U : Nat → Nat → Int) : Nat → Nat → Int
  | 0 => A
  | j + 1 => U j
def c_inc (c : Nat) : Nat := if c = 12 then 12 else c + 1
section
variable {w h n : Nat} {heat price : Int} {D A : Nat → Int} {c : Nat} {U : Nat → Nat → Int} {kn : Nat → Int} {KS : Nat → Nat → Int} {cs : List Int} {m : z_M}
theorem C_rem (hi : C_is w h n heat price D A c U kn KS cs m) {s : Nat} (hs : s = 12 ∨ s = 18) : ∃ m1, z_R 60 (m, 0, [(2, 28), (2, (s : Int))], []) = some (m1, none) ∧ C_is w h n heat price D A (c_inc c) (u_cons (cS m s n) U) kn KS cs m1 ∧ z_same ((28, 3, 4) :: c_LB (32 + 6 * (m 28 3).toNat)) m m1 := by
  obtain ⟨u1, u2, u3, u4⟩ := hi.2.2.2.1
  obtain ⟨m1, a1, a2, a3, a4, a5⟩ := c_rem (n := (n : Int)) m hs u1 (by omega)
  refine ⟨m1, a1, ?_, a5⟩
  generalize hX : (m 28 3).toNat = X at u4 a4 a5
  have hX12 : X < 12 := by omega
  have hfar : ∀ p k, (¬ p = 28 ∧ ¬ (32 + 6 * X ≤ p ∧ p ≤ 32 + 6 * X + 5)) → m1 p k = m p k := fun p k hp => a5.of (by
    unfold c_LB
    (repeat' (first | exact trivial | refine z_of_c ?_ ?_)) <;> omega)
  refine C_mk hi (fun p k _ h1 h2 h3 => hfar p k (by omega)) ?_ ⟨by omega, ?_, ?_, fun i hc => ?_⟩
  · rw [cS_fr (fun j k hj _ => hfar _ k (by omega))]
    exact hi.2.2.1
  · rw [a3, u2]
    unfold c_inc
    by_cases z : c = 12
    · rw [if_pos (by omega), if_pos z]; rfl
    · rw [if_neg (by omega), if_neg z]; omega
  · unfold c_inc
    split <;> omega
  · have hc12 : i < 12 := by
      unfold c_inc at hc
      split at hc <;> omega
    rw [a2, show ((m 28 3 + 1) % 12).toNat = (X + 1) % 12 by omega]
    cases i with
    | zero =>
      rw [show ((X + 1) % 12 + 11 - 0) % 12 = X by omega]
      exact a4
    | succ j =>
      have hj : j < c := by
        unfold c_inc at hc
        split at hc <;> omega
      rw [show ((X + 1) % 12 + 11 - (j + 1)) % 12 = (X + 11 - j) % 12 by omega, cS_fr (fun i k hi _ => hfar _ k (by omega))]
      exact u4 j hj
theorem R_rem (hi : R_is w h n heat price D A c U kn KS cs m) {a : Nat} (ha : a = 252 ∨ a = 261) : ∃ m1, z_R 197 (m, 0, [(2, 251), (2, (a : Int)), (9, 0)], []) = some (m1, none) ∧ R_is w h n heat price D A (c_inc c) (u_cons (rS m a n) U) kn KS cs m1 ∧ z_same [(251, 25, 25), (260, 0, 443)] m m1 := by
  obtain ⟨u1, u2, u3⟩ := hi.2.2.2.1
  obtain ⟨m1, a1, a2, a3, a4, a5⟩ := r_rem (n := (n : Int)) m ha (by omega)
  refine ⟨m1, a1, ?_, a5⟩
  have e25 : m1 251 25 = ((c_inc c : Nat) : Int) := by
    rw [a2, u1]
    unfold c_inc
    by_cases z : c = 12
    · rw [if_pos (by omega), if_pos z]; rfl
    · rw [if_neg (by omega), if_neg z]; omega
  have hci : c_inc c ≤ 12 ∧ (c = 12 → c_inc c = 12) ∧ (¬ c = 12 → c_inc c = c + 1) := by
    unfold c_inc
    by_cases z : c = 12
    · rw [if_pos z]; omega
    · rw [if_neg z]; omega
  generalize c_inc c = c' at e25 hci ⊢
  rw [e25, Int.toNat_natCast] at a3
  refine R_mk hi (fun p k _ h1 h2 h3 => a5.of (by
    (repeat' (first | exact trivial | refine z_of_c ?_ ?_)) <;> omega)) ?_ ⟨e25, hci.1, fun i hc => ?_⟩
  · rw [rS_row (a5.ofr (by (try unfold c_LB); (repeat' (first | exact trivial | refine z_ofr_c ?_ ?_)) <;> omega))]
    exact hi.2.2.1
  · cases i with
    | zero => rw [Nat.sub_zero]; exact a3
    | succ j =>
      rw [a4 (c' - 1 - (j + 1)) (by rw [e25]; omega), u1]
      by_cases z : c = 12
      · rw [if_pos (by omega), show c' - 1 - (j + 1) + 1 = c - 1 - j by omega]
        exact u3 j (by omega)
      · rw [if_neg (by omega), show c' - 1 - (j + 1) = c - 1 - j by omega]
        exact u3 j (by omega)
/-! set -/
theorem C_set_no (a v : Int) (ok : ¬ ((0 ≤ a ∧ a ≤ 2) ∧ 0 ≤ v ∧ v ≤ 9)) : z_R 53 (m, 0, [(2, 0), (0, a), (0, v), (9, 0)], []) = some (m, some (0, -1)) := by
  rw [s_set_0]
  by_cases h1 : a < 0
  · rw [if_pos h1]
  rw [if_neg h1]
  by_cases h2 : 2 < a
  · rw [if_pos h2]
  rw [if_neg h2]
  by_cases h3 : v < 0
  · rw [if_pos h3]
  rw [if_neg h3, if_neg (by omega)]
theorem C_set0 (hi : C_is w h n heat price D A c U kn KS cs m) (v : Int) (ok : 0 ≤ v ∧ v ≤ 9) : ∃ m1, z_R 53 (m, 0, [(2, 0), (0, 0), (0, v), (9, 0)], []) = some (m1, some (0, heat)) ∧ C_is w h n v price D A c U kn KS cs m1 := by
  rw [s_set_0, if_neg (by decide), if_neg (by decide), if_neg (by omega), if_pos (by omega), if_pos rfl, hi.1.2.2.2.1]
  refine ⟨_, rfl, C_mk0 hi (fun k _ _ => zu_k (by omega)) zu_self ((zu_k (by decide)).trans hi.1.2.2.2.2.1) (fun j hj => (zu_p (by decide)).trans (hi.2.1 j hj)) (fun p k _ h1 _ _ _ _ => zu_p h1) ?_ (c_un_fr hi.2.2.2.1 (fun p k hp => zu_p (by omega)))⟩
  rw [cS_off (by omega)]
  exact hi.2.2.1
theorem C_set2 (hi : C_is w h n heat price D A c U kn KS cs m) (v : Int) (ok : 0 ≤ v ∧ v ≤ 9) : ∃ m1, z_R 53 (m, 0, [(2, 0), (0, 2), (0, v), (9, 0)], []) = some (m1, some (0, price)) ∧ C_is w h n heat v D A c U kn KS cs m1 := by
  rw [s_set_0, if_neg (by decide), if_neg (by decide), if_neg (by omega), if_pos (by omega), if_neg (by decide), if_neg (by decide), hi.1.2.2.2.2.1]
  refine ⟨_, rfl, C_mk0 hi (fun k _ _ => zu_k (by omega)) ((zu_k (by decide)).trans hi.1.2.2.2.1) zu_self (fun j hj => (zu_p (by decide)).trans (hi.2.1 j hj)) (fun p k _ h1 _ _ _ _ => zu_p h1) ?_ (c_un_fr hi.2.2.2.1 (fun p k hp => zu_p (by omega)))⟩
  rw [cS_off (by omega)]
  exact hi.2.2.1
theorem C_set1 (hi : C_is w h n heat price D A c U kn KS cs m) (v : Int) (ok : 0 ≤ v ∧ v ≤ 9) : ∃ m1, z_R 53 (m, 0, [(2, 0), (0, 1), (0, v), (9, 0)], []) = some (m1, some (0, A 36)) ∧ C_is w h n heat price D (u_up A 36 v) c U kn KS cs m1 := by
  rw [s_set_0, if_neg (by decide), if_neg (by decide), if_neg (by omega), if_pos (by omega), if_neg (by decide), if_pos rfl, ← hi.2.2.1, cS_frostv]
  refine ⟨_, rfl, ?_⟩
  have e := cS_frost (m := m) (s := 12) (v := v) (n := (n : Int))
  exact C_mkA hi (fun p k _ h1 => zu_p (by omega)) e
theorem R_set_no (hi : R_is w h n heat price D A c U kn KS cs m) (a v : Int) (ok : ¬ ((0 ≤ a ∧ a ≤ 2) ∧ 0 ≤ v ∧ v ≤ 9)) : ∃ m1, z_R 192 (m, 0, [(2, 251), (0, a), (0, v), (9, 0)], []) = some (m1, some (0, -1)) ∧ R_is w h n heat price D A c U kn KS cs m1 := by
  refine ⟨z_up m 251 11 0, ?_, R_upn hi (by decide)⟩
  rw [t_set_0]
  by_cases h1 : 0 ≤ a ∧ a ≤ 2
  · rw [if_pos h1, if_neg (fun z => ok ⟨h1, z⟩)]
  · rw [if_neg h1]
theorem R_set0 (hi : R_is w h n heat price D A c U kn KS cs m) (v : Int) (ok : 0 ≤ v ∧ v ≤ 9) : ∃ m1, z_R 192 (m, 0, [(2, 251), (0, 0), (0, v), (9, 0)], []) = some (m1, some (0, heat)) ∧ R_is w h n v price D A c U kn KS cs m1 := by
  have hu := R_upn (p0 := 251) (k0 := 11) (v := 0) hi (by decide)
  rw [t_set_0, if_pos (by decide), if_pos ok, if_pos rfl, hi.1.2.2.2.1]
  generalize z_up m 251 11 0 = m0 at hu ⊢
  refine ⟨_, rfl, R_mk0 hu zu_self ((zu_k (by decide)).trans hu.1.2.2.2.2.1) (fun j hj => (zu_p (by decide)).trans (hu.2.1 j hj)) (fun p k _ _ _ _ h1 => X_up (by omega)) ?_ (r_un_fr hu.2.2.2.1 (fun p k hp => X_up (by omega)))⟩
  rw [rS_row (zu_rowne (by decide))]
  exact hu.2.2.1
theorem R_set2 (hi : R_is w h n heat price D A c U kn KS cs m) (v : Int) (ok : 0 ≤ v ∧ v ≤ 9) : ∃ m1, z_R 192 (m, 0, [(2, 251), (0, 2), (0, v), (9, 0)], []) = some (m1, some (0, price)) ∧ R_is w h n heat v D A c U kn KS cs m1 := by
  have hu := R_upn (p0 := 251) (k0 := 11) (v := 0) hi (by decide)
  rw [t_set_0, if_pos (by decide), if_pos ok, if_neg (by decide), if_neg (by decide), hi.1.2.2.2.2.1]
  generalize z_up m 251 11 0 = m0 at hu ⊢
  refine ⟨_, rfl, R_mk0 hu ((zu_k (by decide)).trans hu.1.2.2.2.1) zu_self (fun j hj => (zu_p (by decide)).trans (hu.2.1 j hj)) (fun p k _ _ _ _ h1 => X_up (by omega)) ?_ (r_un_fr hu.2.2.2.1 (fun p k hp => X_up (by omega)))⟩
  rw [rS_row (zu_rowne (by decide))]
  exact hu.2.2.1
theorem R_A (hi : R_is w h n heat price D A c U kn KS cs m) {k : Nat} (h1 : k < 37) (h2 : a_vis n k = true) : m 252 k = A k := by
  rw [← hi.2.2.1]
  exact (rS_at h1 h2).symm
theorem R_set1 (hi : R_is w h n heat price D A c U kn KS cs m) (v : Int) (ok : 0 ≤ v ∧ v ≤ 9) : ∃ m1, z_R 192 (m, 0, [(2, 251), (0, 1), (0, v), (9, 0)], []) = some (m1, some (0, A 36)) ∧ R_is w h n heat price D (u_up A 36 v) c U kn KS cs m1 := by
  have hu := R_upn (p0 := 251) (k0 := 11) (v := 0) hi (by decide)
  rw [t_set_0, if_pos (by decide), if_pos ok, if_neg (by decide), if_pos rfl, R_A hi (k := 36) (by decide) (a_vis_hi (by decide))]
  generalize z_up m 251 11 0 = m0 at hu ⊢
  refine ⟨_, rfl, R_mkA hu (fun p k _ h1 => zu_p h1) ?_⟩
  rw [rS_up (by decide) (a_vis_hi (by decide)), hu.2.2.1]
/-! doing -/
theorem C_doing_no (hi : C_is w h n heat price D A c U kn KS cs m) (h5 : n ≤ 5) (p k v : Int) (ok : ¬ ((0 ≤ p ∧ p < (n : Int)) ∧ (0 ≤ k ∧ k ≤ 5) ∧ 0 ≤ v ∧ v ≤ 9)) : z_R 54 (m, 0, [(2, 0), (0, p), (0, k), (0, v), (9, 0)], []) = some (m, some (0, -1)) := by
  have e11 := hi.1.2.2.1
  rw [s_doing_0 m p k v (by omega), e11]
  by_cases h1 : 0 ≤ p ∧ p < (n : Int)
  · rw [if_pos h1]
    by_cases h2 : k < 0
    · rw [if_pos h2]
    rw [if_neg h2]
    by_cases h3 : 6 ≤ k
    · rw [if_pos h3]
    rw [if_neg h3]
    by_cases h4 : v < 0
    · rw [if_pos h4]
    rw [if_neg h4, if_neg (by omega)]
  · rw [if_neg h1]
theorem C_doing (hi : C_is w h n heat price D A c U kn KS cs m) (h5 : n ≤ 5) (p k v : Int) (h1 : 0 ≤ p ∧ p < (n : Int)) (h2 : 0 ≤ k ∧ k ≤ 5) (h3 : 0 ≤ v ∧ v ≤ 9) : ∃ m1, z_R 54 (m, 0, [(2, 0), (0, p), (0, k), (0, v), (9, 0)], []) = some (m1, some (0, D (6 * p + k).toNat)) ∧ C_is w h n heat price (u_up D (6 * p + k).toNat v) A c U kn KS cs m1 := by
  have e11 := hi.1.2.2.1
  rw [s_doing_0 m p k v (by omega), e11, if_pos h1, if_neg (by omega), if_neg (by omega), if_neg (by omega), if_pos (by omega), hi.2.1 (6 * p + k).toNat (by omega)]
  refine ⟨_, rfl, C_mk0 hi (fun k _ _ => zu_p (by decide)) ((zu_p (by decide)).trans hi.1.2.2.2.1) ((zu_p (by decide)).trans hi.1.2.2.2.2.1) (fun j hj => ?_) (fun p k _ _ h1 _ _ _ => zu_p h1) ?_ (c_un_fr hi.2.2.2.1 (fun p k hp => zu_p (by omega)))⟩
  · rw [zu_at]
    unfold u_up
    exact z_ifc (fun _ => rfl) (fun _ => hi.2.1 j hj)
  · rw [cS_off (by omega)]
    exact hi.2.2.1
theorem R_doing_no (hi : R_is w h n heat price D A c U kn KS cs m) (h5 : n ≤ 5) (p k v : Int) (ok : ¬ ((0 ≤ p ∧ p < (n : Int)) ∧ (0 ≤ k ∧ k ≤ 5) ∧ 0 ≤ v ∧ v ≤ 9)) : ∃ m1, z_R 193 (m, 0, [(2, 251), (0, p), (0, k), (0, v), (9, 0)], []) = some (m1, some (0, -1)) ∧ R_is w h n heat price D A c U kn KS cs m1 := by
  have e3 := hi.1.2.2.1
  refine ⟨z_up m 251 11 0, ?_, R_upn hi (by decide)⟩
  rw [t_doing_0 m p k v (by omega), e3]
  by_cases h1 : 0 ≤ p ∧ p < (n : Int)
  · rw [if_pos h1]
    by_cases h2 : 0 ≤ k ∧ k ≤ 5
    · rw [if_pos h2, if_neg (fun z => ok ⟨h1, h2, z⟩)]
    · rw [if_neg h2]
  · rw [if_neg h1]
theorem R_doing (hi : R_is w h n heat price D A c U kn KS cs m) (h5 : n ≤ 5) (p k v : Int) (h1 : 0 ≤ p ∧ p < (n : Int)) (h2 : 0 ≤ k ∧ k ≤ 5) (h3 : 0 ≤ v ∧ v ≤ 9) : ∃ m1, z_R 193 (m, 0, [(2, 251), (0, p), (0, k), (0, v), (9, 0)], []) = some (m1, some (0, D (6 * p + k).toNat)) ∧ R_is w h n heat price (u_up D (6 * p + k).toNat v) A c U kn KS cs m1 := by
  have e3 := hi.1.2.2.1
  have hu := R_upn (p0 := 251) (k0 := 11) (v := 0) hi (by decide)
  rw [t_doing_0 m p k v (by omega), e3, if_pos h1, if_pos h2, if_pos h3, hi.2.1 (6 * p + k).toNat (by omega)]
  generalize z_up m 251 11 0 = m0 at hu ⊢
  refine ⟨_, rfl, R_mk0 hu ((zu_p (by decide)).trans hu.1.2.2.2.1) ((zu_p (by decide)).trans hu.1.2.2.2.2.1) (fun j hj => ?_) (fun p k _ _ h1 _ _ => zu_p h1) ?_ (r_un_fr hu.2.2.2.1 (fun p k hp => zu_p (by omega)))⟩
  · rw [zu_at]
    unfold u_up
    exact z_ifc (fun _ => rfl) (fun _ => hu.2.1 j hj)
  · rw [rS_row (zu_rowne (by decide))]
    exact hu.2.2.1
/-! move -/
/-- what it was: 9 for nowhere -/
def u_was (v : Int) : Int := if v = -1 then 9 else v
theorem C_mva_no (hi : C_is w h n heat price D A c U kn KS cs m) (h5 : n ≤ 5) (p r : Int) (ok : ¬ ((0 ≤ p ∧ p < (n : Int)) ∧ ¬ u_hs (w : Int) (h : Int) r = 0)) : z_R 59 (m, 0, [(2, 0), (0, p), (0, r), (9, 0)], []) = some (m, some (0, -1)) := by
  obtain ⟨e8, e9, e11, -⟩ := hi.1
  rw [s_mva_0 m p r (by omega), e8, e9, e11]
  by_cases h1 : 0 ≤ p ∧ p < (n : Int)
  · rw [if_pos h1, if_neg (fun z => ok ⟨h1, z⟩)]
  · rw [if_neg h1]
theorem C_A3 (hi : C_is w h n heat price D A c U kn KS cs m) {p : Nat} (hp : p < n) (h5 : n ≤ 5) : m 15 p = A (p + 18) := by
  rw [← hi.2.2.1]
  exact (cS_at3 (s := 12) (j := p) (by omega) (by omega)).symm
theorem C_mva (hi : C_is w h n heat price D A c U kn KS cs m) (h5 : n ≤ 5) {p : Nat} (hp : p < n) (r : Int) (hr : ¬ u_hs (w : Int) (h : Int) r = 0) : z_R 59 (m, 0, [(2, 0), (0, (p : Int)), (0, r), (9, 0)], []) = some (m, some (0, if A (p + 18) = r then -2 else u_was (A (p + 18)))) := by
  obtain ⟨e8, e9, e11, -⟩ := hi.1
  rw [s_mva_0 m p r (by omega), e8, e9, e11, if_pos (by omega), if_pos hr, Int.toNat_natCast, C_A3 hi hp h5]
  unfold u_was
  by_cases c1 : A (p + 18) = r
  · rw [if_pos c1, if_pos c1]
  rw [if_neg c1, if_neg c1]
  by_cases c2 : A (p + 18) = -1
  · rw [if_pos c2, if_pos c2]
  · rw [if_neg c2, if_neg c2]
theorem C_move_no (hi : C_is w h n heat price D A c U kn KS cs m) (h5 : n ≤ 5) (p r : Int) (ok : ¬ ((0 ≤ p ∧ p < (n : Int)) ∧ ¬ u_hs (w : Int) (h : Int) r = 0)) : z_R 58 (m, 0, [(2, 0), (0, p), (0, r), (9, 0)], []) = some (m, some (0, -1)) := by
  rw [s_mv_0, C_mva_no hi h5 p r ok, zb_v, s_mv_6, if_pos (by decide)]
theorem C_move_2 (hi : C_is w h n heat price D A c U kn KS cs m) (h5 : n ≤ 5) {p : Nat} (hp : p < n) (r : Int) (hr : ¬ u_hs (w : Int) (h : Int) r = 0) (h2 : A (p + 18) = r) : z_R 58 (m, 0, [(2, 0), (0, (p : Int)), (0, r), (9, 0)], []) = some (m, some (0, -2)) := by
  rw [s_mv_0, C_mva hi h5 hp r hr, zb_v, s_mv_6, if_pos h2, if_pos (by decide)]
theorem u_was_nn {v : Int} (h : -1 ≤ v) : ¬ u_was v < 0 := by
  unfold u_was
  split <;> omega
theorem C_move (hi : C_is w h n heat price D A c U kn KS cs m) (h5 : n ≤ 5) {p : Nat} (hp : p < n) (r : Int) (hr : ¬ u_hs (w : Int) (h : Int) r = 0) (h2 : ¬ A (p + 18) = r) (hb : -1 ≤ A (p + 18)) : ∃ m1, z_R 58 (m, 0, [(2, 0), (0, (p : Int)), (0, r), (9, 0)], []) = some (m1, some (0, u_was (A (p + 18)))) ∧ C_is w h n heat price D (u_up A (p + 18) r) (c_inc c) (u_cons A U) kn KS cs m1 := by
  obtain ⟨m1, a1, a2, -⟩ := C_rem hi (s := 12) (Or.inl rfl)
  rw [hi.2.2.1] at a2
  have a1 : z_R 60 (m, 0, [(2, 28), (2, 12)], []) = some (m1, none) := a1
  rw [s_mv_0, C_mva hi h5 hp r hr, zb_v, s_mv_6, if_neg h2, if_neg (u_was_nn hb), a1, zb_n, s_mv_22, if_pos (by omega), Int.toNat_natCast]
  refine ⟨_, rfl, C_mkA a2 (fun q k _ h1 => zu_p (by omega)) ?_⟩
  have e := cS_up3 (m := m1) (s := 12) (j := p) (v := r) (n := (n : Int)) (by omega) (by omega)
  rw [a2.2.2.1] at e
  exact e
theorem R_move_no (hi : R_is w h n heat price D A c U kn KS cs m) (h5 : n ≤ 5) (p r : Int) (ok : ¬ ((0 ≤ p ∧ p < (n : Int)) ∧ ¬ u_hs (w : Int) (h : Int) r = 0)) : ∃ m1, z_R 195 (m, 0, [(2, 251), (0, p), (0, r), (9, 0)], []) = some (m1, some (0, -1)) ∧ R_is w h n heat price D A c U kn KS cs m1 := by
  have hu := R_upn (p0 := 251) (k0 := 11) (v := 0) hi (by decide)
  rw [t_mv_0]
  generalize z_up m 251 11 0 = m0 at hu ⊢
  obtain ⟨e1, e2, e3, -⟩ := hu.1
  have e : z_R 196 (m0, 0, [(2, 251), (0, p), (0, r)], []) = some (m0, some (0, -1)) := by
    rw [t_rmv_0 m0 p r (by omega), e1, e2, e3]
    by_cases h1 : 0 ≤ p ∧ p < (n : Int)
    · rw [if_pos h1, if_neg (fun z => ok ⟨h1, z⟩)]
    · rw [if_neg h1]
  rw [e, zb_v, t_mv_11, if_neg (by decide)]
  exact ⟨m0, rfl, hu⟩
theorem R_rmv (hi : R_is w h n heat price D A c U kn KS cs m) (h5 : n ≤ 5) {p : Nat} (hp : p < n) (r : Int) (hr : ¬ u_hs (w : Int) (h : Int) r = 0) : z_R 196 (m, 0, [(2, 251), (0, (p : Int)), (0, r)], []) = some (m, some (0, if A (p + 18) = r then -2 else 0)) := by
  obtain ⟨e1, e2, e3, -⟩ := hi.1
  rw [t_rmv_0 m p r (by omega), e1, e2, e3, if_pos (by omega), if_pos hr, tn18, R_A hi (k := p + 18) (by omega) (a_vis_p (b := 18) (p := p) (by omega) (by omega) (by omega) (by omega))]
  by_cases c1 : A (p + 18) = r
  · rw [if_pos c1, if_pos c1]
  · rw [if_neg c1, if_neg c1]
theorem R_move_2 (hi : R_is w h n heat price D A c U kn KS cs m) (h5 : n ≤ 5) {p : Nat} (hp : p < n) (r : Int) (hr : ¬ u_hs (w : Int) (h : Int) r = 0) (h2 : A (p + 18) = r) : ∃ m1, z_R 195 (m, 0, [(2, 251), (0, (p : Int)), (0, r), (9, 0)], []) = some (m1, some (0, -2)) ∧ R_is w h n heat price D A c U kn KS cs m1 := by
  have hu := R_upn (p0 := 251) (k0 := 11) (v := 0) hi (by decide)
  rw [t_mv_0]
  generalize z_up m 251 11 0 = m0 at hu ⊢
  rw [R_rmv hu h5 hp r hr, zb_v, if_pos h2, t_mv_11, if_neg (by decide)]
  exact ⟨m0, rfl, hu⟩
theorem R_gmv (hi : R_is w h n heat price D A c U kn KS cs m) (h5 : n ≤ 5) {p : Nat} (hp : p < n) (r : Int) : ∃ m1, z_R 199 (m, 0, [(2, 251), (0, (p : Int)), (0, r), (9, 0)], []) = some (m1, some (0, u_was (A (p + 18)))) ∧ R_is w h n heat price D (u_up A (p + 18) r) c U kn KS cs m1 := by
  have hv : a_vis (n : Int) (p + 18) = true := a_vis_p (b := 18) (p := p) (by omega) (by omega) (by omega) (by omega)
  have hm : R_is w h n heat price D (u_up A (p + 18) r) c U kn KS cs (z_up m 252 (p + 18) r) := R_mkA hi (fun q k _ h1 => zu_p h1) (by rw [rS_up (by omega) hv, hi.2.2.1])
  refine ⟨_, ?_, hm⟩
  rw [t_gmv_0 m p r (by omega), tn18, R_A hi (k := p + 18) (by omega) hv]
  unfold u_was
  by_cases c2 : A (p + 18) = -1
  · rw [if_pos c2, if_pos c2]
  · rw [if_neg c2, if_neg c2]
theorem R_move (hi : R_is w h n heat price D A c U kn KS cs m) (h5 : n ≤ 5) {p : Nat} (hp : p < n) (r : Int) (hr : ¬ u_hs (w : Int) (h : Int) r = 0) (h2 : ¬ A (p + 18) = r) : ∃ m1, z_R 195 (m, 0, [(2, 251), (0, (p : Int)), (0, r), (9, 0)], []) = some (m1, some (0, u_was (A (p + 18)))) ∧ R_is w h n heat price D (u_up A (p + 18) r) (c_inc c) (u_cons A U) kn KS cs m1 := by
  have hu := R_upn (p0 := 251) (k0 := 11) (v := 0) hi (by decide)
  rw [t_mv_0]
  generalize z_up m 251 11 0 = m0 at hu ⊢
  obtain ⟨m1, a1, a2, -⟩ := R_rem hu (a := 252) (Or.inl rfl)
  rw [hu.2.2.1] at a2
  have a1 : z_R 197 (m0, 0, [(2, 251), (2, 252), (9, 0)], []) = some (m1, none) := a1
  obtain ⟨m2, b1, b2⟩ := R_gmv a2 h5 hp r
  rw [R_rmv hu h5 hp r hr, zb_v, if_neg h2, t_mv_11, if_pos (by decide), a1, zb_n, t_mv_26, b1, zb_v, t_mv_32]
  exact ⟨m2, rfl, b2⟩
/-! stove -/
theorem C_sta (hi : C_is w h n heat price D A c U kn KS cs m) (r : Int) : z_R 63 (m, 0, [(2, 0), (0, r)], []) = some (m, some (0, if r = -1 ∨ ¬ u_hs (w : Int) (h : Int) r = 0 then (if A 34 = r then -2 else u_was (A 34)) else -1)) := by
  obtain ⟨e8, e9, -⟩ := hi.1
  have e34 : m 12 6 = A 34 := by rw [← hi.2.2.1]; exact cS_stovev.symm
  have hx : (if A 34 = r then some (m, some (0, (-2 : Int))) else if A 34 = -1 then some (m, some (0, 9)) else some (m, some (0, A 34)) : Option z_Q) = some (m, some (0, if A 34 = r then -2 else u_was (A 34))) := by
    unfold u_was
    by_cases c1 : A 34 = r
    · rw [if_pos c1, if_pos c1]
    rw [if_neg c1, if_neg c1]
    by_cases c2 : A 34 = -1
    · rw [if_pos c2, if_pos c2]
    · rw [if_neg c2, if_neg c2]
  rw [s_sta_0, e8, e9, e34, hx]
  by_cases c1 : r = -1
  · rw [if_pos c1, if_pos (Or.inl c1)]
  rw [if_neg c1]
  by_cases c2 : u_hs (w : Int) (h : Int) r = 0
  · rw [if_neg (not_not_intro c2), if_neg (fun z => z.elim c1 (fun z => z c2))]
  · rw [if_pos c2, if_pos (Or.inr c2)]
theorem C_stove_no (hi : C_is w h n heat price D A c U kn KS cs m) (r x : Int) (hx : (if r = -1 ∨ ¬ u_hs (w : Int) (h : Int) r = 0 then (if A 34 = r then -2 else u_was (A 34)) else -1) = x) (h0 : x < 0) : z_R 62 (m, 0, [(2, 0), (0, r), (9, 0)], []) = some (m, some (0, x)) := by
  rw [s_stv_0, C_sta hi, hx, zb_v, s_stv_5, if_pos h0]
theorem C_stove (hi : C_is w h n heat price D A c U kn KS cs m) (r x : Int) (hx : (if r = -1 ∨ ¬ u_hs (w : Int) (h : Int) r = 0 then (if A 34 = r then -2 else u_was (A 34)) else -1) = x) (h0 : ¬ x < 0) : ∃ m1, z_R 62 (m, 0, [(2, 0), (0, r), (9, 0)], []) = some (m1, some (0, x)) ∧ C_is w h n heat price D (u_up A 34 r) (c_inc c) (u_cons A U) kn KS cs m1 := by
  obtain ⟨m1, a1, a2, -⟩ := C_rem hi (s := 12) (Or.inl rfl)
  rw [hi.2.2.1] at a2
  have a1 : z_R 60 (m, 0, [(2, 28), (2, 12)], []) = some (m1, none) := a1
  rw [s_stv_0, C_sta hi, hx, zb_v, s_stv_5, if_neg h0, a1, zb_n, s_stv_21]
  refine ⟨_, rfl, C_mkA a2 (fun q k _ h1 => zu_p (by omega)) ?_⟩
  have e := cS_stove (m := m1) (s := 12) (v := r) (n := (n : Int))
  rw [a2.2.2.1] at e
  exact e
theorem R_rst (hi : R_is w h n heat price D A c U kn KS cs m) (r : Int) : z_R 202 (m, 0, [(2, 251), (0, r)], []) = some (m, some (0, if r = -1 ∨ ¬ u_hs (w : Int) (h : Int) r = 0 then (if A 34 = r then -2 else 0) else -1)) := by
  obtain ⟨e1, e2, -⟩ := hi.1
  have hx : (if A 34 = r then some (m, some (0, (-2 : Int))) else some (m, some (0, 0)) : Option z_Q) = some (m, some (0, if A 34 = r then -2 else 0)) := by
    by_cases c1 : A 34 = r
    · rw [if_pos c1, if_pos c1]
    · rw [if_neg c1, if_neg c1]
  rw [t_rst_0, e1, e2, R_A hi (k := 34) (by decide) (a_vis_hi (by decide)), hx]
  by_cases c1 : r = -1
  · rw [if_pos c1, if_pos (Or.inl c1)]
  rw [if_neg c1]
  by_cases c2 : u_hs (w : Int) (h : Int) r = 0
  · rw [if_neg (not_not_intro c2), if_neg (fun z => z.elim c1 (fun z => z c2))]
  · rw [if_pos c2, if_pos (Or.inr c2)]
theorem R_gst (hi : R_is w h n heat price D A c U kn KS cs m) (r : Int) : ∃ m1, z_R 203 (m, 0, [(2, 251), (0, r), (9, 0)], []) = some (m1, some (0, u_was (A 34))) ∧ R_is w h n heat price D (u_up A 34 r) c U kn KS cs m1 := by
  have hm : R_is w h n heat price D (u_up A 34 r) c U kn KS cs (z_up m 252 34 r) := R_mkA hi (fun q k _ h1 => zu_p h1) (by rw [rS_up (by decide) (a_vis_hi (by decide)), hi.2.2.1])
  refine ⟨_, ?_, hm⟩
  rw [t_gst_0, R_A hi (k := 34) (by decide) (a_vis_hi (by decide))]
  unfold u_was
  by_cases c2 : A 34 = -1
  · rw [if_pos c2, if_pos c2]
  · rw [if_neg c2, if_neg c2]
theorem R_stove_no (hi : R_is w h n heat price D A c U kn KS cs m) (r x : Int) (hx : (if r = -1 ∨ ¬ u_hs (w : Int) (h : Int) r = 0 then (if A 34 = r then -2 else u_was (A 34)) else -1) = x) (h0 : x < 0) (hb : -1 ≤ A 34) : ∃ m1, z_R 201 (m, 0, [(2, 251), (0, r), (9, 0)], []) = some (m1, some (0, x)) ∧ R_is w h n heat price D A c U kn KS cs m1 := by
  have hu := R_upn (p0 := 251) (k0 := 11) (v := 0) hi (by decide)
  rw [t_stv_0]
  generalize z_up m 251 11 0 = m0 at hu ⊢
  have e : (if r = -1 ∨ ¬ u_hs (w : Int) (h : Int) r = 0 then (if A 34 = r then -2 else 0) else -1) = x := by
    rw [← hx]
    by_cases c1 : r = -1 ∨ ¬ u_hs (w : Int) (h : Int) r = 0
    · rw [if_pos c1] at hx ⊢
      rw [if_pos c1]
      by_cases c2 : A 34 = r
      · rw [if_pos c2, if_pos c2]
      · rw [if_neg c2] at hx
        have := u_was_nn hb
        omega
    · rw [if_neg c1, if_neg c1]
  rw [R_rst hu, e, zb_v, t_stv_10, if_neg (by omega)]
  exact ⟨m0, rfl, hu⟩
theorem R_stove (hi : R_is w h n heat price D A c U kn KS cs m) (r x : Int) (hx : (if r = -1 ∨ ¬ u_hs (w : Int) (h : Int) r = 0 then (if A 34 = r then -2 else u_was (A 34)) else -1) = x) (h0 : ¬ x < 0) : ∃ m1, z_R 201 (m, 0, [(2, 251), (0, r), (9, 0)], []) = some (m1, some (0, x)) ∧ R_is w h n heat price D (u_up A 34 r) (c_inc c) (u_cons A U) kn KS cs m1 := by
  have hu := R_upn (p0 := 251) (k0 := 11) (v := 0) hi (by decide)
  rw [t_stv_0]
  generalize z_up m 251 11 0 = m0 at hu ⊢
  obtain ⟨m1, a1, a2, -⟩ := R_rem hu (a := 252) (Or.inl rfl)
  rw [hu.2.2.1] at a2
  have a1 : z_R 197 (m0, 0, [(2, 251), (2, 252), (9, 0)], []) = some (m1, none) := a1
  obtain ⟨m2, b1, b2⟩ := R_gst a2 r
  have e : (if r = -1 ∨ ¬ u_hs (w : Int) (h : Int) r = 0 then (if A 34 = r then -2 else 0) else -1) = 0 ∧ u_was (A 34) = x := by
    by_cases c1 : r = -1 ∨ ¬ u_hs (w : Int) (h : Int) r = 0
    · rw [if_pos c1] at hx ⊢
      by_cases c2 : A 34 = r
      · rw [if_pos c2] at hx
        omega
      · rw [if_neg c2] at hx ⊢
        exact ⟨rfl, hx⟩
    · rw [if_neg c1] at hx
      omega
  rw [R_rst hu, e.1, zb_v, t_stv_10, if_pos (by decide), a1, zb_n, t_stv_25, b1, zb_v, t_stv_30, e.2]
  exact ⟨m2, rfl, b2⟩
/-! pay -/
theorem C_A4 (hi : C_is w h n heat price D A c U kn KS cs m) {p : Nat} (hp : p < n) (h5 : n ≤ 5) : m 16 p = A (p + 23) := by
  rw [← hi.2.2.1]
  exact (cS_at4 (s := 12) (j := p) (by omega) (by omega)).symm
theorem C_pay_no (hi : C_is w h n heat price D A c U kn KS cs m) (h5 : n ≤ 5) (p v : Int) (ok : ¬ ((0 ≤ p ∧ p < (n : Int)) ∧ (1 ≤ v ∧ v ≤ 9999) ∧ v ≤ A (p.toNat + 23))) : z_R 81 (m, 0, [(2, 0), (0, p), (0, v)], []) = some (m, some (0, -1)) := by
  have e11 := hi.1.2.2.1
  rw [s_pay_0 m p v (by omega), e11]
  by_cases h1 : 0 ≤ p ∧ p < (n : Int)
  · rw [if_pos h1]
    by_cases h2 : v < 1
    · rw [if_pos h2]
    rw [if_neg h2]
    by_cases h3 : 9999 < v
    · rw [if_pos h3]
    rw [if_neg h3, C_A4 hi (p := p.toNat) (by omega) h5, if_neg (fun z => ok ⟨h1, ⟨by omega, by omega⟩, z⟩)]
  · rw [if_neg h1]
theorem C_pay (hi : C_is w h n heat price D A c U kn KS cs m) (h5 : n ≤ 5) {p : Nat} (hp : p < n) (v : Int) (h1 : 1 ≤ v ∧ v ≤ 9999) (h2 : v ≤ A (p + 23)) : ∃ m1, z_R 81 (m, 0, [(2, 0), (0, (p : Int)), (0, v)], []) = some (m1, some (0, z_sub (A (p + 23)) v)) ∧ C_is w h n heat price D (u_up A (p + 23) (z_sub (A (p + 23)) v)) (c_inc c) (u_cons A U) kn KS cs m1 := by
  obtain ⟨m1, a1, a2, -⟩ := C_rem hi (s := 12) (Or.inl rfl)
  rw [hi.2.2.1] at a2
  have a1 : z_R 60 (m, 0, [(2, 28), (2, 12)], []) = some (m1, none) := a1
  have e11 := hi.1.2.2.1
  rw [s_pay_0 m p v (by omega), e11, if_pos (by omega), if_neg (by omega), if_neg (by omega), Int.toNat_natCast, C_A4 hi hp h5, if_pos h2, a1, zb_n, s_pay_49, if_pos (by omega), Int.toNat_natCast, C_A4 a2 hp h5]
  refine ⟨_, rfl, C_mkA a2 (fun q k _ h1 => zu_p (by omega)) ?_⟩
  have e := cS_up4 (m := m1) (s := 12) (j := p) (v := z_sub (A (p + 23)) v) (n := (n : Int)) (by omega) (by omega)
  rw [a2.2.2.1] at e
  exact e
theorem R_pay_no (hi : R_is w h n heat price D A c U kn KS cs m) (h5 : n ≤ 5) (p v : Int) (ok : ¬ ((0 ≤ p ∧ p < (n : Int)) ∧ (1 ≤ v ∧ v ≤ 9999) ∧ v ≤ A (p.toNat + 23))) : ∃ m1, z_R 211 (m, 0, [(2, 251), (0, p), (0, v)], []) = some (m1, some (0, -1)) ∧ R_is w h n heat price D A c U kn KS cs m1 := by
  have e3 := hi.1.2.2.1
  refine ⟨z_up m 251 11 0, ?_, R_upn hi (by decide)⟩
  rw [t_pay_0 m p v (by omega), e3]
  by_cases h1 : 0 ≤ p ∧ p < (n : Int)
  · rw [if_pos h1]
    by_cases h2 : 1 ≤ v ∧ v ≤ 9999
    · rw [if_pos h2, show (p + 23).toNat = p.toNat + 23 by omega, R_A hi (k := p.toNat + 23) (by omega) (a_vis_p (b := 23) (p := p.toNat) (by omega) (by omega) (by omega) (by omega)), if_neg (fun z => ok ⟨h1, h2, z⟩)]
    · rw [if_neg h2]
  · rw [if_neg h1]
theorem R_pay (hi : R_is w h n heat price D A c U kn KS cs m) (h5 : n ≤ 5) {p : Nat} (hp : p < n) (v : Int) (h1 : 1 ≤ v ∧ v ≤ 9999) (h2 : v ≤ A (p + 23)) : ∃ m1, z_R 211 (m, 0, [(2, 251), (0, (p : Int)), (0, v)], []) = some (m1, some (0, z_sub (A (p + 23)) v)) ∧ R_is w h n heat price D (u_up A (p + 23) (z_sub (A (p + 23)) v)) (c_inc c) (u_cons A U) kn KS cs m1 := by
  have hu := R_upn (p0 := 251) (k0 := 11) (v := 0) hi (by decide)
  have e3 := hi.1.2.2.1
  have hv : a_vis (n : Int) (p + 23) = true := a_vis_p (b := 23) (p := p) (by omega) (by omega) (by omega) (by omega)
  rw [t_pay_0 m p v (by omega), e3, if_pos (by omega), if_pos h1, tn23, R_A hi (k := p + 23) (by omega) hv, if_pos h2]
  generalize z_up m 251 11 0 = m0 at hu ⊢
  obtain ⟨m1, a1, a2, -⟩ := R_rem hu (a := 252) (Or.inl rfl)
  rw [hu.2.2.1] at a2
  have a1 : z_R 197 (m0, 0, [(2, 251), (2, 252), (9, 0)], []) = some (m1, none) := a1
  have ea : z_add 23 (p : Int) = ((p + 23 : Nat) : Int) := by rw [z_add_eq (by omega) (by omega)]; omega
  rw [a1, zb_n, t_pay_47, ea, if_pos (by omega), Int.toNat_natCast, R_A a2 (k := p + 23) (by omega) hv]
  refine ⟨_, rfl, R_mkA a2 (fun q k _ h1 => zu_p h1) ?_⟩
  rw [rS_up (by omega) hv, a2.2.2.1]
/-! undo -/
theorem C_undo_no (hi : C_is w h n heat price D A c U kn KS cs m) (h0 : c = 0) : z_R 87 (m, 0, [(2, 0)], []) = some (m, some (0, -1)) := by
  obtain ⟨u1, u2, u3, u4⟩ := hi.2.2.2.1
  rw [s_undo_0, s_gob_0 m u1 (by omega), if_pos (by omega), zb_v, s_undo_11, if_pos rfl]
theorem C_undo (hi : C_is w h n heat price D A c U kn KS cs m) {j : Nat} (h0 : c = j + 1) : ∃ m1, z_R 87 (m, 0, [(2, 0)], []) = some (m1, some (0, (j : Int))) ∧ C_is w h n heat price D (U 0) j (fun i => U (i + 1)) kn KS cs m1 := by
  obtain ⟨u1, u2, u3, u4⟩ := hi.2.2.2.1
  have hX : ((m 28 3 + 11) % 12).toNat < 12 := by omega
  rw [s_undo_0, s_gob_0 m u1 (by omega), if_neg (by omega), ga29 hX, u2, show (c : Int) - 1 = (j : Int) by omega]
  have k3 : (z_up (z_up m 28 3 ((m 28 3 + 11) % 12)) 28 4 (j : Int)) 28 3 = (m 28 3 + 11) % 12 := by rw [zu_k (by decide), zu_self]
  have k4 : (z_up (z_up m 28 3 ((m 28 3 + 11) % 12)) 28 4 (j : Int)) 28 4 = (j : Int) := zu_self
  have kp : ∀ p k, ¬ p = 28 → (z_up (z_up m 28 3 ((m 28 3 + 11) % 12)) 28 4 (j : Int)) p k = m p k := fun p k hp => by rw [zu_p hp, zu_p hp]
  generalize z_up (z_up m 28 3 ((m 28 3 + 11) % 12)) 28 4 (j : Int) = m0 at k3 k4 kp ⊢
  have u0 := u4 0 (by omega)
  rw [show ((m 28 3).toNat + 11 - 0) % 12 = ((m 28 3 + 11) % 12).toNat by omega] at u0
  generalize hXX : ((m 28 3 + 11) % 12).toNat = X at hX u0 ⊢
  obtain ⟨m1, a1, a2, a3⟩ := c_become (z_st_done hX) z_st_12 (by omega) m0
  have a1 : z_R 61 (m0, 0, [(2, 12), (2, ((32 + 6 * X : Nat) : Int))], []) = some (m1, none) := a1
  have hfar : ∀ p k, ¬ (12 ≤ p ∧ p ≤ 17) → m1 p k = m0 p k := fun p k hp => a3.of (by
    unfold c_LB
    (repeat' (first | exact trivial | refine z_of_c ?_ ?_)) <;> omega)
  rw [a1, zb_n, s_gob_48, zb_v, s_undo_11, if_neg (by decide), hfar 28 4 (by decide), k4]
  refine ⟨m1, rfl, C_mk hi (fun p k _ h1 h2 h3 => (hfar p k h1).trans (kp p k h2)) ?_ ⟨?_, ?_, by omega, fun i hi => ?_⟩⟩
  · rw [cS_cR a2, cS_fr (fun i k hi _ => kp _ k (by omega))]
    exact u0
  · rw [hfar 28 3 (by decide), k3]; omega
  · rw [hfar 28 4 (by decide), k4]
  · rw [hfar 28 3 (by decide), k3, cS_fr (fun i k hi _ => (hfar _ k (by omega)).trans (kp _ k (by omega))), show (((m 28 3 + 11) % 12).toNat + 11 - i) % 12 = ((m 28 3).toNat + 11 - (i + 1)) % 12 by omega]
    exact u4 (i + 1) (by omega)
theorem R_undo_no (hi : R_is w h n heat price D A c U kn KS cs m) (h0 : c = 0) : ∃ m1, z_R 216 (m, 0, [(2, 251), (9, 0)], []) = some (m1, some (0, -1)) ∧ R_is w h n heat price D A c U kn KS cs m1 := by
  obtain ⟨u1, u2, u3⟩ := hi.2.2.2.1
  rw [t_undo_0 m (by omega), if_pos (by omega)]
  exact ⟨_, rfl, R_upn hi (by decide)⟩
theorem t_und {j : Nat} (hj : j ≤ 11) : ∀ (f x : Nat) (m : z_M), x + f = 37 → m 251 25 = (j : Int) → ∃ m', z_R 216 (m, 26, [(2, 251), (0, (x : Int))], []) = some (m', some (0, (j : Int))) ∧ (∀ k, x ≤ k → k < 37 → m' 252 k = m 260 (37 * j + k)) ∧ ∀ p k, ¬ (p = 252 ∧ x ≤ k ∧ k < 37) → m' p k = m p k := by
  intro f
  induction f with
  | zero =>
    intro x m hx hm
    rw [t_undo_26 m x (by omega) (by omega), if_pos (by omega), hm]
    exact ⟨m, rfl, fun k h1 h2 => by omega, fun _ _ _ => rfl⟩
  | succ f ih =>
    intro x m hx hm
    rw [t_undo_26 m x (by omega) (by omega), if_neg (by omega), hm, if_pos (by omega), Int.toNat_natCast, tc1, show (37 * (j : Int) + (x : Int)).toNat = 37 * j + x by omega]
    obtain ⟨m', a1, a2, a3⟩ := ih (x + 1) (z_up m 252 x (m 260 (37 * j + x))) (by omega) ((zu_p (by decide)).trans hm)
    refine ⟨m', a1, fun k h1 h2 => ?_, fun p k hn => ?_⟩
    · by_cases hk : k = x
      · rw [hk, a3 252 x (by omega), zu_self]
      · rw [a2 k (by omega) h2, zu_p (by decide)]
    · rw [a3 p k (by omega), X_up (by omega)]
theorem R_undo (hi : R_is w h n heat price D A c U kn KS cs m) {j : Nat} (h0 : c = j + 1) : ∃ m1, z_R 216 (m, 0, [(2, 251), (9, 0)], []) = some (m1, some (0, (j : Int))) ∧ R_is w h n heat price D (U 0) j (fun i => U (i + 1)) kn KS cs m1 := by
  obtain ⟨u1, u2, u3⟩ := hi.2.2.2.1
  rw [t_undo_0 m (by omega), if_neg (by omega), u1, show (c : Int) - 1 = (j : Int) by omega]
  have k25 : (z_up (z_up m 251 11 0) 251 25 (j : Int)) 251 25 = (j : Int) := zu_self
  have kp : ∀ p k, ¬ (p = 251 ∧ (k = 11 ∨ k = 25)) → (z_up (z_up m 251 11 0) 251 25 (j : Int)) p k = m p k := fun p k hp => by rw [X_up (by omega), X_up (by omega)]
  generalize z_up (z_up m 251 11 0) 251 25 (j : Int) = m0 at k25 kp ⊢
  obtain ⟨m1, a1, a2, a3⟩ := t_und (j := j) (by omega) 37 0 m0 (by decide) k25
  have a1 : z_R 216 (m0, 26, [(2, 251), (0, 0)], []) = some (m1, some (0, (j : Int))) := a1
  refine ⟨m1, a1, R_mk hi (fun p k hk h1 h2 h3 => (a3 p k (fun z => h1 z.1)).trans (kp p k (fun z => ?_))) ?_ ⟨(a3 251 25 (by decide)).trans k25, by omega, fun i hi => ?_⟩⟩
  · rcases z.2 with z2 | z2
    · rw [z.1, z2] at hk
      exact absurd hk (by decide)
    · exact h3 ⟨z.1, z2⟩
  · rw [rS_is (p := 260) (j := j) (m := m) (fun k hk => (a2 k (Nat.zero_le _) hk).trans (kp 260 _ (by omega)))]
    have := u3 0 (by omega)
    rw [show c - 1 - 0 = j by omega] at this
    exact this
  · rw [uR_row (m := m) (fun k _ => (a3 260 _ (by omega)).trans (kp 260 _ (by omega)))]
    have := u3 (i + 1) (by omega)
    rw [show c - 1 - (i + 1) = j - 1 - i by omega] at this
    exact this
end
