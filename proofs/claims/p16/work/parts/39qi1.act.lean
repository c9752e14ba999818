section
/-! WHAT CHANGES THE STATE: set, doing, move, stove, pay, undo; each of both, by what they are in -/
def u_cons (A : Nat → Int) (U : Nat → Nat → Int) : Nat → Nat → Int
  | 0 => A
  | j + 1 => U j
def c_inc (c : Nat) : Nat := if c = 12 then 12 else c + 1
section
variable {w h n : Nat} {heat price : Int} {D A : Nat → Int} {c : Nat} {U : Nat → Nat → Int} {kn : Nat → Int} {KS : Nat → Nat → Int} {cs : List Int} {m : z_M}
theorem C_rem (hi : C_is w h n heat price D A c U kn KS cs m) {s : Nat} (hs : s = 12 ∨ s = 18) : ∃ m1, z_R 60 (m, 0, [(2, 28), (2, (s : Int))], []) = some (m1, none) ∧ C_is w h n heat price D A (c_inc c) (u_cons (cS m s n) U) kn KS cs m1 ∧ z_same ((28, 3, 4) :: c_LB (32 + 6 * (m 28 3).toNat)) m m1 := by
  obtain ⟨u1, u2, u3, u4⟩ := hi.2.2.2.1
  obtain ⟨m1, a1, a2, a3, a4, a5⟩ := c_rem (n := (n : Int)) m hs u1 (by omega)
  refine ⟨m1, a1, ?_, a5⟩
  generalize hX : (m 28 3).toNat = X at u4 a4 a5
  have hX12 : X < 12 := by omega
  have hfar : ∀ p k, (¬ p = 28 ∧ ¬ (32 + 6 * X ≤ p ∧ p ≤ 32 + 6 * X + 5)) → m1 p k = m p k := fun p k hp => a5.of (by
    unfold c_LB
    (repeat' (first | exact trivial | refine z_of_c ?_ ?_)) <;> omega)
  refine C_mk hi (fun p k _ h1 h2 h3 => hfar p k (by omega)) ?_ ⟨by omega, ?_, ?_, fun i hc => ?_⟩
  · rw [cS_fr (fun j k hj _ => hfar _ k (by omega))]
    exact hi.2.2.1
  · rw [a3, u2]
    unfold c_inc
    by_cases z : c = 12
    · rw [if_pos (by omega), if_pos z]; rfl
    · rw [if_neg (by omega), if_neg z]; omega
  · unfold c_inc
    split <;> omega
  · have hc12 : i < 12 := by
      unfold c_inc at hc
      split at hc <;> omega
    rw [a2, show ((m 28 3 + 1) % 12).toNat = (X + 1) % 12 by omega]
    cases i with
    | zero =>
      rw [show ((X + 1) % 12 + 11 - 0) % 12 = X by omega]
      exact a4
    | succ j =>
      have hj : j < c := by
        unfold c_inc at hc
        split at hc <;> omega
      rw [show ((X + 1) % 12 + 11 - (j + 1)) % 12 = (X + 11 - j) % 12 by omega, cS_fr (fun i k hi _ => hfar _ k (by omega))]
      exact u4 j hj
theorem R_rem (hi : R_is w h n heat price D A c U kn KS cs m) {a : Nat} (ha : a = 252 ∨ a = 261) : ∃ m1, z_R 197 (m, 0, [(2, 251), (2, (a : Int)), (9, 0)], []) = some (m1, none) ∧ R_is w h n heat price D A (c_inc c) (u_cons (rS m a n) U) kn KS cs m1 ∧ z_same [(251, 25, 25), (260, 0, 443)] m m1 := by
  obtain ⟨u1, u2, u3⟩ := hi.2.2.2.1
  obtain ⟨m1, a1, a2, a3, a4, a5⟩ := r_rem (n := (n : Int)) m ha (by omega)
  refine ⟨m1, a1, ?_, a5⟩
  have e25 : m1 251 25 = ((c_inc c : Nat) : Int) := by
    rw [a2, u1]
    unfold c_inc
    by_cases z : c = 12
    · rw [if_pos (by omega), if_pos z]; rfl
    · rw [if_neg (by omega), if_neg z]; omega
  have hci : c_inc c ≤ 12 ∧ (c = 12 → c_inc c = 12) ∧ (¬ c = 12 → c_inc c = c + 1) := by
    unfold c_inc
    by_cases z : c = 12
    · rw [if_pos z]; omega
    · rw [if_neg z]; omega
  generalize c_inc c = c' at e25 hci ⊢
  rw [e25, Int.toNat_natCast] at a3
  refine R_mk hi (fun p k _ h1 h2 h3 => a5.of (by
    (repeat' (first | exact trivial | refine z_of_c ?_ ?_)) <;> omega)) ?_ ⟨e25, hci.1, fun i hc => ?_⟩
  · rw [rS_row (a5.ofr (by (try unfold c_LB); (repeat' (first | exact trivial | refine z_ofr_c ?_ ?_)) <;> omega))]
    exact hi.2.2.1
  · cases i with
    | zero => rw [Nat.sub_zero]; exact a3
    | succ j =>
      rw [a4 (c' - 1 - (j + 1)) (by rw [e25]; omega), u1]
      by_cases z : c = 12
      · rw [if_pos (by omega), show c' - 1 - (j + 1) + 1 = c - 1 - j by omega]
        exact u3 j (by omega)
      · rw [if_neg (by omega), show c' - 1 - (j + 1) = c - 1 - j by omega]
        exact u3 j (by omega)
/-! set -/
theorem C_set_no (a v : Int) (ok : ¬ ((0 ≤ a ∧ a ≤ 2) ∧ 0 ≤ v ∧ v ≤ 9)) : z_R 53 (m, 0, [(2, 0), (0, a), (0, v), (9, 0)], []) = some (m, some (0, -1)) := by
  rw [s_set_0]
  by_cases h1 : a < 0
  · rw [if_pos h1]
  rw [if_neg h1]
  by_cases h2 : 2 < a
  · rw [if_pos h2]
  rw [if_neg h2]
  by_cases h3 : v < 0
  · rw [if_pos h3]
  rw [if_neg h3, if_neg (by omega)]
theorem C_set0 (hi : C_is w h n heat price D A c U kn KS cs m) (v : Int) (ok : 0 ≤ v ∧ v ≤ 9) : ∃ m1, z_R 53 (m, 0, [(2, 0), (0, 0), (0, v), (9, 0)], []) = some (m1, some (0, heat)) ∧ C_is w h n v price D A c U kn KS cs m1 := by
  rw [s_set_0, if_neg (by decide), if_neg (by decide), if_neg (by omega), if_pos (by omega), if_pos rfl, hi.1.2.2.2.1]
  refine ⟨_, rfl, C_mk0 hi (fun k _ _ => zu_k (by omega)) zu_self ((zu_k (by decide)).trans hi.1.2.2.2.2.1) (fun j hj => (zu_p (by decide)).trans (hi.2.1 j hj)) (fun p k _ h1 _ _ _ _ => zu_p h1) ?_ (c_un_fr hi.2.2.2.1 (fun p k hp => zu_p (by omega)))⟩
  rw [cS_off (by omega)]
  exact hi.2.2.1
theorem C_set2 (hi : C_is w h n heat price D A c U kn KS cs m) (v : Int) (ok : 0 ≤ v ∧ v ≤ 9) : ∃ m1, z_R 53 (m, 0, [(2, 0), (0, 2), (0, v), (9, 0)], []) = some (m1, some (0, price)) ∧ C_is w h n heat v D A c U kn KS cs m1 := by
  rw [s_set_0, if_neg (by decide), if_neg (by decide), if_neg (by omega), if_pos (by omega), if_neg (by decide), if_neg (by decide), hi.1.2.2.2.2.1]
  refine ⟨_, rfl, C_mk0 hi (fun k _ _ => zu_k (by omega)) ((zu_k (by decide)).trans hi.1.2.2.2.1) zu_self (fun j hj => (zu_p (by decide)).trans (hi.2.1 j hj)) (fun p k _ h1 _ _ _ _ => zu_p h1) ?_ (c_un_fr hi.2.2.2.1 (fun p k hp => zu_p (by omega)))⟩
  rw [cS_off (by omega)]
  exact hi.2.2.1
theorem C_set1 (hi : C_is w h n heat price D A c U kn KS cs m) (v : Int) (ok : 0 ≤ v ∧ v ≤ 9) : ∃ m1, z_R 53 (m, 0, [(2, 0), (0, 1), (0, v), (9, 0)], []) = some (m1, some (0, A 36)) ∧ C_is w h n heat price D (u_up A 36 v) c U kn KS cs m1 := by
  rw [s_set_0, if_neg (by decide), if_neg (by decide), if_neg (by omega), if_pos (by omega), if_neg (by decide), if_pos rfl, ← hi.2.2.1, cS_frostv]
  refine ⟨_, rfl, ?_⟩
  have e := cS_frost (m := m) (s := 12) (v := v) (n := (n : Int))
  exact C_mkA hi (fun p k _ h1 => zu_p (by omega)) e
theorem R_set_no (hi : R_is w h n heat price D A c U kn KS cs m) (a v : Int) (ok : ¬ ((0 ≤ a ∧ a ≤ 2) ∧ 0 ≤ v ∧ v ≤ 9)) : ∃ m1, z_R 192 (m, 0, [(2, 251), (0, a), (0, v), (9, 0)], []) = some (m1, some (0, -1)) ∧ R_is w h n heat price D A c U kn KS cs m1 := by
  refine ⟨z_up m 251 11 0, ?_, R_upn hi (by decide)⟩
  rw [t_set_0]
  by_cases h1 : 0 ≤ a ∧ a ≤ 2
  · rw [if_pos h1, if_neg (fun z => ok ⟨h1, z⟩)]
  · rw [if_neg h1]
theorem R_set0 (hi : R_is w h n heat price D A c U kn KS cs m) (v : Int) (ok : 0 ≤ v ∧ v ≤ 9) : ∃ m1, z_R 192 (m, 0, [(2, 251), (0, 0), (0, v), (9, 0)], []) = some (m1, some (0, heat)) ∧ R_is w h n v price D A c U kn KS cs m1 := by
  have hu := R_upn (p0 := 251) (k0 := 11) (v := 0) hi (by decide)
  rw [t_set_0, if_pos (by decide), if_pos ok, if_pos rfl, hi.1.2.2.2.1]
  generalize z_up m 251 11 0 = m0 at hu ⊢
  refine ⟨_, rfl, R_mk0 hu zu_self ((zu_k (by decide)).trans hu.1.2.2.2.2.1) (fun j hj => (zu_p (by decide)).trans (hu.2.1 j hj)) (fun p k _ _ _ _ h1 => X_up (by omega)) ?_ (r_un_fr hu.2.2.2.1 (fun p k hp => X_up (by omega)))⟩
  rw [rS_row (zu_rowne (by decide))]
  exact hu.2.2.1
theorem R_set2 (hi : R_is w h n heat price D A c U kn KS cs m) (v : Int) (ok : 0 ≤ v ∧ v ≤ 9) : ∃ m1, z_R 192 (m, 0, [(2, 251), (0, 2), (0, v), (9, 0)], []) = some (m1, some (0, price)) ∧ R_is w h n heat v D A c U kn KS cs m1 := by
  have hu := R_upn (p0 := 251) (k0 := 11) (v := 0) hi (by decide)
  rw [t_set_0, if_pos (by decide), if_pos ok, if_neg (by decide), if_neg (by decide), hi.1.2.2.2.2.1]
  generalize z_up m 251 11 0 = m0 at hu ⊢
  refine ⟨_, rfl, R_mk0 hu ((zu_k (by decide)).trans hu.1.2.2.2.1) zu_self (fun j hj => (zu_p (by decide)).trans (hu.2.1 j hj)) (fun p k _ _ _ _ h1 => X_up (by omega)) ?_ (r_un_fr hu.2.2.2.1 (fun p k hp => X_up (by omega)))⟩
  rw [rS_row (zu_rowne (by decide))]
  exact hu.2.2.1
theorem R_A (hi : R_is w h n heat price D A c U kn KS cs m) {k : Nat} (h1 : k < 37) (h2 : a_vis n k = true) : m 252 k = A k := by
  rw [← hi.2.2.1]
  exact (rS_at h1 h2).symm
theorem R_set1 (hi : R_is w h n heat price D A c U kn KS cs m) (v : Int) (ok : 0 ≤ v ∧ v ≤ 9) : ∃ m1, z_R 192 (m, 0, [(2, 251), (0, 1), (0, v), (9, 0)], []) = some (m1, some (0, A 36)) ∧ R_is w h n heat price D (u_up A 36 v) c U kn KS cs m1 := by
  have hu := R_upn (p0 := 251) (k0 := 11) (v := 0) hi (by decide)
  rw [t_set_0, if_pos (by decide), if_pos ok, if_neg (by decide), if_pos rfl, R_A hi (k := 36) (by decide) (a_vis_hi (by decide))]
  generalize z_up m 251 11 0 = m0 at hu ⊢
  refine ⟨_, rfl, R_mkA hu (fun p k _ h1 => zu_p h1) ?_⟩
  rw [rS_up (by decide) (a_vis_hi (by decide)), hu.2.2.1]
/-! doing -/
theorem C_doing_no (hi : C_is w h n heat price D A c U kn KS cs m) (h5 : n ≤ 5) (p k v : Int) (ok : ¬ ((0 ≤ p ∧ p < (n : Int)) ∧ (0 ≤ k ∧ k ≤ 5) ∧ 0 ≤ v ∧ v ≤ 9)) : z_R 54 (m, 0, [(2, 0), (0, p), (0, k), (0, v), (9, 0)], []) = some (m, some (0, -1)) := by
  have e11 := hi.1.2.2.1
  rw [s_doing_0 m p k v (by omega), e11]
  by_cases h1 : 0 ≤ p ∧ p < (n : Int)
  · rw [if_pos h1]
    by_cases h2 : k < 0
    · rw [if_pos h2]
    rw [if_neg h2]
    by_cases h3 : 6 ≤ k
    · rw [if_pos h3]
    rw [if_neg h3]
    by_cases h4 : v < 0
    · rw [if_pos h4]
    rw [if_neg h4, if_neg (by omega)]
  · rw [if_neg h1]
theorem C_doing (hi : C_is w h n heat price D A c U kn KS cs m) (h5 : n ≤ 5) (p k v : Int) (h1 : 0 ≤ p ∧ p < (n : Int)) (h2 : 0 ≤ k ∧ k ≤ 5) (h3 : 0 ≤ v ∧ v ≤ 9) : ∃ m1, z_R 54 (m, 0, [(2, 0), (0, p), (0, k), (0, v), (9, 0)], []) = some (m1, some (0, D (6 * p + k).toNat)) ∧ C_is w h n heat price (u_up D (6 * p + k).toNat v) A c U kn KS cs m1 := by
  have e11 := hi.1.2.2.1
  rw [s_doing_0 m p k v (by omega), e11, if_pos h1, if_neg (by omega), if_neg (by omega), if_neg (by omega), if_pos (by omega), hi.2.1 (6 * p + k).toNat (by omega)]
  refine ⟨_, rfl, C_mk0 hi (fun k _ _ => zu_p (by decide)) ((zu_p (by decide)).trans hi.1.2.2.2.1) ((zu_p (by decide)).trans hi.1.2.2.2.2.1) (fun j hj => ?_) (fun p k _ _ h1 _ _ _ => zu_p h1) ?_ (c_un_fr hi.2.2.2.1 (fun p k hp => zu_p (by omega)))⟩
  · rw [zu_at]
    unfold u_up
    exact z_ifc (fun _ => rfl) (fun _ => hi.2.1 j hj)
  · rw [cS_off (by omega)]
    exact hi.2.2.1
theorem R_doing_no (hi : R_is w h n heat price D A c U kn KS cs m) (h5 : n ≤ 5) (p k v : Int) (ok : ¬ ((0 ≤ p ∧ p < (n : Int)) ∧ (0 ≤ k ∧ k ≤ 5) ∧ 0 ≤ v ∧ v ≤ 9)) : ∃ m1, z_R 193 (m, 0, [(2, 251), (0, p), (0, k), (0, v), (9, 0)], []) = some (m1, some (0, -1)) ∧ R_is w h n heat price D A c U kn KS cs m1 := by
  have e3 := hi.1.2.2.1
  refine ⟨z_up m 251 11 0, ?_, R_upn hi (by decide)⟩
  rw [t_doing_0 m p k v (by omega), e3]
  by_cases h1 : 0 ≤ p ∧ p < (n : Int)
  · rw [if_pos h1]
    by_cases h2 : 0 ≤ k ∧ k ≤ 5
    · rw [if_pos h2, if_neg (fun z => ok ⟨h1, h2, z⟩)]
    · rw [if_neg h2]
  · rw [if_neg h1]
theorem R_doing (hi : R_is w h n heat price D A c U kn KS cs m) (h5 : n ≤ 5) (p k v : Int) (h1 : 0 ≤ p ∧ p < (n : Int)) (h2 : 0 ≤ k ∧ k ≤ 5) (h3 : 0 ≤ v ∧ v ≤ 9) : ∃ m1, z_R 193 (m, 0, [(2, 251), (0, p), (0, k), (0, v), (9, 0)], []) = some (m1, some (0, D (6 * p + k).toNat)) ∧ R_is w h n heat price (u_up D (6 * p + k).toNat v) A c U kn KS cs m1 := by
  have e3 := hi.1.2.2.1
  have hu := R_upn (p0 := 251) (k0 := 11) (v := 0) hi (by decide)
  rw [t_doing_0 m p k v (by omega), e3, if_pos h1, if_pos h2, if_pos h3, hi.2.1 (6 * p + k).toNat (by omega)]
  generalize z_up m 251 11 0 = m0 at hu ⊢
  refine ⟨_, rfl, R_mk0 hu ((zu_p (by decide)).trans hu.1.2.2.2.1) ((zu_p (by decide)).trans hu.1.2.2.2.2.1) (fun j hj => ?_) (fun p k _ _ h1 _ _ => zu_p h1) ?_ (r_un_fr hu.2.2.2.1 (fun p k hp => zu_p (by omega)))⟩
  · rw [zu_at]
    unfold u_up
    exact z_ifc (fun _ => rfl) (fun _ => hu.2.1 j hj)
  · rw [rS_row (zu_rowne (by decide))]
    exact hu.2.2.1
/-! move -/
/-- what it was: 9 for nowhere -/
def u_was (v : Int) : Int := if v = -1 then 9 else v
theorem C_mva_no (hi : C_is w h n heat price D A c U kn KS cs m) (h5 : n ≤ 5) (p r : Int) (ok : ¬ ((0 ≤ p ∧ p < (n : Int)) ∧ ¬ u_hs (w : Int) (h : Int) r = 0)) : z_R 59 (m, 0, [(2, 0), (0, p), (0, r), (9, 0)], []) = some (m, some (0, -1)) := by
  obtain ⟨e8, e9, e11, -⟩ := hi.1
  rw [s_mva_0 m p r (by omega), e8, e9, e11]
  by_cases h1 : 0 ≤ p ∧ p < (n : Int)
  · rw [if_pos h1, if_neg (fun z => ok ⟨h1, z⟩)]
  · rw [if_neg h1]
theorem C_A3 (hi : C_is w h n heat price D A c U kn KS cs m) {p : Nat} (hp : p < n) (h5 : n ≤ 5) : m 15 p = A (p + 18) := by
  rw [← hi.2.2.1]
  exact (cS_at3 (s := 12) (j := p) (by omega) (by omega)).symm
theorem C_mva (hi : C_is w h n heat price D A c U kn KS cs m) (h5 : n ≤ 5) {p : Nat} (hp : p < n) (r : Int) (hr : ¬ u_hs (w : Int) (h : Int) r = 0) : z_R 59 (m, 0, [(2, 0), (0, (p : Int)), (0, r), (9, 0)], []) = some (m, some (0, if A (p + 18) = r then -2 else u_was (A (p + 18)))) := by
  obtain ⟨e8, e9, e11, -⟩ := hi.1
  rw [s_mva_0 m p r (by omega), e8, e9, e11, if_pos (by omega), if_pos hr, Int.toNat_natCast, C_A3 hi hp h5]
  unfold u_was
  by_cases c1 : A (p + 18) = r
  · rw [if_pos c1, if_pos c1]
  rw [if_neg c1, if_neg c1]
  by_cases c2 : A (p + 18) = -1
  · rw [if_pos c2, if_pos c2]
  · rw [if_neg c2, if_neg c2]
theorem C_move_no (hi : C_is w h n heat price D A c U kn KS cs m) (h5 : n ≤ 5) (p r : Int) (ok : ¬ ((0 ≤ p ∧ p < (n : Int)) ∧ ¬ u_hs (w : Int) (h : Int) r = 0)) : z_R 58 (m, 0, [(2, 0), (0, p), (0, r), (9, 0)], []) = some (m, some (0, -1)) := by
  rw [s_mv_0, C_mva_no hi h5 p r ok, zb_v, s_mv_6, if_pos (by decide)]
theorem C_move_2 (hi : C_is w h n heat price D A c U kn KS cs m) (h5 : n ≤ 5) {p : Nat} (hp : p < n) (r : Int) (hr : ¬ u_hs (w : Int) (h : Int) r = 0) (h2 : A (p + 18) = r) : z_R 58 (m, 0, [(2, 0), (0, (p : Int)), (0, r), (9, 0)], []) = some (m, some (0, -2)) := by
  rw [s_mv_0, C_mva hi h5 hp r hr, zb_v, s_mv_6, if_pos h2, if_pos (by decide)]
theorem u_was_nn {v : Int} (h : -1 ≤ v) : ¬ u_was v < 0 := by
  unfold u_was
  split <;> omega
theorem C_move (hi : C_is w h n heat price D A c U kn KS cs m) (h5 : n ≤ 5) {p : Nat} (hp : p < n) (r : Int) (hr : ¬ u_hs (w : Int) (h : Int) r = 0) (h2 : ¬ A (p + 18) = r) (hb : -1 ≤ A (p + 18)) : ∃ m1, z_R 58 (m, 0, [(2, 0), (0, (p : Int)), (0, r), (9, 0)], []) = some (m1, some (0, u_was (A (p + 18)))) ∧ C_is w h n heat price D (u_up A (p + 18) r) (c_inc c) (u_cons A U) kn KS cs m1 := by
  obtain ⟨m1, a1, a2, -⟩ := C_rem hi (s := 12) (Or.inl rfl)
  rw [hi.2.2.1] at a2
  have a1 : z_R 60 (m, 0, [(2, 28), (2, 12)], []) = some (m1, none) := a1
  rw [s_mv_0, C_mva hi h5 hp r hr, zb_v, s_mv_6, if_neg h2, if_neg (u_was_nn hb), a1, zb_n, s_mv_22, if_pos (by omega), Int.toNat_natCast]
  refine ⟨_, rfl, C_mkA a2 (fun q k _ h1 => zu_p (by omega)) ?_⟩
  have e := cS_up3 (m := m1) (s := 12) (j := p) (v := r) (n := (n : Int)) (by omega) (by omega)
  rw [a2.2.2.1] at e
  exact e
theorem R_move_no (hi : R_is w h n heat price D A c U kn KS cs m) (h5 : n ≤ 5) (p r : Int) (ok : ¬ ((0 ≤ p ∧ p < (n : Int)) ∧ ¬ u_hs (w : Int) (h : Int) r = 0)) : ∃ m1, z_R 195 (m, 0, [(2, 251), (0, p), (0, r), (9, 0)], []) = some (m1, some (0, -1)) ∧ R_is w h n heat price D A c U kn KS cs m1 := by
  have hu := R_upn (p0 := 251) (k0 := 11) (v := 0) hi (by decide)
  rw [t_mv_0]
  generalize z_up m 251 11 0 = m0 at hu ⊢
  obtain ⟨e1, e2, e3, -⟩ := hu.1
  have e : z_R 196 (m0, 0, [(2, 251), (0, p), (0, r)], []) = some (m0, some (0, -1)) := by
    rw [t_rmv_0 m0 p r (by omega), e1, e2, e3]
    by_cases h1 : 0 ≤ p ∧ p < (n : Int)
    · rw [if_pos h1, if_neg (fun z => ok ⟨h1, z⟩)]
    · rw [if_neg h1]
  rw [e, zb_v, t_mv_11, if_neg (by decide)]
  exact ⟨m0, rfl, hu⟩
theorem R_rmv (hi : R_is w h n heat price D A c U kn KS cs m) (h5 : n ≤ 5) {p : Nat} (hp : p < n) (r : Int) (hr : ¬ u_hs (w : Int) (h : Int) r = 0) : z_R 196 (m, 0, [(2, 251), (0, (p : Int)), (0, r)], []) = some (m, some (0, if A (p + 18) = r then -2 else 0)) := by
  obtain ⟨e1, e2, e3, -⟩ := hi.1
  rw [t_rmv_0 m p r (by omega), e1, e2, e3, if_pos (by omega), if_pos hr, tn18, R_A hi (k := p + 18) (by omega) (a_vis_p (b := 18) (p := p) (by omega) (by omega) (by omega) (by omega))]
  by_cases c1 : A (p + 18) = r
  · rw [if_pos c1, if_pos c1]
  · rw [if_neg c1, if_neg c1]
theorem R_move_2 (hi : R_is w h n heat price D A c U kn KS cs m) (h5 : n ≤ 5) {p : Nat} (hp : p < n) (r : Int) (hr : ¬ u_hs (w : Int) (h : Int) r = 0) (h2 : A (p + 18) = r) : ∃ m1, z_R 195 (m, 0, [(2, 251), (0, (p : Int)), (0, r), (9, 0)], []) = some (m1, some (0, -2)) ∧ R_is w h n heat price D A c U kn KS cs m1 := by
  have hu := R_upn (p0 := 251) (k0 := 11) (v := 0) hi (by decide)
  rw [t_mv_0]
  generalize z_up m 251 11 0 = m0 at hu ⊢
  rw [R_rmv hu h5 hp r hr, zb_v, if_pos h2, t_mv_11, if_neg (by decide)]
  exact ⟨m0, rfl, hu⟩
theorem R_gmv (hi : R_is w h n heat price D A c U kn KS cs m) (h5 : n ≤ 5) {p : Nat} (hp : p < n) (r : Int) : ∃ m1, z_R 199 (m, 0, [(2, 251), (0, (p : Int)), (0, r), (9, 0)], []) = some (m1, some (0, u_was (A (p + 18)))) ∧ R_is w h n heat price D (u_up A (p + 18) r) c U kn KS cs m1 := by
  have hv : a_vis (n : Int) (p + 18) = true := a_vis_p (b := 18) (p := p) (by omega) (by omega) (by omega) (by omega)
  have hm : R_is w h n heat price D (u_up A (p + 18) r) c U kn KS cs (z_up m 252 (p + 18) r) := R_mkA hi (fun q k _ h1 => zu_p h1) (by rw [rS_up (by omega) hv, hi.2.2.1])
  refine ⟨_, ?_, hm⟩
  rw [t_gmv_0 m p r (by omega), tn18, R_A hi (k := p + 18) (by omega) hv]
  unfold u_was
  by_cases c2 : A (p + 18) = -1
  · rw [if_pos c2, if_pos c2]
  · rw [if_neg c2, if_neg c2]
theorem R_move (hi : R_is w h n heat price D A c U kn KS cs m) (h5 : n ≤ 5) {p : Nat} (hp : p < n) (r : Int) (hr : ¬ u_hs (w : Int) (h : Int) r = 0) (h2 : ¬ A (p + 18) = r) : ∃ m1, z_R 195 (m, 0, [(2, 251), (0, (p : Int)), (0, r), (9, 0)], []) = some (m1, some (0, u_was (A (p + 18)))) ∧ R_is w h n heat price D (u_up A (p + 18) r) (c_inc c) (u_cons A U) kn KS cs m1 := by
  have hu := R_upn (p0 := 251) (k0 := 11) (v := 0) hi (by decide)
  rw [t_mv_0]
  generalize z_up m 251 11 0 = m0 at hu ⊢
  obtain ⟨m1, a1, a2, -⟩ := R_rem hu (a := 252) (Or.inl rfl)
  rw [hu.2.2.1] at a2
  have a1 : z_R 197 (m0, 0, [(2, 251), (2, 252), (9, 0)], []) = some (m1, none) := a1
  obtain ⟨m2, b1, b2⟩ := R_gmv a2 h5 hp r
  rw [R_rmv hu h5 hp r hr, zb_v, if_neg h2, t_mv_11, if_pos (by decide), a1, zb_n, t_mv_26, b1, zb_v, t_mv_32]
  exact ⟨m2, rfl, b2⟩
/-! stove -/
theorem C_sta (hi : C_is w h n heat price D A c U kn KS cs m) (r : Int) : z_R 63 (m, 0, [(2, 0), (0, r)], []) = some (m, some (0, if r = -1 ∨ ¬ u_hs (w : Int) (h : Int) r = 0 then (if A 34 = r then -2 else u_was (A 34)) else -1)) := by
  obtain ⟨e8, e9, -⟩ := hi.1
  have e34 : m 12 6 = A 34 := by rw [← hi.2.2.1]; exact cS_stovev.symm
  have hx : (if A 34 = r then some (m, some (0, (-2 : Int))) else if A 34 = -1 then some (m, some (0, 9)) else some (m, some (0, A 34)) : Option z_Q) = some (m, some (0, if A 34 = r then -2 else u_was (A 34))) := by
    unfold u_was
    by_cases c1 : A 34 = r
    · rw [if_pos c1, if_pos c1]
    rw [if_neg c1, if_neg c1]
    by_cases c2 : A 34 = -1
    · rw [if_pos c2, if_pos c2]
    · rw [if_neg c2, if_neg c2]
  rw [s_sta_0, e8, e9, e34, hx]
  by_cases c1 : r = -1
  · rw [if_pos c1, if_pos (Or.inl c1)]
  rw [if_neg c1]
  by_cases c2 : u_hs (w : Int) (h : Int) r = 0
  · rw [if_neg (not_not_intro c2), if_neg (fun z => z.elim c1 (fun z => z c2))]
  · rw [if_pos c2, if_pos (Or.inr c2)]
theorem C_stove_no (hi : C_is w h n heat price D A c U kn KS cs m) (r x : Int) (hx : (if r = -1 ∨ ¬ u_hs (w : Int) (h : Int) r = 0 then (if A 34 = r then -2 else u_was (A 34)) else -1) = x) (h0 : x < 0) : z_R 62 (m, 0, [(2, 0), (0, r), (9, 0)], []) = some (m, some (0, x)) := by
  rw [s_stv_0, C_sta hi, hx, zb_v, s_stv_5, if_pos h0]
theorem C_stove (hi : C_is w h n heat price D A c U kn KS cs m) (r x : Int) (hx : (if r = -1 ∨ ¬ u_hs (w : Int) (h : Int) r = 0 then (if A 34 = r then -2 else u_was (A 34)) else -1) = x) (h0 : ¬ x < 0) : ∃ m1, z_R 62 (m, 0, [(2, 0), (0, r), (9, 0)], []) = some (m1, some (0, x)) ∧ C_is w h n heat price D (u_up A 34 r) (c_inc c) (u_cons A U) kn KS cs m1 := by
  obtain ⟨m1, a1, a2, -⟩ := C_rem hi (s := 12) (Or.inl rfl)
  rw [hi.2.2.1] at a2
  have a1 : z_R 60 (m, 0, [(2, 28), (2, 12)], []) = some (m1, none) := a1
  rw [s_stv_0, C_sta hi, hx, zb_v, s_stv_5, if_neg h0, a1, zb_n, s_stv_21]
  refine ⟨_, rfl, C_mkA a2 (fun q k _ h1 => zu_p (by omega)) ?_⟩
  have e := cS_stove (m := m1) (s := 12) (v := r) (n := (n : Int))
  rw [a2.2.2.1] at e
  exact e
theorem R_rst (hi : R_is w h n heat price D A c U kn KS cs m) (r : Int) : z_R 202 (m, 0, [(2, 251), (0, r)], []) = some (m, some (0, if r = -1 ∨ ¬ u_hs (w : Int) (h : Int) r = 0 then (if A 34 = r then -2 else 0) else -1)) := by
  obtain ⟨e1, e2, -⟩ := hi.1
  have hx : (if A 34 = r then some (m, some (0, (-2 : Int))) else some (m, some (0, 0)) : Option z_Q) = some (m, some (0, if A 34 = r then -2 else 0)) := by
    by_cases c1 : A 34 = r
    · rw [if_pos c1, if_pos c1]
    · rw [if_neg c1, if_neg c1]
  rw [t_rst_0, e1, e2, R_A hi (k := 34) (by decide) (a_vis_hi (by decide)), hx]
  by_cases c1 : r = -1
  · rw [if_pos c1, if_pos (Or.inl c1)]
  rw [if_neg c1]
  by_cases c2 : u_hs (w : Int) (h : Int) r = 0
  · rw [if_neg (not_not_intro c2), if_neg (fun z => z.elim c1 (fun z => z c2))]
  · rw [if_pos c2, if_pos (Or.inr c2)]
theorem R_gst (hi : R_is w h n heat price D A c U kn KS cs m) (r : Int) : ∃ m1, z_R 203 (m, 0, [(2, 251), (0, r), (9, 0)], []) = some (m1, some (0, u_was (A 34))) ∧ R_is w h n heat price D (u_up A 34 r) c U kn KS cs m1 := by
  have hm : R_is w h n heat price D (u_up A 34 r) c U kn KS cs (z_up m 252 34 r) := R_mkA hi (fun q k _ h1 => zu_p h1) (by rw [rS_up (by decide) (a_vis_hi (by decide)), hi.2.2.1])
  refine ⟨_, ?_, hm⟩
  rw [t_gst_0, R_A hi (k := 34) (by decide) (a_vis_hi (by decide))]
  unfold u_was
  by_cases c2 : A 34 = -1
  · rw [if_pos c2, if_pos c2]
  · rw [if_neg c2, if_neg c2]
theorem R_stove_no (hi : R_is w h n heat price D A c U kn KS cs m) (r x : Int) (hx : (if r = -1 ∨ ¬ u_hs (w : Int) (h : Int) r = 0 then (if A 34 = r then -2 else u_was (A 34)) else -1) = x) (h0 : x < 0) (hb : -1 ≤ A 34) : ∃ m1, z_R 201 (m, 0, [(2, 251), (0, r), (9, 0)], []) = some (m1, some (0, x)) ∧ R_is w h n heat price D A c U kn KS cs m1 := by
  have hu := R_upn (p0 := 251) (k0 := 11) (v := 0) hi (by decide)
  rw [t_stv_0]
  generalize z_up m 251 11 0 = m0 at hu ⊢
  have e : (if r = -1 ∨ ¬ u_hs (w : Int) (h : Int) r = 0 then (if A 34 = r then -2 else 0) else -1) = x := by
    rw [← hx]
    by_cases c1 : r = -1 ∨ ¬ u_hs (w : Int) (h : Int) r = 0
    · rw [if_pos c1] at hx ⊢
      rw [if_pos c1]
      by_cases c2 : A 34 = r
      · rw [if_pos c2, if_pos c2]
      · rw [if_neg c2] at hx
        have := u_was_nn hb
        omega
    · rw [if_neg c1, if_neg c1]
  rw [R_rst hu, e, zb_v, t_stv_10, if_neg (by omega)]
  exact ⟨m0, rfl, hu⟩
theorem R_stove (hi : R_is w h n heat price D A c U kn KS cs m) (r x : Int) (hx : (if r = -1 ∨ ¬ u_hs (w : Int) (h : Int) r = 0 then (if A 34 = r then -2 else u_was (A 34)) else -1) = x) (h0 : ¬ x < 0) : ∃ m1, z_R 201 (m, 0, [(2, 251), (0, r), (9, 0)], []) = some (m1, some (0, x)) ∧ R_is w h n heat price D (u_up A 34 r) (c_inc c) (u_cons A U) kn KS cs m1 := by
  have hu := R_upn (p0 := 251) (k0 := 11) (v := 0) hi (by decide)
  rw [t_stv_0]
  generalize z_up m 251 11 0 = m0 at hu ⊢
  obtain ⟨m1, a1, a2, -⟩ := R_rem hu (a := 252) (Or.inl rfl)
  rw [hu.2.2.1] at a2
  have a1 : z_R 197 (m0, 0, [(2, 251), (2, 252), (9, 0)], []) = some (m1, none) := a1
  obtain ⟨m2, b1, b2⟩ := R_gst a2 r
  have e : (if r = -1 ∨ ¬ u_hs (w : Int) (h : Int) r = 0 then (if A 34 = r then -2 else 0) else -1) = 0 ∧ u_was (A 34) = x := by
    by_cases c1 : r = -1 ∨ ¬ u_hs (w : Int) (h : Int) r = 0
    · rw [if_pos c1] at hx ⊢
      by_cases c2 : A 34 = r
      · rw [if_pos c2] at hx
        omega
      · rw [if_neg c2] at hx ⊢
        exact ⟨rfl, hx⟩
    · rw [if_neg c1] at hx
      omega
  rw [R_rst hu, e.1, zb_v, t_stv_10, if_pos (by decide), a1, zb_n, t_stv_25, b1, zb_v, t_stv_30, e.2]
  exact ⟨m2, rfl, b2⟩
/-! pay -/
theorem C_A4 (hi : C_is w h n heat price D A c U kn KS cs m) {p : Nat} (hp : p < n) (h5 : n ≤ 5) : m 16 p = A (p + 23) := by
  rw [← hi.2.2.1]
  exact (cS_at4 (s := 12) (j := p) (by omega) (by omega)).symm
theorem C_pay_no (hi : C_is w h n heat price D A c U kn KS cs m) (h5 : n ≤ 5) (p v : Int) (ok : ¬ ((0 ≤ p ∧ p < (n : Int)) ∧ (1 ≤ v ∧ v ≤ 9999) ∧ v ≤ A (p.toNat + 23))) : z_R 81 (m, 0, [(2, 0), (0, p), (0, v)], []) = some (m, some (0, -1)) := by
  have e11 := hi.1.2.2.1
  rw [s_pay_0 m p v (by omega), e11]
  by_cases h1 : 0 ≤ p ∧ p < (n : Int)
  · rw [if_pos h1]
    by_cases h2 : v < 1
    · rw [if_pos h2]
    rw [if_neg h2]
    by_cases h3 : 9999 < v
    · rw [if_pos h3]
    rw [if_neg h3, C_A4 hi (p := p.toNat) (by omega) h5, if_neg (fun z => ok ⟨h1, ⟨by omega, by omega⟩, z⟩)]
  · rw [if_neg h1]
theorem C_pay (hi : C_is w h n heat price D A c U kn KS cs m) (h5 : n ≤ 5) {p : Nat} (hp : p < n) (v : Int) (h1 : 1 ≤ v ∧ v ≤ 9999) (h2 : v ≤ A (p + 23)) : ∃ m1, z_R 81 (m, 0, [(2, 0), (0, (p : Int)), (0, v)], []) = some (m1, some (0, z_sub (A (p + 23)) v)) ∧ C_is w h n heat price D (u_up A (p + 23) (z_sub (A (p + 23)) v)) (c_inc c) (u_cons A U) kn KS cs m1 := by
  obtain ⟨m1, a1, a2, -⟩ := C_rem hi (s := 12) (Or.inl rfl)
  rw [hi.2.2.1] at a2
  have a1 : z_R 60 (m, 0, [(2, 28), (2, 12)], []) = some (m1, none) := a1
  have e11 := hi.1.2.2.1
  rw [s_pay_0 m p v (by omega), e11, if_pos (by omega), if_neg (by omega), if_neg (by omega), Int.toNat_natCast, C_A4 hi hp h5, if_pos h2, a1, zb_n, s_pay_49, if_pos (by omega), Int.toNat_natCast, C_A4 a2 hp h5]
  refine ⟨_, rfl, C_mkA a2 (fun q k _ h1 => zu_p (by omega)) ?_⟩
  have e := cS_up4 (m := m1) (s := 12) (j := p) (v := z_sub (A (p + 23)) v) (n := (n : Int)) (by omega) (by omega)
  rw [a2.2.2.1] at e
  exact e
theorem R_pay_no (hi : R_is w h n heat price D A c U kn KS cs m) (h5 : n ≤ 5) (p v : Int) (ok : ¬ ((0 ≤ p ∧ p < (n : Int)) ∧ (1 ≤ v ∧ v ≤ 9999) ∧ v ≤ A (p.toNat + 23))) : ∃ m1, z_R 211 (m, 0, [(2, 251), (0, p), (0, v)], []) = some (m1, some (0, -1)) ∧ R_is w h n heat price D A c U kn KS cs m1 := by
  have e3 := hi.1.2.2.1
  refine ⟨z_up m 251 11 0, ?_, R_upn hi (by decide)⟩
  rw [t_pay_0 m p v (by omega), e3]
  by_cases h1 : 0 ≤ p ∧ p < (n : Int)
  · rw [if_pos h1]
    by_cases h2 : 1 ≤ v ∧ v ≤ 9999
    · rw [if_pos h2, show (p + 23).toNat = p.toNat + 23 by omega, R_A hi (k := p.toNat + 23) (by omega) (a_vis_p (b := 23) (p := p.toNat) (by omega) (by omega) (by omega) (by omega)), if_neg (fun z => ok ⟨h1, h2, z⟩)]
    · rw [if_neg h2]
  · rw [if_neg h1]
theorem R_pay (hi : R_is w h n heat price D A c U kn KS cs m) (h5 : n ≤ 5) {p : Nat} (hp : p < n) (v : Int) (h1 : 1 ≤ v ∧ v ≤ 9999) (h2 : v ≤ A (p + 23)) : ∃ m1, z_R 211 (m, 0, [(2, 251), (0, (p : Int)), (0, v)], []) = some (m1, some (0, z_sub (A (p + 23)) v)) ∧ R_is w h n heat price D (u_up A (p + 23) (z_sub (A (p + 23)) v)) (c_inc c) (u_cons A U) kn KS cs m1 := by
  have hu := R_upn (p0 := 251) (k0 := 11) (v := 0) hi (by decide)
  have e3 := hi.1.2.2.1
  have hv : a_vis (n : Int) (p + 23) = true := a_vis_p (b := 23) (p := p) (by omega) (by omega) (by omega) (by omega)
  rw [t_pay_0 m p v (by omega), e3, if_pos (by omega), if_pos h1, tn23, R_A hi (k := p + 23) (by omega) hv, if_pos h2]
  generalize z_up m 251 11 0 = m0 at hu ⊢
  obtain ⟨m1, a1, a2, -⟩ := R_rem hu (a := 252) (Or.inl rfl)
  rw [hu.2.2.1] at a2
  have a1 : z_R 197 (m0, 0, [(2, 251), (2, 252), (9, 0)], []) = some (m1, none) := a1
  have ea : z_add 23 (p : Int) = ((p + 23 : Nat) : Int) := by rw [z_add_eq (by omega) (by omega)]; omega
  rw [a1, zb_n, t_pay_47, ea, if_pos (by omega), Int.toNat_natCast, R_A a2 (k := p + 23) (by omega) hv]
  refine ⟨_, rfl, R_mkA a2 (fun q k _ h1 => zu_p h1) ?_⟩
  rw [rS_up (by omega) hv, a2.2.2.1]
/-! undo -/
theorem C_undo_no (hi : C_is w h n heat price D A c U kn KS cs m) (h0 : c = 0) : z_R 87 (m, 0, [(2, 0)], []) = some (m, some (0, -1)) := by
  obtain ⟨u1, u2, u3, u4⟩ := hi.2.2.2.1
  rw [s_undo_0, s_gob_0 m u1 (by omega), if_pos (by omega), zb_v, s_undo_11, if_pos rfl]
theorem C_undo (hi : C_is w h n heat price D A c U kn KS cs m) {j : Nat} (h0 : c = j + 1) : ∃ m1, z_R 87 (m, 0, [(2, 0)], []) = some (m1, some (0, (j : Int))) ∧ C_is w h n heat price D (U 0) j (fun i => U (i + 1)) kn KS cs m1 := by
  obtain ⟨u1, u2, u3, u4⟩ := hi.2.2.2.1
  have hX : ((m 28 3 + 11) % 12).toNat < 12 := by omega
  rw [s_undo_0, s_gob_0 m u1 (by omega), if_neg (by omega), ga29 hX, u2, show (c : Int) - 1 = (j : Int) by omega]
  have k3 : (z_up (z_up m 28 3 ((m 28 3 + 11) % 12)) 28 4 (j : Int)) 28 3 = (m 28 3 + 11) % 12 := by rw [zu_k (by decide), zu_self]
  have k4 : (z_up (z_up m 28 3 ((m 28 3 + 11) % 12)) 28 4 (j : Int)) 28 4 = (j : Int) := zu_self
  have kp : ∀ p k, ¬ p = 28 → (z_up (z_up m 28 3 ((m 28 3 + 11) % 12)) 28 4 (j : Int)) p k = m p k := fun p k hp => by rw [zu_p hp, zu_p hp]
  generalize z_up (z_up m 28 3 ((m 28 3 + 11) % 12)) 28 4 (j : Int) = m0 at k3 k4 kp ⊢
  have u0 := u4 0 (by omega)
  rw [show ((m 28 3).toNat + 11 - 0) % 12 = ((m 28 3 + 11) % 12).toNat by omega] at u0
  generalize hXX : ((m 28 3 + 11) % 12).toNat = X at hX u0 ⊢
  obtain ⟨m1, a1, a2, a3⟩ := c_become (z_st_done hX) z_st_12 (by omega) m0
  have a1 : z_R 61 (m0, 0, [(2, 12), (2, ((32 + 6 * X : Nat) : Int))], []) = some (m1, none) := a1
  have hfar : ∀ p k, ¬ (12 ≤ p ∧ p ≤ 17) → m1 p k = m0 p k := fun p k hp => a3.of (by
    unfold c_LB
    (repeat' (first | exact trivial | refine z_of_c ?_ ?_)) <;> omega)
  rw [a1, zb_n, s_gob_48, zb_v, s_undo_11, if_neg (by decide), hfar 28 4 (by decide), k4]
  refine ⟨m1, rfl, C_mk hi (fun p k _ h1 h2 h3 => (hfar p k h1).trans (kp p k h2)) ?_ ⟨?_, ?_, by omega, fun i hi => ?_⟩⟩
  · rw [cS_cR a2, cS_fr (fun i k hi _ => kp _ k (by omega))]
    exact u0
  · rw [hfar 28 3 (by decide), k3]; omega
  · rw [hfar 28 4 (by decide), k4]
  · rw [hfar 28 3 (by decide), k3, cS_fr (fun i k hi _ => (hfar _ k (by omega)).trans (kp _ k (by omega))), show (((m 28 3 + 11) % 12).toNat + 11 - i) % 12 = ((m 28 3).toNat + 11 - (i + 1)) % 12 by omega]
    exact u4 (i + 1) (by omega)
theorem R_undo_no (hi : R_is w h n heat price D A c U kn KS cs m) (h0 : c = 0) : ∃ m1, z_R 216 (m, 0, [(2, 251), (9, 0)], []) = some (m1, some (0, -1)) ∧ R_is w h n heat price D A c U kn KS cs m1 := by
  obtain ⟨u1, u2, u3⟩ := hi.2.2.2.1
  rw [t_undo_0 m (by omega), if_pos (by omega)]
  exact ⟨_, rfl, R_upn hi (by decide)⟩
theorem t_und {j : Nat} (hj : j ≤ 11) : ∀ (f x : Nat) (m : z_M), x + f = 37 → m 251 25 = (j : Int) → ∃ m', z_R 216 (m, 26, [(2, 251), (0, (x : Int))], []) = some (m', some (0, (j : Int))) ∧ (∀ k, x ≤ k → k < 37 → m' 252 k = m 260 (37 * j + k)) ∧ ∀ p k, ¬ (p = 252 ∧ x ≤ k ∧ k < 37) → m' p k = m p k := by
  intro f
  induction f with
  | zero =>
    intro x m hx hm
    rw [t_undo_26 m x (by omega) (by omega), if_pos (by omega), hm]
    exact ⟨m, rfl, fun k h1 h2 => by omega, fun _ _ _ => rfl⟩
  | succ f ih =>
    intro x m hx hm
    rw [t_undo_26 m x (by omega) (by omega), if_neg (by omega), hm, if_pos (by omega), Int.toNat_natCast, tc1, show (37 * (j : Int) + (x : Int)).toNat = 37 * j + x by omega]
    obtain ⟨m', a1, a2, a3⟩ := ih (x + 1) (z_up m 252 x (m 260 (37 * j + x))) (by omega) ((zu_p (by decide)).trans hm)
    refine ⟨m', a1, fun k h1 h2 => ?_, fun p k hn => ?_⟩
    · by_cases hk : k = x
      · rw [hk, a3 252 x (by omega), zu_self]
      · rw [a2 k (by omega) h2, zu_p (by decide)]
    · rw [a3 p k (by omega), X_up (by omega)]
theorem R_undo (hi : R_is w h n heat price D A c U kn KS cs m) {j : Nat} (h0 : c = j + 1) : ∃ m1, z_R 216 (m, 0, [(2, 251), (9, 0)], []) = some (m1, some (0, (j : Int))) ∧ R_is w h n heat price D (U 0) j (fun i => U (i + 1)) kn KS cs m1 := by
  obtain ⟨u1, u2, u3⟩ := hi.2.2.2.1
  rw [t_undo_0 m (by omega), if_neg (by omega), u1, show (c : Int) - 1 = (j : Int) by omega]
  have k25 : (z_up (z_up m 251 11 0) 251 25 (j : Int)) 251 25 = (j : Int) := zu_self
  have kp : ∀ p k, ¬ (p = 251 ∧ (k = 11 ∨ k = 25)) → (z_up (z_up m 251 11 0) 251 25 (j : Int)) p k = m p k := fun p k hp => by rw [X_up (by omega), X_up (by omega)]
  generalize z_up (z_up m 251 11 0) 251 25 (j : Int) = m0 at k25 kp ⊢
  obtain ⟨m1, a1, a2, a3⟩ := t_und (j := j) (by omega) 37 0 m0 (by decide) k25
  have a1 : z_R 216 (m0, 26, [(2, 251), (0, 0)], []) = some (m1, some (0, (j : Int))) := a1
  refine ⟨m1, a1, R_mk hi (fun p k hk h1 h2 h3 => (a3 p k (fun z => h1 z.1)).trans (kp p k (fun z => ?_))) ?_ ⟨(a3 251 25 (by decide)).trans k25, by omega, fun i hi => ?_⟩⟩
  · rcases z.2 with z2 | z2
    · rw [z.1, z2] at hk
      exact absurd hk (by decide)
    · exact h3 ⟨z.1, z2⟩
  · rw [rS_is (p := 260) (j := j) (m := m) (fun k hk => (a2 k (Nat.zero_le _) hk).trans (kp 260 _ (by omega)))]
    have := u3 0 (by omega)
    rw [show c - 1 - 0 = j by omega] at this
    exact this
  · rw [uR_row (m := m) (fun k _ => (a3 260 _ (by omega)).trans (kp 260 _ (by omega)))]
    have := u3 (i + 1) (by omega)
    rw [show c - 1 - (i + 1) = j - 1 - i by omega] at this
    exact this
end
end
section
/-! what is remembered, as to ROOMS -/
theorem w_W_do {w h n : Nat} {A B : Nat → Int} {c : Nat} {U : Nat → Nat → Int} {kn : Nat → Int} {KS : Nat → Nat → Int} (hW : w_W w h n A c U kn KS) (hB : wi w h n B) : w_W w h n B (c_inc c) (u_cons A U) kn KS := ⟨hW.1, hB, fun i hi => by
  cases i with
  | zero => exact hW.2.1
  | succ j =>
    refine hW.2.2.1 j ?_
    unfold c_inc at hi
    split at hi <;> omega, hW.2.2.2⟩
theorem w_W_if {w h n : Nat} {A B : Nat → Int} {c : Nat} {U : Nat → Nat → Int} {kn : Nat → Int} {KS : Nat → Nat → Int} {N : Nat} (hW : w_W w h n A c U kn KS) (hB : wi w h n B) : w_W w h n B (if N = 0 then c else c_inc c) (if N = 0 then U else u_cons A U) kn KS := by
  by_cases z : N = 0
  · rw [if_pos z, if_pos z]
    exact w_W_A hW hB
  · rw [if_neg z, if_neg z]
    exact w_W_do hW hB
end
section
/-! HOURS GO BY, in both -/
section
variable {w h n : Nat} {heat price : Int} {D A : Nat → Int} {c : Nat} {U : Nat → Nat → Int} {kn : Nat → Int} {KS : Nat → Nat → Int} {cs : List Int} {m : z_M}
theorem C_cfg (hi : C_is w h n heat price D A c U kn KS cs m) : c_cfg w h n heat price (c_ml cs) (wmD D) m := by
  obtain ⟨⟨a1, a2, a3, a4, a5, a6, a7, a8⟩, b, -, -, -, f1, f2, f3, f4⟩ := hi
  exact ⟨a1, a2, a3, a4, a5, fun t ht p hp => cw_D a7 a8 b ht hp, K_rule_c f1 f2 f3 f4, a6⟩
theorem R_cfg (hi : R_is w h n heat price D A c U kn KS cs m) : r_cfg w h n heat price (c_ml cs) (wmD D) m := by
  obtain ⟨⟨a1, a2, a3, a4, a5, a6⟩, b, -, -, -, f⟩ := hi
  exact ⟨a1, a2, a3, a4, a5, fun t ht p hp => rwm_D a6 b ht hp, K_rule_r f⟩
theorem c_add {j : Nat} (m : z_M) (u : Int) (hj : j ≤ 8) (h : m 0 13 = (j : Int)) : z_R 79 (m, 0, [(2, 0), (1, u), (9, 0)], []) = some (z_up (z_up m 250 j u) 0 13 ((j + 1 : Nat) : Int), none) := by
  rw [s_add_0 m u (by omega), if_neg (by omega), h, Int.toNat_natCast, tc1]
theorem c_add0 {m : z_M} {u : Int} : z_R 79 (z_up m 0 13 0, 0, [(2, 0), (1, u), (9, 0)], []) = some (z_up (z_up (z_up m 0 13 0) 250 0 u) 0 13 1, none) := c_add (j := 0) (z_up m 0 13 0) u (by decide) zu_self
theorem c_add1 {m : z_M} {u : Int} : z_R 79 (z_up m 0 13 1, 0, [(2, 0), (1, u), (9, 0)], []) = some (z_up (z_up (z_up m 0 13 1) 250 1 u) 0 13 2, none) := c_add (j := 1) (z_up m 0 13 1) u (by decide) zu_self
theorem c_add2 {m : z_M} {u : Int} : z_R 79 (z_up m 0 13 2, 0, [(2, 0), (1, u), (9, 0)], []) = some (z_up (z_up (z_up m 0 13 2) 250 2 u) 0 13 3, none) := c_add (j := 2) (z_up m 0 13 2) u (by decide) zu_self
theorem c_tell2 (m : z_M) (u1 u2 : Int) : z_R 77 (m, 0, [(2, 0), (1, u1), (9, 0), (1, u2), (9, 0)], []) = some (z_up (z_up (z_up (z_up (z_up m 0 13 0) 250 0 u1) 0 13 1) 250 1 u2) 0 13 2, none) := by
  rw [s_tell2_0, s_tell0_0, zb_n, s_tell2_4, c_add0, zb_n, s_tell2_9, c_add1, zb_n, s_tell2_14]
theorem c_tell3 (m : z_M) (u1 u2 u3 : Int) : z_R 76 (m, 0, [(2, 0), (1, u1), (9, 0), (1, u2), (9, 0), (1, u3), (9, 0)], []) = some (z_up (z_up (z_up (z_up (z_up (z_up (z_up m 0 13 0) 250 0 u1) 0 13 1) 250 1 u2) 0 13 2) 250 2 u3) 0 13 3, none) := by
  rw [s_tell3_0, c_tell2, zb_n, s_tell3_6, c_add2, zb_n, s_tell3_12]
theorem C_tell3 (hi : C_is w h n heat price D A c U kn KS cs m) (u1 u2 u3 : Int) : C_is w h n heat price D A c U kn KS cs (z_up (z_up (z_up (z_up (z_up (z_up (z_up m 0 13 0) 250 0 u1) 0 13 1) 250 1 u2) 0 13 2) 250 2 u3) 0 13 3) := C_upn (C_upn (C_upn (C_upn (C_upn (C_upn (C_upn hi (by decide)) (by decide)) (by decide)) (by decide)) (by decide)) (by decide)) (by decide)
theorem t_tell {j : Nat} (m : z_M) (u : Int) (hj : j ≤ 15) (h : m 251 10 = (j : Int)) : z_R 210 (m, 0, [(2, 251), (1, u), (9, 0)], []) = some (z_up (z_up m 255 j u) 251 10 ((j + 1 : Nat) : Int), none) := by
  rw [t_tell_0 m u (by omega), h, Int.toNat_natCast, tc1]
theorem t_tell0 {m : z_M} {u : Int} : z_R 210 (z_up m 251 10 0, 0, [(2, 251), (1, u), (9, 0)], []) = some (z_up (z_up (z_up m 251 10 0) 255 0 u) 251 10 1, none) := t_tell (j := 0) (z_up m 251 10 0) u (by decide) zu_self
theorem t_tell1 {m : z_M} {u : Int} : z_R 210 (z_up m 251 10 1, 0, [(2, 251), (1, u), (9, 0)], []) = some (z_up (z_up (z_up m 251 10 1) 255 1 u) 251 10 2, none) := t_tell (j := 1) (z_up m 251 10 1) u (by decide) zu_self
theorem t_tell2 {m : z_M} {u : Int} : z_R 210 (z_up m 251 10 2, 0, [(2, 251), (1, u), (9, 0)], []) = some (z_up (z_up (z_up m 251 10 2) 255 2 u) 251 10 3, none) := t_tell (j := 2) (z_up m 251 10 2) u (by decide) zu_self
/-- what is told is told in these cells alone -/
theorem c_told2 {m : z_M} {u1 u2 : Int} {p k : Nat} (h0 : ¬ p = 0) (h1 : ¬ p = 250) : (z_up (z_up (z_up (z_up (z_up m 0 13 0) 250 0 u1) 0 13 1) 250 1 u2) 0 13 2) p k = m p k := by rw [zu_p h0, zu_p h1, zu_p h0, zu_p h1, zu_p h0]
theorem c_told3 {m : z_M} {u1 u2 u3 : Int} {p k : Nat} (h0 : ¬ p = 0) (h1 : ¬ p = 250) : (z_up (z_up (z_up (z_up (z_up (z_up (z_up m 0 13 0) 250 0 u1) 0 13 1) 250 1 u2) 0 13 2) 250 2 u3) 0 13 3) p k = m p k := by rw [zu_p h0, zu_p h1, zu_p h0, zu_p h1, zu_p h0, zu_p h1, zu_p h0]
theorem t_told2 {m : z_M} {u1 u2 a1 a2 : Int} {p k : Nat} (h0 : ¬ (p = 251 ∧ k = 10)) (h1 : ¬ p = 255) : (z_up (z_up (z_up (z_up (z_up m 251 10 0) 255 0 u1) 251 10 a1) 255 1 u2) 251 10 a2) p k = m p k := by rw [X_up h0, zu_p h1, X_up h0, zu_p h1, X_up h0]
theorem t_told3 {m : z_M} {u1 u2 u3 a1 a2 a3 : Int} {p k : Nat} (h0 : ¬ (p = 251 ∧ k = 10)) (h1 : ¬ p = 255) : (z_up (z_up (z_up (z_up (z_up (z_up (z_up m 251 10 0) 255 0 u1) 251 10 a1) 255 1 u2) 251 10 a2) 255 2 u3) 251 10 a3) p k = m p k := by rw [X_up h0, zu_p h1, X_up h0, zu_p h1, X_up h0, zu_p h1, X_up h0]
/-- hours from here on: all that is told of them -/
abbrev hr_R (w h : Nat) (heat price : Int) (cs : List Int) (D : Nat → Int) (n N : Nat) (A : Nat → Int) : (Nat → Int) × Int × Int × Int × Int := hr_H w h heat price (c_ml cs) (wmD D) n N A 0 0 0 0
theorem C_go {s : Nat} (hs : z_st s) (hs24 : ¬ s = 24) (hN : (w ≤ 3 ∧ h ≤ 3 ∧ n ≤ 5) ∧ (0 ≤ heat ∧ heat ≤ 9) ∧ ∀ t : Int, 0 ≤ t → ∀ p, p < 5 → 0 ≤ wmD D t p ∧ wmD D t p ≤ 9) {B : Nat → Int} (hok : hr_ok n B) (ht : 0 ≤ B 35 ∧ B 35 ≤ 1073741824) {N : Nat} (hN6 : N ≤ 1000000) (hi : C_is w h n heat price D A c U kn KS cs m) (hB : cS m s n = B) (k6 : m 24 6 = 0) (k7 : m 24 7 = 0) (k8 : m 24 8 = 0) (k9 : m 24 9 = 0) : ∃ m1, z_R 67 (m, 0, [(2, 24), (2, ((s : Nat) : Int)), (0, (N : Int)), (9, 0)], []) = some (m1, none) ∧ (cS m1 s n, m1 24 6, m1 24 7, m1 24 8, m1 24 9) = hr_R w h heat price cs D n N B ∧ z_same (c_LH s) m m1 := by
  obtain ⟨m1, a1, a2, a3⟩ := c_goOn hs hN.1.1 hN.1.2.1 (price := price) ⟨hN.1.2.2, hN.2.1, c_ml_ok cs, hN.2.2⟩ hN6 m (C_cfg hi) hB hok ht.1 (by omega) (by rw [k6]; decide +kernel) (by rw [k9]; decide +kernel)
  rw [k6, k7, k8, k9] at a2
  exact ⟨m1, a1, a2, a3⟩
theorem C_LH12 (hi : C_is w h n heat price D A c U kn KS cs m) {m1 : z_M} {B : Nat → Int} (hs : z_same (c_LH 12) m m1) (hB : cS m1 12 n = B) : C_is w h n heat price D B c U kn KS cs m1 := C_mkA hi (fun p k hk h1 => by
  have hk' := hk
  unfold C_hit at hk'
  have hk' := of_decide_eq_true hk'
  exact hs.of (by
    unfold c_LH
    (repeat' (first | exact trivial | refine z_of_c ?_ ?_)) <;> omega)) hB
theorem C_lpt (hi : C_is w h n heat price D A c U kn KS cs m) (hN : (w ≤ 3 ∧ h ≤ 3 ∧ n ≤ 5) ∧ (0 ≤ heat ∧ heat ≤ 9) ∧ ∀ t : Int, 0 ≤ t → ∀ p, p < 5 → 0 ≤ wmD D t p ∧ wmD D t p ≤ 9) (hok : hr_ok n A) (ht : 0 ≤ A 35 ∧ A 35 ≤ 1073741824) {N : Nat} (hN6 : N ≤ 60) : ∃ m1, ((z_R 67 (z_up (z_up (z_up (z_up m 24 6 0) 24 7 0) 24 8 0) 24 9 0, 0, [(2, 24), (2, 12), (0, (N : Int)), (9, 0)], [])).bind fun qq => z_R 65 (qq.1, 34, [(2, 0), (0, (N : Int))], qq.2.toList ++ [])) = some (m1, some (0, (hr_R w h heat price cs D n N A).2.1)) ∧ C_is w h n heat price D (hr_R w h heat price cs D n N A).1 c U kn KS cs m1 := by
  have h0 : C_is w h n heat price D A c U kn KS cs (z_up (z_up (z_up (z_up m 24 6 0) 24 7 0) 24 8 0) 24 9 0) := C_upn (C_upn (C_upn (C_upn hi (by decide)) (by decide)) (by decide)) (by decide)
  have k6 : (z_up (z_up (z_up (z_up m 24 6 0) 24 7 0) 24 8 0) 24 9 0) 24 6 = 0 := by rw [zu_k (by decide), zu_k (by decide), zu_k (by decide), zu_self]
  have k7 : (z_up (z_up (z_up (z_up m 24 6 0) 24 7 0) 24 8 0) 24 9 0) 24 7 = 0 := by rw [zu_k (by decide), zu_k (by decide), zu_self]
  have k8 : (z_up (z_up (z_up (z_up m 24 6 0) 24 7 0) 24 8 0) 24 9 0) 24 8 = 0 := by rw [zu_k (by decide), zu_self]
  have k9 : (z_up (z_up (z_up (z_up m 24 6 0) 24 7 0) 24 8 0) 24 9 0) 24 9 = 0 := zu_self
  generalize z_up (z_up (z_up (z_up m 24 6 0) 24 7 0) 24 8 0) 24 9 0 = m0 at h0 k6 k7 k8 k9 ⊢
  obtain ⟨m1, a1, a2, a3⟩ := C_go z_st_12 (by decide) hN hok ht (N := N) (by omega) h0 h0.2.2.1 k6 k7 k8 k9
  have a1 : z_R 67 (m0, 0, [(2, 24), (2, 12), (0, (N : Int)), (9, 0)], []) = some (m1, none) := a1
  generalize hr_R w h heat price cs D n N A = R at a2 ⊢
  subst a2
  have h1 := C_LH12 h0 a3 rfl
  rw [a1, zb_n, s_lp_34, c_tell3, zb_n, s_lp_62]
  rw [c_told3 (by decide) (by decide)]
  exact ⟨_, rfl, C_tell3 h1 _ _ _⟩
theorem C_lp (hi : C_is w h n heat price D A c U kn KS cs m) (hN : (w ≤ 3 ∧ h ≤ 3 ∧ n ≤ 5) ∧ (0 ≤ heat ∧ heat ≤ 9) ∧ ∀ t : Int, 0 ≤ t → ∀ p, p < 5 → 0 ≤ wmD D t p ∧ wmD D t p ≤ 9) (hok : hr_ok n A) (ht : 0 ≤ A 35 ∧ A 35 ≤ 1073741824) {N : Nat} (hN6 : N ≤ 60) : ∃ m1, z_R 65 (m, 0, [(2, 0), (0, (N : Int))], []) = some (m1, some (0, (hr_R w h heat price cs D n N A).2.1)) ∧ C_is w h n heat price D (hr_R w h heat price cs D n N A).1 (if N = 0 then c else c_inc c) (if N = 0 then U else u_cons A U) kn KS cs m1 := by
  rw [s_lp_0 m N (by omega)]
  by_cases z : N = 0
  · rw [if_pos (by omega), if_pos z, if_pos z]
    exact C_lpt hi hN hok ht hN6
  · rw [if_neg (by omega), if_neg z, if_neg z]
    obtain ⟨m1, a1, a2, -⟩ := C_rem hi (s := 12) (Or.inl rfl)
    rw [hi.2.2.1] at a2
    have a1 : z_R 60 (m, 0, [(2, 28), (2, 12)], []) = some (m1, none) := a1
    rw [a1, zb_n, s_lp_15]
    exact C_lpt a2 hN hok ht hN6
theorem C_hours_no (v : Int) (ok : ¬ (0 ≤ v ∧ v ≤ 60)) : z_R 80 (m, 0, [(2, 0), (0, v)], []) = some (m, some (0, -1)) := by
  rw [s_hours_0]
  by_cases h1 : v < 0
  · rw [if_pos h1]
  · rw [if_neg h1, if_neg (by omega)]
theorem C_hours (hi : C_is w h n heat price D A c U kn KS cs m) (hN : (w ≤ 3 ∧ h ≤ 3 ∧ n ≤ 5) ∧ (0 ≤ heat ∧ heat ≤ 9) ∧ ∀ t : Int, 0 ≤ t → ∀ p, p < 5 → 0 ≤ wmD D t p ∧ wmD D t p ≤ 9) (hok : hr_ok n A) (ht : 0 ≤ A 35 ∧ A 35 ≤ 1073741824) {N : Nat} (hN6 : N ≤ 60) : ∃ m1, z_R 80 (m, 0, [(2, 0), (0, (N : Int))], []) = some (m1, some (0, (hr_R w h heat price cs D n N A).2.1)) ∧ C_is w h n heat price D (hr_R w h heat price cs D n N A).1 (if N = 0 then c else c_inc c) (if N = 0 then U else u_cons A U) kn KS cs m1 := by
  obtain ⟨m1, a1, a2⟩ := C_lp hi hN hok ht hN6
  rw [s_hours_0, if_neg (by omega), if_pos (by omega), a1, zb_v, s_hours_17]
  exact ⟨m1, rfl, a2⟩
theorem C_hour1 (hi : C_is w h n heat price D A c U kn KS cs m) (hN : (w ≤ 3 ∧ h ≤ 3 ∧ n ≤ 5) ∧ (0 ≤ heat ∧ heat ≤ 9) ∧ ∀ t : Int, 0 ≤ t → ∀ p, p < 5 → 0 ≤ wmD D t p ∧ wmD D t p ≤ 9) (hok : hr_ok n A) (ht : 0 ≤ A 35 ∧ A 35 ≤ 1073741824) : ∃ m1, z_R 64 (m, 0, [(2, 0)], []) = some (m1, some (0, (hr_R w h heat price cs D n 1 A).2.1)) ∧ C_is w h n heat price D (hr_R w h heat price cs D n 1 A).1 (c_inc c) (u_cons A U) kn KS cs m1 := by
  obtain ⟨m1, a1, a2⟩ := C_lp hi hN hok ht (N := 1) (by decide)
  have a1 : z_R 65 (m, 0, [(2, 0), (0, 1)], []) = some (m1, some (0, (hr_R w h heat price cs D n 1 A).2.1)) := a1
  rw [if_neg (by decide), if_neg (by decide)] at a2
  rw [s_hour_0, a1, zb_v, s_hour_5]
  exact ⟨m1, rfl, a2⟩
theorem R_go {a : Nat} (ha : z_A 37 a) (ha2 : z_ab a) (hN : (w ≤ 3 ∧ h ≤ 3 ∧ n ≤ 5) ∧ (0 ≤ heat ∧ heat ≤ 9) ∧ ∀ t : Int, 0 ≤ t → ∀ p, p < 5 → 0 ≤ wmD D t p ∧ wmD D t p ≤ 9) {B : Nat → Int} (hok : hr_ok n B) (ht : 0 ≤ B 35 ∧ B 35 ≤ 1073741824) {N : Nat} (hN6 : N ≤ 1000000) (hi : R_is w h n heat price D A c U kn KS cs m) (hB : rS m a n = B) (k6 : m 251 32 = 0) (k7 : m 251 33 = 0) (k8 : m 251 34 = 0) (k9 : m 251 35 = 0) : ∃ m1, z_R 207 (m, 0, [(2, 251), (2, ((a : Nat) : Int)), (0, (N : Int)), (9, 0)], []) = some (m1, none) ∧ (rS m1 a n, m1 251 32, m1 251 33, m1 251 34, m1 251 35) = hr_R w h heat price cs D n N B ∧ z_same (r_LHs a) m m1 := by
  obtain ⟨m1, a1, a2, a3⟩ := r_goHours ha ha2 hN.1.1 hN.1.2.1 (price := price) ⟨hN.1.2.2, hN.2.1, c_ml_ok cs, hN.2.2⟩ hN6 m (R_cfg hi) hB hok ht.1 (by omega)
  rw [k6, k7, k8, k9] at a2
  exact ⟨m1, a1, a2, a3⟩
theorem R_LH252 (hi : R_is w h n heat price D A c U kn KS cs m) {m1 : z_M} {B : Nat → Int} (hs : z_same (r_LHs 252) m m1) (hB : rS m1 252 n = B) : R_is w h n heat price D B c U kn KS cs m1 := R_mkA hi (fun p k hk h1 => by
  have hk' := hk
  unfold R_hit at hk'
  have hk' := of_decide_eq_true hk'
  exact hs.of (by
    unfold r_LHs
    (repeat' (first | exact trivial | refine z_of_c ?_ ?_)) <;> omega)) hB
theorem R_lpt (hi : R_is w h n heat price D A c U kn KS cs m) (hN : (w ≤ 3 ∧ h ≤ 3 ∧ n ≤ 5) ∧ (0 ≤ heat ∧ heat ≤ 9) ∧ ∀ t : Int, 0 ≤ t → ∀ p, p < 5 → 0 ≤ wmD D t p ∧ wmD D t p ≤ 9) (hok : hr_ok n A) (ht : 0 ≤ A 35 ∧ A 35 ≤ 1073741824) {N : Nat} (hN6 : N ≤ 60) : ∃ m1, ((z_R 207 (z_up (z_up (z_up (z_up m 251 32 0) 251 33 0) 251 34 0) 251 35 0, 0, [(2, 251), (2, 252), (0, (N : Int)), (9, 0)], [])).bind fun qq => z_R 205 (qq.1, 42, [(2, 251), (0, (N : Int))], qq.2.toList ++ [])) = some (m1, some (0, (hr_R w h heat price cs D n N A).2.1)) ∧ R_is w h n heat price D (hr_R w h heat price cs D n N A).1 c U kn KS cs m1 := by
  have h0 : R_is w h n heat price D A c U kn KS cs (z_up (z_up (z_up (z_up m 251 32 0) 251 33 0) 251 34 0) 251 35 0) := R_upn (R_upn (R_upn (R_upn hi (by decide)) (by decide)) (by decide)) (by decide)
  have k6 : (z_up (z_up (z_up (z_up m 251 32 0) 251 33 0) 251 34 0) 251 35 0) 251 32 = 0 := by rw [zu_k (by decide), zu_k (by decide), zu_k (by decide), zu_self]
  have k7 : (z_up (z_up (z_up (z_up m 251 32 0) 251 33 0) 251 34 0) 251 35 0) 251 33 = 0 := by rw [zu_k (by decide), zu_k (by decide), zu_self]
  have k8 : (z_up (z_up (z_up (z_up m 251 32 0) 251 33 0) 251 34 0) 251 35 0) 251 34 = 0 := by rw [zu_k (by decide), zu_self]
  have k9 : (z_up (z_up (z_up (z_up m 251 32 0) 251 33 0) 251 34 0) 251 35 0) 251 35 = 0 := zu_self
  generalize z_up (z_up (z_up (z_up m 251 32 0) 251 33 0) 251 34 0) 251 35 0 = m0 at h0 k6 k7 k8 k9 ⊢
  obtain ⟨m1, a1, a2, a3⟩ := R_go z_A_252 (Or.inl rfl) hN hok ht (N := N) (by omega) h0 h0.2.2.1 k6 k7 k8 k9
  have a1 : z_R 207 (m0, 0, [(2, 251), (2, 252), (0, (N : Int)), (9, 0)], []) = some (m1, none) := a1
  generalize hr_R w h heat price cs D n N A = R at a2 ⊢
  subst a2
  have h1 := R_LH252 h0 a3 rfl
  rw [a1, zb_n, t_hours_42 m1 N (by omega)]
  have e32 : ∀ v, (z_up m1 251 10 v) 251 32 = m1 251 32 := fun v => zu_k (by decide)
  rw [t_tell0, zb_n, t_hours_56, t_tell1, zb_n, t_hours_65, t_tell2, zb_n, t_hours_77]
  rw [t_told3 (by decide) (by decide)]
  exact ⟨_, rfl, R_upn (R_upn (R_upn (R_upn (R_upn (R_upn (R_upn h1 (by decide)) (by decide)) (by decide)) (by decide)) (by decide)) (by decide)) (by decide)⟩
theorem R_lp (hi : R_is w h n heat price D A c U kn KS cs m) (hN : (w ≤ 3 ∧ h ≤ 3 ∧ n ≤ 5) ∧ (0 ≤ heat ∧ heat ≤ 9) ∧ ∀ t : Int, 0 ≤ t → ∀ p, p < 5 → 0 ≤ wmD D t p ∧ wmD D t p ≤ 9) (hok : hr_ok n A) (ht : 0 ≤ A 35 ∧ A 35 ≤ 1073741824) {N : Nat} (hN6 : N ≤ 60) : ∃ m1, z_R 205 (m, 0, [(2, 251), (0, (N : Int))], []) = some (m1, some (0, (hr_R w h heat price cs D n N A).2.1)) ∧ R_is w h n heat price D (hr_R w h heat price cs D n N A).1 (if N = 0 then c else c_inc c) (if N = 0 then U else u_cons A U) kn KS cs m1 := by
  have hu := R_upn (p0 := 251) (k0 := 11) (v := 0) hi (by decide)
  rw [t_hours_0, if_pos (by omega)]
  generalize z_up m 251 11 0 = m0 at hu ⊢
  by_cases z : N = 0
  · rw [if_pos (by omega), if_pos z, if_pos z]
    exact R_lpt hu hN hok ht hN6
  · rw [if_neg (by omega), if_neg z, if_neg z]
    obtain ⟨m1, a1, a2, -⟩ := R_rem hu (a := 252) (Or.inl rfl)
    rw [hu.2.2.1] at a2
    have a1 : z_R 197 (m0, 0, [(2, 251), (2, 252), (9, 0)], []) = some (m1, none) := a1
    rw [a1, zb_n, t_hours_29]
    exact R_lpt a2 hN hok ht hN6
theorem R_hours_no (hi : R_is w h n heat price D A c U kn KS cs m) (v : Int) (ok : ¬ (0 ≤ v ∧ v ≤ 60)) : ∃ m1, z_R 205 (m, 0, [(2, 251), (0, v)], []) = some (m1, some (0, -1)) ∧ R_is w h n heat price D A c U kn KS cs m1 := by
  refine ⟨z_up m 251 11 0, ?_, R_upn hi (by decide)⟩
  rw [t_hours_0, if_neg ok]
theorem R_hour1 (hi : R_is w h n heat price D A c U kn KS cs m) (hN : (w ≤ 3 ∧ h ≤ 3 ∧ n ≤ 5) ∧ (0 ≤ heat ∧ heat ≤ 9) ∧ ∀ t : Int, 0 ≤ t → ∀ p, p < 5 → 0 ≤ wmD D t p ∧ wmD D t p ≤ 9) (hok : hr_ok n A) (ht : 0 ≤ A 35 ∧ A 35 ≤ 1073741824) : ∃ m1, z_R 204 (m, 0, [(2, 251)], []) = some (m1, some (0, (hr_R w h heat price cs D n 1 A).2.1)) ∧ R_is w h n heat price D (hr_R w h heat price cs D n 1 A).1 (c_inc c) (u_cons A U) kn KS cs m1 := by
  obtain ⟨m1, a1, a2⟩ := R_lp hi hN hok ht (N := 1) (by decide)
  have a1 : z_R 205 (m, 0, [(2, 251), (0, 1)], []) = some (m1, some (0, (hr_R w h heat price cs D n 1 A).2.1)) := a1
  rw [if_neg (by decide), if_neg (by decide)] at a2
  rw [t_hour_0, a1, zb_v, t_hour_5]
  exact ⟨m1, rfl, a2⟩
end
end
section
/-! THE CASES of what both are in -/
def Rel_C (σ : m_H) : Prop := Rel_T σ ∧ Core (z_m σ)
noncomputable def core_offb (y : Nat) : Bool := C_off y && R_off2 y
theorem core_off_ok {y : Nat} (h : core_offb y = true) {C : A_C} (hC : C ∈ cs_at y) {alts : List A_A} {T : Int} {ρ : List Int} {σ σ' : m_H} {r : Option Value} (hp : c_post alts C.2.2.2.2.1 T ρ σ r σ') (hK : Core (z_m σ)) : Core (z_m σ') := by
  obtain ⟨h1, h2⟩ := Bool.and_eq_true _ _ |>.mp h
  obtain ⟨w, h, n, heat, price, D, A, c, U, kn, KS, cs, a, b, cW⟩ := hK
  exact Core_mk (C_fr a (C_off_ok h1 hC hp)) (R_fr b (R_off2_ok h2 hC hp)) cW
theorem core_q {c : l_C} (h1 : l_rel2 Rel_T c) (h : (core_offb c.2.2.1 && core_offb c.2.2.2.2.2.2.2) = true) : l_rel2 Rel_C c := by
  obtain ⟨g1, g2⟩ := Bool.and_eq_true _ _ |>.mp h
  intro M1 M2 M3 σ σ1 σ2 as v1 v2 C1 C2 ρ1 ρ2 ha hR hh hM1 hC1 hp1 hE1 hC2 hp2 hE2
  have z := h1 M1 M2 M3 σ σ1 σ2 as v1 v2 C1 C2 ρ1 ρ2 ha hR.1 hh hM1 hC1 hp1 hE1 hC2 hp2 hE2
  exact ⟨⟨z.1, core_off_ok g2 hC2 hp2 (core_off_ok g1 hC1 hp1 hR.2)⟩, z.2⟩
theorem core_q3 {y n : Nat} (h1 : l_rel3 Rel_T y n) (h : core_offb y = true) : l_rel3 Rel_C y n := by
  intro M1 M2 M3 σ σ1 σ2 as v C2 ρ2 ha hR hh hM1 hf hh1 hC2 hp2 hE2
  have hz : ∀ p k, (¬ p = 6 ∧ ¬ p = 7 ∧ ¬ p = 278) → z_m σ1 p k = z_m σ p k := fun p k hp => by
    have e := hf p k (fun ⟨q, q1, q2, _⟩ => by
      simp only [List.mem_cons, List.not_mem_nil, or_false] at q1
      rcases q1 with rfl | rfl | rfl <;> simp only at q2 <;> omega)
    unfold z_m
    rw [e]
  refine ⟨h1 M1 M2 M3 σ σ1 σ2 as v C2 ρ2 ha hR.1 hh hM1 hf hh1 hC2 hp2 hE2, core_off_ok h hC2 hp2 ?_⟩
  obtain ⟨w, h, n, heat, price, D, A, c, U, kn, KS, cs, a, b, cW⟩ := hR.2
  refine Core_mk (C_fr a fun p k hk => hz p k ?_) (R_fr b fun p k hk => hz p k ?_) cW
  · refine ⟨fun z => ?_, fun z => ?_, fun z => ?_⟩ <;> (subst z; unfold C_hit at hk; have := of_decide_eq_true hk; omega)
  · refine ⟨fun z => ?_, fun z => ?_, fun z => ?_⟩ <;> (subst z; unfold R_hit at hk; have := of_decide_eq_true hk; omega)
/-- texts of a case whose calls leave them -/
theorem T_two {y1 y2 : Nat} (h1 : rel_offb y1 = true) (h2 : rel_offb y2 = true) {C1 C2 : A_C} (hC1 : C1 ∈ cs_at y1) (hC2 : C2 ∈ cs_at y2) {M2 M3 : Int} {ρ1 ρ2 : List Int} {σ σ1 σ2 : m_H} {r1 r2 : Option Value} (hp1 : c_post C1.2.2.2.2.2.2.2.1 C1.2.2.2.2.1 M2 ρ1 σ r1 σ1) (hp2 : c_post C2.2.2.2.2.2.2.2.1 C2.2.2.2.2.1 M3 ρ2 σ1 r2 σ2) (hR : Rel_T σ) : Rel_T σ2 := rel_offb_ok h2 hC2 hp2 (rel_offb_ok h1 hC1 hp1 hR)
theorem core_set : l_rel2 Rel_C (394, 58, 53, 2, false, 411, 61, 192) := by
  intro M1 M2 M3 σ σ1 σ2 as v1 v2 C1 C2 ρ1 ρ2 ha hR hh hM1 hC1 hp1 hE1 hC2 hp2 hE2
  obtain ⟨a, v, rfl⟩ := as_two ha
  have hE1 : z_R 53 (z_m σ, 0, [(2, 0), (0, a.toInt), (0, v.toInt), (9, 0)], []) = some (z_m σ1, some (0, v1.toInt)) := z_R_iff.mpr hE1
  have hE2 : z_R 192 (z_m σ1, 0, [(2, 251), (0, a.toInt), (0, v.toInt), (9, 0)], []) = some (z_m σ2, some (0, v2.toInt)) := z_R_iff.mpr hE2
  have hT := T_two (y1 := 53) (y2 := 192) (by decide +kernel) (by decide +kernel) hC1 hC2 hp1 hp2 hR.1
  obtain ⟨w, h, n, heat, price, D, A, c, U, kn, KS, cs, cC, cR, cW⟩ := hR.2
  have n5 := (core_b hh hM1 cR).1.2.2
  have f1 := R_off2_ok (y := 53) (by decide +kernel) hC1 hp1
  have f2 := C_off_ok (y := 192) (by decide +kernel) hC2 hp2
  have cR1 := R_fr cR f1
  by_cases ok : (0 ≤ a.toInt ∧ a.toInt ≤ 2) ∧ 0 ≤ v.toInt ∧ v.toInt ≤ 9
  · rcases (show a.toInt = 0 ∨ a.toInt = 1 ∨ a.toInt = 2 by omega) with e | e | e
    · rw [e] at hE1 hE2
      have z := core_do cR1 (fun q => C_fr q f2) (C_set0 cC v.toInt ok.2) (fun q => R_set0 q v.toInt ok.2) hE1 hE2
      exact ⟨⟨hT, Core_mk z.1.1 z.1.2 cW⟩, fun _ => z.2⟩
    · rw [e] at hE1 hE2
      have z := core_do cR1 (fun q => C_fr q f2) (C_set1 cC v.toInt ok.2) (fun q => R_set1 q v.toInt ok.2) hE1 hE2
      exact ⟨⟨hT, Core_mk z.1.1 z.1.2 (w_W_A cW (wi_off n5 cW.2.1 (by decide) (by decide)))⟩, fun _ => z.2⟩
    · rw [e] at hE1 hE2
      have z := core_do cR1 (fun q => C_fr q f2) (C_set2 cC v.toInt ok.2) (fun q => R_set2 q v.toInt ok.2) hE1 hE2
      exact ⟨⟨hT, Core_mk z.1.1 z.1.2 cW⟩, fun _ => z.2⟩
  · have z := core_do cR1 (fun q => C_fr q f2) ⟨_, C_set_no _ _ ok, cC⟩ (fun q => R_set_no q _ _ ok) hE1 hE2
    exact ⟨⟨hT, Core_mk z.1.1 z.1.2 cW⟩, fun _ => z.2⟩
theorem core_doing : l_rel2 Rel_C (437, 62, 54, 3, false, 460, 66, 193) := by
  intro M1 M2 M3 σ σ1 σ2 as v1 v2 C1 C2 ρ1 ρ2 ha hR hh hM1 hC1 hp1 hE1 hC2 hp2 hE2
  obtain ⟨p, k, v, rfl⟩ := as_three ha
  have hE1 : z_R 54 (z_m σ, 0, [(2, 0), (0, p.toInt), (0, k.toInt), (0, v.toInt), (9, 0)], []) = some (z_m σ1, some (0, v1.toInt)) := z_R_iff.mpr hE1
  have hE2 : z_R 193 (z_m σ1, 0, [(2, 251), (0, p.toInt), (0, k.toInt), (0, v.toInt), (9, 0)], []) = some (z_m σ2, some (0, v2.toInt)) := z_R_iff.mpr hE2
  have hT := T_two (y1 := 54) (y2 := 193) (by decide +kernel) (by decide +kernel) hC1 hC2 hp1 hp2 hR.1
  obtain ⟨w, h, n, heat, price, D, A, c, U, kn, KS, cs, cC, cR, cW⟩ := hR.2
  obtain ⟨⟨-, -, n5⟩, -⟩ := core_b hh hM1 cR
  have f1 := R_off2_ok (y := 54) (by decide +kernel) hC1 hp1
  have f2 := C_off_ok (y := 193) (by decide +kernel) hC2 hp2
  have cR1 := R_fr cR f1
  by_cases ok : (0 ≤ p.toInt ∧ p.toInt < (n : Int)) ∧ (0 ≤ k.toInt ∧ k.toInt ≤ 5) ∧ 0 ≤ v.toInt ∧ v.toInt ≤ 9
  · have z := core_do cR1 (fun q => C_fr q f2) (C_doing cC n5 _ _ _ ok.1 ok.2.1 ok.2.2) (fun q => R_doing q n5 _ _ _ ok.1 ok.2.1 ok.2.2) hE1 hE2
    exact ⟨⟨hT, Core_mk z.1.1 z.1.2 cW⟩, fun _ => z.2⟩
  · have z := core_do cR1 (fun q => C_fr q f2) ⟨_, C_doing_no cC n5 _ _ _ ok, cC⟩ (fun q => R_doing_no q n5 _ _ _ ok) hE1 hE2
    exact ⟨⟨hT, Core_mk z.1.1 z.1.2 cW⟩, fun _ => z.2⟩
theorem core_move : l_rel2 Rel_C (541, 72, 58, 2, false, 558, 75, 195) := by
  intro M1 M2 M3 σ σ1 σ2 as v1 v2 C1 C2 ρ1 ρ2 ha hR hh hM1 hC1 hp1 hE1 hC2 hp2 hE2
  obtain ⟨p, r, rfl⟩ := as_two ha
  have hE1 : z_R 58 (z_m σ, 0, [(2, 0), (0, p.toInt), (0, r.toInt), (9, 0)], []) = some (z_m σ1, some (0, v1.toInt)) := z_R_iff.mpr hE1
  have hE2 : z_R 195 (z_m σ1, 0, [(2, 251), (0, p.toInt), (0, r.toInt), (9, 0)], []) = some (z_m σ2, some (0, v2.toInt)) := z_R_iff.mpr hE2
  have hT := T_two (y1 := 58) (y2 := 195) (by decide +kernel) (by decide +kernel) hC1 hC2 hp1 hp2 hR.1
  obtain ⟨w, h, n, heat, price, D, A, c, U, kn, KS, cs, cC, cR, cW⟩ := hR.2
  obtain ⟨⟨-, -, n5⟩, -, -, -, hok, -⟩ := core_b hh hM1 cR
  have f1 := R_off2_ok (y := 58) (by decide +kernel) hC1 hp1
  have f2 := C_off_ok (y := 195) (by decide +kernel) hC2 hp2
  have cR1 := R_fr cR f1
  by_cases ok : (0 ≤ p.toInt ∧ p.toInt < (n : Int)) ∧ ¬ u_hs (w : Int) (h : Int) r.toInt = 0
  · obtain ⟨q, hq⟩ : ∃ q : Nat, p.toInt = (q : Int) := ⟨p.toInt.toNat, by omega⟩
    rw [hq] at hE1 hE2
    have hqn : q < n := by omega
    have hb := hok.2.2.1 q hqn
    by_cases e : A (q + 18) = r.toInt
    · have z := core_do cR1 (fun q => C_fr q f2) ⟨_, C_move_2 cC n5 hqn _ ok.2 e, cC⟩ (fun x => R_move_2 x n5 hqn _ ok.2 e) hE1 hE2
      exact ⟨⟨hT, Core_mk z.1.1 z.1.2 cW⟩, fun _ => z.2⟩
    · have z := core_do cR1 (fun q => C_fr q f2) (C_move cC n5 hqn _ ok.2 e hb.1) (fun x => R_move x n5 hqn _ ok.2 e) hE1 hE2
      exact ⟨⟨hT, Core_mk z.1.1 z.1.2 (w_W_do cW (wi_go n5 cW.2.1 (Or.inr ok.2) (by omega)))⟩, fun _ => z.2⟩
  · have z := core_do cR1 (fun q => C_fr q f2) ⟨_, C_move_no cC n5 _ _ ok, cC⟩ (fun q => R_move_no q n5 _ _ ok) hE1 hE2
    exact ⟨⟨hT, Core_mk z.1.1 z.1.2 cW⟩, fun _ => z.2⟩
theorem core_stove : l_rel2 Rel_C (572, 76, 62, 1, false, 583, 79, 201) := by
  intro M1 M2 M3 σ σ1 σ2 as v1 v2 C1 C2 ρ1 ρ2 ha hR hh hM1 hC1 hp1 hE1 hC2 hp2 hE2
  obtain ⟨r, rfl⟩ := as_one ha
  have hE1 : z_R 62 (z_m σ, 0, [(2, 0), (0, r.toInt), (9, 0)], []) = some (z_m σ1, some (0, v1.toInt)) := z_R_iff.mpr hE1
  have hE2 : z_R 201 (z_m σ1, 0, [(2, 251), (0, r.toInt), (9, 0)], []) = some (z_m σ2, some (0, v2.toInt)) := z_R_iff.mpr hE2
  have hT := T_two (y1 := 62) (y2 := 201) (by decide +kernel) (by decide +kernel) hC1 hC2 hp1 hp2 hR.1
  obtain ⟨w, h, n, heat, price, D, A, c, U, kn, KS, cs, cC, cR, cW⟩ := hR.2
  obtain ⟨⟨-, -, n5⟩, -, -, -, -, -, h34, -⟩ := core_b hh hM1 cR
  have f1 := R_off2_ok (y := 62) (by decide +kernel) hC1 hp1
  have f2 := C_off_ok (y := 201) (by decide +kernel) hC2 hp2
  have cR1 := R_fr cR f1
  generalize hx : (if r.toInt = -1 ∨ ¬ u_hs (w : Int) (h : Int) r.toInt = 0 then (if A 34 = r.toInt then -2 else u_was (A 34)) else -1) = x
  by_cases h0 : x < 0
  · have z := core_do cR1 (fun q => C_fr q f2) ⟨_, C_stove_no cC _ x hx h0, cC⟩ (fun q => R_stove_no q _ x hx h0 h34.1) hE1 hE2
    exact ⟨⟨hT, Core_mk z.1.1 z.1.2 cW⟩, fun _ => z.2⟩
  · have z := core_do cR1 (fun q => C_fr q f2) (C_stove cC _ x hx h0) (fun q => R_stove q _ x hx h0) hE1 hE2
    exact ⟨⟨hT, Core_mk z.1.1 z.1.2 (w_W_do cW (wi_st cW.2.1 n5 (Decidable.byContradiction fun y => h0 (by rw [← hx, if_neg y]; decide))))⟩, fun _ => z.2⟩
theorem core_hour : l_rel2 Rel_C (591, 80, 64, 0, false, 596, 83, 204) := by
  intro M1 M2 M3 σ σ1 σ2 as v1 v2 C1 C2 ρ1 ρ2 ha hR hh hM1 hC1 hp1 hE1 hC2 hp2 hE2
  obtain rfl := as_nil ha
  have hE1 : z_R 64 (z_m σ, 0, [(2, 0)], []) = some (z_m σ1, some (0, v1.toInt)) := z_R_iff.mpr hE1
  have hE2 : z_R 204 (z_m σ1, 0, [(2, 251)], []) = some (z_m σ2, some (0, v2.toInt)) := z_R_iff.mpr hE2
  have hT := T_two (y1 := 64) (y2 := 204) (by decide +kernel) (by decide +kernel) hC1 hC2 hp1 hp2 hR.1
  obtain ⟨w, h, n, heat, price, D, A, c, U, kn, KS, cs, cC, cR, cW⟩ := hR.2
  obtain ⟨b1, b2, -, -, hok, b35, -, b7⟩ := core_b hh hM1 cR
  have f1 := R_off2_ok (y := 64) (by decide +kernel) hC1 hp1
  have f2 := C_off_ok (y := 204) (by decide +kernel) hC2 hp2
  have cR1 := R_fr cR f1
  have z := core_do cR1 (fun q => C_fr q f2) (C_hour1 cC ⟨b1, b2, b7⟩ hok b35) (fun q => R_hour1 q ⟨b1, b2, b7⟩ hok b35) hE1 hE2
  exact ⟨⟨hT, Core_mk z.1.1 z.1.2 (w_W_do cW (wi_H b1.1 b1.2.1 b1.2.2 1 A 0 0 0 0 cW.2.1))⟩, fun _ => z.2⟩
theorem core_hours : l_rel2 Rel_C (610, 84, 80, 1, false, 621, 87, 205) := by
  intro M1 M2 M3 σ σ1 σ2 as v1 v2 C1 C2 ρ1 ρ2 ha hR hh hM1 hC1 hp1 hE1 hC2 hp2 hE2
  obtain ⟨a, rfl⟩ := as_one ha
  have hE1 : z_R 80 (z_m σ, 0, [(2, 0), (0, a.toInt)], []) = some (z_m σ1, some (0, v1.toInt)) := z_R_iff.mpr hE1
  have hE2 : z_R 205 (z_m σ1, 0, [(2, 251), (0, a.toInt)], []) = some (z_m σ2, some (0, v2.toInt)) := z_R_iff.mpr hE2
  have hT := T_two (y1 := 80) (y2 := 205) (by decide +kernel) (by decide +kernel) hC1 hC2 hp1 hp2 hR.1
  obtain ⟨w, h, n, heat, price, D, A, c, U, kn, KS, cs, cC, cR, cW⟩ := hR.2
  obtain ⟨b1, b2, -, -, hok, b35, -, b7⟩ := core_b hh hM1 cR
  have f1 := R_off2_ok (y := 80) (by decide +kernel) hC1 hp1
  have f2 := C_off_ok (y := 205) (by decide +kernel) hC2 hp2
  have cR1 := R_fr cR f1
  by_cases ok : 0 ≤ a.toInt ∧ a.toInt ≤ 60
  · obtain ⟨N, hN⟩ : ∃ N : Nat, a.toInt = (N : Int) := ⟨a.toInt.toNat, by omega⟩
    rw [hN] at hE1 hE2
    have z := core_do cR1 (fun q => C_fr q f2) (C_hours cC ⟨b1, b2, b7⟩ hok b35 (N := N) (by omega)) (fun q => R_lp q ⟨b1, b2, b7⟩ hok b35 (N := N) (by omega)) hE1 hE2
    exact ⟨⟨hT, Core_mk z.1.1 z.1.2 (w_W_if cW (wi_H b1.1 b1.2.1 b1.2.2 N A 0 0 0 0 cW.2.1))⟩, fun _ => z.2⟩
  · have z := core_do cR1 (fun q => C_fr q f2) ⟨_, C_hours_no _ ok, cC⟩ (fun q => R_hours_no q _ ok) hE1 hE2
    exact ⟨⟨hT, Core_mk z.1.1 z.1.2 cW⟩, fun _ => z.2⟩
theorem core_pay : l_rel2 Rel_C (641, 88, 81, 2, true, 657, 91, 211) := by
  intro M1 M2 M3 σ σ1 σ2 as v1 v2 C1 C2 ρ1 ρ2 ha hR hh hM1 hC1 hp1 hE1 hC2 hp2 hE2
  obtain ⟨p, v, rfl⟩ := as_two ha
  have hE1 : z_R 81 (z_m σ, 0, [(2, 0), (0, p.toInt), (0, v.toInt)], []) = some (z_m σ1, some (0, v1.toInt)) := z_R_iff.mpr hE1
  have hE2 : z_R 211 (z_m σ1, 0, [(2, 251), (0, p.toInt), (0, v.toInt)], []) = some (z_m σ2, some (0, v2.toInt)) := z_R_iff.mpr hE2
  have hT := T_two (y1 := 81) (y2 := 211) (by decide +kernel) (by decide +kernel) hC1 hC2 hp1 hp2 hR.1
  obtain ⟨w, h, n, heat, price, D, A, c, U, kn, KS, cs, cC, cR, cW⟩ := hR.2
  obtain ⟨⟨-, -, n5⟩, -⟩ := core_b hh hM1 cR
  have f1 := R_off2_ok (y := 81) (by decide +kernel) hC1 hp1
  have f2 := C_off_ok (y := 211) (by decide +kernel) hC2 hp2
  have cR1 := R_fr cR f1
  by_cases ok : (0 ≤ p.toInt ∧ p.toInt < (n : Int)) ∧ (1 ≤ v.toInt ∧ v.toInt ≤ 9999) ∧ v.toInt ≤ A (p.toInt.toNat + 23)
  · obtain ⟨q, hq⟩ : ∃ q : Nat, p.toInt = (q : Int) := ⟨p.toInt.toNat, by omega⟩
    rw [hq] at hE1 hE2 ok
    rw [Int.toNat_natCast] at ok
    have z := core_do cR1 (fun q => C_fr q f2) (C_pay cC n5 (by omega) _ ok.2.1 ok.2.2) (fun x => R_pay x n5 (by omega) _ ok.2.1 ok.2.2) hE1 hE2
    exact ⟨⟨hT, Core_mk z.1.1 z.1.2 (w_W_do cW (wi_off n5 cW.2.1 (by omega) (by omega)))⟩, fun _ => z.2⟩
  · have z := core_do cR1 (fun q => C_fr q f2) ⟨_, C_pay_no cC n5 _ _ ok, cC⟩ (fun q => R_pay_no q n5 _ _ ok) hE1 hE2
    exact ⟨⟨hT, Core_mk z.1.1 z.1.2 cW⟩, fun _ => z.2⟩
theorem core_undo : l_rel2 Rel_C (679, 96, 87, 0, false, 684, 99, 216) := by
  intro M1 M2 M3 σ σ1 σ2 as v1 v2 C1 C2 ρ1 ρ2 ha hR hh hM1 hC1 hp1 hE1 hC2 hp2 hE2
  obtain rfl := as_nil ha
  have hE1 : z_R 87 (z_m σ, 0, [(2, 0)], []) = some (z_m σ1, some (0, v1.toInt)) := z_R_iff.mpr hE1
  have hE2 : z_R 216 (z_m σ1, 0, [(2, 251), (9, 0)], []) = some (z_m σ2, some (0, v2.toInt)) := z_R_iff.mpr hE2
  have hT := T_two (y1 := 87) (y2 := 216) (by decide +kernel) (by decide +kernel) hC1 hC2 hp1 hp2 hR.1
  obtain ⟨w, h, n, heat, price, D, A, c, U, kn, KS, cs, cC, cR, cW⟩ := hR.2
  have f1 := R_off2_ok (y := 87) (by decide +kernel) hC1 hp1
  have f2 := C_off_ok (y := 216) (by decide +kernel) hC2 hp2
  have cR1 := R_fr cR f1
  cases hc : c with
  | zero =>
    have z := core_do cR1 (fun q => C_fr q f2) ⟨_, C_undo_no cC hc, cC⟩ (fun q => R_undo_no q hc) hE1 hE2
    exact ⟨⟨hT, Core_mk z.1.1 z.1.2 cW⟩, fun _ => z.2⟩
  | succ j =>
    have z := core_do cR1 (fun q => C_fr q f2) (C_undo cC hc) (fun q => R_undo q hc) hE1 hE2
    exact ⟨⟨hT, Core_mk z.1.1 z.1.2 (w_W_un hc cW)⟩, fun _ => z.2⟩
/-! as it begins -/
noncomputable def V_ck (L : List (Nat × Nat × Nat × Int)) (σ : m_H) : Bool := L.all fun e => (List.range e.2.2.1).all fun j => match c_at σ e.1 (e.2.1 + j) with
  | some v => i_eq (z_vn v) e.2.2.2
  | none => false
theorem V_ck_ok {L : List (Nat × Nat × Nat × Int)} {σ : m_H} (h : V_ck L σ = true) : ∀ e ∈ L, ∀ j, j < e.2.2.1 → z_m σ e.1 (e.2.1 + j) = e.2.2.2 := fun e he j hj => by
  have := List.all_eq_true.mp (List.all_eq_true.mp h e he) j (List.mem_range.mpr hj)
  split at this
  · rename_i v e1
    unfold z_m
    rw [e1]
    exact i_eq_iff.mp this
  · cases this
def V_L : List (Nat × Nat × Nat × Int) := [(3, 8, 4, 0), (3, 12, 1, 5), (3, 13, 1, 1), (24, 4, 1, -1), (24, 5, 1, 0), (8, 0, 30, 0), (13, 0, 9, 0), (14, 0, 9, 0), (12, 5, 1, 0), (12, 6, 1, -1), (12, 7, 1, 0), (12, 8, 1, 2), (28, 3, 2, 0), (31, 0, 2, -1), (4, 3, 1, 3), (5, 0, 1, 1000), (5, 1, 1, 2), (5, 2, 1, 2047),
  (251, 1, 3, 0), (251, 5, 1, 5), (251, 6, 1, 1), (251, 23, 1, -1), (253, 0, 30, 0), (252, 0, 18, 0), (252, 33, 1, 0), (252, 34, 1, -1), (252, 35, 1, 0), (252, 36, 1, 2), (251, 25, 1, 0), (276, 0, 2, 0), (251, 20, 1, 0)]
theorem core_start : ∀ σ, xs_is σ → Rel_C σ := fun σ hx => ⟨R_start σ hx, by
  have V := V_ck_ok (xs_ck_ok (f := fun σ => V_ck V_L σ) (by decide +kernel) hx)
  generalize z_m σ = m at V
  have v : ∀ p k n x, (p, k, n, x) ∈ V_L → ∀ j, j < n → m p (k + j) = x := fun p k n x h j hj => V (p, k, n, x) h j hj
  have v1 : ∀ p k x, (p, k, 1, x) ∈ V_L → m p k = x := fun p k x h => v p k 1 x h 0 (by decide)
  have v0 : ∀ p n x, (p, 0, n, x) ∈ V_L → ∀ j, j < n → m p j = x := fun p n x h j hj => by
    have := v p 0 n x h j hj
    rw [Nat.zero_add] at this
    exact this
  have hm : ∀ r : Nat, r < 9 → (z_and (z_shr (m 3 10) (r : Int)) 1 = 0 ↔ u_hs ((0 : Nat) : Int) ((0 : Nat) : Int) (r : Int) = 0) := fun r hr => by
    have e : ∀ r, r < 9 → z_and (z_shr 0 ((r : Nat) : Int)) 1 = 0 ∧ u_hs ((0 : Nat) : Int) ((0 : Nat) : Int) (r : Int) = 0 := by decide +kernel
    rw [v 3 8 4 0 (by decide) 2 (by decide)]
    exact ⟨fun _ => (e r hr).2, fun _ => (e r hr).1⟩
  have hS : cS m 12 ((0 : Nat) : Int) = rS m 252 ((0 : Nat) : Int) := by
    funext k
    unfold cS rS a_msk
    by_cases hv : a_vis ((0 : Nat) : Int) k = true
    · rw [if_pos hv, if_pos hv]
      unfold cR rR
      by_cases h1 : k < 9
      · rw [if_pos h1, if_pos (by omega), v0 13 9 0 (by decide) k h1, v0 252 18 0 (by decide) k (by omega)]
      rw [if_neg h1]
      by_cases h2 : k < 18
      · rw [if_pos h2, if_pos (by omega), v0 14 9 0 (by decide) (k - 9) (by omega), v0 252 18 0 (by decide) k (by omega)]
      rw [if_neg h2]
      by_cases h3 : k < 33
      · unfold a_vis at hv
        rw [decide_eq_false h2, decide_eq_false (show ¬ 33 ≤ k by omega), decide_eq_false (show ¬ (((k - 18) % 5 : Nat) : Int) < ((0 : Nat) : Int) by omega)] at hv
        cases hv
      rw [if_neg (by omega), if_neg (by omega), if_neg h3]
      by_cases h4 : k < 37
      · rw [if_pos h4, if_pos h4]
        rcases (show k = 33 ∨ k = 34 ∨ k = 35 ∨ k = 36 by omega) with rfl | rfl | rfl | rfl
        · rw [v1 12 5 0 (by decide), v1 252 33 0 (by decide)]
        · rw [v1 12 6 (-1) (by decide), v1 252 34 (-1) (by decide)]
        · rw [v1 12 7 0 (by decide), v1 252 35 0 (by decide)]
        · rw [v1 12 8 2 (by decide), v1 252 36 2 (by decide)]
      · rw [if_neg h4, if_neg h4]
    · rw [if_neg hv, if_neg hv]
  have e28 : m 28 3 = 0 := v 28 3 2 0 (by decide) 0 (by decide)
  have e284 : m 28 4 = 0 := v 28 3 2 0 (by decide) 1 (by decide)
  refine Core_mk (hW := w_W_0 Iff.rfl ⟨fun p hp => absurd hp (Nat.not_lt_zero p), fun k hk _ => ⟨(rS_at (by omega) (a_vis_lo (by omega))).trans (v0 252 18 0 (by decide) k (by omega)), (rS_at (by omega) (a_vis_lo (by omega))).trans (v0 252 18 0 (by decide) (k + 9) (by omega))⟩, Or.inl ((rS_at (by decide) (a_vis_hi (by decide))).trans (v1 252 34 (-1) (by decide)))⟩ (fun i hi => show ¬ ((-1 : Int) = ((0 : Nat) : Int)) by decide)) (w := 0) (h := 0) (n := 0) (heat := 5) (price := 1) (D := fun _ => 0) (A := rS m 252 ((0 : Nat) : Int)) (c := 0) (U := fun _ _ => 0) (kn := fun _ => -1) (KS := fun _ _ => 0) (cs := [1000, 2, 2047]) ⟨⟨?_, ?_, ?_, ?_, ?_, hm, ?_, ?_⟩, fun j hj => v0 8 30 0 (by decide) j hj, hS, ⟨by omega, e284, by decide, fun i hi => absurd hi (Nat.not_lt_zero i)⟩, fun i hi => ⟨v0 31 2 (-1) (by decide) i hi, fun z => by cases z⟩, ?_, by decide, by decide, ?_⟩ ⟨⟨?_, ?_, ?_, ?_, ?_, ?_⟩, fun j hj => v0 253 30 0 (by decide) j hj, rfl, ⟨v1 251 25 0 (by decide), by decide, fun i hi => absurd hi (Nat.not_lt_zero i)⟩, fun i hi => ⟨Or.inl ⟨v0 276 2 0 (by decide) i hi, rfl⟩, fun z => by cases z⟩, Or.inl ⟨v1 251 20 0 (by decide), rfl⟩⟩
  · exact v 3 8 4 0 (by decide) 0 (by decide)
  · exact v 3 8 4 0 (by decide) 1 (by decide)
  · exact v 3 8 4 0 (by decide) 3 (by decide)
  · exact v1 3 12 5 (by decide)
  · exact v1 3 13 1 (by decide)
  · exact v1 24 4 (-1) (by decide)
  · exact v1 24 5 0 (by decide)
  · exact v1 4 3 3 (by decide)
  · exact ⟨v1 5 0 1000 (by decide), v1 5 1 2 (by decide), v1 5 2 2047 (by decide), trivial⟩
  · exact v 251 1 3 0 (by decide) 0 (by decide)
  · exact v 251 1 3 0 (by decide) 1 (by decide)
  · exact v 251 1 3 0 (by decide) 2 (by decide)
  · exact v1 251 5 5 (by decide)
  · exact v1 251 6 1 (by decide)
  · exact v1 251 23 (-1) (by decide)⟩
end
section
/-! rule, of what both are in -/
theorem cds_le {B : Int} : ∀ {cs : List Int} {row : Nat → Int} {n : Nat}, cds row n cs → (∀ k, k < n + cs.length → row k ≤ B) → ∀ c ∈ cs, c ≤ B
  | [], _, _, _, _, c, hc => absurd hc List.not_mem_nil
  | x :: cs, row, n, h, hb, c, hc => by
    have hl : (x :: cs).length = cs.length + 1 := rfl
    rcases List.mem_cons.mp hc with rfl | hc
    · rw [← h.1]
      exact hb n (by omega)
    · exact cds_le h.2 (fun k hk => hb k (by omega)) c hc
theorem h_ty_259 (k : Nat) : h_ty 259 k = (0, -2147483648, 2147483647) := by
  unfold h_ty t_at
  rw [show (h_at 259).2.2 = [(0, -2147483648, 2147483647)] from rfl]
  show (match ([(0, -2147483648, 2147483647)] : List (Nat × Int × Int))[k % 1]? with | some t => t | none => (9, 0, 0)) = _
  rw [Nat.mod_one]
  rfl
theorem h_ty_5 (k : Nat) : h_ty 5 k = (0, -2147483648, 2147483647) := by
  unfold h_ty t_at
  rw [show (h_at 5).2.2 = [(0, -2147483648, 2147483647)] from rfl]
  show (match ([(0, -2147483648, 2147483647)] : List (Nat × Int × Int))[k % 1]? with | some t => t | none => (9, 0, 0)) = _
  rw [Nat.mod_one]
  rfl
theorem h_ty_258 (k : Nat) : h_ty 258 k = (0, -128, 127) := by
  unfold h_ty t_at
  rw [show (h_at 258).2.2 = [(0, -128, 127)] from rfl]
  show (match ([(0, -128, 127)] : List (Nat × Int × Int))[k % 1]? with | some t => t | none => (9, 0, 0)) = _
  rw [Nat.mod_one]
  rfl
theorem u_g255 {m : z_M} (h : u_R m) (i : Int) : -1 ≤ u_nx (m 2) (m 1 1) 40 i ∧ u_nx (m 2) (m 1 1) 40 i ≤ 255 := by
  unfold u_nx
  by_cases c : 0 ≤ i ∧ i < m 1 1 ∧ i < 40
  · rw [if_pos c, h.2 _ (by omega)]
    have e : z_and (m 254 i.toNat) 255 = (Int32.ofInt (m 254 i.toNat)).toInt % 256 := i32_and255 _
    omega
  · rw [if_neg c]; omega
theorem core_rule : l_rel2 Rel_C (289, 45, 39, 0, false, 294, 48, 175) := by
  intro M1 M2 M3 σ σ1 σ2 as v1 v2 C1 C2 ρ1 ρ2 ha hR hh hM1 hC1 hp1 hE1 hC2 hp2 hE2
  obtain rfl := as_nil ha
  have hE1 : z_R 39 (z_m σ, 0, [(2, 0), (9, 0)], []) = some (z_m σ1, some (0, v1.toInt)) := z_R_iff.mpr hE1
  have hE2 : z_R 175 (z_m σ1, 0, [(2, 251), (9, 0), (9, 0)], []) = some (z_m σ2, some (0, v2.toInt)) := z_R_iff.mpr hE2
  have hT : u_R (z_m σ) := hR.1
  have hz : Rel_T σ2 := u_R_zero ((md_off_ok (y := 175) (by decide +kernel) hC2 hp2).trans (r_rule0 _ hE1)) (md_zero_ok (y := 175) (by decide +kernel) hC2 hp2)
  obtain ⟨r1, r2⟩ := z_rng hh (p := 1) (k := 1) (lo := 0) (hi := 80) (by decide) (by decide +kernel) (by decide +kernel)
  have rb : ∀ k, k < 80 → -128 ≤ z_m σ 254 k ∧ z_m σ 254 k ≤ 127 := fun k hk => z_rng hh (p := 254) (k := k) (lo := -128) (hi := 127) (by decide) (by rw [show h_ln 254 = 80 by decide +kernel]; exact hk) (h_ty_254 k)
  have r259 : ∀ k, k < 7 → -2147483648 ≤ z_m σ 259 k ∧ z_m σ 259 k ≤ 2147483647 := fun k hk => z_rng hh (p := 259) (k := k) (lo := -2147483648) (hi := 2147483647) (by decide) (by rw [show h_ln 259 = 7 by decide +kernel]; exact hk) (h_ty_259 k)
  have r5 : ∀ k, k < 40 → z_m σ1 5 k ≤ 2147483647 := fun k hk => (z_rng (c_post_h hp1).1 (p := 5) (k := k) (lo := -2147483648) (hi := 2147483647) (by decide) (by rw [show h_ln 5 = 40 by decide +kernel]; exact hk) (h_ty_5 k)).2
  have r258 : ∀ k, k < 40 → -128 ≤ z_m σ2 258 k ∧ z_m σ2 258 k ≤ 127 := fun k hk => z_rng (c_post_h hp2).1 (p := 258) (k := k) (lo := -128) (hi := 127) (by decide) (by rw [show h_ln 258 = 40 by decide +kernel]; exact hk) (h_ty_258 k)
  have o8 : z_m σ1 251 8 = z_m σ 251 8 := md_off_ok (y := 39) (by decide +kernel) hC1 hp1
  have o4 : z_m σ1 254 = z_m σ 254 := md_offr_ok (y := 39) (by decide +kernel) hC1 hp1
  have o5 : z_m σ1 259 = z_m σ 259 := md_offr_ok (y := 39) (by decide +kernel) hC1 hp1
  have eG : u_nx (u_t (z_m σ1)) (z_m σ1 251 8) 40 = u_nx (z_m σ 2) (z_m σ 1 1) 40 := by
    rw [u_nx_R hT]
    unfold u_t
    rw [o8, o4]
  obtain ⟨w, h, n, heat, price, D, A, c, U, kn, KS, cs, cC, cR, cW⟩ := hR.2
  have f1 := R_off2_ok (y := 39) (by decide +kernel) hC1 hp1
  have f2 := C_off_ok (y := 175) (by decide +kernel) hC2 hp2
  have cR1 := R_fr cR f1
  obtain ⟨m1, d1, d2, d3, d4, d5⟩ := c_rule (z_m σ) r1 r2 (u_g255 hT)
  obtain ⟨m2, g1, g2, g3, g4, g5⟩ := r_rule (z_m σ1) (by rw [o8, ← hT.1]; exact r1) (by rw [o8, ← hT.1]; exact r2) (fun k hk => by rw [o4]; exact rb k hk) (fun k hk => by rw [o5]; exact r259 k hk)
  have e8 : z_m σ1 251 8 = z_m σ 1 1 := o8.trans hT.1.symm
  rw [eG, e8] at g1 g4 g5
  rw [e8] at g3
  have eU : ∀ m : z_M, (∀ k : Nat, (k : Int) < z_m σ 1 1 → m 258 k = z_m σ1 254 k) → u_nx (fun k => z_and (m 258 k) 255) (z_m σ 1 1) 40 = u_nx (z_m σ 2) (z_m σ 1 1) 40 := fun m hm => by
    rw [← eG, e8]
    funext i
    unfold u_nx u_t
    by_cases ci : 0 ≤ i ∧ i < z_m σ 1 1 ∧ i < 40
    · rw [if_pos ci, if_pos ci]
      show z_and (m 258 i.toNat) 255 = _
      rw [hm i.toNat (by omega)]
    · rw [if_neg ci, if_neg ci]
  generalize u_nx (z_m σ 2) (z_m σ 1 1) 40 = g at d1 d4 d5 g1 g4 g5 eU
  obtain ⟨b1, b2⟩ := R_inj d1 hE1
  obtain ⟨b3, b4⟩ := R_inj g1 hE2
  subst b1 b3
  have hv : v1 = v2 := Int32.toInt_inj.mp (b2.symm.trans b4)
  have hc : ∀ p k, C_hit p k k = true → ¬ p = 4 → ¬ p = 5 → z_m σ1 p k = z_m σ p k := fun p k hk h4 h5 => by
    have hk' := hk
    unfold C_hit at hk'
    have hk' := of_decide_eq_true hk'
    exact d2.of (by
      unfold c_RU
      (repeat' (first | exact trivial | refine z_of_c ?_ ?_)) <;> omega)
  have hr : ∀ p k, R_hit p k k = true → ¬ p = 258 → ¬ (p = 251 ∧ k = 20) → z_m σ2 p k = z_m σ1 p k := fun p k hk h4 h5 => by
    have hk' := hk
    unfold R_hit at hk'
    have hk' := of_decide_eq_true hk'
    exact g2.of (by
      unfold r_RU
      (repeat' (first | exact trivial | refine z_of_c ?_ ?_)) <;> omega)
  refine ⟨⟨hz, ?_⟩, fun _ => hv⟩
  by_cases z : z_m σ 1 1 = 0
  · obtain ⟨k1, k2, k3, k4⟩ := d3 z
    exact Core_mk (hW := cW) (C_fr (C_mkR (cs' := [1000, 2, 2047]) cC hc ⟨k1, by decide, by decide, k2, k3, k4, trivial⟩) f2) (R_mkR cR1 hr (Or.inl ⟨g3 z, rfl⟩))
  by_cases fit : (q_ex g 4 0).1 = true ∧ z_m σ 1 1 ≤ (q_ex g 4 0).2.1
  · obtain ⟨k1, k2⟩ := d4 z fit
    obtain ⟨l1, l2, l3⟩ := g4 z fit
    have hlen : (((q_ex g 4 0).2.2).length : Int) ≤ 40 := by
      have := z_rng (c_post_h hp1).1 (p := 4) (k := 3) (lo := 0) (hi := 40) (by decide) (by decide +kernel) (by decide +kernel)
      omega
    have eg := eU (z_m σ2) l3
    refine Core_mk (hW := cW) (C_fr (C_mkR (cs' := (q_ex g 4 0).2.2) cC hc ⟨k1, by omega, cds_le k2 (fun k hk => r5 k (by omega)), k2⟩) f2) (R_mkR cR1 hr (Or.inr ⟨by omega, by omega, r258, ?_, ?_⟩))
    · rw [l1, eg]; exact fit.1
    · rw [l1, eg]
  · obtain ⟨k1, k2⟩ := d5 z fit
    obtain ⟨l1, l2⟩ := g5 z fit
    have cC' := cC.2.2.2.2.2
    have cR' := cR1.2.2.2.2.2
    refine Core_mk (hW := cW) (C_fr (C_mkR (cs' := cs) cC hc (by rw [k1, k2]; exact cC')) f2) (R_mkR cR1 hr (by
      unfold r_ru
      rw [l1, l2]
      exact cR'))
end
section
/-! sheet, with the ICE that it makes -/
def u_shA (w h kind n a d : Int) : Nat → Int → Int → (Nat → Int) → (Nat → Int)
  | 0, _, _, A => A
  | f + 1, r, k, A => if u_hs w h r = 0 then u_shA w h kind n a d f (r + 1) k A else u_shA w h kind n a d f (r + 1) (k + 1) (u_up A r.toNat (u_val kind n k (z_add a (z_mul k d))))
section
variable {ww hh nn : Nat} {heat price : Int} {D : Nat → Int} {c : Nat} {U : Nat → Nat → Int} {kn : Nat → Int} {KS : Nat → Nat → Int} {cs : List Int}
theorem C_sh {kind n a d x5 : Int} (hx : x5 = if kind = 3 then 1 else 0) : ∀ (f : Nat) (r k s : Int) (v9 : z_V) (m : z_M) (A : Nat → Int), 0 ≤ r → r + (f : Int) = 9 → 0 ≤ k → k ≤ r → 0 ≤ s → s ≤ 99 * k → C_is ww hh nn heat price D A c U kn KS cs m → ∃ m', z_R 56 (m, 50, [(2, 0), (0, kind), (0, n), (0, a), (0, d), (0, x5), (0, k), (0, s), (0, r), v9], []) = some (m', some (0, if kind = 3 then -3 else u_sh (ww : Int) (hh : Int) kind n a d f r k s)) ∧ C_is ww hh nn heat price D (u_shA (ww : Int) (hh : Int) kind n a d f r k A) c U kn KS cs m' := by
  intro f
  induction f with
  | zero =>
    intro r k s v9 m A h0 h1 h2 h3 h4 h5 hC
    rw [s_sheet_50, if_pos (by omega)]
    by_cases cz : kind = 3
    · rw [if_pos cz] at hx
      rw [if_pos cz, if_neg (by omega)]; exact ⟨_, rfl, hC⟩
    · rw [if_neg cz] at hx
      rw [if_neg cz, if_pos hx]; exact ⟨_, rfl, hC⟩
  | succ f ih =>
    intro r k s v9 m A h0 h1 h2 h3 h4 h5 hC
    rw [s_sheet_50, if_neg (by omega), c_hasv, hC.1.1, hC.1.2.1]
    show ∃ m', z_R 56 (m, 66, [(2, 0), (0, kind), (0, n), (0, a), (0, d), (0, x5), (0, k), (0, s), (0, r), v9], [(0, u_hs (ww : Int) (hh : Int) r)]) = _ ∧ _
    rw [s_sheet_66, z_add_eq (x := r) (by omega) (by omega)]
    unfold u_sh u_shA
    by_cases cz : u_hs (ww : Int) (hh : Int) r = 0
    · rw [if_pos cz, if_pos cz, if_pos cz]
      exact ih (r + 1) k s v9 m A (by omega) (by omega) h2 (by omega) h4 h5 hC
    rw [if_neg cz, if_neg cz, if_neg cz]
    have hb := u_val_b kind n k (z_add a (z_mul k d))
    have go : ∀ u : Int, u = u_val kind n k (z_add a (z_mul k d)) → ∃ m', z_R 56 (m, 95, [(2, 0), (0, kind), (0, n), (0, a), (0, d), (0, x5), (0, k), (0, s), (0, r), v9], [(0, u)]) = some (m', some (0, if kind = 3 then -3 else u_sh (ww : Int) (hh : Int) kind n a d f (r + 1) (k + 1) (s + u_val kind n k (z_add a (z_mul k d))))) ∧ C_is ww hh nn heat price D (u_shA (ww : Int) (hh : Int) kind n a d f (r + 1) (k + 1) (u_up A r.toNat (u_val kind n k (z_add a (z_mul k d))))) c U kn KS cs m' := by
      intro u hu
      rw [s_sheet_95, if_pos ⟨h0, by omega⟩, z_add_eq (x := k) (by omega) (by omega), z_add_eq (x := s) (by omega) (by omega), z_add_eq (x := r) (by omega) (by omega), hu]
      refine ih (r + 1) (k + 1) _ _ _ _ (by omega) (by omega) (by omega) (by omega) (by omega) (by omega) (C_mkA hC (fun p k _ h1 => zu_p (by omega)) ?_)
      have e := cS_up1 (m := m) (s := 12) (j := r.toNat) (v := u_val kind n k (z_add a (z_mul k d))) (n := (nn : Int)) (by omega)
      rw [hC.2.2.1] at e
      exact e
    by_cases c3 : kind = 3
    · rw [if_pos c3] at hx
      rw [if_neg (by omega)]
      exact go 0 (by unfold u_val; rw [if_pos (Or.inl c3)])
    · rw [if_neg c3] at hx
      rw [if_pos hx]
      by_cases c4 : n ≤ k
      · rw [if_pos c4]
        exact go 0 (by unfold u_val; rw [if_pos (Or.inr c4)])
      · rw [if_neg c4, c_entry]
        show ∃ m', z_R 56 (m, 91, [(2, 0), (0, kind), (0, n), (0, a), (0, d), (0, x5), (0, k), (0, s), (0, r), v9], [(0, u_cap (u_conv kind (z_add a (z_mul k d))))]) = _ ∧ _
        rw [s_sheet_91]
        exact go _ (by unfold u_val; rw [if_neg (fun z => z.elim c3 c4)])
def u_sheetA (w h kind n a d : Int) (A : Nat → Int) : Nat → Int := if kind < 0 then A else if 3 < kind then A else if 9 < n then A else if kind = 3 then u_shA w h kind n a d 9 0 0 A else if n < 0 then A else u_shA w h kind n a d 9 0 0 A
theorem C_sheet (m : z_M) (kind n a d : Int) {A : Nat → Int} (hC : C_is ww hh nn heat price D A c U kn KS cs m) : ∃ m', z_R 56 (m, 0, [(2, 0), (0, kind), (0, n), (0, a), (0, d), (9, 0), (9, 0), (9, 0), (9, 0), (9, 0)], []) = some (m', some (0, u_sheet (ww : Int) (hh : Int) kind n a d)) ∧ C_is ww hh nn heat price D (u_sheetA (ww : Int) (hh : Int) kind n a d A) c U kn KS cs m' := by
  rw [s_sheet_0]
  unfold u_sheet u_sheetA
  by_cases h1 : kind < 0
  · rw [if_pos h1, if_pos h1, if_pos h1]; exact ⟨_, rfl, hC⟩
  rw [if_neg h1, if_neg h1, if_neg h1]
  by_cases h2 : 3 < kind
  · rw [if_pos h2, if_pos h2, if_pos h2]; exact ⟨_, rfl, hC⟩
  rw [if_neg h2, if_neg h2, if_neg h2]
  by_cases h3 : 9 < n
  · rw [if_neg (by omega), if_pos h3, if_pos h3]; exact ⟨_, rfl, hC⟩
  rw [if_pos (by omega), if_neg h3, if_neg h3]
  by_cases h4 : kind = 3
  · rw [if_pos h4, if_pos h4, if_pos h4, s_sheet_41]
    obtain ⟨m', e, e2⟩ := C_sh (kind := kind) (n := n) (a := a) (d := d) (x5 := 1) (by rw [if_pos h4]) 9 0 0 0 (9, 0) m A (by decide) (by decide) (by decide) (by decide) (by decide) (by decide) hC
    rw [if_pos h4] at e
    exact ⟨m', e, e2⟩
  rw [if_neg h4, if_neg h4, if_neg h4]
  by_cases h5 : n < 0
  · rw [if_neg (by omega), if_pos h5, if_pos h5]; exact ⟨_, rfl, hC⟩
  rw [if_pos (by omega), if_neg h5, if_neg h5, s_sheet_41]
  obtain ⟨m', e, e2⟩ := C_sh (kind := kind) (n := n) (a := a) (d := d) (x5 := 0) (by rw [if_neg h4]) 9 0 0 0 (9, 0) m A (by decide) (by decide) (by decide) (by decide) (by decide) (by decide) hC
  rw [if_neg h4] at e
  exact ⟨m', e, e2⟩
theorem R_sh {kind n a d : Int} : ∀ (f : Nat) (r k s : Int) (v9 : z_V) (m : z_M) (A : Nat → Int), 0 ≤ r → r + (f : Int) = 9 → 0 ≤ k → k ≤ r → 0 ≤ s → s ≤ 99 * k → R_is ww hh nn heat price D A c U kn KS cs m → ∃ m', z_R 194 (m, 46, [(2, 251), (0, kind), (0, n), (0, a), (0, d), (0, s), (0, z_add a (z_mul k d)), (0, k), (0, r), v9], []) = some (m', some (0, if kind = 3 then -3 else u_sh (ww : Int) (hh : Int) kind n a d f r k s)) ∧ R_is ww hh nn heat price D (u_shA (ww : Int) (hh : Int) kind n a d f r k A) c U kn KS cs m' := by
  intro f
  induction f with
  | zero =>
    intro r k s v9 m A h0 h1 h2 h3 h4 h5 hC
    rw [t_sheet_46, if_pos (by omega)]
    by_cases c : kind = 3
    · rw [if_pos c, if_pos c]; exact ⟨_, rfl, hC⟩
    · rw [if_neg c, if_neg c]; exact ⟨_, rfl, hC⟩
  | succ f ih =>
    intro r k s v9 m A h0 h1 h2 h3 h4 h5 hC
    rw [t_sheet_46, if_neg (by omega), t_roomv, hC.1.1, hC.1.2.1]
    show ∃ m', z_R 194 (m, 59, [(2, 251), (0, kind), (0, n), (0, a), (0, d), (0, s), (0, z_add a (z_mul k d)), (0, k), (0, r), v9], [(0, u_hs (ww : Int) (hh : Int) r)]) = _ ∧ _
    unfold u_sh u_shA
    by_cases c : u_hs (ww : Int) (hh : Int) r = 0
    · rw [t_sheet_59, if_pos c, if_pos c, if_pos c, t_sheet_145, z_add_eq (x := r) (by omega) (by omega)]
      exact ih (r + 1) k s v9 m A (by omega) (by omega) h2 (by omega) h4 h5 hC
    have hb := u_val_b kind n k (z_add a (z_mul k d))
    rw [t_sh59 _ _ _ _ _ _ _ _ _ _ c, if_neg c, if_neg c, t_sheet_122, if_pos ⟨h0, by omega⟩, if_pos ⟨h0, by omega⟩, zu_self, t_sheet_145, z_add_eq (x := s) (by omega) (by omega), z_add_eq (x := k) (by omega) (by omega), z_add_eq (x := r) (by omega) (by omega), u_step]
    exact ih (r + 1) (k + 1) _ _ _ _ (by omega) (by omega) (by omega) (by omega) (by omega) (by omega) (R_mkA hC (fun p k _ h1 => zu_p h1) (by rw [rS_up (by omega) (a_vis_lo (by omega)), hC.2.2.1]))
theorem R_sheet (m : z_M) (kind n a d : Int) {A : Nat → Int} (hC0 : R_is ww hh nn heat price D A c U kn KS cs m) (ha : (Int32.ofInt a).toInt = a) : ∃ m', z_R 194 (m, 0, [(2, 251), (0, kind), (0, n), (0, a), (0, d), (9, 0), (9, 0), (9, 0), (9, 0), (9, 0)], []) = some (m', some (0, u_sheet (ww : Int) (hh : Int) kind n a d)) ∧ R_is ww hh nn heat price D (u_sheetA (ww : Int) (hh : Int) kind n a d A) c U kn KS cs m' := by
  have hC := R_upn (p0 := 251) (k0 := 11) (v := 0) hC0 (by decide)
  rw [t_sheet_0, t_in]
  show ∃ m', z_R 194 (z_up m 251 11 0, 11, [(2, 251), (0, kind), (0, n), (0, a), (0, d), (9, 0), (9, 0), (9, 0), (9, 0), (9, 0)], [(0, if 0 ≤ kind ∧ kind ≤ 3 then 1 else 0)]) = _ ∧ _
  rw [t_sheet_11]
  unfold u_sheet u_sheetA
  by_cases h1 : kind < 0
  · rw [if_neg (show ¬ (0 ≤ kind ∧ kind ≤ 3) by omega), if_pos rfl, if_pos h1, if_pos h1]; exact ⟨_, rfl, hC⟩
  rw [if_neg h1, if_neg h1]
  by_cases h2 : 3 < kind
  · rw [if_neg (show ¬ (0 ≤ kind ∧ kind ≤ 3) by omega), if_pos rfl, if_pos h2, if_pos h2]; exact ⟨_, rfl, hC⟩
  rw [if_neg h2, if_neg h2, if_pos (show 0 ≤ kind ∧ kind ≤ 3 by omega), if_neg (by decide)]
  by_cases h3 : 9 < n
  · rw [if_neg (by omega), if_pos h3, if_pos h3]; exact ⟨_, rfl, hC⟩
  rw [if_pos (by omega), if_neg h3, if_neg h3]
  have hz : z_add a (z_mul 0 d) = a := by
    have e0 : z_mul 0 d = 0 := by unfold z_mul; rw [show Int32.ofInt 0 = 0 from rfl, Int32.zero_mul]; rfl
    rw [e0]
    unfold z_add
    rw [show Int32.ofInt 0 = 0 from rfl, Int32.add_zero, ha]
  obtain ⟨m', e, e2⟩ := R_sh (kind := kind) (n := n) (a := a) (d := d) 9 0 0 0 (9, 0) (z_up m 251 11 0) A (by decide) (by decide) (by decide) (by decide) (by decide) (by decide) hC
  rw [hz] at e
  by_cases h4 : kind = 3
  · rw [if_pos (by omega), if_pos h4, if_pos h4]
    rw [if_pos h4] at e
    exact ⟨m', e, e2⟩
  rw [if_neg (by omega), if_neg h4, if_neg h4]
  rw [if_neg h4] at e
  by_cases h5 : n < 0
  · rw [if_neg (by omega), if_pos h5, if_pos h5]; exact ⟨_, rfl, hC⟩
  rw [if_pos (by omega), if_neg h5, if_neg h5]
  exact ⟨m', e, e2⟩
end
theorem wi_shA {w h n : Nat} {kind b a d : Int} : ∀ (f : Nat) (r k : Int) (A : Nat → Int), 0 ≤ r → r + (f : Int) = 9 → wi w h n A → wi w h n (u_shA (w : Int) (h : Int) kind b a d f r k A) := by
  intro f
  induction f with
  | zero => intro r k A h0 h1 hi; exact hi
  | succ f ih =>
    intro r k A h0 h1 hi
    unfold u_shA
    by_cases cz : u_hs (w : Int) (h : Int) r = 0
    · rw [if_pos cz]
      exact ih (r + 1) k A (by omega) (by omega) hi
    · rw [if_neg cz]
      refine ih (r + 1) (k + 1) _ (by omega) (by omega) (wi_lo hi (by omega) ?_)
      rw [show ((r.toNat : Nat) : Int) = r by omega]
      exact cz
theorem wi_sheetA {w h n : Nat} {kind b a d : Int} {A : Nat → Int} (hi : wi w h n A) : wi w h n (u_sheetA (w : Int) (h : Int) kind b a d A) := by
  unfold u_sheetA
  by_cases c1 : kind < 0
  · rw [if_pos c1]; exact hi
  rw [if_neg c1]
  by_cases c2 : 3 < kind
  · rw [if_pos c2]; exact hi
  rw [if_neg c2]
  by_cases c3 : 9 < b
  · rw [if_pos c3]; exact hi
  rw [if_neg c3]
  by_cases c4 : kind = 3
  · rw [if_pos c4]; exact wi_shA 9 0 0 A (by decide) (by decide) hi
  rw [if_neg c4]
  by_cases c5 : b < 0
  · rw [if_pos c5]; exact hi
  · rw [if_neg c5]; exact wi_shA 9 0 0 A (by decide) (by decide) hi
theorem core_sheet : l_rel2 Rel_C (492, 67, 56, 4, false, 521, 71, 194) := by
  intro M1 M2 M3 σ σ1 σ2 as v1 v2 C1 C2 ρ1 ρ2 ha hR hh hM1 hC1 hp1 hE1 hC2 hp2 hE2
  obtain ⟨a, b, x, y, rfl⟩ := as_four ha
  have hE1 : z_R 56 (z_m σ, 0, [(2, 0), (0, a.toInt), (0, b.toInt), (0, x.toInt), (0, y.toInt), (9, 0), (9, 0), (9, 0), (9, 0), (9, 0)], []) = some (z_m σ1, some (0, v1.toInt)) := z_R_iff.mpr hE1
  have hE2 : z_R 194 (z_m σ1, 0, [(2, 251), (0, a.toInt), (0, b.toInt), (0, x.toInt), (0, y.toInt), (9, 0), (9, 0), (9, 0), (9, 0), (9, 0)], []) = some (z_m σ2, some (0, v2.toInt)) := z_R_iff.mpr hE2
  have hT := T_two (y1 := 56) (y2 := 194) (by decide +kernel) (by decide +kernel) hC1 hC2 hp1 hp2 hR.1
  obtain ⟨w, h, n, heat, price, D, A, c, U, kn, KS, cs, cC, cR, cW⟩ := hR.2
  have f1 := R_off2_ok (y := 56) (by decide +kernel) hC1 hp1
  have f2 := C_off_ok (y := 194) (by decide +kernel) hC2 hp2
  have cR1 := R_fr cR f1
  have z := core_do cR1 (fun q => C_fr q f2) (C_sheet _ a.toInt b.toInt x.toInt y.toInt cC) (fun q => R_sheet _ a.toInt b.toInt x.toInt y.toInt q (by rw [Int32.ofInt_toInt])) hE1 hE2
  exact ⟨⟨hT, Core_mk z.1.1 z.1.2 (w_W_A cW (wi_sheetA cW.2.1))⟩, fun _ => z.2⟩
end
section
/-! house, of what both are in -/
theorem u_sto_w {g : Int → Int} {y : Int} (hy : 0 < y) : ∀ (f : Nat) (x w i : Int) (a : Nat → Int), (u_sto g y f x w i a).2.1 = w := by
  intro f
  induction f with
  | zero => intro x w i a; rfl
  | succ f ih =>
    intro x w i a
    unfold u_sto
    by_cases c1 : w ≤ x
    · rw [if_pos c1]
    rw [if_neg c1]
    by_cases c2 : (u_ic g i).2 = -1
    · rw [if_pos c2]
    rw [if_neg c2]
    by_cases c3 : w ≤ x + 1
    · rw [if_pos c3]; exact ih _ _ _ _
    rw [if_neg c3]
    by_cases c4 : g (u_ic g i).1 = 44
    · rw [if_pos c4]; exact ih _ _ _ _
    rw [if_neg c4, if_neg (by omega)]
/-- what is read of a storey doesn't depend on what stood there -/
theorem u_sto_r {g : Int → Int} {y : Nat} : ∀ (f : Nat) (x : Nat) (w i : Int) (a b : Nat → Int), x + f = 3 → w ≤ 3 → (u_sto g y f x w i a).1 = true → ∀ k : Nat, ((∃ j : Nat, x ≤ j ∧ (j : Int) < (u_sto g y f x w i a).2.1 ∧ k = 3 * y + j) ∨ a k = b k) → (u_sto g y f x w i a).2.2.2 k = (u_sto g y f x w i b).2.2.2 k := by
  intro f
  induction f with
  | zero =>
    intro x w i a b hx hw hs k hk
    rcases hk with ⟨j, j1, j2, -⟩ | hk
    · have j2 : (j : Int) < w := j2
      omega
    · exact hk
  | succ f ih =>
    intro x w i a b hx hw hs k hk
    have ek : (3 * (y : Int) + (x : Int)).toNat = 3 * y + x := by omega
    unfold u_sto at hs hk ⊢
    rw [ek] at hs hk ⊢
    rw [tc1] at hs hk ⊢
    by_cases c1 : w ≤ (x : Int)
    · rw [if_pos c1] at hs hk
      rw [if_pos c1, if_pos c1]
      rcases hk with ⟨j, j1, j2, -⟩ | hk
      · have j2 : (j : Int) < w := j2
        omega
      · exact hk
    rw [if_neg c1] at hs hk
    rw [if_neg c1, if_neg c1]
    by_cases c2 : (u_ic g i).2 = -1
    · rw [if_pos c2] at hs; cases hs
    rw [if_neg c2] at hs hk
    rw [if_neg c2, if_neg c2]
    generalize (u_ic g i).2 = v at hs hk ⊢
    generalize (u_ic g i).1 = i1 at hs hk ⊢
    have step : ∀ (S : u_S), (∃ j : Nat, x ≤ j ∧ (j : Int) < S.2.1 ∧ k = 3 * y + j) ∨ a k = b k → (∃ j : Nat, x + 1 ≤ j ∧ (j : Int) < S.2.1 ∧ k = 3 * y + j) ∨ u_up a (3 * y + x) v k = u_up b (3 * y + x) v k := fun S hk => by
      unfold u_up
      by_cases e : k = 3 * y + x
      · rw [if_pos e, if_pos e]; exact Or.inr rfl
      · rw [if_neg e, if_neg e]
        rcases hk with ⟨j, j1, j2, j3⟩ | hk
        · exact Or.inl ⟨j, by omega, j2, j3⟩
        · exact Or.inr hk
    by_cases c3 : w ≤ ((x + 1 : Nat) : Int)
    · rw [if_pos c3] at hs hk
      rw [if_pos c3, if_pos c3]
      exact ih (x + 1) w _ _ _ (by omega) hw hs k (step _ hk)
    rw [if_neg c3] at hs hk
    rw [if_neg c3, if_neg c3]
    by_cases c4 : g i1 = 44
    · rw [if_pos c4] at hs hk
      rw [if_pos c4, if_pos c4]
      exact ih (x + 1) w _ _ _ (by omega) hw hs k (step _ hk)
    rw [if_neg c4] at hs hk
    rw [if_neg c4, if_neg c4]
    by_cases c5 : (y : Int) ≤ 0
    · rw [if_pos c5] at hs hk
      rw [if_pos c5, if_pos c5]
      exact ih (x + 1) _ _ _ _ (by omega) (by omega) hs k (step _ hk)
    · rw [if_neg c5] at hs; cases hs
theorem u_hou_w {g : Int → Int} {n : Int} : ∀ (f : Nat) (y w i : Int) (a : Nat → Int), 0 < y → (u_hou g n f y w i a).2.1 = w := by
  intro f
  induction f with
  | zero => intro y w i a hy; rfl
  | succ f ih =>
    intro y w i a hy
    have e := u_sto_w (g := g) hy 3 0 w i a
    unfold u_hou
    generalize u_sto g y 3 0 w i a = S at e ⊢
    by_cases c1 : S.1 = false
    · rw [if_pos c1]; exact e
    rw [if_neg c1]
    by_cases c2 : n ≤ S.2.2.1
    · rw [if_pos c2]; exact e
    rw [if_neg c2]
    by_cases c3 : 3 ≤ y + 1
    · rw [if_pos c3]; exact e
    rw [if_neg c3]
    by_cases c4 : g S.2.2.1 = 47
    · rw [if_pos c4, ih _ _ _ _ (by omega)]; exact e
    · rw [if_neg c4]; exact e
theorem u_sto_w3 {g : Int → Int} {y : Int} : ∀ (f : Nat) (x w i : Int) (a : Nat → Int), x + (f : Int) ≤ 3 → w ≤ 3 → (u_sto g y f x w i a).2.1 ≤ 3 := by
  intro f
  induction f with
  | zero => intro x w i a hx hw; exact hw
  | succ f ih =>
    intro x w i a hx hw
    unfold u_sto
    by_cases c1 : w ≤ x
    · rw [if_pos c1]; exact hw
    rw [if_neg c1]
    by_cases c2 : (u_ic g i).2 = -1
    · rw [if_pos c2]; exact hw
    rw [if_neg c2]
    by_cases c3 : w ≤ x + 1
    · rw [if_pos c3]; exact ih _ _ _ _ (by omega) hw
    rw [if_neg c3]
    by_cases c4 : g (u_ic g i).1 = 44
    · rw [if_pos c4]; exact ih _ _ _ _ (by omega) hw
    rw [if_neg c4]
    by_cases c5 : y ≤ 0
    · rw [if_pos c5]; exact ih _ _ _ _ (by omega) (by omega)
    · rw [if_neg c5]; exact hw
theorem u_hou_r {g : Int → Int} {n : Int} : ∀ (f : Nat) (y : Nat) (w i : Int) (a b : Nat → Int), y + f = 3 → w ≤ 3 → (u_hou g n f y w i a).1 = true → ∀ k : Nat, ((∃ z j : Nat, y ≤ z ∧ (z : Int) < (u_hou g n f y w i a).2.2.1 ∧ (j : Int) < (u_hou g n f y w i a).2.1 ∧ k = 3 * z + j) ∨ a k = b k) → (u_hou g n f y w i a).2.2.2.2 k = (u_hou g n f y w i b).2.2.2.2 k := by
  intro f
  induction f with
  | zero => intro y w i a b hy hw hs; cases hs
  | succ f ih =>
    intro y w i a b hy hw hs k hk
    have e := u_sto_e (g := g) (y := (y : Int)) 3 0 w i a b
    have r := u_sto_r (g := g) (y := y) 3 0 w i a b rfl hw
    have wS := u_sto_w3 (g := g) (y := (y : Int)) 3 0 w i a (by decide) hw
    rw [show ((0 : Nat) : Int) = 0 from rfl] at r
    unfold u_hou at hs hk ⊢
    generalize u_sto g y 3 0 w i a = S at e r wS hs hk ⊢
    generalize u_sto g y 3 0 w i b = T at e r ⊢
    obtain ⟨e1, e2, e3⟩ := e
    by_cases c1 : S.1 = false
    · rw [if_pos c1] at hs; cases hs
    have s1 : S.1 = true := by cases hq : S.1 <;> simp_all
    rw [if_neg c1] at hs hk
    rw [if_neg c1, if_neg (fun z => c1 (e1.trans z))]
    by_cases c2 : n ≤ S.2.2.1
    · rw [if_pos c2] at hk
      rw [if_pos c2, if_pos (show n ≤ T.2.2.1 by rw [← e3]; exact c2)]
      refine r s1 k ?_
      rcases hk with ⟨z, j, z1, z2, z3, z4⟩ | hk
      · have z2 : (z : Int) < (y : Int) + 1 := z2
        have z3 : (j : Int) < S.2.1 := z3
        exact Or.inl ⟨j, Nat.zero_le _, z3, by omega⟩
      · exact Or.inr hk
    rw [if_neg c2] at hs hk
    rw [if_neg c2, if_neg (show ¬ n ≤ T.2.2.1 by rw [← e3]; exact c2)]
    by_cases c3 : 3 ≤ (y : Int) + 1
    · rw [if_pos c3] at hs; cases hs
    rw [if_neg c3] at hs hk
    rw [if_neg c3, if_neg c3]
    by_cases c4 : g S.2.2.1 = 47
    · rw [if_pos c4] at hs hk
      rw [if_pos c4, if_pos (show g T.2.2.1 = 47 by rw [← e3]; exact c4), ← e2, ← e3]
      have hW := u_hou_w (g := g) (n := n) f ((y : Int) + 1) S.2.1 (S.2.2.1 + 1) S.2.2.2 (by omega)
      rw [hW] at hk
      rw [tc1] at hs hk hW ⊢
      refine ih (y + 1) S.2.1 _ _ _ (by omega) wS hs k ?_
      rcases hk with ⟨z, j, z1, z2, z3, z4⟩ | hk
      · by_cases hz : z = y
        · exact Or.inr (r s1 k (Or.inl ⟨j, Nat.zero_le _, z3, by omega⟩))
        · exact Or.inl ⟨z, j, by omega, z2, by rw [hW]; exact z3, z4⟩
      · exact Or.inr (r s1 k (Or.inr hk))
    · rw [if_neg c4] at hs; cases hs
/-- what the State is behind house -/
def u_hA (w h : Int) (row : Nat → Int) (fr : Int) : Nat → Int := a_msk 0 (fun k => if k < 9 then (if u_hs w h (k : Int) = 0 then 0 else row k) else if k = 34 then -1 else if k = 36 then fr else 0)
def u_mk (w h : Int) : Nat → Nat → Int → Int
  | 0, _, b => b
  | f + 1, x, b => u_mk w h f (x + 1) (if u_hs w h (x : Int) = 0 then b else z_or b (z_shl 1 (x : Int)))
theorem u_mk_ok {w h : Nat} (hw : w ≤ 3) (hh : h ≤ 3) (r : Nat) (hr : r < 9) : z_and (z_shr (u_mk (w : Int) (h : Int) 9 0 0) (r : Int)) 1 = 0 ↔ u_hs (w : Int) (h : Int) (r : Int) = 0 := by
  have e : ∀ w, w < 4 → ∀ h, h < 4 → ∀ r, r < 9 → (z_and (z_shr (u_mk ((w : Nat) : Int) ((h : Nat) : Int) 9 0 0) ((r : Nat) : Int)) 1 = 0 ↔ u_hs ((w : Nat) : Int) ((h : Nat) : Int) ((r : Nat) : Int) = 0) := by decide +kernel
  exact e w (by omega) h (by omega) r hr
theorem C_clear : ∀ (f x : Nat) (m : z_M), x + f = 9 → ∃ m', z_R 31 (m, 2, [(2, 12), (0, (x : Int))], []) = some (m', none) ∧ (∀ k, x ≤ k → k < 9 → m' 13 k = 0 ∧ m' 14 k = 0) ∧ (m' 12 5 = 0 ∧ m' 12 6 = -1 ∧ m' 12 7 = 0) ∧ ∀ p k, ¬ (p = 12 ∧ 5 ≤ k ∧ k ≤ 7) → ¬ ((p = 13 ∨ p = 14) ∧ x ≤ k ∧ k < 9) → m' p k = m p k := by
  intro f
  induction f with
  | zero =>
    intro x m hx
    rw [s_clear_2, if_pos (by omega)]
    refine ⟨_, rfl, fun k h1 h2 => by omega, ⟨?_, ?_, zu_self⟩, fun p k h1 h2 => ?_⟩
    · rw [zu_k (by decide), zu_k (by decide), zu_self]
    · rw [zu_k (by decide), zu_self]
    · rw [X_up (by omega), X_up (by omega), X_up (by omega)]
  | succ f ih =>
    intro x m hx
    obtain ⟨m', a1, a2, a3, a4⟩ := ih (x + 1) (z_up (z_up m 13 x 0) 14 x 0) (by omega)
    rw [s_clear_2, if_neg (by omega), if_pos (by omega), if_pos (by omega), z_add_eq (by omega) (by omega), Int.toNat_natCast, tc1]
    refine ⟨m', a1, fun k h1 h2 => ?_, a3, fun p k h1 h2 => ?_⟩
    · by_cases hk : k = x
      · rw [hk, a4 13 x (by omega) (by omega), a4 14 x (by omega) (by omega), zu_p (by decide), zu_self, zu_self]
        exact ⟨rfl, rfl⟩
      · exact a2 k (by omega) h2
    · rw [a4 p k h1 (by omega), X_up (by omega), X_up (by omega)]
theorem C_build1 {w h : Int} : ∀ (f x : Nat) (m : z_M), x + f = 9 → m 3 8 = w → m 3 9 = h → ∃ m', z_R 30 (m, 32, [(2, 3), (2, 12), (0, (x : Int))], []) = some (m', some (0, z_mul w h)) ∧ m' 3 10 = u_mk w h f x (m 3 10) ∧ (∀ k, k < 9 → m' 13 k = if x ≤ k ∧ ¬ u_hs w h (k : Int) = 0 then m 9 k else m 13 k) ∧ ∀ p k, ¬ (p = 3 ∧ k = 10) → ¬ (p = 13 ∧ k < 9) → m' p k = m p k := by
  intro f
  induction f with
  | zero =>
    intro x m hx hw hh
    rw [s_build_32, if_pos (by omega), hw, hh]
    exact ⟨m, rfl, rfl, fun k hk => by rw [if_neg (by omega)], fun _ _ _ _ => rfl⟩
  | succ f ih =>
    intro x m hx hw hh
    rw [s_build_32, if_neg (by omega), c_hasv, hw, hh]
    show ∃ m', z_R 30 (m, 43, [(2, 3), (2, 12), (0, (x : Int))], [(0, u_hs w h (x : Int))]) = _ ∧ _
    rw [s_build_43, z_add_eq (by omega) (by omega), Int.toNat_natCast, tc1]
    unfold u_mk
    by_cases c : u_hs w h (x : Int) = 0
    · rw [if_pos c, if_pos c]
      obtain ⟨m', a1, a2, a3, a4⟩ := ih (x + 1) m (by omega) hw hh
      refine ⟨m', a1, a2, fun k hk => ?_, a4⟩
      rw [a3 k hk]
      by_cases hkx : k = x
      · rw [hkx, if_neg (fun z => by omega), if_neg (fun z => z.2 c)]
      · by_cases z : x + 1 ≤ k ∧ ¬ u_hs w h (k : Int) = 0
        · rw [if_pos z, if_pos ⟨by omega, z.2⟩]
        · rw [if_neg z, if_neg (fun y => z ⟨by omega, y.2⟩)]
    · rw [if_neg c, if_neg c, if_pos (by omega), if_pos (by omega)]
      obtain ⟨m', a1, a2, a3, a4⟩ := ih (x + 1) (z_up (z_up m 13 x (m 9 x)) 3 10 (z_or (m 3 10) (z_shl 1 (x : Int)))) (by omega) (by rw [zu_k (by decide), zu_p (by decide)]; exact hw) (by rw [zu_k (by decide), zu_p (by decide)]; exact hh)
      rw [zu_self] at a2
      refine ⟨m', a1, a2, fun k hk => ?_, fun p k h1 h2 => ?_⟩
      · rw [a3 k hk, zu_p (by decide), zu_p (by decide), zu_p (by decide), zu_at]
        by_cases hkx : k = x
        · rw [hkx, if_neg (fun z => by omega), if_pos rfl, if_pos ⟨Nat.le_refl _, c⟩]
        · rw [if_neg hkx]
          by_cases z : x + 1 ≤ k ∧ ¬ u_hs w h (k : Int) = 0
          · rw [if_pos z, if_pos ⟨by omega, z.2⟩]
          · rw [if_neg z, if_neg (fun y => z ⟨by omega, y.2⟩)]
      · rw [a4 p k h1 h2, X_up h1, X_up (by omega)]
theorem C_build (m : z_M) {w h : Int} (e5 : m 3 5 = w) (e6 : m 3 6 = h) : ∃ m', z_R 30 (m, 0, [(2, 3), (2, 12), (9, 0)], []) = some (m', some (0, z_mul w h)) ∧ (m' 3 8 = w ∧ m' 3 9 = h ∧ m' 3 11 = 0 ∧ m' 3 10 = u_mk w h 9 0 0) ∧ (∀ k, k < 9 → m' 13 k = if u_hs w h (k : Int) = 0 then 0 else m 9 k) ∧ (∀ k, k < 9 → m' 14 k = 0) ∧ (m' 12 5 = 0 ∧ m' 12 6 = -1 ∧ m' 12 7 = 0) ∧ z_same [(3, 8, 11), (12, 5, 7), (13, 0, 8), (14, 0, 8)] m m' := by
  rw [s_build_0, s_clear_0, e5, e6]
  have s0 : z_same [(3, 8, 11)] m (z_up (z_up (z_up (z_up m 3 8 w) 3 9 h) 3 11 0) 3 10 0) := (((z_same.rf.upo (by (try unfold u_L2); first | exact z_on_h rfl (by omega) (by omega) | exact z_on_t (z_on_h rfl (by omega) (by omega)) | exact z_on_t (z_on_t (z_on_h rfl (by omega) (by omega))) | exact z_on_t (z_on_t (z_on_t (z_on_h rfl (by omega) (by omega)))) | exact z_on_t (z_on_t (z_on_t (z_on_t (z_on_h rfl (by omega) (by omega))))) | exact z_on_t (z_on_t (z_on_t (z_on_t (z_on_t (z_on_h rfl (by omega) (by omega)))))) | exact z_on_t (z_on_t (z_on_t (z_on_t (z_on_t (z_on_t (z_on_h rfl (by omega) (by omega))))))) | exact z_on_t (z_on_t (z_on_t (z_on_t (z_on_t (z_on_t (z_on_t (z_on_h rfl (by omega) (by omega)))))))) | exact z_on_t (z_on_t (z_on_t (z_on_t (z_on_t (z_on_t (z_on_t (z_on_t (z_on_h rfl (by omega) (by omega))))))))) | exact z_on_t (z_on_t (z_on_t (z_on_t (z_on_t (z_on_t (z_on_t (z_on_t (z_on_t (z_on_h rfl (by omega) (by omega)))))))))) | exact z_on_t (z_on_t (z_on_t (z_on_t (z_on_t (z_on_t (z_on_t (z_on_t (z_on_t (z_on_t (z_on_h rfl (by omega) (by omega))))))))))) | exact z_on_t (z_on_t (z_on_t (z_on_t (z_on_t (z_on_t (z_on_t (z_on_t (z_on_t (z_on_t (z_on_t (z_on_h rfl (by omega) (by omega)))))))))))) | exact z_on_t (z_on_t (z_on_t (z_on_t (z_on_t (z_on_t (z_on_t (z_on_t (z_on_t (z_on_t (z_on_t (z_on_t (z_on_h rfl (by omega) (by omega))))))))))))))).upo (by (try unfold u_L2); first | exact z_on_h rfl (by omega) (by omega) | exact z_on_t (z_on_h rfl (by omega) (by omega)) | exact z_on_t (z_on_t (z_on_h rfl (by omega) (by omega))) | exact z_on_t (z_on_t (z_on_t (z_on_h rfl (by omega) (by omega)))) | exact z_on_t (z_on_t (z_on_t (z_on_t (z_on_h rfl (by omega) (by omega))))) | exact z_on_t (z_on_t (z_on_t (z_on_t (z_on_t (z_on_h rfl (by omega) (by omega)))))) | exact z_on_t (z_on_t (z_on_t (z_on_t (z_on_t (z_on_t (z_on_h rfl (by omega) (by omega))))))) | exact z_on_t (z_on_t (z_on_t (z_on_t (z_on_t (z_on_t (z_on_t (z_on_h rfl (by omega) (by omega)))))))) | exact z_on_t (z_on_t (z_on_t (z_on_t (z_on_t (z_on_t (z_on_t (z_on_t (z_on_h rfl (by omega) (by omega))))))))) | exact z_on_t (z_on_t (z_on_t (z_on_t (z_on_t (z_on_t (z_on_t (z_on_t (z_on_t (z_on_h rfl (by omega) (by omega)))))))))) | exact z_on_t (z_on_t (z_on_t (z_on_t (z_on_t (z_on_t (z_on_t (z_on_t (z_on_t (z_on_t (z_on_h rfl (by omega) (by omega))))))))))) | exact z_on_t (z_on_t (z_on_t (z_on_t (z_on_t (z_on_t (z_on_t (z_on_t (z_on_t (z_on_t (z_on_t (z_on_h rfl (by omega) (by omega)))))))))))) | exact z_on_t (z_on_t (z_on_t (z_on_t (z_on_t (z_on_t (z_on_t (z_on_t (z_on_t (z_on_t (z_on_t (z_on_t (z_on_h rfl (by omega) (by omega))))))))))))))).upo (by (try unfold u_L2); first | exact z_on_h rfl (by omega) (by omega) | exact z_on_t (z_on_h rfl (by omega) (by omega)) | exact z_on_t (z_on_t (z_on_h rfl (by omega) (by omega))) | exact z_on_t (z_on_t (z_on_t (z_on_h rfl (by omega) (by omega)))) | exact z_on_t (z_on_t (z_on_t (z_on_t (z_on_h rfl (by omega) (by omega))))) | exact z_on_t (z_on_t (z_on_t (z_on_t (z_on_t (z_on_h rfl (by omega) (by omega)))))) | exact z_on_t (z_on_t (z_on_t (z_on_t (z_on_t (z_on_t (z_on_h rfl (by omega) (by omega))))))) | exact z_on_t (z_on_t (z_on_t (z_on_t (z_on_t (z_on_t (z_on_t (z_on_h rfl (by omega) (by omega)))))))) | exact z_on_t (z_on_t (z_on_t (z_on_t (z_on_t (z_on_t (z_on_t (z_on_t (z_on_h rfl (by omega) (by omega))))))))) | exact z_on_t (z_on_t (z_on_t (z_on_t (z_on_t (z_on_t (z_on_t (z_on_t (z_on_t (z_on_h rfl (by omega) (by omega)))))))))) | exact z_on_t (z_on_t (z_on_t (z_on_t (z_on_t (z_on_t (z_on_t (z_on_t (z_on_t (z_on_t (z_on_h rfl (by omega) (by omega))))))))))) | exact z_on_t (z_on_t (z_on_t (z_on_t (z_on_t (z_on_t (z_on_t (z_on_t (z_on_t (z_on_t (z_on_t (z_on_h rfl (by omega) (by omega)))))))))))) | exact z_on_t (z_on_t (z_on_t (z_on_t (z_on_t (z_on_t (z_on_t (z_on_t (z_on_t (z_on_t (z_on_t (z_on_t (z_on_h rfl (by omega) (by omega))))))))))))))).upo (by (try unfold u_L2); first | exact z_on_h rfl (by omega) (by omega) | exact z_on_t (z_on_h rfl (by omega) (by omega)) | exact z_on_t (z_on_t (z_on_h rfl (by omega) (by omega))) | exact z_on_t (z_on_t (z_on_t (z_on_h rfl (by omega) (by omega)))) | exact z_on_t (z_on_t (z_on_t (z_on_t (z_on_h rfl (by omega) (by omega))))) | exact z_on_t (z_on_t (z_on_t (z_on_t (z_on_t (z_on_h rfl (by omega) (by omega)))))) | exact z_on_t (z_on_t (z_on_t (z_on_t (z_on_t (z_on_t (z_on_h rfl (by omega) (by omega))))))) | exact z_on_t (z_on_t (z_on_t (z_on_t (z_on_t (z_on_t (z_on_t (z_on_h rfl (by omega) (by omega)))))))) | exact z_on_t (z_on_t (z_on_t (z_on_t (z_on_t (z_on_t (z_on_t (z_on_t (z_on_h rfl (by omega) (by omega))))))))) | exact z_on_t (z_on_t (z_on_t (z_on_t (z_on_t (z_on_t (z_on_t (z_on_t (z_on_t (z_on_h rfl (by omega) (by omega)))))))))) | exact z_on_t (z_on_t (z_on_t (z_on_t (z_on_t (z_on_t (z_on_t (z_on_t (z_on_t (z_on_t (z_on_h rfl (by omega) (by omega))))))))))) | exact z_on_t (z_on_t (z_on_t (z_on_t (z_on_t (z_on_t (z_on_t (z_on_t (z_on_t (z_on_t (z_on_t (z_on_h rfl (by omega) (by omega)))))))))))) | exact z_on_t (z_on_t (z_on_t (z_on_t (z_on_t (z_on_t (z_on_t (z_on_t (z_on_t (z_on_t (z_on_t (z_on_t (z_on_h rfl (by omega) (by omega))))))))))))))
  have g8 : (z_up (z_up (z_up (z_up m 3 8 w) 3 9 h) 3 11 0) 3 10 0) 3 8 = w := by rw [zu_k (by decide), zu_k (by decide), zu_k (by decide), zu_self]
  have g9 : (z_up (z_up (z_up (z_up m 3 8 w) 3 9 h) 3 11 0) 3 10 0) 3 9 = h := by rw [zu_k (by decide), zu_k (by decide), zu_self]
  have g11 : (z_up (z_up (z_up (z_up m 3 8 w) 3 9 h) 3 11 0) 3 10 0) 3 11 = 0 := by rw [zu_k (by decide), zu_self]
  have g10 : (z_up (z_up (z_up (z_up m 3 8 w) 3 9 h) 3 11 0) 3 10 0) 3 10 = 0 := zu_self
  generalize z_up (z_up (z_up (z_up m 3 8 w) 3 9 h) 3 11 0) 3 10 0 = m0 at s0 g8 g9 g11 g10 ⊢
  obtain ⟨m1, a1, a2, a3, a4⟩ := C_clear 9 0 m0 rfl
  have a1 : z_R 31 (m0, 2, [(2, 12), (0, 0)], []) = some (m1, none) := a1
  have k8 : m1 3 8 = w := (a4 3 8 (by decide) (by decide)).trans g8
  have k9 : m1 3 9 = h := (a4 3 9 (by decide) (by decide)).trans g9
  have k10 : m1 3 10 = 0 := (a4 3 10 (by decide) (by decide)).trans g10
  have k11 : m1 3 11 = 0 := (a4 3 11 (by decide) (by decide)).trans g11
  obtain ⟨m2, b1, b2, b3, b4⟩ := C_build1 (w := w) (h := h) 9 0 m1 rfl k8 k9
  have b1 : z_R 30 (m1, 32, [(2, 3), (2, 12), (0, 0)], []) = some (m2, some (0, z_mul w h)) := b1
  rw [k10] at b2
  rw [a1]
  show ∃ m', z_R 30 (m1, 30, [(2, 3), (2, 12), (9, 0)], []) = _ ∧ _
  rw [s_build_30, b1]
  refine ⟨m2, rfl, ⟨(b4 3 8 (by decide) (by decide)).trans k8, (b4 3 9 (by decide) (by decide)).trans k9, (b4 3 11 (by decide) (by decide)).trans k11, b2⟩, fun k hk => ?_, fun k hk => (b4 14 k (by omega) (by omega)).trans (a2 k (Nat.zero_le _) hk).2, ⟨(b4 12 5 (by decide) (by decide)).trans a3.1, (b4 12 6 (by decide) (by decide)).trans a3.2.1, (b4 12 7 (by decide) (by decide)).trans a3.2.2⟩, fun p k hn => ?_⟩
  · rw [b3 k hk, (a2 k (Nat.zero_le _) hk).1, a4 9 k (by omega) (by omega), s0.of (by (try unfold u_L2); (repeat' (first | exact trivial | refine z_of_c ?_ ?_)) <;> omega)]
    by_cases z : u_hs w h (k : Int) = 0
    · rw [if_pos z, if_neg (fun y => y.2 z)]
    · rw [if_neg z, if_pos ⟨Nat.zero_le _, z⟩]
  · have n1 := hn (3, 8, 11) (by decide)
    have n2 := hn (12, 5, 7) (by decide)
    have n3 := hn (13, 0, 8) (by decide)
    have n4 := hn (14, 0, 8) (by decide)
    try simp only at n1 n2 n3 n4
    rw [b4 p k (by omega) (by omega), a4 p k (by omega) (by omega), s0.of (by
      refine z_of_c ?_ trivial
      omega)]
theorem u_hA_vis {w h : Int} {row : Nat → Int} {fr : Int} {k : Nat} (hv : a_vis 0 k = true) : u_hA w h row fr k = if k < 9 then (if u_hs w h (k : Int) = 0 then 0 else row k) else if k = 34 then -1 else if k = 36 then fr else 0 := a_msk_at hv
theorem cS_hA {m : z_M} {w h : Int} {row : Nat → Int} {fr : Int} (h1 : ∀ k, k < 9 → m 13 k = if u_hs w h (k : Int) = 0 then 0 else row k) (h2 : ∀ k, k < 9 → m 14 k = 0) (h3 : m 12 5 = 0 ∧ m 12 6 = -1 ∧ m 12 7 = 0) (h4 : m 12 8 = fr) : cS m 12 ((0 : Nat) : Int) = u_hA w h row fr := by
  funext k
  unfold cS u_hA a_msk
  show (if a_vis 0 k = true then cR m 12 k else 0) = if a_vis 0 k = true then (if k < 9 then (if u_hs w h (k : Int) = 0 then 0 else row k) else if k = 34 then -1 else if k = 36 then fr else 0) else 0
  by_cases hv : a_vis 0 k = true
  · rw [if_pos hv, if_pos hv]
    unfold cR
    by_cases k1 : k < 9
    · rw [if_pos k1, if_pos k1]; exact h1 k k1
    rw [if_neg k1, if_neg k1]
    by_cases k2 : k < 18
    · rw [if_pos k2, if_neg (by omega), if_neg (by omega)]; exact h2 (k - 9) (by omega)
    rw [if_neg k2]
    by_cases k3 : k < 33
    · unfold a_vis at hv
      rw [decide_eq_false k2, decide_eq_false (show ¬ 33 ≤ k by omega), decide_eq_false (show ¬ (((k - 18) % 5 : Nat) : Int) < 0 by omega)] at hv
      cases hv
    rw [if_neg (by omega), if_neg (by omega), if_neg k3]
    by_cases k4 : k < 37
    · rw [if_pos k4]
      rcases (show k = 33 ∨ k = 34 ∨ k = 35 ∨ k = 36 by omega) with rfl | rfl | rfl | rfl
      · rw [if_neg (by decide), if_neg (by decide)]; exact h3.1
      · rw [if_pos rfl]; exact h3.2.1
      · rw [if_neg (by decide), if_neg (by decide)]; exact h3.2.2
      · rw [if_neg (by decide), if_pos rfl]; exact h4
    · rw [if_neg k4, if_neg (by omega), if_neg (by omega)]
  · rw [if_neg hv, if_neg hv]
theorem rS_hA {m : z_M} {w h : Int} {row : Nat → Int} {fr : Int} (h1 : ∀ k, k < 37 → m 252 k = if k < 9 then (if u_hs w h (k : Int) = 0 then 0 else row k) else if k = 34 then -1 else if k = 36 then fr else 0) : rS m 252 ((0 : Nat) : Int) = u_hA w h row fr := by
  funext k
  unfold rS u_hA a_msk rR
  show (if a_vis 0 k = true then (if k < 37 then m 252 k else 0) else 0) = if a_vis 0 k = true then (if k < 9 then (if u_hs w h (k : Int) = 0 then 0 else row k) else if k = 34 then -1 else if k = 36 then fr else 0) else 0
  refine z_ifc (fun _ => ?_) (fun _ => rfl)
  by_cases k4 : k < 37
  · rw [if_pos k4]; exact h1 k k4
  · rw [if_neg k4, if_neg (by omega), if_neg (by omega), if_neg (by omega)]
theorem u_hA_row {w h : Int} {row row' : Nat → Int} {fr : Int} (hr : ∀ k : Nat, k < 9 → ¬ u_hs w h (k : Int) = 0 → row k = row' k) : u_hA w h row fr = u_hA w h row' fr := by
  unfold u_hA
  congr 1
  funext k
  exact z_ifc (fun hk => z_ifc (fun _ => rfl) (fun hq => hr k hk hq)) (fun _ => rfl)
section
variable {w h n : Nat} {heat price : Int} {D A : Nat → Int} {c : Nat} {U : Nat → Nat → Int} {kn : Nat → Int} {KS : Nat → Nat → Int} {cs : List Int} {m : z_M}
theorem C_house (hi : C_is w h n heat price D A c U kn KS cs m) (h0 : 0 ≤ m 1 1) (h1 : m 1 1 ≤ 80) {S : u_H} (hS : u_hou (u_nx (m 2) (m 1 1) 80) (m 1 1) 3 0 3 0 (m 9) = S) : ∃ m', z_R 18 (m, 0, [(2, 0), (9, 0), (9, 0)], []) = some (m', some (0, u_ans S)) ∧ (S.1 = false → C_is w h n heat price D A c U kn KS cs m') ∧ (S.1 = true → ∃ w' h' : Nat, S.2.1 = (w' : Int) ∧ S.2.2.1 = (h' : Int) ∧ C_is w' h' 0 heat price D (u_hA (w' : Int) (h' : Int) S.2.2.2.2 (A 36)) 0 U (fun _ => -1) KS cs m') := by
  have b := u_hou_b (u_nx_b h1) (n := m 1 1) 3 0 3 0 (m 9) (g := u_nx (m 2) (m 1 1) 80) (by decide) (by decide) (by decide) (by decide) (by decide) (by decide)
  obtain ⟨m1, a1, a2⟩ := c_readHouse m h1
  rw [hS] at a1 a2 b
  obtain ⟨ok, w', h', i, a⟩ := S
  obtain ⟨p1, p2, p3, p4, p5⟩ := a2
  try simp only at a1 p1 p2 p3 p4 b
  unfold u_ans
  try simp only
  rw [s_house_0, a1]
  show ∃ m', z_R 18 (m1, 11, [(2, 0), (9, 0), (9, 0)], [(0, if ok = true then 1 else 0)]) = _ ∧ _
  rw [s_house_11, s_empty_0]
  show ∃ m', z_R 18 (z_up m1 1 1 0, 19, [(2, 0), (0, if ok = true then 1 else 0), (9, 0)], []) = _ ∧ _
  rw [s_house_19]
  have hf1 : ∀ p k, ¬ (p = 1 ∧ 1 ≤ k ∧ k ≤ 3) → ¬ (p = 3 ∧ 5 ≤ k ∧ k ≤ 6) → ¬ p = 9 → (z_up m1 1 1 0) p k = m p k := fun p k n1 n2 n3 => by
    rw [X_up (by omega)]
    exact p5.of (by
      unfold u_L2
      (repeat' (first | exact trivial | refine z_of_c ?_ ?_)) <;> omega)
  by_cases c : ok = true
  · rw [if_pos c, if_neg (by decide), if_pos c]
    obtain ⟨w2, rfl⟩ : ∃ w2 : Nat, w' = (w2 : Int) := ⟨w'.toNat, by omega⟩
    obtain ⟨h2, rfl⟩ : ∃ h2 : Nat, h' = (h2 : Int) := ⟨h'.toNat, by omega⟩
    obtain ⟨m2, d1, ⟨d2, d3, d4, d5⟩, d6, d7, d8, d9⟩ := C_build (z_up m1 1 1 0) ((zu_p (by decide)).trans p1) ((zu_p (by decide)).trans (p2 c))
    rw [d1]
    show ∃ m', z_R 18 (m2, 44, [(2, 0), (0, 1), (9, 0)], [(0, z_mul (w2 : Int) (h2 : Int))]) = _ ∧ _
    rw [s_house_44, s_fd_0]
    show ∃ m', z_R 18 (z_up m2 28 4 0, 52, [(2, 0), (0, 1), (0, z_mul (w2 : Int) (h2 : Int))], []) = _ ∧ _
    rw [s_house_52, s_fk_0]
    obtain ⟨m3, f1, f2, f3⟩ := c_fk 2 0 (z_up m2 28 4 0) (by decide) (by decide)
    rw [f1]
    have hf3 : ∀ p k, ¬ (p = 31 ∧ k ≤ 1) → ¬ (p = 28 ∧ k = 4) → m3 p k = m2 p k := fun p k n1 n2 => by
      rw [f2.of (by
        refine z_of_c ?_ trivial
        omega), X_up n2]
    have hf2 : ∀ p k, ¬ (p = 3 ∧ 8 ≤ k ∧ k ≤ 11) → ¬ (p = 12 ∧ 5 ≤ k ∧ k ≤ 7) → ¬ ((p = 13 ∨ p = 14) ∧ k ≤ 8) → m2 p k = (z_up m1 1 1 0) p k := fun p k n1 n2 n3 => d9.of (by
      (repeat' (first | exact trivial | refine z_of_c ?_ ?_)) <;> omega)
    have hfa : ∀ p k, C_hit p k k = true → ¬ (p = 3 ∧ 8 ≤ k ∧ k ≤ 11) → ¬ (p = 12 ∧ 5 ≤ k ∧ k ≤ 7) → ¬ ((p = 13 ∨ p = 14) ∧ k ≤ 8) → ¬ (p = 31 ∧ k ≤ 1) → ¬ (p = 28 ∧ k = 4) → m3 p k = m p k := fun p k hk n1 n2 n3 n4 n5 => by
      have hk' := hk
      unfold C_hit at hk'
      have hk' := of_decide_eq_true hk'
      rw [hf3 p k n4 n5, hf2 p k n1 n2 n3, hf1 p k (by omega) (by omega) (by omega)]
    refine ⟨m3, (s_house_59 _ _ _).trans (by rw [u_mul3 b.1 b.2.1 b.2.2.1 b.2.2.2.1]), (fun z => by rw [c] at z; cases z), fun _ => ⟨w2, h2, rfl, rfl, ?_⟩⟩
    obtain ⟨⟨q1, q2, q3, q4, q5, q6, q7, q8⟩, qb, qd, qu, qe, qf1, qf2, qf3, qf4⟩ := hi
    have e28 : m3 28 3 = m 28 3 := hfa 28 3 (by decide) (by decide) (by decide) (by decide) (by decide) (by decide)
    have e36 : m3 12 8 = A 36 := by
      rw [hfa 12 8 (by decide) (by decide) (by decide) (by decide) (by decide) (by decide), ← qd]
      exact cS_frostv.symm
    have w3 : w2 ≤ 3 := by omega
    have h3' : h2 ≤ 3 := by omega
    refine ⟨⟨?_, ?_, ?_, ?_, ?_, fun r hr => ?_, ?_, ?_⟩, fun j hj => ?_, ?_, ⟨by rw [e28]; exact qu.1, ?_, by decide, fun i hi => absurd hi (Nat.not_lt_zero i)⟩, fun i hi => ⟨?_, fun z => by cases z⟩, ?_, qf2, qf3, ?_⟩
    · exact (hf3 3 8 (by decide) (by decide)).trans d2
    · exact (hf3 3 9 (by decide) (by decide)).trans d3
    · exact (hf3 3 11 (by decide) (by decide)).trans d4
    · exact (hfa 3 12 (by decide) (by decide) (by decide) (by decide) (by decide) (by decide)).trans q4
    · exact (hfa 3 13 (by decide) (by decide) (by decide) (by decide) (by decide) (by decide)).trans q5
    · rw [hf3 3 10 (by decide) (by decide), d5]
      exact u_mk_ok w3 h3' r hr
    · exact (hfa 24 4 (by decide) (by decide) (by decide) (by decide) (by decide) (by decide)).trans q7
    · exact (hfa 24 5 (by decide) (by decide) (by decide) (by decide) (by decide) (by decide)).trans q8
    · exact (hfa 8 j hit_8 (by omega) (by omega) (by omega) (by omega) (by omega)).trans (qb j hj)
    · refine cS_hA (fun k hk => ?_) (fun k hk => ?_) ⟨?_, ?_, ?_⟩ e36
      · rw [hf3 13 k (by omega) (by omega), d6 k hk, zu_p (by decide), p4]
      · rw [hf3 14 k (by omega) (by omega)]; exact d7 k hk
      · exact (hf3 12 5 (by decide) (by decide)).trans d8.1
      · exact (hf3 12 6 (by decide) (by decide)).trans d8.2.1
      · exact (hf3 12 7 (by decide) (by decide)).trans d8.2.2
    · rw [f2.of (p := 28) (k := 4) (by (try unfold u_L2); (repeat' (first | exact trivial | refine z_of_c ?_ ?_)) <;> omega), zu_self]
      rfl
    · exact (f3 i (by omega)).trans (if_pos (by omega))
    · exact (hfa 4 3 (by decide) (by decide) (by decide) (by decide) (by decide) (by decide)).trans qf1
    · rw [show m3 5 = m 5 from funext fun k => hfa 5 k hit_5 (by omega) (by omega) (by omega) (by omega) (by omega)]
      exact qf4
  · rw [if_neg c, if_pos rfl, if_neg c]
    have e1 : (z_up m1 1 1 0) 1 2 = i := (zu_k (by decide)).trans p3
    rw [e1, z_sub_eq (by omega) (by omega)]
    refine ⟨_, rfl, fun _ => C_fr hi fun p k hk => ?_, fun z => absurd z c⟩
    have hk' := hk
    unfold C_hit at hk'
    have hk' := of_decide_eq_true hk'
    exact hf1 p k (by omega) (by omega) (by omega)
end
end
section
/-! house, of the reference, with the State -/
theorem T_hou : ∀ (f : Nat) (y x1 w : Int) (v4 v5 : z_V) (m : z_M), u_W m → m 251 16 = -1 → 0 ≤ y → y + (f : Int) = 3 → y < 3 → 1 ≤ w → w ≤ 3 → (y = 0 → w = 3) → (¬ y = 0 → w = x1) → ∃ (m1 : z_M) (v3 : Int) (v4' v5' : z_V), z_same u_M m m1 ∧ ((u_hou (u_q m) (m 251 13) f y w (m 251 15) (m 256)).1 = false → z_R 163 (m, 30, [(2, 251), (0, x1), (0, y), (0, 1), v4, v5], []) = some (m1, some (0, -1 - (u_hou (u_q m) (m 251 13) f y w (m 251 15) (m 256)).2.2.2.1))) ∧ ((u_hou (u_q m) (m 251 13) f y w (m 251 15) (m 256)).1 = true → z_R 163 (m, 30, [(2, 251), (0, x1), (0, y), (0, 1), v4, v5], []) = z_R 163 (m1, 162, [(2, 251), (0, (u_hou (u_q m) (m 251 13) f y w (m 251 15) (m 256)).2.1), (0, (u_hou (u_q m) (m 251 13) f y w (m 251 15) (m 256)).2.2.1), (0, v3), v4', v5'], []) ∧ m1 251 16 = -1 ∧ m1 251 13 ≤ m1 251 15 ∧ m1 256 = (u_hou (u_q m) (m 251 13) f y w (m 251 15) (m 256)).2.2.2.2) := by
  intro f
  induction f with
  | zero => intro y x1 w v4 v5 m hw hf hy0 hy hy3; omega
  | succ f ih =>
    intro y x1 w v4 v5 m hw hf hy0 hy hy3 hw0 hw3 hwy hwn
    have hg := u_q_b hw
    obtain ⟨w1, w2, w3, w4, w5⟩ := id hw
    have ey : z_add y 1 = y + 1 := z_add_eq (by omega) (by omega)
    rw [t_house_30, if_neg (by decide), t_fine1 m hf]
    have e38 : ((some (m, some (0, 1)) : Option z_Q).bind fun r => z_R 163 (r.1, 38, [(2, 251), (0, x1), (0, y), (0, 1), v4, v5], r.2.toList ++ [])) = z_R 163 (m, 47, [(2, 251), (0, x1), (0, y), (0, 1), (0, 0), (0, 1)], []) := by
      show z_R 163 (m, 38, [(2, 251), (0, x1), (0, y), (0, 1), v4, v5], [(0, 1)]) = _
      rw [t_house_38, if_neg (by decide)]
    rw [e38]
    obtain ⟨m1, x4, a1, a2, d4⟩ := t_sto hy0 (by omega) 3 0 x1 1 w m hw hf (by decide) (by decide) (by omega) hw3 hwy hwn
    rw [a1]
    have b := u_sto_b hg (y := y) 3 0 w (m 251 15) (m 256) (by decide) hw0 hw3 w2 w3
    unfold u_hou
    generalize u_sto (u_q m) y 3 0 w (m 251 15) (m 256) = S at a2 b ⊢
    obtain ⟨ok, c1, i1, b1⟩ := S
    try simp only at a2 b ⊢
    by_cases k1 : ok = false
    · subst k1
      rw [if_neg (show ¬ ((false : Bool) = true) by decide), if_pos (show (false : Bool) = false from rfl)]
      exact ⟨m1, 0, (9, 0), (9, 0), d4, fun _ => rfl, fun z => by cases z⟩
    have k1' : ok = true := by cases ok <;> simp_all
    obtain ⟨d1, d2, d3⟩ := a2 k1'
    have hw1 : u_W m1 := u_W_sm hw d4 (by omega) (by omega)
    have e13 : m1 251 13 = m 251 13 := d4.at (by decide)
    rw [if_pos k1', if_neg k1, t_house_136, ey]
    by_cases k2 : m 251 13 ≤ i1
    · rw [if_pos k2]
      have fin : ∃ (m2 : z_M) (v3 : Int) (v4' v5' : z_V), z_same u_M m m2 ∧ (((true, c1, y + 1, i1, b1) : u_H).1 = false → z_R 163 (m1, 30, [(2, 251), (0, c1), (0, y + 1), (0, 0), (0, x4), (0, 0)], []) = some (m2, some (0, -1 - ((true, c1, y + 1, i1, b1) : u_H).2.2.2.1))) ∧ (((true, c1, y + 1, i1, b1) : u_H).1 = true → z_R 163 (m1, 30, [(2, 251), (0, c1), (0, y + 1), (0, 0), (0, x4), (0, 0)], []) = z_R 163 (m2, 162, [(2, 251), (0, ((true, c1, y + 1, i1, b1) : u_H).2.1), (0, ((true, c1, y + 1, i1, b1) : u_H).2.2.1), (0, v3), v4', v5'], []) ∧ m2 251 16 = -1 ∧ m2 251 13 ≤ m2 251 15 ∧ m2 256 = ((true, c1, y + 1, i1, b1) : u_H).2.2.2.2) := by
        rw [t_house_30, if_pos rfl]
        exact ⟨m1, 0, (0, x4), (0, 0), d4, (fun z => by cases z), fun _ => ⟨rfl, d1, by omega, d3⟩⟩
      by_cases k3 : 3 ≤ y + 1
      · rw [if_pos k3]; exact fin
      · have hn : ¬ u_q m1 (m1 251 15) = 47 := fun z => by
          have : u_q m1 (m1 251 15) = -1 := by
            unfold u_q u_nx
            rw [if_neg (fun z => by omega)]
          omega
        rw [if_neg k3, t_pass1 m1 47 d1 hw1, if_neg hn]
        have e150 : ((some (m1, some (0, 0)) : Option z_Q).bind fun r => z_R 163 (r.1, 150, [(2, 251), (0, c1), (0, y + 1), (0, 1), (0, x4), (0, 0)], r.2.toList ++ [])) = z_R 163 (m1, 30, [(2, 251), (0, c1), (0, y + 1), (0, 0), (0, x4), (0, 0)], []) := by
          show z_R 163 (m1, 150, [(2, 251), (0, c1), (0, y + 1), (0, 1), (0, x4), (0, 0)], [(0, 0)]) = _
          rw [t_house_150, if_pos rfl]
        rw [e150]
        exact fin
    rw [if_neg k2]
    have nofin : ∃ (m2 : z_M) (v3 : Int) (v4' v5' : z_V), z_same u_M m m2 ∧ (((false, c1, y + 1, i1, b1) : u_H).1 = false → z_R 163 (m1, 30, [(2, 251), (0, c1), (0, y + 1), (0, 0), (0, x4), (0, 0)], []) = some (m2, some (0, -1 - ((false, c1, y + 1, i1, b1) : u_H).2.2.2.1))) ∧ (((false, c1, y + 1, i1, b1) : u_H).1 = true → z_R 163 (m1, 30, [(2, 251), (0, c1), (0, y + 1), (0, 0), (0, x4), (0, 0)], []) = z_R 163 (m2, 162, [(2, 251), (0, ((false, c1, y + 1, i1, b1) : u_H).2.1), (0, ((false, c1, y + 1, i1, b1) : u_H).2.2.1), (0, v3), v4', v5'], []) ∧ m2 251 16 = -1 ∧ m2 251 13 ≤ m2 251 15 ∧ m2 256 = ((false, c1, y + 1, i1, b1) : u_H).2.2.2.2) := by
      rw [t_house_30, if_pos rfl]
      obtain ⟨m', z, z'⟩ := t_no162 m1 c1 (y + 1) 0 (0, x4) (0, 0) d1 (by omega) (by omega) (by omega)
      exact ⟨m', 0, (9, 0), (9, 0), d4.tr z', (fun _ => by rw [z, d2]), fun w => by cases w⟩
    by_cases k3 : 3 ≤ y + 1
    · rw [if_pos k3, if_pos k3]; exact nofin
    rw [if_neg k3, if_neg k3, t_pass1 m1 47 d1 hw1, u_q_sm d4, d2]
    by_cases k4 : u_q m i1 = 47
    · rw [if_pos k4, if_pos k4]
      have hb := hg i1 (by omega)
      have e150 : ((some (z_up m1 251 15 (i1 + 1), some (0, 1)) : Option z_Q).bind fun r => z_R 163 (r.1, 150, [(2, 251), (0, c1), (0, y + 1), (0, 1), (0, x4), (0, 0)], r.2.toList ++ [])) = z_R 163 (z_up m1 251 15 (i1 + 1), 30, [(2, 251), (0, c1), (0, y + 1), (0, 1), (0, x4), (0, 0)], []) := by
        show z_R 163 (z_up m1 251 15 (i1 + 1), 150, [(2, 251), (0, c1), (0, y + 1), (0, 1), (0, x4), (0, 0)], [(0, 1)]) = _
        rw [t_house_150, if_neg (by decide)]
      rw [e150]
      have g1 : (z_up m1 251 15 (i1 + 1)) 251 15 = i1 + 1 := zu_self
      have g2 : (z_up m1 251 15 (i1 + 1)) 256 = b1 := (zu_rowne (by decide)).trans d3
      have g3 : (z_up m1 251 15 (i1 + 1)) 251 16 = -1 := (zu_k (by decide)).trans d1
      have g4 : (z_up m1 251 15 (i1 + 1)) 251 13 = m 251 13 := (zu_k (by decide)).trans e13
      obtain ⟨m', v3, v4', v5', z0, z, z'⟩ := ih (y + 1) c1 c1 (0, x4) (0, 0) (z_up m1 251 15 (i1 + 1)) (u_W_at hw1 (by omega) (by omega)) g3 (by omega) (by omega) (by omega) b.1 b.2.1 (fun z => by omega) (fun _ => rfl)
      rw [u_q_at, u_q_sm d4, g4, g1, g2] at z z'
      exact ⟨m', v3, v4', v5', (d4.up1 (lo := 15) (hi := 16) (by decide) (by decide) (by decide)).tr z0, z, z'⟩
    · rw [if_neg k4, if_neg k4]
      have e150 : ((some (m1, some (0, 0)) : Option z_Q).bind fun r => z_R 163 (r.1, 150, [(2, 251), (0, c1), (0, y + 1), (0, 1), (0, x4), (0, 0)], r.2.toList ++ [])) = z_R 163 (m1, 30, [(2, 251), (0, c1), (0, y + 1), (0, 0), (0, x4), (0, 0)], []) := by
        show z_R 163 (m1, 150, [(2, 251), (0, c1), (0, y + 1), (0, 1), (0, x4), (0, 0)], [(0, 0)]) = _
        rw [t_house_150, if_pos rfl]
      rw [e150]
      exact nofin
theorem T_l307 : ∀ (f x : Nat) (x1 x2 x3 x4 : Int) (m : z_M), x + f = 2 → ∃ m', z_R 163 (m, 307, [(2, 251), (0, x1), (0, x2), (0, x3), (0, x4), (0, (x : Int))], []) = some (m', some (0, z_mul x1 x2)) ∧ (∀ k, x ≤ k → k < 2 → m' 276 k = 0) ∧ ∀ p k, ¬ (p = 276 ∧ x ≤ k ∧ k < 2) → m' p k = m p k := by
  intro f
  induction f with
  | zero =>
    intro x x1 x2 x3 x4 m hx
    rw [t_house_307, if_pos (by omega)]
    exact ⟨m, rfl, fun k h1 h2 => by omega, fun _ _ _ => rfl⟩
  | succ f ih =>
    intro x x1 x2 x3 x4 m hx
    obtain ⟨m', a1, a2, a3⟩ := ih (x + 1) x1 x2 x3 x4 (z_up m 276 x 0) (by omega)
    rw [t_house_307, if_neg (by omega), if_pos (by omega), z_add_eq (by omega) (by omega), show z_bo 0 = 0 by decide +kernel, Int.toNat_natCast, tc1]
    refine ⟨m', a1, fun k h1 h2 => ?_, fun p k hn => ?_⟩
    · by_cases hk : k = x
      · rw [hk, a3 276 x (by omega), zu_self]
      · exact a2 k (by omega) h2
    · rw [a3 p k (by omega), X_up (by omega)]
abbrev u_KL : List (Nat × Nat × Nat) := [(251, 3, 3), (251, 25, 25), (252, 0, 36), (276, 0, 1)]
theorem T_l241 {w h : Int} : ∀ (f x : Nat) (x1 x2 x3 x4 : Int) (m : z_M), x + f = 9 → m 251 1 = w → m 251 2 = h → ∃ m', z_R 163 (m, 241, [(2, 251), (0, x1), (0, x2), (0, x3), (0, x4), (0, (x : Int))], []) = some (m', some (0, z_mul x1 x2)) ∧ (m' 251 3 = 0 ∧ m' 251 25 = 0 ∧ m' 252 34 = -1 ∧ m' 252 36 = x4 ∧ ∀ i, i < 2 → m' 276 i = 0) ∧ (∀ k, ¬ k = 34 → ¬ k = 36 → m' 252 k = if x ≤ k ∧ k < 9 ∧ ¬ u_hs w h (k : Int) = 0 then m 256 k else m 252 k) ∧ z_same u_KL m m' := by
  intro f
  induction f with
  | zero =>
    intro x x1 x2 x3 x4 m hx hw hh
    rw [t_house_241, if_pos (by omega)]
    obtain ⟨m', a1, a2, a3⟩ := T_l307 2 0 x1 x2 x3 x4 (z_up (z_up (z_up (z_up m 252 34 (-1)) 252 36 x4) 251 3 0) 251 25 0) rfl
    have a1 : z_R 163 (z_up (z_up (z_up (z_up m 252 34 (-1)) 252 36 x4) 251 3 0) 251 25 0, 307, [(2, 251), (0, x1), (0, x2), (0, x3), (0, x4), (0, 0)], []) = some (m', some (0, z_mul x1 x2)) := a1
    have s0 : z_same u_KL m (z_up (z_up (z_up (z_up m 252 34 (-1)) 252 36 x4) 251 3 0) 251 25 0) := (((z_same.rf.upo (by (try unfold u_KL); (try unfold u_M); first | exact z_on_h rfl (by omega) (by omega) | exact z_on_t (z_on_h rfl (by omega) (by omega)) | exact z_on_t (z_on_t (z_on_h rfl (by omega) (by omega))) | exact z_on_t (z_on_t (z_on_t (z_on_h rfl (by omega) (by omega)))) | exact z_on_t (z_on_t (z_on_t (z_on_t (z_on_h rfl (by omega) (by omega))))) | exact z_on_t (z_on_t (z_on_t (z_on_t (z_on_t (z_on_h rfl (by omega) (by omega)))))) | exact z_on_t (z_on_t (z_on_t (z_on_t (z_on_t (z_on_t (z_on_h rfl (by omega) (by omega))))))) | exact z_on_t (z_on_t (z_on_t (z_on_t (z_on_t (z_on_t (z_on_t (z_on_h rfl (by omega) (by omega)))))))) | exact z_on_t (z_on_t (z_on_t (z_on_t (z_on_t (z_on_t (z_on_t (z_on_t (z_on_h rfl (by omega) (by omega))))))))) | exact z_on_t (z_on_t (z_on_t (z_on_t (z_on_t (z_on_t (z_on_t (z_on_t (z_on_t (z_on_h rfl (by omega) (by omega)))))))))) | exact z_on_t (z_on_t (z_on_t (z_on_t (z_on_t (z_on_t (z_on_t (z_on_t (z_on_t (z_on_t (z_on_h rfl (by omega) (by omega))))))))))) | exact z_on_t (z_on_t (z_on_t (z_on_t (z_on_t (z_on_t (z_on_t (z_on_t (z_on_t (z_on_t (z_on_t (z_on_h rfl (by omega) (by omega)))))))))))) | exact z_on_t (z_on_t (z_on_t (z_on_t (z_on_t (z_on_t (z_on_t (z_on_t (z_on_t (z_on_t (z_on_t (z_on_t (z_on_h rfl (by omega) (by omega))))))))))))))).upo (by (try unfold u_KL); (try unfold u_M); first | exact z_on_h rfl (by omega) (by omega) | exact z_on_t (z_on_h rfl (by omega) (by omega)) | exact z_on_t (z_on_t (z_on_h rfl (by omega) (by omega))) | exact z_on_t (z_on_t (z_on_t (z_on_h rfl (by omega) (by omega)))) | exact z_on_t (z_on_t (z_on_t (z_on_t (z_on_h rfl (by omega) (by omega))))) | exact z_on_t (z_on_t (z_on_t (z_on_t (z_on_t (z_on_h rfl (by omega) (by omega)))))) | exact z_on_t (z_on_t (z_on_t (z_on_t (z_on_t (z_on_t (z_on_h rfl (by omega) (by omega))))))) | exact z_on_t (z_on_t (z_on_t (z_on_t (z_on_t (z_on_t (z_on_t (z_on_h rfl (by omega) (by omega)))))))) | exact z_on_t (z_on_t (z_on_t (z_on_t (z_on_t (z_on_t (z_on_t (z_on_t (z_on_h rfl (by omega) (by omega))))))))) | exact z_on_t (z_on_t (z_on_t (z_on_t (z_on_t (z_on_t (z_on_t (z_on_t (z_on_t (z_on_h rfl (by omega) (by omega)))))))))) | exact z_on_t (z_on_t (z_on_t (z_on_t (z_on_t (z_on_t (z_on_t (z_on_t (z_on_t (z_on_t (z_on_h rfl (by omega) (by omega))))))))))) | exact z_on_t (z_on_t (z_on_t (z_on_t (z_on_t (z_on_t (z_on_t (z_on_t (z_on_t (z_on_t (z_on_t (z_on_h rfl (by omega) (by omega)))))))))))) | exact z_on_t (z_on_t (z_on_t (z_on_t (z_on_t (z_on_t (z_on_t (z_on_t (z_on_t (z_on_t (z_on_t (z_on_t (z_on_h rfl (by omega) (by omega))))))))))))))).upo (by (try unfold u_KL); (try unfold u_M); first | exact z_on_h rfl (by omega) (by omega) | exact z_on_t (z_on_h rfl (by omega) (by omega)) | exact z_on_t (z_on_t (z_on_h rfl (by omega) (by omega))) | exact z_on_t (z_on_t (z_on_t (z_on_h rfl (by omega) (by omega)))) | exact z_on_t (z_on_t (z_on_t (z_on_t (z_on_h rfl (by omega) (by omega))))) | exact z_on_t (z_on_t (z_on_t (z_on_t (z_on_t (z_on_h rfl (by omega) (by omega)))))) | exact z_on_t (z_on_t (z_on_t (z_on_t (z_on_t (z_on_t (z_on_h rfl (by omega) (by omega))))))) | exact z_on_t (z_on_t (z_on_t (z_on_t (z_on_t (z_on_t (z_on_t (z_on_h rfl (by omega) (by omega)))))))) | exact z_on_t (z_on_t (z_on_t (z_on_t (z_on_t (z_on_t (z_on_t (z_on_t (z_on_h rfl (by omega) (by omega))))))))) | exact z_on_t (z_on_t (z_on_t (z_on_t (z_on_t (z_on_t (z_on_t (z_on_t (z_on_t (z_on_h rfl (by omega) (by omega)))))))))) | exact z_on_t (z_on_t (z_on_t (z_on_t (z_on_t (z_on_t (z_on_t (z_on_t (z_on_t (z_on_t (z_on_h rfl (by omega) (by omega))))))))))) | exact z_on_t (z_on_t (z_on_t (z_on_t (z_on_t (z_on_t (z_on_t (z_on_t (z_on_t (z_on_t (z_on_t (z_on_h rfl (by omega) (by omega)))))))))))) | exact z_on_t (z_on_t (z_on_t (z_on_t (z_on_t (z_on_t (z_on_t (z_on_t (z_on_t (z_on_t (z_on_t (z_on_t (z_on_h rfl (by omega) (by omega))))))))))))))).upo (by (try unfold u_KL); (try unfold u_M); first | exact z_on_h rfl (by omega) (by omega) | exact z_on_t (z_on_h rfl (by omega) (by omega)) | exact z_on_t (z_on_t (z_on_h rfl (by omega) (by omega))) | exact z_on_t (z_on_t (z_on_t (z_on_h rfl (by omega) (by omega)))) | exact z_on_t (z_on_t (z_on_t (z_on_t (z_on_h rfl (by omega) (by omega))))) | exact z_on_t (z_on_t (z_on_t (z_on_t (z_on_t (z_on_h rfl (by omega) (by omega)))))) | exact z_on_t (z_on_t (z_on_t (z_on_t (z_on_t (z_on_t (z_on_h rfl (by omega) (by omega))))))) | exact z_on_t (z_on_t (z_on_t (z_on_t (z_on_t (z_on_t (z_on_t (z_on_h rfl (by omega) (by omega)))))))) | exact z_on_t (z_on_t (z_on_t (z_on_t (z_on_t (z_on_t (z_on_t (z_on_t (z_on_h rfl (by omega) (by omega))))))))) | exact z_on_t (z_on_t (z_on_t (z_on_t (z_on_t (z_on_t (z_on_t (z_on_t (z_on_t (z_on_h rfl (by omega) (by omega)))))))))) | exact z_on_t (z_on_t (z_on_t (z_on_t (z_on_t (z_on_t (z_on_t (z_on_t (z_on_t (z_on_t (z_on_h rfl (by omega) (by omega))))))))))) | exact z_on_t (z_on_t (z_on_t (z_on_t (z_on_t (z_on_t (z_on_t (z_on_t (z_on_t (z_on_t (z_on_t (z_on_h rfl (by omega) (by omega)))))))))))) | exact z_on_t (z_on_t (z_on_t (z_on_t (z_on_t (z_on_t (z_on_t (z_on_t (z_on_t (z_on_t (z_on_t (z_on_t (z_on_h rfl (by omega) (by omega))))))))))))))
    refine ⟨m', a1, ⟨?_, ?_, ?_, ?_, fun i hi => a2 i (Nat.zero_le _) hi⟩, fun k h1 h2 => ?_, s0.tr fun p k hn => a3 p k fun z => hn (276, 0, 1) (by decide) ⟨z.1.symm, Nat.zero_le _, by show k ≤ 1; omega⟩⟩
    · rw [a3 251 3 (by decide), zu_k (by decide), zu_self]
    · rw [a3 251 25 (by decide), zu_self]
    · rw [a3 252 34 (by decide), zu_p (by decide), zu_p (by decide), zu_k (by decide), zu_self]
    · rw [a3 252 36 (by decide), zu_p (by decide), zu_p (by decide), zu_self]
    · rw [a3 252 k (by omega), zu_p (by decide), zu_p (by decide), zu_k h2, zu_k h1, if_neg (by omega)]
  | succ f ih =>
    intro x x1 x2 x3 x4 m hx hw hh
    rw [t_house_241, if_neg (by omega), t_roomv, hw, hh]
    show ∃ m', z_R 163 (m, 254, [(2, 251), (0, x1), (0, x2), (0, x3), (0, x4), (0, (x : Int))], [(0, u_hs w h (x : Int))]) = _ ∧ _
    rw [t_house_254, z_add_eq (by omega) (by omega), Int.toNat_natCast, tc1]
    by_cases c : u_hs w h (x : Int) = 0
    · rw [if_pos c]
      obtain ⟨m', a1, a2, a3, a4⟩ := ih (x + 1) x1 x2 x3 x4 m (by omega) hw hh
      refine ⟨m', a1, a2, fun k h1 h2 => ?_, a4⟩
      rw [a3 k h1 h2]
      by_cases hkx : k = x
      · rw [hkx, if_neg (fun z => by omega), if_neg (fun z => z.2.2 c)]
      · by_cases z : x + 1 ≤ k ∧ k < 9 ∧ ¬ u_hs w h (k : Int) = 0
        · rw [if_pos z, if_pos ⟨by omega, z.2⟩]
        · rw [if_neg z, if_neg (fun y => z ⟨by omega, y.2⟩)]
    · rw [if_neg c, if_pos (by omega), if_pos (by omega)]
      obtain ⟨m', a1, a2, a3, a4⟩ := ih (x + 1) x1 x2 x3 x4 (z_up m 252 x (m 256 x)) (by omega) ((zu_p (by decide)).trans hw) ((zu_p (by decide)).trans hh)
      refine ⟨m', a1, a2, fun k h1 h2 => ?_, (z_same.rf.upo (by (try unfold u_KL); (try unfold u_M); first | exact z_on_h rfl (by omega) (by omega) | exact z_on_t (z_on_h rfl (by omega) (by omega)) | exact z_on_t (z_on_t (z_on_h rfl (by omega) (by omega))) | exact z_on_t (z_on_t (z_on_t (z_on_h rfl (by omega) (by omega)))) | exact z_on_t (z_on_t (z_on_t (z_on_t (z_on_h rfl (by omega) (by omega))))) | exact z_on_t (z_on_t (z_on_t (z_on_t (z_on_t (z_on_h rfl (by omega) (by omega)))))) | exact z_on_t (z_on_t (z_on_t (z_on_t (z_on_t (z_on_t (z_on_h rfl (by omega) (by omega))))))) | exact z_on_t (z_on_t (z_on_t (z_on_t (z_on_t (z_on_t (z_on_t (z_on_h rfl (by omega) (by omega)))))))) | exact z_on_t (z_on_t (z_on_t (z_on_t (z_on_t (z_on_t (z_on_t (z_on_t (z_on_h rfl (by omega) (by omega))))))))) | exact z_on_t (z_on_t (z_on_t (z_on_t (z_on_t (z_on_t (z_on_t (z_on_t (z_on_t (z_on_h rfl (by omega) (by omega)))))))))) | exact z_on_t (z_on_t (z_on_t (z_on_t (z_on_t (z_on_t (z_on_t (z_on_t (z_on_t (z_on_t (z_on_h rfl (by omega) (by omega))))))))))) | exact z_on_t (z_on_t (z_on_t (z_on_t (z_on_t (z_on_t (z_on_t (z_on_t (z_on_t (z_on_t (z_on_t (z_on_h rfl (by omega) (by omega)))))))))))) | exact z_on_t (z_on_t (z_on_t (z_on_t (z_on_t (z_on_t (z_on_t (z_on_t (z_on_t (z_on_t (z_on_t (z_on_t (z_on_h rfl (by omega) (by omega))))))))))))))).tr a4⟩
      rw [a3 k h1 h2, zu_p (by decide), zu_at]
      by_cases hkx : k = x
      · rw [hkx, if_neg (fun z => by omega), if_pos rfl, if_pos ⟨Nat.le_refl _, by omega, c⟩]
      · rw [if_neg hkx]
        by_cases z : x + 1 ≤ k ∧ k < 9 ∧ ¬ u_hs w h (k : Int) = 0
        · rw [if_pos z, if_pos ⟨by omega, z.2⟩]
        · rw [if_neg z, if_neg (fun y => z ⟨by omega, y.2⟩)]
theorem T_l217 {w h : Int} : ∀ (f x : Nat) (x1 x2 x3 x4 : Int) (m : z_M), x + f = 37 → m 251 1 = w → m 251 2 = h → ∃ m', z_R 163 (m, 217, [(2, 251), (0, x1), (0, x2), (0, x3), (0, x4), (0, (x : Int))], []) = some (m', some (0, z_mul x1 x2)) ∧ (m' 251 3 = 0 ∧ m' 251 25 = 0 ∧ m' 252 34 = -1 ∧ m' 252 36 = x4 ∧ ∀ i, i < 2 → m' 276 i = 0) ∧ (∀ k, ¬ k = 34 → ¬ k = 36 → k < 37 → m' 252 k = if k < 9 ∧ ¬ u_hs w h (k : Int) = 0 then m 256 k else if x ≤ k then 0 else m 252 k) ∧ z_same u_KL m m' := by
  intro f
  induction f with
  | zero =>
    intro x x1 x2 x3 x4 m hx hw hh
    rw [t_house_217, if_pos (by omega)]
    obtain ⟨m', a1, a2, a3, a4⟩ := T_l241 (w := w) (h := h) 9 0 x1 x2 x3 x4 m rfl hw hh
    refine ⟨m', a1, a2, fun k h1 h2 h3 => ?_, a4⟩
    rw [a3 k h1 h2]
    by_cases z : k < 9 ∧ ¬ u_hs w h (k : Int) = 0
    · rw [if_pos z, if_pos ⟨Nat.zero_le _, z⟩]
    · rw [if_neg z, if_neg (fun y => z y.2), if_neg (by omega)]
  | succ f ih =>
    intro x x1 x2 x3 x4 m hx hw hh
    obtain ⟨m', a1, a2, a3, a4⟩ := ih (x + 1) x1 x2 x3 x4 (z_up m 252 x 0) (by omega) ((zu_p (by decide)).trans hw) ((zu_p (by decide)).trans hh)
    rw [t_house_217, if_neg (by omega), if_pos (by omega), z_add_eq (by omega) (by omega), Int.toNat_natCast, tc1]
    refine ⟨m', a1, a2, fun k h1 h2 h3 => ?_, (z_same.rf.upo (by (try unfold u_KL); (try unfold u_M); first | exact z_on_h rfl (by omega) (by omega) | exact z_on_t (z_on_h rfl (by omega) (by omega)) | exact z_on_t (z_on_t (z_on_h rfl (by omega) (by omega))) | exact z_on_t (z_on_t (z_on_t (z_on_h rfl (by omega) (by omega)))) | exact z_on_t (z_on_t (z_on_t (z_on_t (z_on_h rfl (by omega) (by omega))))) | exact z_on_t (z_on_t (z_on_t (z_on_t (z_on_t (z_on_h rfl (by omega) (by omega)))))) | exact z_on_t (z_on_t (z_on_t (z_on_t (z_on_t (z_on_t (z_on_h rfl (by omega) (by omega))))))) | exact z_on_t (z_on_t (z_on_t (z_on_t (z_on_t (z_on_t (z_on_t (z_on_h rfl (by omega) (by omega)))))))) | exact z_on_t (z_on_t (z_on_t (z_on_t (z_on_t (z_on_t (z_on_t (z_on_t (z_on_h rfl (by omega) (by omega))))))))) | exact z_on_t (z_on_t (z_on_t (z_on_t (z_on_t (z_on_t (z_on_t (z_on_t (z_on_t (z_on_h rfl (by omega) (by omega)))))))))) | exact z_on_t (z_on_t (z_on_t (z_on_t (z_on_t (z_on_t (z_on_t (z_on_t (z_on_t (z_on_t (z_on_h rfl (by omega) (by omega))))))))))) | exact z_on_t (z_on_t (z_on_t (z_on_t (z_on_t (z_on_t (z_on_t (z_on_t (z_on_t (z_on_t (z_on_t (z_on_h rfl (by omega) (by omega)))))))))))) | exact z_on_t (z_on_t (z_on_t (z_on_t (z_on_t (z_on_t (z_on_t (z_on_t (z_on_t (z_on_t (z_on_t (z_on_t (z_on_h rfl (by omega) (by omega))))))))))))))).tr a4⟩
    rw [a3 k h1 h2 h3, zu_p (by decide), zu_at]
    by_cases z : k < 9 ∧ ¬ u_hs w h (k : Int) = 0
    · rw [if_pos z, if_pos z]
    · rw [if_neg z, if_neg z]
      by_cases hk : k = x
      · rw [if_neg (by omega), if_pos hk, if_pos (by omega)]
      · by_cases hx' : x + 1 ≤ k
        · rw [if_pos hx', if_pos (by omega)]
        · rw [if_neg hx', if_neg hk, if_neg (by omega)]
section
variable {w h n : Nat} {heat price : Int} {D A : Nat → Int} {c : Nat} {U : Nat → Nat → Int} {kn : Nat → Int} {KS : Nat → Nat → Int} {cs : List Int} {m : z_M}
theorem R_houseC (hi : R_is w h n heat price D A c U kn KS cs m) (h0 : 0 ≤ m 251 8) (h1 : m 251 8 ≤ 80) (hr : ∀ k, k < 80 → -128 ≤ m 254 k ∧ m 254 k ≤ 127) {S : u_H} (hS : u_hou (u_nx (u_t m) (m 251 8) 80) (m 251 8) 3 0 3 0 (m 256) = S) : ∃ m', z_R 163 (m, 0, [(2, 251), (9, 0), (9, 0), (9, 0), (9, 0), (9, 0)], []) = some (m', some (0, u_ans S)) ∧ (S.1 = false → R_is w h n heat price D A c U kn KS cs m') ∧ (S.1 = true → ∃ w' h' : Nat, S.2.1 = (w' : Int) ∧ S.2.2.1 = (h' : Int) ∧ R_is w' h' 0 heat price D (u_hA (w' : Int) (h' : Int) S.2.2.2.2 (A 36)) 0 U (fun _ => -1) KS cs m') := by
  have b := u_hou_b (g := u_nx (u_t m) (m 251 8) 80) (u_nx_b h1) (n := m 251 8) 3 0 3 0 (m 256) (by decide) (by decide) (by decide) (by decide) (by decide) (by decide)
  rw [hS] at b
  rw [t_house_0, t_begin_0]
  have e8 : (z_up m 251 11 0) 251 8 = m 251 8 := zu_k (by decide)
  show ∃ m', z_R 163 (z_up (z_up (z_up (z_up (z_up (z_up m 251 11 0) 251 12 254) 251 13 (m 251 8)) 251 14 80) 251 15 0) 251 16 (-1), 19, [(2, 251), (9, 0), (9, 0), (9, 0), (9, 0), (9, 0)], []) = _ ∧ _
  rw [t_house_19]
  have q0 : z_same [(251, 8, 16)] m (z_up (z_up (z_up (z_up (z_up (z_up (z_up m 251 11 0) 251 12 254) 251 13 (m 251 8)) 251 14 80) 251 15 0) 251 16 (-1)) 251 8 0) := ((((((z_same.rf.upo (by (try unfold u_KL); (try unfold u_M); first | exact z_on_h rfl (by omega) (by omega) | exact z_on_t (z_on_h rfl (by omega) (by omega)) | exact z_on_t (z_on_t (z_on_h rfl (by omega) (by omega))) | exact z_on_t (z_on_t (z_on_t (z_on_h rfl (by omega) (by omega)))) | exact z_on_t (z_on_t (z_on_t (z_on_t (z_on_h rfl (by omega) (by omega))))) | exact z_on_t (z_on_t (z_on_t (z_on_t (z_on_t (z_on_h rfl (by omega) (by omega)))))) | exact z_on_t (z_on_t (z_on_t (z_on_t (z_on_t (z_on_t (z_on_h rfl (by omega) (by omega))))))) | exact z_on_t (z_on_t (z_on_t (z_on_t (z_on_t (z_on_t (z_on_t (z_on_h rfl (by omega) (by omega)))))))) | exact z_on_t (z_on_t (z_on_t (z_on_t (z_on_t (z_on_t (z_on_t (z_on_t (z_on_h rfl (by omega) (by omega))))))))) | exact z_on_t (z_on_t (z_on_t (z_on_t (z_on_t (z_on_t (z_on_t (z_on_t (z_on_t (z_on_h rfl (by omega) (by omega)))))))))) | exact z_on_t (z_on_t (z_on_t (z_on_t (z_on_t (z_on_t (z_on_t (z_on_t (z_on_t (z_on_t (z_on_h rfl (by omega) (by omega))))))))))) | exact z_on_t (z_on_t (z_on_t (z_on_t (z_on_t (z_on_t (z_on_t (z_on_t (z_on_t (z_on_t (z_on_t (z_on_h rfl (by omega) (by omega)))))))))))) | exact z_on_t (z_on_t (z_on_t (z_on_t (z_on_t (z_on_t (z_on_t (z_on_t (z_on_t (z_on_t (z_on_t (z_on_t (z_on_h rfl (by omega) (by omega))))))))))))))).upo (by (try unfold u_KL); (try unfold u_M); first | exact z_on_h rfl (by omega) (by omega) | exact z_on_t (z_on_h rfl (by omega) (by omega)) | exact z_on_t (z_on_t (z_on_h rfl (by omega) (by omega))) | exact z_on_t (z_on_t (z_on_t (z_on_h rfl (by omega) (by omega)))) | exact z_on_t (z_on_t (z_on_t (z_on_t (z_on_h rfl (by omega) (by omega))))) | exact z_on_t (z_on_t (z_on_t (z_on_t (z_on_t (z_on_h rfl (by omega) (by omega)))))) | exact z_on_t (z_on_t (z_on_t (z_on_t (z_on_t (z_on_t (z_on_h rfl (by omega) (by omega))))))) | exact z_on_t (z_on_t (z_on_t (z_on_t (z_on_t (z_on_t (z_on_t (z_on_h rfl (by omega) (by omega)))))))) | exact z_on_t (z_on_t (z_on_t (z_on_t (z_on_t (z_on_t (z_on_t (z_on_t (z_on_h rfl (by omega) (by omega))))))))) | exact z_on_t (z_on_t (z_on_t (z_on_t (z_on_t (z_on_t (z_on_t (z_on_t (z_on_t (z_on_h rfl (by omega) (by omega)))))))))) | exact z_on_t (z_on_t (z_on_t (z_on_t (z_on_t (z_on_t (z_on_t (z_on_t (z_on_t (z_on_t (z_on_h rfl (by omega) (by omega))))))))))) | exact z_on_t (z_on_t (z_on_t (z_on_t (z_on_t (z_on_t (z_on_t (z_on_t (z_on_t (z_on_t (z_on_t (z_on_h rfl (by omega) (by omega)))))))))))) | exact z_on_t (z_on_t (z_on_t (z_on_t (z_on_t (z_on_t (z_on_t (z_on_t (z_on_t (z_on_t (z_on_t (z_on_t (z_on_h rfl (by omega) (by omega))))))))))))))).upo (by (try unfold u_KL); (try unfold u_M); first | exact z_on_h rfl (by omega) (by omega) | exact z_on_t (z_on_h rfl (by omega) (by omega)) | exact z_on_t (z_on_t (z_on_h rfl (by omega) (by omega))) | exact z_on_t (z_on_t (z_on_t (z_on_h rfl (by omega) (by omega)))) | exact z_on_t (z_on_t (z_on_t (z_on_t (z_on_h rfl (by omega) (by omega))))) | exact z_on_t (z_on_t (z_on_t (z_on_t (z_on_t (z_on_h rfl (by omega) (by omega)))))) | exact z_on_t (z_on_t (z_on_t (z_on_t (z_on_t (z_on_t (z_on_h rfl (by omega) (by omega))))))) | exact z_on_t (z_on_t (z_on_t (z_on_t (z_on_t (z_on_t (z_on_t (z_on_h rfl (by omega) (by omega)))))))) | exact z_on_t (z_on_t (z_on_t (z_on_t (z_on_t (z_on_t (z_on_t (z_on_t (z_on_h rfl (by omega) (by omega))))))))) | exact z_on_t (z_on_t (z_on_t (z_on_t (z_on_t (z_on_t (z_on_t (z_on_t (z_on_t (z_on_h rfl (by omega) (by omega)))))))))) | exact z_on_t (z_on_t (z_on_t (z_on_t (z_on_t (z_on_t (z_on_t (z_on_t (z_on_t (z_on_t (z_on_h rfl (by omega) (by omega))))))))))) | exact z_on_t (z_on_t (z_on_t (z_on_t (z_on_t (z_on_t (z_on_t (z_on_t (z_on_t (z_on_t (z_on_t (z_on_h rfl (by omega) (by omega)))))))))))) | exact z_on_t (z_on_t (z_on_t (z_on_t (z_on_t (z_on_t (z_on_t (z_on_t (z_on_t (z_on_t (z_on_t (z_on_t (z_on_h rfl (by omega) (by omega))))))))))))))).upo (by (try unfold u_KL); (try unfold u_M); first | exact z_on_h rfl (by omega) (by omega) | exact z_on_t (z_on_h rfl (by omega) (by omega)) | exact z_on_t (z_on_t (z_on_h rfl (by omega) (by omega))) | exact z_on_t (z_on_t (z_on_t (z_on_h rfl (by omega) (by omega)))) | exact z_on_t (z_on_t (z_on_t (z_on_t (z_on_h rfl (by omega) (by omega))))) | exact z_on_t (z_on_t (z_on_t (z_on_t (z_on_t (z_on_h rfl (by omega) (by omega)))))) | exact z_on_t (z_on_t (z_on_t (z_on_t (z_on_t (z_on_t (z_on_h rfl (by omega) (by omega))))))) | exact z_on_t (z_on_t (z_on_t (z_on_t (z_on_t (z_on_t (z_on_t (z_on_h rfl (by omega) (by omega)))))))) | exact z_on_t (z_on_t (z_on_t (z_on_t (z_on_t (z_on_t (z_on_t (z_on_t (z_on_h rfl (by omega) (by omega))))))))) | exact z_on_t (z_on_t (z_on_t (z_on_t (z_on_t (z_on_t (z_on_t (z_on_t (z_on_t (z_on_h rfl (by omega) (by omega)))))))))) | exact z_on_t (z_on_t (z_on_t (z_on_t (z_on_t (z_on_t (z_on_t (z_on_t (z_on_t (z_on_t (z_on_h rfl (by omega) (by omega))))))))))) | exact z_on_t (z_on_t (z_on_t (z_on_t (z_on_t (z_on_t (z_on_t (z_on_t (z_on_t (z_on_t (z_on_t (z_on_h rfl (by omega) (by omega)))))))))))) | exact z_on_t (z_on_t (z_on_t (z_on_t (z_on_t (z_on_t (z_on_t (z_on_t (z_on_t (z_on_t (z_on_t (z_on_t (z_on_h rfl (by omega) (by omega))))))))))))))).upo (by (try unfold u_KL); (try unfold u_M); first | exact z_on_h rfl (by omega) (by omega) | exact z_on_t (z_on_h rfl (by omega) (by omega)) | exact z_on_t (z_on_t (z_on_h rfl (by omega) (by omega))) | exact z_on_t (z_on_t (z_on_t (z_on_h rfl (by omega) (by omega)))) | exact z_on_t (z_on_t (z_on_t (z_on_t (z_on_h rfl (by omega) (by omega))))) | exact z_on_t (z_on_t (z_on_t (z_on_t (z_on_t (z_on_h rfl (by omega) (by omega)))))) | exact z_on_t (z_on_t (z_on_t (z_on_t (z_on_t (z_on_t (z_on_h rfl (by omega) (by omega))))))) | exact z_on_t (z_on_t (z_on_t (z_on_t (z_on_t (z_on_t (z_on_t (z_on_h rfl (by omega) (by omega)))))))) | exact z_on_t (z_on_t (z_on_t (z_on_t (z_on_t (z_on_t (z_on_t (z_on_t (z_on_h rfl (by omega) (by omega))))))))) | exact z_on_t (z_on_t (z_on_t (z_on_t (z_on_t (z_on_t (z_on_t (z_on_t (z_on_t (z_on_h rfl (by omega) (by omega)))))))))) | exact z_on_t (z_on_t (z_on_t (z_on_t (z_on_t (z_on_t (z_on_t (z_on_t (z_on_t (z_on_t (z_on_h rfl (by omega) (by omega))))))))))) | exact z_on_t (z_on_t (z_on_t (z_on_t (z_on_t (z_on_t (z_on_t (z_on_t (z_on_t (z_on_t (z_on_t (z_on_h rfl (by omega) (by omega)))))))))))) | exact z_on_t (z_on_t (z_on_t (z_on_t (z_on_t (z_on_t (z_on_t (z_on_t (z_on_t (z_on_t (z_on_t (z_on_t (z_on_h rfl (by omega) (by omega))))))))))))))).upo (by (try unfold u_KL); (try unfold u_M); first | exact z_on_h rfl (by omega) (by omega) | exact z_on_t (z_on_h rfl (by omega) (by omega)) | exact z_on_t (z_on_t (z_on_h rfl (by omega) (by omega))) | exact z_on_t (z_on_t (z_on_t (z_on_h rfl (by omega) (by omega)))) | exact z_on_t (z_on_t (z_on_t (z_on_t (z_on_h rfl (by omega) (by omega))))) | exact z_on_t (z_on_t (z_on_t (z_on_t (z_on_t (z_on_h rfl (by omega) (by omega)))))) | exact z_on_t (z_on_t (z_on_t (z_on_t (z_on_t (z_on_t (z_on_h rfl (by omega) (by omega))))))) | exact z_on_t (z_on_t (z_on_t (z_on_t (z_on_t (z_on_t (z_on_t (z_on_h rfl (by omega) (by omega)))))))) | exact z_on_t (z_on_t (z_on_t (z_on_t (z_on_t (z_on_t (z_on_t (z_on_t (z_on_h rfl (by omega) (by omega))))))))) | exact z_on_t (z_on_t (z_on_t (z_on_t (z_on_t (z_on_t (z_on_t (z_on_t (z_on_t (z_on_h rfl (by omega) (by omega)))))))))) | exact z_on_t (z_on_t (z_on_t (z_on_t (z_on_t (z_on_t (z_on_t (z_on_t (z_on_t (z_on_t (z_on_h rfl (by omega) (by omega))))))))))) | exact z_on_t (z_on_t (z_on_t (z_on_t (z_on_t (z_on_t (z_on_t (z_on_t (z_on_t (z_on_t (z_on_t (z_on_h rfl (by omega) (by omega)))))))))))) | exact z_on_t (z_on_t (z_on_t (z_on_t (z_on_t (z_on_t (z_on_t (z_on_t (z_on_t (z_on_t (z_on_t (z_on_t (z_on_h rfl (by omega) (by omega))))))))))))))).upo (by (try unfold u_KL); (try unfold u_M); first | exact z_on_h rfl (by omega) (by omega) | exact z_on_t (z_on_h rfl (by omega) (by omega)) | exact z_on_t (z_on_t (z_on_h rfl (by omega) (by omega))) | exact z_on_t (z_on_t (z_on_t (z_on_h rfl (by omega) (by omega)))) | exact z_on_t (z_on_t (z_on_t (z_on_t (z_on_h rfl (by omega) (by omega))))) | exact z_on_t (z_on_t (z_on_t (z_on_t (z_on_t (z_on_h rfl (by omega) (by omega)))))) | exact z_on_t (z_on_t (z_on_t (z_on_t (z_on_t (z_on_t (z_on_h rfl (by omega) (by omega))))))) | exact z_on_t (z_on_t (z_on_t (z_on_t (z_on_t (z_on_t (z_on_t (z_on_h rfl (by omega) (by omega)))))))) | exact z_on_t (z_on_t (z_on_t (z_on_t (z_on_t (z_on_t (z_on_t (z_on_t (z_on_h rfl (by omega) (by omega))))))))) | exact z_on_t (z_on_t (z_on_t (z_on_t (z_on_t (z_on_t (z_on_t (z_on_t (z_on_t (z_on_h rfl (by omega) (by omega)))))))))) | exact z_on_t (z_on_t (z_on_t (z_on_t (z_on_t (z_on_t (z_on_t (z_on_t (z_on_t (z_on_t (z_on_h rfl (by omega) (by omega))))))))))) | exact z_on_t (z_on_t (z_on_t (z_on_t (z_on_t (z_on_t (z_on_t (z_on_t (z_on_t (z_on_t (z_on_t (z_on_h rfl (by omega) (by omega)))))))))))) | exact z_on_t (z_on_t (z_on_t (z_on_t (z_on_t (z_on_t (z_on_t (z_on_t (z_on_t (z_on_t (z_on_t (z_on_t (z_on_h rfl (by omega) (by omega))))))))))))))
  generalize hm : z_up (z_up (z_up (z_up (z_up (z_up (z_up m 251 11 0) 251 12 254) 251 13 (m 251 8)) 251 14 80) 251 15 0) 251 16 (-1)) 251 8 0 = m0 at q0 ⊢
  have r : ∀ p, ¬ p = 251 → m0 p = m p := fun p hp => by rw [← hm, zu_rowne hp, zu_rowne hp, zu_rowne hp, zu_rowne hp, zu_rowne hp, zu_rowne hp, zu_rowne hp]
  have g12 : m0 251 12 = 254 := by rw [← hm, zu_k (by decide), zu_k (by decide), zu_k (by decide), zu_k (by decide), zu_k (by decide), zu_self]
  have g13 : m0 251 13 = m 251 8 := by rw [← hm, zu_k (by decide), zu_k (by decide), zu_k (by decide), zu_k (by decide), zu_self]
  have g14 : m0 251 14 = 80 := by rw [← hm, zu_k (by decide), zu_k (by decide), zu_k (by decide), zu_self]
  have g15 : m0 251 15 = 0 := by rw [← hm, zu_k (by decide), zu_k (by decide), zu_self]
  have g16 : m0 251 16 = -1 := by rw [← hm, zu_k (by decide), zu_self]
  have gq : u_q m0 = u_nx (u_t m) (m 251 8) 80 := by
    unfold u_q u_t
    rw [r 254 (by decide), g13, g14]
  obtain ⟨m1, v3, v4, v5, t0, t1, t2⟩ := T_hou 3 0 0 3 (9, 0) (9, 0) m0 ⟨g12, by omega, by omega, by omega, fun k hk => by rw [r 254 (by decide)]; exact hr k hk⟩ g16 (by decide) (by decide) (by decide) (by decide) (by decide) (fun _ => rfl) (fun z => absurd rfl z)
  rw [gq, g13, g15, r 256 (by decide), hS] at t1 t2
  have s1 : ∀ p k, ¬ (p = 251 ∧ 8 ≤ k ∧ k ≤ 16) → ¬ p = 256 → m1 p k = m p k := fun p k n1 n2 => by
    rw [t0.of (by
      unfold u_M
      (repeat' (first | exact trivial | refine z_of_c ?_ ?_)) <;> omega)]
    exact q0.of (by
      refine z_of_c ?_ trivial
      omega)
  have hi1 : R_is w h n heat price D A c U kn KS cs m1 := R_fr hi fun p k hk => by
    have hk' := hk
    unfold R_hit at hk'
    have hk' := of_decide_eq_true hk'
    exact s1 p k (by omega) (by omega)
  obtain ⟨ok, w', h', i, a⟩ := S
  try simp only at t1 t2 b
  unfold u_ans
  try simp only
  cases ok with
  | false =>
    rw [t1 rfl]
    exact ⟨m1, by rw [if_neg (by decide)], fun _ => hi1, fun z => by cases z⟩
  | true =>
    obtain ⟨t3, t4, t5, t6⟩ := t2 rfl
    obtain ⟨w2, rfl⟩ : ∃ w2 : Nat, w' = (w2 : Int) := ⟨w'.toNat, by omega⟩
    obtain ⟨h2, rfl⟩ : ∃ h2 : Nat, h' = (h2 : Int) := ⟨h'.toNat, by omega⟩
    rw [t3, t_house_162, if_pos t5, t_fine1 m1 t4]
    show ∃ m', z_R 163 (m1, 185, [(2, 251), (0, (w2 : Int)), (0, (h2 : Int)), (0, v3), v4, v5], [(0, 1)]) = _ ∧ _
    rw [t_house_185, if_neg (by decide)]
    obtain ⟨m', a1, ⟨a2, a3, a4, a5, a6⟩, a7, a8⟩ := T_l217 (w := (w2 : Int)) (h := (h2 : Int)) 37 0 (w2 : Int) (h2 : Int) v3 (m1 252 36) (z_up (z_up m1 251 1 (w2 : Int)) 251 2 (h2 : Int)) rfl (by rw [zu_k (by decide), zu_self]) zu_self
    have a1 : z_R 163 (z_up (z_up m1 251 1 (w2 : Int)) 251 2 (h2 : Int), 217, [(2, 251), (0, (w2 : Int)), (0, (h2 : Int)), (0, v3), (0, m1 252 36), (0, 0)], []) = some (m', some (0, z_mul (w2 : Int) (h2 : Int))) := a1
    rw [a1]
    refine ⟨m', by rw [if_pos rfl, u_mul3 b.1 b.2.1 b.2.2.1 b.2.2.2.1], (fun z => by cases z), fun _ => ⟨w2, h2, rfl, rfl, ?_⟩⟩
    have hfa : ∀ p k, R_hit p k k = true → ¬ (p = 251 ∧ (k = 1 ∨ k = 2 ∨ k = 3 ∨ k = 25)) → ¬ p = 252 → ¬ (p = 276 ∧ k ≤ 1) → m' p k = m1 p k := fun p k hk n1 n2 n3 => by
      rw [a8.of (by
        unfold u_KL
        (repeat' (first | exact trivial | refine z_of_c ?_ ?_)) <;> omega), X_up (by omega), X_up (by omega)]
    obtain ⟨⟨q1, q2, q3, q4, q5, q6⟩, qb, qd, qu, qe, qf⟩ := hi1
    refine ⟨⟨?_, ?_, a2, ?_, ?_, ?_⟩, fun j hj => (hfa 253 j hit_253 (by omega) (by omega) (by omega)).trans (qb j hj), rS_hA (fun k hk => ?_), ⟨a3, by decide, fun i hi => absurd hi (Nat.not_lt_zero i)⟩, fun i hi => ⟨Or.inl ⟨a6 i hi, rfl⟩, fun z => by cases z⟩, ?_⟩
    · rw [a8.of (p := 251) (k := 1) (by
        unfold u_KL
        exact (by (try unfold u_KL); (try unfold u_M); (repeat' (first | exact trivial | refine z_of_c ?_ ?_)) <;> omega)), zu_k (by decide), zu_self]
    · rw [a8.of (p := 251) (k := 2) (by
        unfold u_KL
        exact (by (try unfold u_KL); (try unfold u_M); (repeat' (first | exact trivial | refine z_of_c ?_ ?_)) <;> omega)), zu_self]
    · exact (hfa 251 5 (by decide) (by decide) (by decide) (by decide)).trans q4
    · exact (hfa 251 6 (by decide) (by decide) (by decide) (by decide)).trans q5
    · exact (hfa 251 23 (by decide) (by decide) (by decide) (by decide)).trans q6
    · by_cases k34 : k = 34
      · rw [k34, if_neg (by decide), if_pos rfl]; exact a4
      by_cases k36 : k = 36
      · rw [k36, if_neg (by decide), if_neg (by decide), if_pos rfl, a5, ← qd]
        exact (rS_at (by decide) (a_vis_hi (by decide))).symm
      rw [a7 k k34 k36 hk, if_neg k34, if_neg k36]
      by_cases k9 : k < 9
      · rw [if_pos k9]
        by_cases z : u_hs (w2 : Int) (h2 : Int) (k : Int) = 0
        · rw [if_pos z, if_neg (fun y => y.2 z), if_pos (Nat.zero_le _)]
        · rw [if_neg z, if_pos ⟨k9, z⟩, zu_p (by decide), zu_p (by decide), t6]
      · rw [if_neg k9, if_neg (fun y => k9 y.1), if_pos (Nat.zero_le _)]
    · unfold r_ru
      rw [hfa 251 20 (by decide) (by decide) (by decide) (by decide), show m' 258 = m1 258 from funext fun k => hfa 258 k hit_258 (by omega) (by omega) (by omega)]
      exact qf
end
end
section
/-! house: the case -/
theorem wi_house {w h : Nat} {row : Nat → Int} {fr : Int} : wi w h 0 (u_hA (w : Int) (h : Int) row fr) := by
  refine ⟨fun p hp => absurd hp (Nat.not_lt_zero p), fun k hk hz => ⟨?_, ?_⟩, Or.inl ?_⟩
  · unfold u_hA
    rw [a_msk_at (a_vis_lo (by omega))]
    show (if k < 9 then (if u_hs (w : Int) (h : Int) (k : Int) = 0 then 0 else row k) else if k = 34 then -1 else if k = 36 then fr else 0) = 0
    rw [if_pos hk, if_pos hz]
  · unfold u_hA
    rw [a_msk_at (a_vis_lo (by omega))]
    show (if k + 9 < 9 then (if u_hs (w : Int) (h : Int) ((k + 9 : Nat) : Int) = 0 then 0 else row (k + 9)) else if k + 9 = 34 then -1 else if k + 9 = 36 then fr else 0) = 0
    rw [if_neg (by omega), if_neg (by omega), if_neg (by omega)]
  · unfold u_hA
    rw [a_msk_at (a_vis_hi (by decide))]
    show (if 34 < 9 then (if u_hs (w : Int) (h : Int) ((34 : Nat) : Int) = 0 then 0 else row 34) else if 34 = 34 then -1 else if 34 = 36 then fr else 0) = -1
    rw [if_neg (by decide), if_pos rfl]
theorem u_hou_s {g : Int → Int} {n : Int} : ∀ (f : Nat) (y w i : Int) (a : Nat → Int), 0 ≤ y → (u_hou g n f y w i a).1 = true → 1 ≤ (u_hou g n f y w i a).2.2.1 := by
  intro f
  induction f with
  | zero => intro y w i a h0 h; cases h
  | succ f ih =>
    intro y w i a h0 h
    unfold u_hou at h ⊢
    by_cases c1 : (u_sto g y 3 0 w i a).1 = false
    · rw [if_pos c1] at h; cases h
    rw [if_neg c1] at h ⊢
    by_cases c2 : n ≤ (u_sto g y 3 0 w i a).2.2.1
    · rw [if_pos c2]
      show 1 ≤ y + 1
      omega
    rw [if_neg c2] at h ⊢
    by_cases c3 : 3 ≤ y + 1
    · rw [if_pos c3] at h; cases h
    rw [if_neg c3] at h ⊢
    by_cases c4 : g (u_sto g y 3 0 w i a).2.2.1 = 47
    · rw [if_pos c4] at h ⊢
      exact ih _ _ _ _ (by omega) h
    · rw [if_neg c4] at h; cases h
theorem core_house : l_rel2 Rel_C (263, 36, 18, 0, false, 268, 40, 163) := by
  intro M1 M2 M3 σ σ1 σ2 as v1 v2 C1 C2 ρ1 ρ2 ha hR hh hM1 hC1 hp1 hE1 hC2 hp2 hE2
  obtain rfl := as_nil ha
  have hE1 : z_R 18 (z_m σ, 0, [(2, 0), (9, 0), (9, 0)], []) = some (z_m σ1, some (0, v1.toInt)) := z_R_iff.mpr hE1
  have hE2 : z_R 163 (z_m σ1, 0, [(2, 251), (9, 0), (9, 0), (9, 0), (9, 0), (9, 0)], []) = some (z_m σ2, some (0, v2.toInt)) := z_R_iff.mpr hE2
  obtain ⟨⟨hT, hv⟩, -⟩ := H_house M1 M2 M3 σ σ1 σ2 [] v1 v2 C1 C2 ρ1 ρ2 rfl hR.1 hh hC1 hp1 hE1 hC2 hp2 hE2
  have hT0 : u_R (z_m σ) := hR.1
  obtain ⟨r1, r2⟩ := z_rng hh (p := 1) (k := 1) (lo := 0) (hi := 80) (by decide) (by decide +kernel) (by decide +kernel)
  have rb : ∀ k, k < 80 → -128 ≤ z_m σ 254 k ∧ z_m σ 254 k ≤ 127 := fun k hk => z_rng hh (p := 254) (k := k) (lo := -128) (hi := 127) (by decide) (by rw [show h_ln 254 = 80 by decide +kernel]; exact hk) (h_ty_254 k)
  have o8 : z_m σ1 251 8 = z_m σ 251 8 := md_off_ok (y := 18) (by decide +kernel) hC1 hp1
  have o4 : z_m σ1 254 = z_m σ 254 := md_offr_ok (y := 18) (by decide +kernel) hC1 hp1
  have e8 : z_m σ1 251 8 = z_m σ 1 1 := o8.trans hT0.1.symm
  have eG : u_nx (u_t (z_m σ1)) (z_m σ1 251 8) 80 = u_nx (z_m σ 2) (z_m σ 1 1) 80 := by
    rw [u_nx_R hT0]
    unfold u_t
    rw [o8, o4]
  obtain ⟨w, h, n, heat, price, D, A, c, U, kn, KS, cs, cC, cR, cW⟩ := hR.2
  have f1 := R_off2_ok (y := 18) (by decide +kernel) hC1 hp1
  have f2 := C_off_ok (y := 163) (by decide +kernel) hC2 hp2
  have cR1 := R_fr cR f1
  have b := u_hou_b (u_nx_b r2) (n := z_m σ 1 1) 3 0 3 0 (z_m σ 9) (g := u_nx (z_m σ 2) (z_m σ 1 1) 80) (by decide) (by decide) (by decide) (by decide) (by decide) (by decide)
  have ee := u_hou_e (g := u_nx (z_m σ 2) (z_m σ 1 1) 80) (n := z_m σ 1 1) 3 0 3 0 (z_m σ 9) (z_m σ1 256)
  have er := u_hou_r (g := u_nx (z_m σ 2) (z_m σ 1 1) 80) (n := z_m σ 1 1) 3 0 3 0 (z_m σ 9) (z_m σ1 256) rfl (by decide)
  rw [show ((0 : Nat) : Int) = 0 from rfl] at er
  have hs := u_hou_s (g := u_nx (z_m σ 2) (z_m σ 1 1) 80) (n := z_m σ 1 1) 3 0 3 0 (z_m σ 9) (by decide)
  obtain ⟨m1, d1, d2, d3⟩ := C_house cC r1 r2 rfl
  obtain ⟨m2, g1, g2, g3⟩ := R_houseC cR1 (by rw [e8]; exact r1) (by rw [e8]; exact r2) (fun k hk => by rw [o4]; exact rb k hk) rfl
  rw [eG, e8] at g1 g2 g3
  generalize u_hou (u_nx (z_m σ 2) (z_m σ 1 1) 80) (z_m σ 1 1) 3 0 3 0 (z_m σ 9) = S at d1 d2 d3 b ee er hs
  generalize u_hou (u_nx (z_m σ 2) (z_m σ 1 1) 80) (z_m σ 1 1) 3 0 3 0 (z_m σ1 256) = S' at g1 g2 g3 ee er
  obtain ⟨b1, -⟩ := R_inj d1 hE1
  obtain ⟨b3, -⟩ := R_inj g1 hE2
  subst b1 b3
  obtain ⟨e1, e2, e3, -⟩ := ee
  refine ⟨⟨hT, ?_⟩, fun _ => hv⟩
  by_cases k : S.1 = true
  · obtain ⟨w1, h1, x1, x2, x3⟩ := d3 k
    obtain ⟨w2, h2, y1, y2, y3⟩ := g3 (e1.symm.trans k)
    obtain rfl : w2 = w1 := by omega
    obtain rfl : h2 = h1 := by omega
    have hw3 : w2 ≤ 3 := by omega
    have hh3 : h2 ≤ 3 := by omega
    rw [← u_hA_row (row := S.2.2.2.2) (row' := S'.2.2.2.2) (fun k' hk' hqx => er k k' (Or.inl ?_))] at y3
    · have hs1 := hs k
      exact Core_mk (hW := w_W_0 (by omega) wi_house (fun i hi => show ¬ ((-1 : Int) = ((0 : Nat) : Int)) by decide)) (C_fr x3 f2) y3
    · have hq' := u_hs_q hw3 hh3 (r := k') (by omega)
      cases hc : hq w2 h2 k' with
      | false => rw [hc, cond_false] at hq'; exact absurd hq' hqx
      | true =>
        obtain ⟨-, z1, z2⟩ := hq_t.mp hc
        exact ⟨k' / 3, k' % 3, Nat.zero_le _, by omega, by omega, by omega⟩
  · have k0 : S.1 = false := by cases hq : S.1 <;> simp_all
    exact Core_mk (C_fr (d2 k0) f2) (g2 (e1.symm.trans k0)) cW
end
section
/-! people, of what both are in -/
theorem a_msk_cg {n : Int} {f g : Nat → Int} (h : ∀ k, a_vis n k = true → f k = g k) : a_msk n f = a_msk n g := by
  funext k
  unfold a_msk
  exact z_ifc (fun hk => h k hk) (fun _ => rfl)
theorem a_vis_is {n : Int} {k : Nat} (h : a_vis n k = true) : k < 18 ∨ 33 ≤ k ∨ (((k - 18) % 5 : Nat) : Int) < n := by
  unfold a_vis at h
  by_cases h1 : k < 18
  · exact Or.inl h1
  by_cases h2 : 33 ≤ k
  · exact Or.inr (Or.inl h2)
  rw [decide_eq_false h1, decide_eq_false h2, Bool.false_or, Bool.false_or] at h
  exact Or.inr (Or.inr (of_decide_eq_true h))
/-- doings, State with q more of the text G -/
def u_pD (D : Nat → Int) (G : Int → Int) (n q : Nat) : Nat → Int := fun j => if 6 * n ≤ j ∧ j < 6 * (n + q) then u_dg (G (10 * (((j - 6 * n) / 6 : Nat) : Int) + 3 + (((j - 6 * n) % 6 : Nat) : Int))) else D j
def u_pS (A : Nat → Int) (G : Int → Int) (n q : Nat) : Nat → Int := a_msk ((n + q : Nat) : Int) (fun k => if 18 ≤ k ∧ k < 33 ∧ n ≤ (k - 18) % 5 then (if k < 23 then u_rm G (10 * (((k - 18) % 5 - n : Nat) : Int)) else 0) else A k)
section
variable {w h n : Nat} {heat price : Int} {D A : Nat → Int} {c : Nat} {U : Nat → Nat → Int} {kn : Nat → Int} {KS : Nat → Nat → Int} {cs : List Int} {m : z_M}
theorem C_Ak (hi : C_is w h n heat price D A c U kn KS cs m) {k : Nat} (hv : a_vis n k = true) : A k = cR m 12 k := by
  rw [← hi.2.2.1]
  exact a_msk_at hv
theorem C_people_no (hi : C_is w h n heat price D A c U kn KS cs m) (hw : w ≤ 3) (hh : h ≤ 3) (n5 : n ≤ 5) (h0 : 0 ≤ m 1 1) (h1 : m 1 1 ≤ 80) (hr : u_gr (u_nx (m 2) (m 1 1) 76)) {G : Int → Int} (hG : u_nx (m 2) (m 1 1) 76 = G) {S : Bool × Int × Nat} (hS : u_ls G w h (m 1 1) (5 - n) 0 0 = S) (ok : ¬ (¬ m 1 1 = 0 ∧ S.1 = true)) : ∃ m', z_R 35 (m, 0, [(2, 0), (9, 0)], []) = some (m', some (0, u_pa (m 1 1) S)) ∧ C_is w h n heat price D A c U kn KS cs m' := by
  obtain ⟨e8, e9, e11, -⟩ := id hi.1
  obtain ⟨m1, a1, a2, a3, a4, a5⟩ := c_readPeople (w := (w : Int)) (h := (h : Int)) (by omega) (by omega) n n5 m h0 h1 hr e8 e9 e11
  rw [hG, hS] at a1 a2 a3
  have hb := u_ls_b (g := G) (by rw [← hG]; exact u_nx_b h1) (c := (w : Int)) (s := (h : Int)) (n := m 1 1) (5 - n) 0 0 (by decide) (by decide)
  rw [hS] at hb
  have hC : C_is w h n heat price D A c U kn KS cs (z_up m1 1 1 0) := C_fr hi fun p k hk => by
    have hk' := hk
    unfold C_hit at hk'
    have hk' := of_decide_eq_true hk'
    rw [X_up (by omega)]
    exact a5 p k (by omega) (by omega) (by omega) (by omega) (by omega)
  rw [s_people_0, a1]
  unfold u_pa
  by_cases z : m 1 1 = 0
  · rw [if_pos z] at a2 a3
    rw [if_pos z, if_pos z]
    show ∃ m', z_R 35 (m1, 11, [(2, 0), (9, 0)], [(0, 1)]) = _ ∧ _
    rw [s_people_11, s_empty_0]
    show ∃ m', z_R 35 (z_up m1 1 1 0, 19, [(2, 0), (0, 1)], []) = _ ∧ _
    have k37 : (z_up m1 1 1 0) 3 7 = 0 := (zu_p (by decide)).trans a3
    rw [s_people_19, if_neg (by decide), if_pos (by omega), s_people_61, k37]
    exact ⟨_, rfl, hC⟩
  · have k : ¬ S.1 = true := fun y => ok ⟨z, y⟩
    rw [if_neg z] at a2 a3
    rw [if_neg z, if_neg z, if_neg k, if_neg k]
    show ∃ m', z_R 35 (m1, 11, [(2, 0), (9, 0)], [(0, 0)]) = _ ∧ _
    rw [s_people_11, s_empty_0]
    show ∃ m', z_R 35 (z_up m1 1 1 0, 19, [(2, 0), (0, 0)], []) = _ ∧ _
    have k12 : (z_up m1 1 1 0) 1 2 = S.2.1 := (zu_k (by decide)).trans a2
    rw [s_people_19, if_pos rfl, k12, z_sub_eq (by omega) (by omega)]
    exact ⟨_, rfl, hC⟩
theorem C_people (hi : C_is w h n heat price D A c U kn KS cs m) (hw : w ≤ 3) (hh : h ≤ 3) (n5 : n ≤ 5) (hkn : ∀ i, i < 2 → kn i ≤ (n : Int)) (h0 : 0 ≤ m 1 1) (h1 : m 1 1 ≤ 80) (hr : u_gr (u_nx (m 2) (m 1 1) 76)) {G : Int → Int} (hG : u_nx (m 2) (m 1 1) 76 = G) {b : Bool} {i0 : Int} {q : Nat} (hS : u_ls G w h (m 1 1) (5 - n) 0 0 = (b, i0, q)) (z : ¬ m 1 1 = 0) (k : b = true) (hq : 1 ≤ q) : ∃ m', z_R 35 (m, 0, [(2, 0), (9, 0)], []) = some (m', some (0, (q : Int))) ∧ C_is w h (n + q) heat price (u_pD D G n q) (u_pS A G n q) 0 U kn KS cs m' := by
  obtain ⟨e8, e9, e11, -⟩ := id hi.1
  obtain ⟨m1, a1, a2, a3, a4, a5⟩ := c_readPeople (w := (w : Int)) (h := (h : Int)) (by omega) (by omega) n n5 m h0 h1 hr e8 e9 e11
  have hb := u_ls_b (g := G) (by rw [← hG]; exact u_nx_b h1) (c := (w : Int)) (s := (h : Int)) (n := m 1 1) (5 - n) 0 0 (by decide) (by decide)
  rw [hS] at hb
  have hq5 : q ≤ 0 + (5 - n) := hb.2.2.2
  rw [hG] at a4
  rw [hG, hS, if_neg z] at a1 a3
  have a3 : m1 3 7 = (q : Int) := a3
  rw [s_people_0, a1]
  show ∃ m', z_R 35 (m1, 11, [(2, 0), (9, 0)], [(0, if b = true then 1 else 0)]) = _ ∧ _
  rw [if_pos k, s_people_11, s_empty_0]
  show ∃ m', z_R 35 (z_up m1 1 1 0, 19, [(2, 0), (0, 1)], []) = _ ∧ _
  have k37 : (z_up m1 1 1 0) 3 7 = (q : Int) := (zu_p (by decide)).trans a3
  have k311 : (z_up m1 1 1 0) 3 11 = (n : Int) := (zu_p (by decide)).trans ((a5 3 11 (by omega) (by omega) (by omega) (by omega) (by omega)).trans e11)
  rw [s_people_19, if_neg (by decide), k37, if_neg (by omega), s_admit_0]
  obtain ⟨m2, b1, b2, b3, b4, b5, b6, b7⟩ := c_admit q 0 n (z_up m1 1 1 0) (by rw [k37, Nat.zero_add]) k311 (by omega) (Nat.zero_le _)
  rw [show ((0 : Nat) : Int) = 0 from rfl] at b1
  rw [b1]
  show ∃ m', z_R 35 (m2, 54, [(2, 0), (0, 1)], []) = _ ∧ _
  rw [s_people_54, s_fd_0]
  show ∃ m', z_R 35 (z_up m2 28 4 0, 61, [(2, 0), (0, 1)], []) = _ ∧ _
  have j37 : (z_up m2 28 4 0) 3 7 = (q : Int) := (zu_p (by decide)).trans ((b7 3 7 (by omega) (by omega) (by omega) (by omega) (by omega)).trans k37)
  rw [s_people_61, j37]
  have hfa : ∀ p k, C_hit p k k = true → ¬ (p = 3 ∧ k = 11) → ¬ p = 8 → ¬ (15 ≤ p ∧ p ≤ 17) → ¬ (p = 28 ∧ k = 4) → (z_up m2 28 4 0) p k = m p k := fun p k hk n1 n2 n3 n4 => by
    have hk' := hk
    unfold C_hit at hk'
    have hk' := of_decide_eq_true hk'
    rw [X_up n4, b7 p k n1 n2 (by omega) (by omega) (by omega), X_up (by omega)]
    exact a5 p k (by omega) (by omega) (by omega) (by omega) (by omega)
  have rows : ∀ p k, ¬ p = 28 → (z_up m2 28 4 0) p k = m2 p k := fun p k hp => zu_p hp
  have o1 : ∀ p k, ¬ p = 1 → ¬ p = 3 → ¬ p = 10 → ¬ p = 11 → (z_up m1 1 1 0) p k = m p k := fun p k n1 n2 n3 n4 => by
    rw [zu_p n1]
    exact a5 p k (by omega) (by omega) (by omega) (by omega) (by omega)
  refine ⟨_, rfl, ?_⟩
  have hA : cS (z_up m2 28 4 0) 12 ((n + q : Nat) : Int) = u_pS A G n q := by
    unfold cS u_pS
    refine a_msk_cg fun k hv => ?_
    have hv' := a_vis_is hv
    by_cases c18 : k < 18
    · rw [if_neg (by omega), C_Ak hi (a_vis_lo c18)]
      unfold cR
      by_cases c9 : k < 9
      · rw [if_pos c9, if_pos c9]
        exact hfa 13 k (hit_st (by decide) (by decide)) (by omega) (by omega) (by omega) (by omega)
      · rw [if_neg c9, if_neg c9, if_pos c18, if_pos c18]
        exact hfa 14 (k - 9) (hit_st (by decide) (by decide)) (by omega) (by omega) (by omega) (by omega)
    by_cases c33 : 33 ≤ k
    · rw [if_neg (by omega), C_Ak hi (a_vis_hi c33)]
      unfold cR
      rw [if_neg (show ¬ k < 9 by omega), if_neg (show ¬ k < 9 by omega), if_neg (show ¬ k < 18 by omega), if_neg (show ¬ k < 18 by omega), if_neg (show ¬ k < 23 by omega), if_neg (show ¬ k < 23 by omega), if_neg (show ¬ k < 28 by omega), if_neg (show ¬ k < 28 by omega), if_neg (show ¬ k < 33 by omega), if_neg (show ¬ k < 33 by omega)]
      refine z_ifc (fun _ => ?_) (fun _ => rfl)
      exact hfa 12 (k - 28) (hit_st (by decide) (by decide)) (by omega) (by omega) (by omega) (by omega)
    have hn : (k - 18) % 5 < n + q := by omega
    by_cases c23 : k < 23
    · have e1 : cR (z_up m2 28 4 0) 12 k = m2 15 (k - 18) := by
        unfold cR
        rw [if_neg (by omega), if_neg (by omega), if_pos c23]
        exact rows 15 _ (by decide)
      rw [e1, b4]
      by_cases cn : n ≤ (k - 18) % 5
      · rw [if_pos ⟨by omega, by omega⟩, if_pos ⟨by omega, by omega, cn⟩, if_pos c23, zu_p (by decide)]
        have := (a4 ((k - 18) % 5 - n) (by rw [a3]; omega)).1
        rw [show n + ((k - 18) % 5 - n) = k - 18 by omega] at this
        exact this
      · rw [if_neg (by omega), if_neg (by omega), C_Ak hi (a_vis_p (b := 18) (p := k - 18) (by omega) (by omega) (by omega) (by omega))]
        unfold cR
        rw [if_neg (by omega), if_neg (by omega), if_pos c23]
        exact o1 15 _ (by decide) (by decide) (by decide) (by decide)
    by_cases c28 : k < 28
    · have e1 : cR (z_up m2 28 4 0) 12 k = m2 16 (k - 23) := by
        unfold cR
        rw [if_neg (by omega), if_neg (by omega), if_neg c23, if_pos c28]
        exact rows 16 _ (by decide)
      rw [e1, b5]
      by_cases cn : n ≤ (k - 18) % 5
      · rw [if_pos ⟨by omega, by omega⟩, if_pos ⟨by omega, by omega, cn⟩, if_neg c23]
      · rw [if_neg (by omega), if_neg (by omega), C_Ak hi (a_vis_p (b := 23) (p := k - 23) (by omega) (by omega) (by omega) (by omega))]
        unfold cR
        rw [if_neg (by omega), if_neg (by omega), if_neg c23, if_pos c28]
        exact o1 16 _ (by decide) (by decide) (by decide) (by decide)
    · have e1 : cR (z_up m2 28 4 0) 12 k = m2 17 (k - 28) := by
        unfold cR
        rw [if_neg (by omega), if_neg (by omega), if_neg c23, if_neg c28, if_pos (by omega)]
        exact rows 17 _ (by decide)
      rw [e1, b6]
      by_cases cn : n ≤ (k - 18) % 5
      · rw [if_pos ⟨by omega, by omega⟩, if_pos ⟨by omega, by omega, cn⟩, if_neg c23]
      · rw [if_neg (by omega), if_neg (by omega), C_Ak hi (a_vis_p (b := 28) (p := k - 28) (by omega) (by omega) (by omega) (by omega))]
        unfold cR
        rw [if_neg (by omega), if_neg (by omega), if_neg c23, if_neg c28, if_pos (by omega)]
        exact o1 17 _ (by decide) (by decide) (by decide) (by decide)
  obtain ⟨⟨q1, q2, q3, q4, q5, q6, q7, q8⟩, qb, qd, qu, qe, qf1, qf2, qf3, qf4⟩ := hi
  refine ⟨⟨?_, ?_, ?_, ?_, ?_, ?_, ?_, ?_⟩, fun j hj => ?_, hA, ⟨?_, zu_self, by decide, fun i hi => absurd hi (Nat.not_lt_zero i)⟩, fun i hi => ⟨?_, fun y => ?_⟩, ?_, qf2, qf3, ?_⟩
  · exact (hfa 3 8 (by decide) (by decide) (by decide) (by decide) (by decide)).trans q1
  · exact (hfa 3 9 (by decide) (by decide) (by decide) (by decide) (by decide)).trans q2
  · exact (rows 3 11 (by decide)).trans b2
  · exact (hfa 3 12 (by decide) (by decide) (by decide) (by decide) (by decide)).trans q4
  · exact (hfa 3 13 (by decide) (by decide) (by decide) (by decide) (by decide)).trans q5
  · rw [hfa 3 10 (by decide) (by decide) (by decide) (by decide) (by decide)]
    exact q6
  · exact (hfa 24 4 (by decide) (by decide) (by decide) (by decide) (by decide)).trans q7
  · exact (hfa 24 5 (by decide) (by decide) (by decide) (by decide) (by decide)).trans q8
  · rw [rows 8 j (by decide), b3]
    unfold u_pD
    by_cases cj : 6 * n ≤ j ∧ j < 6 * (n + q)
    · rw [if_pos cj, if_pos cj, zu_p (by decide)]
      have := (a4 ((j - 6 * n) / 6) (by rw [a3]; omega)).2 ((j - 6 * n) % 6) (Nat.mod_lt _ (by decide))
      rw [show 6 * (n + (j - 6 * n) / 6) + (j - 6 * n) % 6 = j by omega] at this
      exact this
    · rw [if_neg cj, if_neg cj, o1 8 j (by decide) (by decide) (by decide) (by decide)]
      exact qb j hj
  · rw [hfa 28 3 (by decide) (by decide) (by decide) (by decide) (by decide)]
    exact qu.1
  · exact (hfa 31 i (hit_dk (by decide) (by decide)) (by omega) (by omega) (by omega) (by omega)).trans (qe i hi).1
  · have := hkn i hi
    omega
  · exact (hfa 4 3 (by decide) (by decide) (by decide) (by decide) (by decide)).trans qf1
  · rw [show (z_up m2 28 4 0) 5 = m 5 from funext fun k => hfa 5 k hit_5 (by omega) (by omega) (by omega) (by omega)]
    exact qf4
end
end
section
/-! people, of the reference, with the State -/
theorem T_a25 {cnt : Nat} (hc : cnt ≤ 5) (x2 : Int) : ∀ (f x P : Nat) (v4 v5 : z_V) (m : z_M) (r : z_Q), x + f = cnt → P + f ≤ 5 → m 251 3 = (P : Int) → z_R 172 (m, 125, [(2, 251), (0, (cnt : Int)), (0, x2), (0, (x : Int)), v4, v5], []) = some r → r.1 251 25 = 0 := by
  intro f
  induction f with
  | zero =>
    intro x P v4 v5 m r hx hP h hr
    rw [t_people_125, if_pos (by omega)] at hr
    rw [← Option.some.inj hr]
    show z_up (z_up m 251 25 0) 251 52 (z_add (m 251 52) 1) 251 25 = 0
    rw [zu_k (by decide), zu_self]
  | succ f ih =>
    intro x P v4 v5 m r hx hP h hr
    have e7 : z_mul 7 (x : Int) = ((7 * x : Nat) : Int) := by rw [z_mul_eq (by omega) (by omega)]; omega
    have e1 : z_add 18 (m 251 3) = ((18 + P : Nat) : Int) := by rw [h, z_add_eq (by omega) (by omega)]; omega
    have e2 : z_add 23 (m 251 3) = ((23 + P : Nat) : Int) := by rw [h, z_add_eq (by omega) (by omega)]; omega
    have e3 : z_add 28 (m 251 3) = ((28 + P : Nat) : Int) := by rw [h, z_add_eq (by omega) (by omega)]; omega
    rw [t_people_125, if_neg (by omega), e7, e1, e2, e3, if_pos ⟨by omega, by omega⟩, if_pos ⟨by omega, by omega⟩, if_pos ⟨by omega, by omega⟩, if_pos ⟨by omega, by omega⟩, Int.toNat_natCast, Int.toNat_natCast, Int.toNat_natCast, Int.toNat_natCast] at hr
    have o : (z_up (z_up (z_up m 252 (18 + P) (m 257 (7 * x))) 252 (23 + P) 0) 252 (28 + P) 0) 251 3 = (P : Int) := by rw [zu_p (by decide), zu_p (by decide), zu_p (by decide)]; exact h
    generalize z_up (z_up (z_up m 252 (18 + P) (m 257 (7 * x))) 252 (23 + P) 0) 252 (28 + P) 0 = m1 at hr o
    obtain ⟨m2, a1, a2, a3, a4⟩ := t_a184 (x := x) (P := P) (by omega) (by omega) (cnt : Int) x2 6 0 m1 (by decide) o
    exact ih (x + 1) (P + 1) (0, ((7 * x : Nat) : Int)) (0, 6) m2 r (by omega) (by omega) a2 (a1.symm.trans hr)
section
variable {w h n : Nat} {heat price : Int} {D A : Nat → Int} {c : Nat} {U : Nat → Nat → Int} {kn : Nat → Int} {KS : Nat → Nat → Int} {cs : List Int} {m : z_M}
theorem R_pre (hi : R_is w h n heat price D A c U kn KS cs m) (h1 : m 251 8 ≤ 80) : ∃ m0, z_R 172 (m, 0, [(2, 251), (9, 0), (9, 0), (9, 0), (9, 0), (9, 0)], []) = (if m 251 8 = 0 then some (m0, some (0, 0)) else z_R 172 (m0, 37, [(2, 251), (0, 0), (0, 1), (9, 0), (9, 0), (9, 0)], [])) ∧ z_same [(251, 8, 8), (251, 11, 16)] m m0 ∧ m0 251 12 = 254 ∧ m0 251 13 = m 251 8 ∧ m0 251 14 = 76 ∧ m0 251 15 = 0 ∧ m0 251 16 = -1 := by
  rw [t_people_0, t_begin_0]
  have e8 : (z_up m 251 11 0) 251 8 = m 251 8 := zu_k (by decide)
  show ∃ m0, z_R 172 (z_up (z_up (z_up (z_up (z_up (z_up m 251 11 0) 251 12 254) 251 13 (m 251 8)) 251 14 76) 251 15 0) 251 16 (-1), 19, [(2, 251), (9, 0), (9, 0), (9, 0), (9, 0), (9, 0)], []) = _ ∧ _
  rw [t_people_19]
  have j13 : (z_up (z_up (z_up (z_up (z_up (z_up m 251 11 0) 251 12 254) 251 13 (m 251 8)) 251 14 76) 251 15 0) 251 16 (-1)) 251 13 = m 251 8 := by rw [zu_k (by decide), zu_k (by decide), zu_k (by decide), zu_self]
  rw [j13]
  refine ⟨z_up (z_up (z_up (z_up (z_up (z_up (z_up m 251 11 0) 251 12 254) 251 13 (m 251 8)) 251 14 76) 251 15 0) 251 16 (-1)) 251 8 0, ?_, ((((((z_same.rf.upo (by first | exact z_on_h rfl (by omega) (by omega) | exact z_on_t (z_on_h rfl (by omega) (by omega)) | exact z_on_t (z_on_t (z_on_h rfl (by omega) (by omega))) | exact z_on_t (z_on_t (z_on_t (z_on_h rfl (by omega) (by omega)))) | exact z_on_t (z_on_t (z_on_t (z_on_t (z_on_h rfl (by omega) (by omega))))) | exact z_on_t (z_on_t (z_on_t (z_on_t (z_on_t (z_on_h rfl (by omega) (by omega)))))) | exact z_on_t (z_on_t (z_on_t (z_on_t (z_on_t (z_on_t (z_on_h rfl (by omega) (by omega))))))) | exact z_on_t (z_on_t (z_on_t (z_on_t (z_on_t (z_on_t (z_on_t (z_on_h rfl (by omega) (by omega)))))))) | exact z_on_t (z_on_t (z_on_t (z_on_t (z_on_t (z_on_t (z_on_t (z_on_t (z_on_h rfl (by omega) (by omega))))))))) | exact z_on_t (z_on_t (z_on_t (z_on_t (z_on_t (z_on_t (z_on_t (z_on_t (z_on_t (z_on_h rfl (by omega) (by omega)))))))))) | exact z_on_t (z_on_t (z_on_t (z_on_t (z_on_t (z_on_t (z_on_t (z_on_t (z_on_t (z_on_t (z_on_h rfl (by omega) (by omega))))))))))) | exact z_on_t (z_on_t (z_on_t (z_on_t (z_on_t (z_on_t (z_on_t (z_on_t (z_on_t (z_on_t (z_on_t (z_on_h rfl (by omega) (by omega)))))))))))) | exact z_on_t (z_on_t (z_on_t (z_on_t (z_on_t (z_on_t (z_on_t (z_on_t (z_on_t (z_on_t (z_on_t (z_on_t (z_on_h rfl (by omega) (by omega))))))))))))))).upo (by first | exact z_on_h rfl (by omega) (by omega) | exact z_on_t (z_on_h rfl (by omega) (by omega)) | exact z_on_t (z_on_t (z_on_h rfl (by omega) (by omega))) | exact z_on_t (z_on_t (z_on_t (z_on_h rfl (by omega) (by omega)))) | exact z_on_t (z_on_t (z_on_t (z_on_t (z_on_h rfl (by omega) (by omega))))) | exact z_on_t (z_on_t (z_on_t (z_on_t (z_on_t (z_on_h rfl (by omega) (by omega)))))) | exact z_on_t (z_on_t (z_on_t (z_on_t (z_on_t (z_on_t (z_on_h rfl (by omega) (by omega))))))) | exact z_on_t (z_on_t (z_on_t (z_on_t (z_on_t (z_on_t (z_on_t (z_on_h rfl (by omega) (by omega)))))))) | exact z_on_t (z_on_t (z_on_t (z_on_t (z_on_t (z_on_t (z_on_t (z_on_t (z_on_h rfl (by omega) (by omega))))))))) | exact z_on_t (z_on_t (z_on_t (z_on_t (z_on_t (z_on_t (z_on_t (z_on_t (z_on_t (z_on_h rfl (by omega) (by omega)))))))))) | exact z_on_t (z_on_t (z_on_t (z_on_t (z_on_t (z_on_t (z_on_t (z_on_t (z_on_t (z_on_t (z_on_h rfl (by omega) (by omega))))))))))) | exact z_on_t (z_on_t (z_on_t (z_on_t (z_on_t (z_on_t (z_on_t (z_on_t (z_on_t (z_on_t (z_on_t (z_on_h rfl (by omega) (by omega)))))))))))) | exact z_on_t (z_on_t (z_on_t (z_on_t (z_on_t (z_on_t (z_on_t (z_on_t (z_on_t (z_on_t (z_on_t (z_on_t (z_on_h rfl (by omega) (by omega))))))))))))))).upo (by first | exact z_on_h rfl (by omega) (by omega) | exact z_on_t (z_on_h rfl (by omega) (by omega)) | exact z_on_t (z_on_t (z_on_h rfl (by omega) (by omega))) | exact z_on_t (z_on_t (z_on_t (z_on_h rfl (by omega) (by omega)))) | exact z_on_t (z_on_t (z_on_t (z_on_t (z_on_h rfl (by omega) (by omega))))) | exact z_on_t (z_on_t (z_on_t (z_on_t (z_on_t (z_on_h rfl (by omega) (by omega)))))) | exact z_on_t (z_on_t (z_on_t (z_on_t (z_on_t (z_on_t (z_on_h rfl (by omega) (by omega))))))) | exact z_on_t (z_on_t (z_on_t (z_on_t (z_on_t (z_on_t (z_on_t (z_on_h rfl (by omega) (by omega)))))))) | exact z_on_t (z_on_t (z_on_t (z_on_t (z_on_t (z_on_t (z_on_t (z_on_t (z_on_h rfl (by omega) (by omega))))))))) | exact z_on_t (z_on_t (z_on_t (z_on_t (z_on_t (z_on_t (z_on_t (z_on_t (z_on_t (z_on_h rfl (by omega) (by omega)))))))))) | exact z_on_t (z_on_t (z_on_t (z_on_t (z_on_t (z_on_t (z_on_t (z_on_t (z_on_t (z_on_t (z_on_h rfl (by omega) (by omega))))))))))) | exact z_on_t (z_on_t (z_on_t (z_on_t (z_on_t (z_on_t (z_on_t (z_on_t (z_on_t (z_on_t (z_on_t (z_on_h rfl (by omega) (by omega)))))))))))) | exact z_on_t (z_on_t (z_on_t (z_on_t (z_on_t (z_on_t (z_on_t (z_on_t (z_on_t (z_on_t (z_on_t (z_on_t (z_on_h rfl (by omega) (by omega))))))))))))))).upo (by first | exact z_on_h rfl (by omega) (by omega) | exact z_on_t (z_on_h rfl (by omega) (by omega)) | exact z_on_t (z_on_t (z_on_h rfl (by omega) (by omega))) | exact z_on_t (z_on_t (z_on_t (z_on_h rfl (by omega) (by omega)))) | exact z_on_t (z_on_t (z_on_t (z_on_t (z_on_h rfl (by omega) (by omega))))) | exact z_on_t (z_on_t (z_on_t (z_on_t (z_on_t (z_on_h rfl (by omega) (by omega)))))) | exact z_on_t (z_on_t (z_on_t (z_on_t (z_on_t (z_on_t (z_on_h rfl (by omega) (by omega))))))) | exact z_on_t (z_on_t (z_on_t (z_on_t (z_on_t (z_on_t (z_on_t (z_on_h rfl (by omega) (by omega)))))))) | exact z_on_t (z_on_t (z_on_t (z_on_t (z_on_t (z_on_t (z_on_t (z_on_t (z_on_h rfl (by omega) (by omega))))))))) | exact z_on_t (z_on_t (z_on_t (z_on_t (z_on_t (z_on_t (z_on_t (z_on_t (z_on_t (z_on_h rfl (by omega) (by omega)))))))))) | exact z_on_t (z_on_t (z_on_t (z_on_t (z_on_t (z_on_t (z_on_t (z_on_t (z_on_t (z_on_t (z_on_h rfl (by omega) (by omega))))))))))) | exact z_on_t (z_on_t (z_on_t (z_on_t (z_on_t (z_on_t (z_on_t (z_on_t (z_on_t (z_on_t (z_on_t (z_on_h rfl (by omega) (by omega)))))))))))) | exact z_on_t (z_on_t (z_on_t (z_on_t (z_on_t (z_on_t (z_on_t (z_on_t (z_on_t (z_on_t (z_on_t (z_on_t (z_on_h rfl (by omega) (by omega))))))))))))))).upo (by first | exact z_on_h rfl (by omega) (by omega) | exact z_on_t (z_on_h rfl (by omega) (by omega)) | exact z_on_t (z_on_t (z_on_h rfl (by omega) (by omega))) | exact z_on_t (z_on_t (z_on_t (z_on_h rfl (by omega) (by omega)))) | exact z_on_t (z_on_t (z_on_t (z_on_t (z_on_h rfl (by omega) (by omega))))) | exact z_on_t (z_on_t (z_on_t (z_on_t (z_on_t (z_on_h rfl (by omega) (by omega)))))) | exact z_on_t (z_on_t (z_on_t (z_on_t (z_on_t (z_on_t (z_on_h rfl (by omega) (by omega))))))) | exact z_on_t (z_on_t (z_on_t (z_on_t (z_on_t (z_on_t (z_on_t (z_on_h rfl (by omega) (by omega)))))))) | exact z_on_t (z_on_t (z_on_t (z_on_t (z_on_t (z_on_t (z_on_t (z_on_t (z_on_h rfl (by omega) (by omega))))))))) | exact z_on_t (z_on_t (z_on_t (z_on_t (z_on_t (z_on_t (z_on_t (z_on_t (z_on_t (z_on_h rfl (by omega) (by omega)))))))))) | exact z_on_t (z_on_t (z_on_t (z_on_t (z_on_t (z_on_t (z_on_t (z_on_t (z_on_t (z_on_t (z_on_h rfl (by omega) (by omega))))))))))) | exact z_on_t (z_on_t (z_on_t (z_on_t (z_on_t (z_on_t (z_on_t (z_on_t (z_on_t (z_on_t (z_on_t (z_on_h rfl (by omega) (by omega)))))))))))) | exact z_on_t (z_on_t (z_on_t (z_on_t (z_on_t (z_on_t (z_on_t (z_on_t (z_on_t (z_on_t (z_on_t (z_on_t (z_on_h rfl (by omega) (by omega))))))))))))))).upo (by first | exact z_on_h rfl (by omega) (by omega) | exact z_on_t (z_on_h rfl (by omega) (by omega)) | exact z_on_t (z_on_t (z_on_h rfl (by omega) (by omega))) | exact z_on_t (z_on_t (z_on_t (z_on_h rfl (by omega) (by omega)))) | exact z_on_t (z_on_t (z_on_t (z_on_t (z_on_h rfl (by omega) (by omega))))) | exact z_on_t (z_on_t (z_on_t (z_on_t (z_on_t (z_on_h rfl (by omega) (by omega)))))) | exact z_on_t (z_on_t (z_on_t (z_on_t (z_on_t (z_on_t (z_on_h rfl (by omega) (by omega))))))) | exact z_on_t (z_on_t (z_on_t (z_on_t (z_on_t (z_on_t (z_on_t (z_on_h rfl (by omega) (by omega)))))))) | exact z_on_t (z_on_t (z_on_t (z_on_t (z_on_t (z_on_t (z_on_t (z_on_t (z_on_h rfl (by omega) (by omega))))))))) | exact z_on_t (z_on_t (z_on_t (z_on_t (z_on_t (z_on_t (z_on_t (z_on_t (z_on_t (z_on_h rfl (by omega) (by omega)))))))))) | exact z_on_t (z_on_t (z_on_t (z_on_t (z_on_t (z_on_t (z_on_t (z_on_t (z_on_t (z_on_t (z_on_h rfl (by omega) (by omega))))))))))) | exact z_on_t (z_on_t (z_on_t (z_on_t (z_on_t (z_on_t (z_on_t (z_on_t (z_on_t (z_on_t (z_on_t (z_on_h rfl (by omega) (by omega)))))))))))) | exact z_on_t (z_on_t (z_on_t (z_on_t (z_on_t (z_on_t (z_on_t (z_on_t (z_on_t (z_on_t (z_on_t (z_on_t (z_on_h rfl (by omega) (by omega))))))))))))))).upo (by first | exact z_on_h rfl (by omega) (by omega) | exact z_on_t (z_on_h rfl (by omega) (by omega)) | exact z_on_t (z_on_t (z_on_h rfl (by omega) (by omega))) | exact z_on_t (z_on_t (z_on_t (z_on_h rfl (by omega) (by omega)))) | exact z_on_t (z_on_t (z_on_t (z_on_t (z_on_h rfl (by omega) (by omega))))) | exact z_on_t (z_on_t (z_on_t (z_on_t (z_on_t (z_on_h rfl (by omega) (by omega)))))) | exact z_on_t (z_on_t (z_on_t (z_on_t (z_on_t (z_on_t (z_on_h rfl (by omega) (by omega))))))) | exact z_on_t (z_on_t (z_on_t (z_on_t (z_on_t (z_on_t (z_on_t (z_on_h rfl (by omega) (by omega)))))))) | exact z_on_t (z_on_t (z_on_t (z_on_t (z_on_t (z_on_t (z_on_t (z_on_t (z_on_h rfl (by omega) (by omega))))))))) | exact z_on_t (z_on_t (z_on_t (z_on_t (z_on_t (z_on_t (z_on_t (z_on_t (z_on_t (z_on_h rfl (by omega) (by omega)))))))))) | exact z_on_t (z_on_t (z_on_t (z_on_t (z_on_t (z_on_t (z_on_t (z_on_t (z_on_t (z_on_t (z_on_h rfl (by omega) (by omega))))))))))) | exact z_on_t (z_on_t (z_on_t (z_on_t (z_on_t (z_on_t (z_on_t (z_on_t (z_on_t (z_on_t (z_on_t (z_on_h rfl (by omega) (by omega)))))))))))) | exact z_on_t (z_on_t (z_on_t (z_on_t (z_on_t (z_on_t (z_on_t (z_on_t (z_on_t (z_on_t (z_on_t (z_on_t (z_on_h rfl (by omega) (by omega)))))))))))))), ?_, ?_, ?_, ?_, ?_⟩
  · by_cases z : m 251 8 = 0
    · rw [if_pos z]
    · rw [if_neg z]
  · rw [zu_k (by decide), zu_k (by decide), zu_k (by decide), zu_k (by decide), zu_k (by decide), zu_self]
  · rw [zu_k (by decide), zu_k (by decide), zu_k (by decide), zu_k (by decide), zu_self]
  · rw [zu_k (by decide), zu_k (by decide), zu_k (by decide), zu_self]
  · rw [zu_k (by decide), zu_k (by decide), zu_self]
  · rw [zu_k (by decide), zu_self]
theorem R_people_no (hi : R_is w h n heat price D A c U kn KS cs m) (hw : w ≤ 3) (hh : h ≤ 3) (n5 : n ≤ 5) (h0 : 0 ≤ m 251 8) (h1 : m 251 8 ≤ 80) (hr : ∀ k, k < 80 → -128 ≤ m 254 k ∧ m 254 k ≤ 127) {G : Int → Int} (hG : u_nx (u_t m) (m 251 8) 76 = G) {S : Bool × Int × Nat} (hS : u_ls G w h (m 251 8) (5 - n) 0 0 = S) (ok : ¬ (¬ m 251 8 = 0 ∧ S.1 = true)) : ∃ m', z_R 172 (m, 0, [(2, 251), (9, 0), (9, 0), (9, 0), (9, 0), (9, 0)], []) = some (m', some (0, u_pa (m 251 8) S)) ∧ R_is w h n heat price D A c U kn KS cs m' := by
  obtain ⟨m0, p1, p2, g12, g13, g14, g15, g16⟩ := R_pre hi h1
  have h00 : R_is w h n heat price D A c U kn KS cs m0 := R_fr hi fun p k hk => by
    have hk' := hk
    unfold R_hit at hk'
    have hk' := of_decide_eq_true hk'
    exact p2.of (by
      (repeat' (first | exact trivial | refine z_of_c ?_ ?_)) <;> omega)
  unfold u_pa
  by_cases z : m 251 8 = 0
  · rw [if_pos z] at p1
    rw [if_pos z]
    exact ⟨m0, p1, h00⟩
  have k : S.1 = false := by
    cases hq : S.1 with
    | false => rfl
    | true => exact absurd ⟨z, hq⟩ ok
  rw [if_neg z] at p1
  rw [if_neg z, if_neg (by rw [k]; decide), p1]
  have e254 : m0 254 = m 254 := p2.ofr (by (repeat' (first | exact trivial | refine z_ofr_c ?_ ?_)) <;> omega)
  have gq : u_q m0 = G := by
    rw [← hG]
    unfold u_q u_t
    rw [e254, g13, g14]
  obtain ⟨e1, e2, e3, -⟩ := h00.1
  obtain ⟨m1, r1, r2, r3⟩ := t_ls (c := (w : Int)) (s := (h : Int)) (by omega) (by omega) (by omega) (by omega) n (5 - n) 0 m0 (by omega) ⟨g12, by omega, by omega, by omega, fun k hk => by rw [e254]; exact hr k hk⟩ g16 e1 e2 e3
  rw [gq, g13, g15, hS] at r2
  refine ⟨m1, r2 k, R_fr h00 fun p j hk => ?_⟩
  have hk' := hk
  unfold R_hit at hk'
  have hk' := of_decide_eq_true hk'
  exact u_N_off r3 (by omega) (by omega)
theorem R_people (hi : R_is w h n heat price D A c U kn KS cs m) (hw : w ≤ 3) (hh : h ≤ 3) (n5 : n ≤ 5) (hkn : ∀ i, i < 2 → kn i ≤ (n : Int)) (h0 : 0 ≤ m 251 8) (h1 : m 251 8 ≤ 80) (hr : ∀ k, k < 80 → -128 ≤ m 254 k ∧ m 254 k ≤ 127) {G : Int → Int} (hG : u_nx (u_t m) (m 251 8) 76 = G) {b : Bool} {i0 : Int} {q : Nat} (hS : u_ls G w h (m 251 8) (5 - n) 0 0 = (b, i0, q)) (z : ¬ m 251 8 = 0) (k : b = true) (hq : 1 ≤ q) : ∃ m', z_R 172 (m, 0, [(2, 251), (9, 0), (9, 0), (9, 0), (9, 0), (9, 0)], []) = some (m', some (0, (q : Int))) ∧ R_is w h (n + q) heat price (u_pD D G n q) (u_pS A G n q) 0 U kn KS cs m' := by
  obtain ⟨m0, p1, p2, g12, g13, g14, g15, g16⟩ := R_pre hi h1
  have hb := u_ls_b (g := G) (by rw [← hG]; exact u_nx_b h1) (c := (w : Int)) (s := (h : Int)) (n := m 251 8) (5 - n) 0 0 (by decide) (by decide)
  rw [hS] at hb
  have hq5 : q ≤ 0 + (5 - n) := hb.2.2.2
  have h00 : R_is w h n heat price D A c U kn KS cs m0 := R_fr hi fun p k hk => by
    have hk' := hk
    unfold R_hit at hk'
    have hk' := of_decide_eq_true hk'
    exact p2.of (by
      (repeat' (first | exact trivial | refine z_of_c ?_ ?_)) <;> omega)
  have e254 : m0 254 = m 254 := p2.ofr (by (repeat' (first | exact trivial | refine z_ofr_c ?_ ?_)) <;> omega)
  have gq : u_q m0 = G := by
    rw [← hG]
    unfold u_q u_t
    rw [e254, g13, g14]
  obtain ⟨e1, e2, e3, -⟩ := id h00.1
  obtain ⟨m1, r1, r2, r3⟩ := t_ls (c := (w : Int)) (s := (h : Int)) (by omega) (by omega) (by omega) (by omega) n (5 - n) 0 m0 (by omega) ⟨g12, by omega, by omega, by omega, fun k hk => by rw [e254]; exact hr k hk⟩ g16 e1 e2 e3
  rw [gq, g13, g15, hS] at r1
  have h11 : R_is w h n heat price D A c U kn KS cs m1 := R_fr h00 fun p j hk => by
    have hk' := hk
    unfold R_hit at hk'
    have hk' := of_decide_eq_true hk'
    exact u_N_off r3 (by omega) (by omega)
  obtain ⟨q1, q2⟩ := r1 k
  have q1 : z_R 172 (m0, 37, [(2, 251), (0, 0), (0, 1), (9, 0), (9, 0), (9, 0)], []) = z_R 172 (m1, 125, [(2, 251), (0, (q : Int)), (0, 0), (0, 0), (9, 0), (9, 0)], []) := q1
  have q2 : ∀ d : Nat, d < q → m1 257 (7 * d) = u_rm G (10 * (d : Int)) ∧ ∀ k : Nat, k < 6 → m1 257 (7 * d + 1 + k) = u_dg (G (10 * (d : Int) + 3 + (k : Int))) := fun d hd => by
    have := q2 d (by rw [Nat.zero_add]; exact hd)
    rw [Nat.zero_add, show (0 : Int) + 10 * (d : Int) = 10 * (d : Int) by omega] at this
    exact this
  obtain ⟨m2, b1, b2, b52, b3, b4⟩ := t_a125 (cnt := q) (by omega) 0 q 0 n (9, 0) (9, 0) m1 (Nat.zero_add _) (by omega) h11.1.2.2.1
  have b25 := T_a25 (cnt := q) (by omega) 0 q 0 n (9, 0) (9, 0) m1 _ (Nat.zero_add _) (by omega) h11.1.2.2.1 b1
  have b25 : m2 251 25 = 0 := b25
  have b1 : z_R 172 (m1, 125, [(2, 251), (0, (q : Int)), (0, 0), (0, 0), (9, 0), (9, 0)], []) = some (m2, some (0, (q : Int))) := b1
  rw [p1, if_neg z, q1, b1]
  refine ⟨m2, rfl, ?_⟩
  obtain ⟨⟨s1, s2, s3, s4, s5, s6⟩, sb, sd, su, se, sf⟩ := h11
  have fr : ∀ p' k', ¬ (p' = 251 ∧ (k' = 3 ∨ k' = 25 ∨ k' = 52)) → ¬ p' = 253 → ¬ p' = 252 → m2 p' k' = m1 p' k' := fun p' k' n1 n2 n3 => b4 p' k' n1 (by omega) (by omega) (by omega) (by omega)
  refine ⟨⟨?_, ?_, b2, ?_, ?_, ?_⟩, fun j hj => ?_, ?_, ⟨b25, by decide, fun i hi => absurd hi (Nat.not_lt_zero i)⟩, fun i hi => ?_, ?_⟩
  · exact (fr 251 1 (by decide) (by decide) (by decide)).trans s1
  · exact (fr 251 2 (by decide) (by decide) (by decide)).trans s2
  · exact (fr 251 5 (by decide) (by decide) (by decide)).trans s4
  · exact (fr 251 6 (by decide) (by decide) (by decide)).trans s5
  · exact (fr 251 23 (by decide) (by decide) (by decide)).trans s6
  · unfold u_pD
    by_cases cj : 6 * n ≤ j ∧ j < 6 * (n + q)
    · rw [if_pos cj]
      have e := (b3 ((j - 6 * n) / 6) (by omega)).1 ((j - 6 * n) % 6) (Nat.mod_lt _ (by decide))
      rw [show 6 * (n + (j - 6 * n) / 6) + (j - 6 * n) % 6 = j by omega, Nat.zero_add, (q2 _ (by omega)).2 _ (Nat.mod_lt _ (by decide))] at e
      exact e
    · rw [if_neg cj, b4 253 j (by omega) (by omega) (by omega) (by omega) (by omega)]
      exact sb j hj
  · unfold rS u_pS
    refine a_msk_cg fun k hv => ?_
    have hv' := a_vis_is hv
    by_cases c37 : k < 37
    · rw [rR_at c37]
      by_cases cn : 18 ≤ k ∧ k < 33 ∧ n ≤ (k - 18) % 5
      · rw [if_pos cn]
        obtain ⟨d, hd⟩ : ∃ d, (k - 18) % 5 = n + d := ⟨(k - 18) % 5 - n, by omega⟩
        have hdq : d < q := by omega
        obtain ⟨-, x1, x2, x3⟩ := b3 d hdq
        by_cases c23 : k < 23
        · rw [if_pos c23, hd, show n + d - n = d by omega]
          rw [show 18 + (n + d) = k by omega, Nat.zero_add, (q2 d hdq).1] at x1
          exact x1
        · rw [if_neg c23]
          by_cases c28 : k < 28
          · rw [show 23 + (n + d) = k by omega] at x2
            exact x2
          · rw [show 28 + (n + d) = k by omega] at x3
            exact x3
      · rw [if_neg cn, b4 252 k (by omega) (by omega) (by omega) (by omega) (by omega), ← sd]
        have hvn : a_vis (n : Int) k = true := by
          by_cases c18 : k < 18
          · exact a_vis_lo c18
          by_cases c33 : 33 ≤ k
          · exact a_vis_hi c33
          unfold a_vis
          rw [decide_eq_true (show (((k - 18) % 5 : Nat) : Int) < (n : Int) by omega)]
          simp
        exact (rS_at c37 hvn).symm
    · have e0 : rR m2 252 k = 0 := if_neg c37
      rw [e0, if_neg (by omega), ← sd]
      unfold rS a_msk
      by_cases hvn : a_vis (n : Int) k = true
      · rw [if_pos hvn]
        exact (if_neg c37).symm
      · rw [if_neg hvn]
  · obtain ⟨k1, k2⟩ := se i hi
    have hk := hkn i hi
    refine ⟨?_, fun y => absurd y (by omega)⟩
    rw [fr 276 i (by omega) (by decide) (by decide), fr 277 i (by omega) (by decide) (by decide), b52]
    rcases k1 with k1 | ⟨y1, d, y2, y3, y4, y5, y6, y7⟩
    · exact Or.inl k1
    · refine Or.inr ⟨y1, d + 1, y2, by omega, fun y => by omega, ?_, y6, y7⟩
      rw [y5]
      unfold z_add
      rw [Int32.ofInt_toInt, ← Int32.ofInt_add, show m1 277 i + (d : Int) + 1 = m1 277 i + ((d + 1 : Nat) : Int) by omega]
  · unfold r_ru
    rw [fr 251 20 (by decide) (by decide) (by decide), show m2 258 = m1 258 from funext fun k => fr 258 k (by omega) (by decide) (by decide)]
    exact sf
end
end
section
/-! people: the case -/
theorem u_ls_1c {g : Int → Int} {c s n : Int} : ∀ (f : Nat) (i : Int) (j : Nat), (u_ls g c s n f i j).1 = true → j + 1 ≤ (u_ls g c s n f i j).2.2 := by
  intro f
  induction f with
  | zero => intro i j h; cases h
  | succ f ih =>
    intro i j h
    unfold u_ls at h ⊢
    by_cases c1 : (u_line g c s i).1 = false
    · rw [if_pos c1] at h; cases h
    rw [if_neg c1] at h ⊢
    by_cases c2 : n ≤ (u_line g c s i).2
    · rw [if_pos c2]; exact Nat.le_refl _
    rw [if_neg c2] at h ⊢
    by_cases c3 : g (u_line g c s i).2 = 59
    · rw [if_pos c3] at h ⊢
      have := ih _ _ h
      omega
    · rw [if_neg c3] at h; cases h
theorem u_gr_Rc {m : z_M} (h : u_R m) {s : Int} : u_gr (u_nx (m 2) (m 1 1) s) := fun i => by
  unfold u_nx
  by_cases c : 0 ≤ i ∧ i < m 1 1 ∧ i < s
  · rw [if_pos c, h.2 _ (by omega)]
    have e : z_and (m 254 i.toNat) 255 = (Int32.ofInt (m 254 i.toNat)).toInt % 256 := i32_and255 _
    omega
  · rw [if_neg c]; omega
theorem R_kn {w h n : Nat} {heat price : Int} {D A : Nat → Int} {c : Nat} {U : Nat → Nat → Int} {kn : Nat → Int} {KS : Nat → Nat → Int} {cs : List Int} {m : z_M} (hi : R_is w h n heat price D A c U kn KS cs m) : ∀ i, i < 2 → kn i ≤ (n : Int) := fun i hi' => by
  rcases (hi.2.2.2.2.1 i hi').1 with k | ⟨-, d, k1, k2, -⟩
  · omega
  · omega
/-- a line that is read names a ROOM that there is -/
theorem u_line_rm {g : Int → Int} {w h : Nat} (hw : w ≤ 3) (hh : h ≤ 3) {i : Int} (hl : (u_line g (w : Int) (h : Int) i).1 = true) : ¬ u_hs (w : Int) (h : Int) (u_rm g i) = 0 := by
  unfold u_line at hl
  by_cases c1 : 0 ≤ g i - 97 ∧ g i - 97 < (w : Int)
  · rw [if_neg (not_not_intro c1)] at hl
    by_cases c2 : 0 ≤ u_dg (g (i + 1)) - 1 ∧ u_dg (g (i + 1)) - 1 < (h : Int)
    · obtain ⟨x, hx⟩ : ∃ x : Nat, g i - 97 = (x : Int) := ⟨(g i - 97).toNat, by omega⟩
      obtain ⟨y, hy⟩ : ∃ y : Nat, u_dg (g (i + 1)) - 1 = (y : Int) := ⟨(u_dg (g (i + 1)) - 1).toNat, by omega⟩
      have e : u_rm g i = ((3 * y + x : Nat) : Int) := by
        unfold u_rm
        rw [hx, hy]
        omega
      rw [e, u_hs_eq hw hh (by omega), if_pos (by omega)]
      decide
    · rw [if_pos c2] at hl
      cases hl
  · rw [if_pos c1] at hl
    cases hl
theorem u_ls_rm {g : Int → Int} (hg : u_gb g) {w h : Nat} (hw : w ≤ 3) (hh : h ≤ 3) {n : Int} (hn : n ≤ 80) : ∀ (f : Nat) (i : Int) (j : Nat), 0 ≤ i → i ≤ 80 → (u_ls g (w : Int) (h : Int) n f i j).1 = true → ∀ d : Nat, j + d < (u_ls g (w : Int) (h : Int) n f i j).2.2 → ¬ u_hs (w : Int) (h : Int) (u_rm g (i + 10 * (d : Int))) = 0 := by
  intro f
  induction f with
  | zero => intro i j h0 h1 hl; cases hl
  | succ f ih =>
    intro i j h0 h1 hl d hd
    unfold u_ls at hl hd
    by_cases c1 : (u_line g (w : Int) (h : Int) i).1 = false
    · rw [if_pos c1] at hl
      cases hl
    rw [if_neg c1] at hl hd
    have c1' : (u_line g (w : Int) (h : Int) i).1 = true := by
      cases e : (u_line g (w : Int) (h : Int) i).1 with
      | true => rfl
      | false => exact absurd e c1
    have e9 := (u_line_b hg (c := (w : Int)) (s := (h : Int)) h0 h1).2.2 c1'
    have r0 : ¬ u_hs (w : Int) (h : Int) (u_rm g i) = 0 := u_line_rm hw hh c1'
    have go : d = 0 → ¬ u_hs (w : Int) (h : Int) (u_rm g (i + 10 * (d : Int))) = 0 := fun z => by
      rw [z, show i + 10 * ((0 : Nat) : Int) = i by omega]
      exact r0
    rw [e9] at hl hd
    by_cases c2 : n ≤ i + 9
    · rw [if_pos c2] at hd
      have hd : j + d < j + 1 := hd
      exact go (by omega)
    rw [if_neg c2] at hl hd
    by_cases c3 : g (i + 9) = 59
    · rw [if_pos c3] at hl hd
      cases d with
      | zero => exact go rfl
      | succ d =>
        have := ih (i + 9 + 1) (j + 1) (by omega) (by omega) hl d (by omega)
        rw [show i + 9 + 1 + 10 * (d : Int) = i + 10 * ((d + 1 : Nat) : Int) by omega] at this
        exact this
    · rw [if_neg c3] at hl
      cases hl
theorem wi_people {w h n q : Nat} {A : Nat → Int} {G : Int → Int} (n5 : n + q ≤ 5) (hi : wi w h n A) (hr : ∀ d : Nat, d < q → ¬ u_hs (w : Int) (h : Int) (u_rm G (10 * (d : Int))) = 0) : wi w h (n + q) (u_pS A G n q) := by
  refine ⟨fun p hp => ?_, fun k hk hz => ?_, ?_⟩
  · have e5 : (p + 18 - 18) % 5 = p := by omega
    unfold u_pS
    rw [a_msk_at (a_vis_p (b := 18) (p := p) (by omega) (by omega) (by omega) (by omega))]
    show (if 18 ≤ p + 18 ∧ p + 18 < 33 ∧ n ≤ (p + 18 - 18) % 5 then (if p + 18 < 23 then u_rm G (10 * (((p + 18 - 18) % 5 - n : Nat) : Int)) else 0) else A (p + 18)) = -1 ∨ ¬ u_hs (w : Int) (h : Int) (if 18 ≤ p + 18 ∧ p + 18 < 33 ∧ n ≤ (p + 18 - 18) % 5 then (if p + 18 < 23 then u_rm G (10 * (((p + 18 - 18) % 5 - n : Nat) : Int)) else 0) else A (p + 18)) = 0
    rw [e5]
    by_cases c : n ≤ p
    · rw [if_pos (show 18 ≤ p + 18 ∧ p + 18 < 33 ∧ n ≤ p from ⟨by omega, by omega, c⟩), if_pos (show p + 18 < 23 by omega)]
      exact Or.inr (hr (p - n) (by omega))
    · rw [if_neg (show ¬ (18 ≤ p + 18 ∧ p + 18 < 33 ∧ n ≤ p) by omega)]
      exact hi.1 p (by omega)
  · have h2 := hi.2.1 k hk hz
    unfold u_pS
    rw [a_msk_at (a_vis_lo (by omega)), a_msk_at (a_vis_lo (by omega))]
    refine ⟨?_, ?_⟩
    · show (if 18 ≤ k ∧ k < 33 ∧ n ≤ (k - 18) % 5 then _ else A k) = 0
      rw [if_neg (by omega)]
      exact h2.1
    · show (if 18 ≤ k + 9 ∧ k + 9 < 33 ∧ n ≤ (k + 9 - 18) % 5 then _ else A (k + 9)) = 0
      rw [if_neg (by omega)]
      exact h2.2
  · have e : u_pS A G n q 34 = A 34 := by
      unfold u_pS
      rw [a_msk_at (a_vis_hi (by decide))]
      show (if 18 ≤ 34 ∧ 34 < 33 ∧ n ≤ (34 - 18) % 5 then _ else A 34) = A 34
      rw [if_neg (by omega)]
    rw [e]
    exact hi.2.2
theorem core_people : l_rel2 Rel_C (276, 41, 35, 0, false, 281, 44, 172) := by
  intro M1 M2 M3 σ σ1 σ2 as v1 v2 C1 C2 ρ1 ρ2 ha hR hh hM1 hC1 hp1 hE1 hC2 hp2 hE2
  obtain rfl := as_nil ha
  have hE1 : z_R 35 (z_m σ, 0, [(2, 0), (9, 0)], []) = some (z_m σ1, some (0, v1.toInt)) := z_R_iff.mpr hE1
  have hE2 : z_R 172 (z_m σ1, 0, [(2, 251), (9, 0), (9, 0), (9, 0), (9, 0), (9, 0)], []) = some (z_m σ2, some (0, v2.toInt)) := z_R_iff.mpr hE2
  have hz : Rel_T σ2 := u_R_zero ((md_off_ok (y := 172) (by decide +kernel) hC2 hp2).trans (md_zero_ok (y := 35) (by decide +kernel) hC1 hp1)) (md_zero_ok (y := 172) (by decide +kernel) hC2 hp2)
  have hT : u_R (z_m σ) := hR.1
  obtain ⟨r1, r2⟩ := z_rng hh (p := 1) (k := 1) (lo := 0) (hi := 80) (by decide) (by decide +kernel) (by decide +kernel)
  have rb : ∀ k, k < 80 → -128 ≤ z_m σ 254 k ∧ z_m σ 254 k ≤ 127 := fun k hk => z_rng hh (p := 254) (k := k) (lo := -128) (hi := 127) (by decide) (by rw [show h_ln 254 = 80 by decide +kernel]; exact hk) (h_ty_254 k)
  have o8 : z_m σ1 251 8 = z_m σ 251 8 := md_off_ok (y := 35) (by decide +kernel) hC1 hp1
  have o4 : z_m σ1 254 = z_m σ 254 := md_offr_ok (y := 35) (by decide +kernel) hC1 hp1
  have e8 : z_m σ1 251 8 = z_m σ 1 1 := o8.trans hT.1.symm
  have eG : u_nx (u_t (z_m σ1)) (z_m σ1 251 8) 76 = u_nx (z_m σ 2) (z_m σ 1 1) 76 := by
    rw [u_nx_R hT]
    unfold u_t
    rw [o8, o4]
  obtain ⟨w, h, n, heat, price, D, A, c, U, kn, KS, cs, cC, cR, cW⟩ := hR.2
  obtain ⟨⟨w3, h3, n5⟩, -⟩ := core_b hh hM1 cR
  have f1 := R_off2_ok (y := 35) (by decide +kernel) hC1 hp1
  have f2 := C_off_ok (y := 172) (by decide +kernel) hC2 hp2
  have cR1 := R_fr cR f1
  have hkn := R_kn cR
  have hl := u_ls_1c (g := u_nx (z_m σ 2) (z_m σ 1 1) 76) (c := (w : Int)) (s := (h : Int)) (n := z_m σ 1 1) (5 - n) 0 0
  have rb1 : ∀ k, k < 80 → -128 ≤ z_m σ1 254 k ∧ z_m σ1 254 k ≤ 127 := fun k hk => by rw [o4]; exact rb k hk
  rcases hS : u_ls (u_nx (z_m σ 2) (z_m σ 1 1) 76) (w : Int) (h : Int) (z_m σ 1 1) (5 - n) 0 0 with ⟨b, i0, q⟩
  rw [hS] at hl
  by_cases ok : ¬ z_m σ 1 1 = 0 ∧ b = true
  · have hq : 1 ≤ q := hl ok.2
    have hrm : ∀ {d : Nat}, d < q → ¬ u_hs (w : Int) (h : Int) (u_rm (u_nx (z_m σ 2) (z_m σ 1 1) 76) (0 + 10 * (d : Int))) = 0 := fun {d} hd => by
      have := u_ls_rm (u_nx_b r2) w3 h3 r2 (5 - n) 0 0 (by decide) (by decide) (by rw [hS]; exact ok.2) d (by rw [hS]; show 0 + d < q; omega)
      exact this
    have hq5 : q ≤ 0 + (5 - n) := by
      have := (u_ls_b (g := u_nx (z_m σ 2) (z_m σ 1 1) 76) (u_nx_b r2) (c := (w : Int)) (s := (h : Int)) (n := z_m σ 1 1) (5 - n) 0 0 (by decide) (by decide)).2.2.2
      rw [hS] at this
      exact this
    have z := core_do cR1 (fun q => C_fr q f2) (C_people cC w3 h3 n5 hkn r1 r2 (u_gr_Rc hT) rfl hS ok.1 ok.2 hq) (fun x => R_people x w3 h3 n5 hkn (by rw [e8]; exact r1) (by rw [e8]; exact r2) rb1 eG (by rw [e8]; exact hS) (by rw [e8]; exact ok.1) ok.2 hq) hE1 hE2
    exact ⟨⟨hz, Core_mk z.1.1 z.1.2 (w_W_0 cW.1 (wi_people (by omega) cW.2.1 (fun d hd => by
      have := hrm hd
      rw [Int.zero_add] at this
      exact this)) (fun i hi => by have := hkn i hi; omega))⟩, fun _ => z.2⟩
  · have z := core_do cR1 (fun q => C_fr q f2) (C_people_no cC w3 h3 n5 r1 r2 (u_gr_Rc hT) rfl hS ok) (fun x => by
      have y := R_people_no (S := (b, i0, q)) x w3 h3 n5 (by rw [e8]; exact r1) (by rw [e8]; exact r2) rb1 eG (by rw [e8]; exact hS) (by rw [e8]; exact ok)
      rw [e8] at y
      exact y) hE1 hE2
    exact ⟨⟨hz, Core_mk z.1.1 z.1.2 cW⟩, fun _ => z.2⟩
end
section
/-! STRETCHES of keep and again, with bounds done -/
theorem k_keep_0  (m : z_M) (a : Int) : z_R 150 (m, 0, [(2, 0), (0, a)], []) = (z_R 151 (m, 0, [(2, 28), (0, a), (2, 12), (0, m 3 11)], [])).bind fun qq => z_R 150 (qq.1, 19, [(2, 0), (0, a)], qq.2.toList ++ []) :=
  have hK : kt_at 150 = kt_150 := rfl
  (z_R_run hK (n := 2) (g' := (m, 4, [(2, 0), (0, a)], [(2, 28)])) rfl).trans ((z_R_run hK (n := 3) (g' := (m, 9, [(2, 0), (0, a)], [(2, 12), (0, a), (2, 28)])) rfl).trans ((z_R_run hK (n := 2) (g' := (m, 13, [(2, 0), (0, a)], [(2, 3), (2, 12), (0, a), (2, 28)])) rfl).trans ((z_R_run hK (n := 1) (g' := (m, 16, [(2, 0), (0, a)], [(0, m 3 11), (2, 12), (0, a), (2, 28)])) rfl).trans (z_R_call hK rfl rfl rfl rfl rfl))))
theorem k_keep_19  (m : z_M) (x1 : Int) (u : Int) : z_R 150 (m, 19, [(2, 0), (0, x1)], [(0, u)]) = some (m, some (0, u)) :=
  have hK : kt_at 150 = kt_150 := rfl
  z_R_ret hK rfl rfl rfl
theorem k_ka_0  (m : z_M) (a : Int) (d : Int) : z_R 151 (m, 0, [(2, 28), (0, a), (2, 12), (0, d)], []) = if a < 0 then some (m, some (0, 0)) else if a < 2 then (z_R 61 (m, 0, [(2, (z_ga m 30 (a).toNat).2), (2, 12)], [])).bind fun qq => z_R 151 (qq.1, 21, [(2, 28), (0, a), (2, 12), (0, d)], qq.2.toList ++ []) else some (m, some (0, 0)) :=
  have hK : kt_at 151 = kt_151 := rfl
  (z_R_run hK (n := 1) (g' := (m, 1, [(2, 28), (0, a), (2, 12), (0, d)], [(0, a)])) rfl).trans (z_R_ifd hK (c := a < 0) (p1 := 9) (p2 := 4) rfl rfl rfl (fun h1 => (z_R_run hK (n := 1) (g' := (m, 10, [(2, 28), (0, a), (2, 12), (0, d)], [(0, 0)])) rfl).trans (z_R_ret hK rfl rfl rfl)) (fun h1 => (z_R_run hK (n := 2) (g' := (m, 6, [(2, 28), (0, a), (2, 12), (0, d)], [(0, 2), (0, a)])) rfl).trans (z_R_ifd hK (c := a < 2) (p1 := 11) (p2 := 9) rfl rfl rfl (fun h2 => (z_R_run hK (n := 2) (g' := (m, 15, [(2, 28), (0, a), (2, 12), (0, d)], [(2, 30)])) rfl).trans ((z_R_run hK (n := 1) (g' := (m, 16, [(2, 28), (0, a), (2, 12), (0, d)], [(0, a), (2, 30)])) rfl).trans (z_R_ixG hK (n := 2) (Q := 30) rfl rfl rfl (show 0 ≤ a ∧ a < 2 by omega) ((z_R_run hK (n := 1) (g' := (m, 18, [(2, 28), (0, a), (2, 12), (0, d)], [(2, 12), (2, (z_ga m 30 (a).toNat).2)])) rfl).trans (z_R_call hK rfl rfl rfl rfl rfl))))) (fun h2 => (z_R_run hK (n := 1) (g' := (m, 10, [(2, 28), (0, a), (2, 12), (0, d)], [(0, 0)])) rfl).trans (z_R_ret hK rfl rfl rfl)))))
theorem k_ka_21  (m : z_M) (x1 : Int) (x3 : Int) : z_R 151 (m, 21, [(2, 28), (0, x1), (2, 12), (0, x3)], []) = if 0 ≤ x1 ∧ x1 < 2 then some (z_up m 31 (x1).toNat x3, some (0, 1)) else none :=
  have hK : kt_at 151 = kt_151 := rfl
  (z_R_run hK (n := 2) (g' := (m, 25, [(2, 28), (0, x1), (2, 12), (0, x3)], [(2, 31)])) rfl).trans ((z_R_run hK (n := 2) (g' := (m, 27, [(2, 28), (0, x1), (2, 12), (0, x3)], [(0, x3), (0, x1), (2, 31)])) rfl).trans (z_R_ixD hK (n := 2) (g' := (z_up m 31 (x1).toNat x3, 28, [(2, 28), (0, x1), (2, 12), (0, x3)], [])) rfl rfl rfl (fun h1 => (z_R_run hK (n := 1) (g' := (z_up m 31 (x1).toNat x3, 29, [(2, 28), (0, x1), (2, 12), (0, x3)], [(0, 1)])) rfl).trans (z_R_ret hK rfl rfl rfl))))
theorem k_again_0  (m : z_M) (a : Int) : z_R 152 (m, 0, [(2, 0), (0, a)], []) = (z_R 153 (m, 0, [(2, 28), (0, a), (2, 12), (0, m 3 11)], [])).bind fun qq => z_R 152 (qq.1, 19, [(2, 0), (0, a)], qq.2.toList ++ []) :=
  have hK : kt_at 152 = kt_152 := rfl
  (z_R_run hK (n := 2) (g' := (m, 4, [(2, 0), (0, a)], [(2, 28)])) rfl).trans ((z_R_run hK (n := 3) (g' := (m, 9, [(2, 0), (0, a)], [(2, 12), (0, a), (2, 28)])) rfl).trans ((z_R_run hK (n := 2) (g' := (m, 13, [(2, 0), (0, a)], [(2, 3), (2, 12), (0, a), (2, 28)])) rfl).trans ((z_R_run hK (n := 1) (g' := (m, 16, [(2, 0), (0, a)], [(0, m 3 11), (2, 12), (0, a), (2, 28)])) rfl).trans (z_R_call hK rfl rfl rfl rfl rfl))))
theorem k_again_19  (m : z_M) (x1 : Int) (u : Int) : z_R 152 (m, 19, [(2, 0), (0, x1)], [(0, u)]) = some (m, some (0, u)) :=
  have hK : kt_at 152 = kt_152 := rfl
  z_R_ret hK rfl rfl rfl
theorem k_bb_0  (m : z_M) (a : Int) (d : Int) : z_R 153 (m, 0, [(2, 28), (0, a), (2, 12), (0, d)], []) = if a < 0 then some (m, some (0, 0)) else if 2 ≤ a then some (m, some (0, 0)) else if m 31 (a).toNat = d then (z_R 61 (m, 0, [(2, 12), (2, (z_ga m 30 (a).toNat).2)], [])).bind fun qq => z_R 153 (qq.1, 31, [(2, 28), (0, a), (2, 12), (0, d)], qq.2.toList ++ []) else some (m, some (0, 0)) :=
  have hK : kt_at 153 = kt_153 := rfl
  (z_R_run hK (n := 1) (g' := (m, 1, [(2, 28), (0, a), (2, 12), (0, d)], [(0, a)])) rfl).trans (z_R_ifd hK (c := a < 0) (p1 := 19) (p2 := 4) rfl rfl rfl (fun h1 => (z_R_run hK (n := 1) (g' := (m, 20, [(2, 28), (0, a), (2, 12), (0, d)], [(0, 0)])) rfl).trans (z_R_ret hK rfl rfl rfl)) (fun h1 => (z_R_run hK (n := 2) (g' := (m, 6, [(2, 28), (0, a), (2, 12), (0, d)], [(0, 2), (0, a)])) rfl).trans (z_R_ifd hK (c := 2 ≤ a) (p1 := 19) (p2 := 9) rfl rfl rfl (fun h2 => (z_R_run hK (n := 1) (g' := (m, 20, [(2, 28), (0, a), (2, 12), (0, d)], [(0, 0)])) rfl).trans (z_R_ret hK rfl rfl rfl)) (fun h2 => (z_R_run hK (n := 2) (g' := (m, 13, [(2, 28), (0, a), (2, 12), (0, d)], [(2, 31)])) rfl).trans ((z_R_run hK (n := 1) (g' := (m, 14, [(2, 28), (0, a), (2, 12), (0, d)], [(0, a), (2, 31)])) rfl).trans (z_R_ixT hK (n := 2) (g' := (m, 15, [(2, 28), (0, a), (2, 12), (0, d)], [(0, m 31 (a).toNat)])) rfl rfl rfl  (show 0 ≤ a ∧ a < 2 by omega) ((z_R_run hK (n := 1) (g' := (m, 16, [(2, 28), (0, a), (2, 12), (0, d)], [(0, d), (0, m 31 (a).toNat)])) rfl).trans (z_R_ifd hK (c := m 31 (a).toNat = d) (p1 := 21) (p2 := 19) rfl rfl rfl (fun h3 => (z_R_run hK (n := 3) (g' := (m, 26, [(2, 28), (0, a), (2, 12), (0, d)], [(2, 30), (2, 12)])) rfl).trans ((z_R_run hK (n := 1) (g' := (m, 27, [(2, 28), (0, a), (2, 12), (0, d)], [(0, a), (2, 30), (2, 12)])) rfl).trans (z_R_ixG hK (n := 2) (Q := 30) rfl rfl rfl (show 0 ≤ a ∧ a < 2 by omega) (z_R_call hK rfl rfl rfl rfl rfl)))) (fun h3 => (z_R_run hK (n := 1) (g' := (m, 20, [(2, 28), (0, a), (2, 12), (0, d)], [(0, 0)])) rfl).trans (z_R_ret hK rfl rfl rfl))))))))))
theorem k_bb_31  (m : z_M) (x1 : Int) (x3 : Int) : z_R 153 (m, 31, [(2, 28), (0, x1), (2, 12), (0, x3)], []) = (z_R 33 (m, 0, [(2, 28)], [])).bind fun qq => z_R 153 (qq.1, 35, [(2, 28), (0, x1), (2, 12), (0, x3)], qq.2.toList ++ []) :=
  have hK : kt_at 153 = kt_153 := rfl
  (z_R_run hK (n := 1) (g' := (m, 32, [(2, 28), (0, x1), (2, 12), (0, x3)], [(2, 28)])) rfl).trans (z_R_call hK rfl rfl rfl rfl rfl)
theorem k_bb_35  (m : z_M) (x1 : Int) (x3 : Int) : z_R 153 (m, 35, [(2, 28), (0, x1), (2, 12), (0, x3)], []) = some (m, some (0, 1)) :=
  have hK : kt_at 153 = kt_153 := rfl
  (z_R_run hK (n := 1) (g' := (m, 36, [(2, 28), (0, x1), (2, 12), (0, x3)], [(0, 1)])) rfl).trans (z_R_ret hK rfl rfl rfl)
theorem k_lay_0  (m : z_M) (k : Int) (h_k : 0 ≤ k ∧ k ≤ 37) : z_R 198 (m, 0, [(2, 252), (2, 275), (0, k), (9, 0)], []) = z_R 198 (m, 2, [(2, 252), (2, 275), (0, k), (0, 0)], []) :=
  have hK : kt_at 198 = kt_198 := rfl
  (z_R_run hK (n := 2) (g' := (m, 2, [(2, 252), (2, 275), (0, k), (0, 0)], [])) rfl).trans (rfl)
theorem k_lay_2  (m : z_M) (x2 : Int) (x3 : Int) (h_x2 : 0 ≤ x2 ∧ x2 ≤ 37) (h_x3 : 0 ≤ x3 ∧ x3 ≤ 37) : z_R 198 (m, 2, [(2, 252), (2, 275), (0, x2), (0, x3)], []) = if 37 ≤ x3 then some (m, none) else z_R 198 (z_up m 275 (x2 + x3).toNat (m 252 (x3).toNat), 2, [(2, 252), (2, 275), (0, x2), (0, x3 + 1)], []) :=
  have hK : kt_at 198 = kt_198 := rfl
  (z_R_run hK (n := 2) (g' := (m, 5, [(2, 252), (2, 275), (0, x2), (0, x3)], [(0, 37), (0, x3)])) rfl).trans (z_R_ifd hK (c := 37 ≤ x3) (p1 := 22) (p2 := 8) rfl rfl rfl (fun h1 => z_R_ret hK rfl rfl rfl) (fun h1 => (z_R_run hK (n := 4) (g' := (m, 12, [(2, 252), (2, 275), (0, x2), (0, x3)], [(0, z_add x2 x3), (2, 275)])) rfl).trans ((congrArg (fun vv => z_R 198 (m, 12, [(2, 252), (2, 275), (0, x2), (0, x3)], [(0, vv), (2, 275)])) (z_add_eq (by omega) (by omega))).trans ((z_R_run hK (n := 2) (g' := (m, 14, [(2, 252), (2, 275), (0, x2), (0, x3)], [(0, x3), (2, 252), (0, x2 + x3), (2, 275)])) rfl).trans (z_R_ixT hK (n := 37) (g' := (m, 15, [(2, 252), (2, 275), (0, x2), (0, x3)], [(0, m 252 (x3).toNat), (0, x2 + x3), (2, 275)])) rfl rfl rfl  (show 0 ≤ x3 ∧ x3 < 37 by omega) (z_R_ixT hK (n := 74) (g' := (z_up m 275 (x2 + x3).toNat (m 252 (x3).toNat), 16, [(2, 252), (2, 275), (0, x2), (0, x3)], [])) rfl rfl rfl (show 0 ≤ x2 + x3 ∧ x2 + x3 < 74 by omega) ((z_R_run hK (n := 1) (g' := (z_up m 275 (x2 + x3).toNat (m 252 (x3).toNat), 19, [(2, 252), (2, 275), (0, x2), (0, z_add x3 1)], [])) rfl).trans ((congrArg (fun vv => z_R 198 (z_up m 275 (x2 + x3).toNat (m 252 (x3).toNat), 19, [(2, 252), (2, 275), (0, x2), (0, vv)], [])) (z_add_eq (by omega) (by omega))).trans ((z_R_run hK (n := 1) (g' := (z_up m 275 (x2 + x3).toNat (m 252 (x3).toNat), 2, [(2, 252), (2, 275), (0, x2), (0, x3 + 1)], [])) rfl).trans (rfl))))))))))
theorem k_tk_0  (m : z_M) (a : Int) : z_R 258 (m, 0, [(2, 251), (0, a)], []) = if 0 ≤ a ∧ a ≤ 1 then (z_R 198 (z_up (z_up (z_up m 251 11 0) 276 (a).toNat 1) 277 (a).toNat (m 251 52), 0, [(2, 252), (2, 275), (0, 37 * a), (9, 0)], [])).bind fun qq => z_R 258 (qq.1, 48, [(2, 251), (0, a)], qq.2.toList ++ []) else some (z_up m 251 11 0, some (0, 0)) :=
  have hK : kt_at 258 = kt_258 := rfl
  (z_R_run hK (n := 6) (g' := (z_up m 251 11 0, 8, [(2, 251), (0, a)], [(0, 1), (0, 0), (0, a)])) rfl).trans (z_R_cif hK rfl rfl rfl rfl rfl (t_ifin _ _ _ _) (fun h1 => (z_R_run hK (n := 3) (g' := (z_up m 251 11 0, 20, [(2, 251), (0, a)], [(2, 276)])) rfl).trans ((z_R_run hK (n := 2) (g' := (z_up m 251 11 0, 22, [(2, 251), (0, a)], [(0, 1), (0, a), (2, 276)])) rfl).trans (z_R_ixT hK (n := 2) (g' := (z_up (z_up m 251 11 0) 276 (a).toNat (z_bo 1), 23, [(2, 251), (0, a)], [])) rfl rfl rfl (show 0 ≤ a ∧ a < 2 by omega) ((congrArg (fun vv => z_R 258 (z_up (z_up m 251 11 0) 276 (a).toNat vv, 23, [(2, 251), (0, a)], [])) (show z_bo 1 = 1 by decide +kernel)).trans ((z_R_run hK (n := 2) (g' := (z_up (z_up m 251 11 0) 276 (a).toNat 1, 27, [(2, 251), (0, a)], [(2, 277)])) rfl).trans ((z_R_run hK (n := 3) (g' := (z_up (z_up m 251 11 0) 276 (a).toNat 1, 32, [(2, 251), (0, a)], [(0, (z_up (z_up m 251 11 0) 276 (a).toNat 1) 251 52), (0, a), (2, 277)])) rfl).trans ((congrArg (fun vv => z_R 258 (z_up (z_up m 251 11 0) 276 (a).toNat 1, 32, [(2, 251), (0, a)], [(0, vv), (0, a), (2, 277)])) ((zu_p (by decide)).trans (zu_k (by decide)))).trans (z_R_ixT hK (n := 2) (g' := (z_up (z_up (z_up m 251 11 0) 276 (a).toNat 1) 277 (a).toNat (m 251 52), 33, [(2, 251), (0, a)], [])) rfl rfl rfl (show 0 ≤ a ∧ a < 2 by omega) ((z_R_run hK (n := 2) (g' := (z_up (z_up (z_up m 251 11 0) 276 (a).toNat 1) 277 (a).toNat (m 251 52), 37, [(2, 251), (0, a)], [(2, 252)])) rfl).trans ((z_R_run hK (n := 2) (g' := (z_up (z_up (z_up m 251 11 0) 276 (a).toNat 1) 277 (a).toNat (m 251 52), 41, [(2, 251), (0, a)], [(2, 275), (2, 252)])) rfl).trans ((z_R_run hK (n := 3) (g' := (z_up (z_up (z_up m 251 11 0) 276 (a).toNat 1) 277 (a).toNat (m 251 52), 45, [(2, 251), (0, a)], [(0, z_mul 37 a), (2, 275), (2, 252)])) rfl).trans ((congrArg (fun vv => z_R 258 (z_up (z_up (z_up m 251 11 0) 276 (a).toNat 1) 277 (a).toNat (m 251 52), 45, [(2, 251), (0, a)], [(0, vv), (2, 275), (2, 252)])) (z_mul_eq (by omega) (by omega))).trans (z_R_call hK rfl rfl rfl rfl rfl))))))))))))) (fun h1 => (z_R_run hK (n := 2) (g' := (z_up m 251 11 0, 15, [(2, 251), (0, a)], [(0, 0)])) rfl).trans (z_R_ret hK rfl rfl rfl)))
theorem k_tk_48  (m : z_M) (x1 : Int) : z_R 258 (m, 48, [(2, 251), (0, x1)], []) = some (m, some (0, 1)) :=
  have hK : kt_at 258 = kt_258 := rfl
  (z_R_run hK (n := 1) (g' := (m, 49, [(2, 251), (0, x1)], [(0, 1)])) rfl).trans (z_R_ret hK rfl rfl rfl)
theorem k_ta_0  (m : z_M) (a : Int) : z_R 259 (m, 0, [(2, 251), (0, a), (9, 0)], []) = if 0 ≤ a ∧ a ≤ 1 then if m 276 (a).toNat = 0 then some (z_up m 251 11 0, some (0, 0)) else if m 277 (a).toNat = m 251 52 then z_R 259 (z_up m 251 11 0, 40, [(2, 251), (0, a), (0, 0)], []) else some (z_up m 251 11 0, some (0, 0)) else some (z_up m 251 11 0, some (0, 0)) :=
  have hK : kt_at 259 = kt_259 := rfl
  (z_R_run hK (n := 6) (g' := (z_up m 251 11 0, 8, [(2, 251), (0, a), (9, 0)], [(0, 1), (0, 0), (0, a)])) rfl).trans (z_R_cif hK rfl rfl rfl rfl rfl (t_ifin _ _ _ _) (fun h1 => (z_R_run hK (n := 3) (g' := (z_up m 251 11 0, 18, [(2, 251), (0, a), (9, 0)], [(2, 276)])) rfl).trans ((z_R_run hK (n := 1) (g' := (z_up m 251 11 0, 19, [(2, 251), (0, a), (9, 0)], [(0, a), (2, 276)])) rfl).trans (z_R_ixT hK (n := 2) (g' := (z_up m 251 11 0, 20, [(2, 251), (0, a), (9, 0)], [(0, (z_up m 251 11 0) 276 (a).toNat)])) rfl rfl rfl  (show 0 ≤ a ∧ a < 2 by omega) ((congrArg (fun vv => z_R 259 (z_up m 251 11 0, 20, [(2, 251), (0, a), (9, 0)], [(0, vv)])) (zu_p (by decide))).trans (z_R_ifd hK (c := m 276 (a).toNat = 0) (p1 := 36) (p2 := 23) rfl rfl rfl (fun h2 => (z_R_run hK (n := 1) (g' := (z_up m 251 11 0, 37, [(2, 251), (0, a), (9, 0)], [(0, 0)])) rfl).trans (z_R_ret hK rfl rfl rfl)) (fun h2 => (z_R_run hK (n := 2) (g' := (z_up m 251 11 0, 27, [(2, 251), (0, a), (9, 0)], [(2, 277)])) rfl).trans ((z_R_run hK (n := 1) (g' := (z_up m 251 11 0, 28, [(2, 251), (0, a), (9, 0)], [(0, a), (2, 277)])) rfl).trans (z_R_ixT hK (n := 2) (g' := (z_up m 251 11 0, 29, [(2, 251), (0, a), (9, 0)], [(0, (z_up m 251 11 0) 277 (a).toNat)])) rfl rfl rfl  (show 0 ≤ a ∧ a < 2 by omega) ((congrArg (fun vv => z_R 259 (z_up m 251 11 0, 29, [(2, 251), (0, a), (9, 0)], [(0, vv)])) (zu_p (by decide))).trans ((z_R_run hK (n := 2) (g' := (z_up m 251 11 0, 33, [(2, 251), (0, a), (9, 0)], [(0, (z_up m 251 11 0) 251 52), (0, m 277 (a).toNat)])) rfl).trans ((congrArg (fun vv => z_R 259 (z_up m 251 11 0, 33, [(2, 251), (0, a), (9, 0)], [(0, vv), (0, m 277 (a).toNat)])) (zu_k (by decide))).trans (z_R_ifd hK (c := m 277 (a).toNat = m 251 52) (p1 := 38) (p2 := 36) rfl rfl rfl (fun h3 => (z_R_run hK (n := 2) (g' := (z_up m 251 11 0, 40, [(2, 251), (0, a), (0, 0)], [])) rfl).trans (rfl)) (fun h3 => (z_R_run hK (n := 1) (g' := (z_up m 251 11 0, 37, [(2, 251), (0, a), (9, 0)], [(0, 0)])) rfl).trans (z_R_ret hK rfl rfl rfl)))))))))))))) (fun h1 => (z_R_run hK (n := 2) (g' := (z_up m 251 11 0, 37, [(2, 251), (0, a), (9, 0)], [(0, 0)])) rfl).trans (z_R_ret hK rfl rfl rfl)))
theorem k_ta_40  (m : z_M) (x1 : Int) (x2 : Int) (h_x2 : 0 ≤ x2 ∧ x2 ≤ 37) : z_R 259 (m, 40, [(2, 251), (0, x1), (0, x2)], []) = if 37 ≤ x2 then some (z_up m 251 25 0, some (0, 1)) else if 0 ≤ z_add (z_mul 37 x1) x2 ∧ z_add (z_mul 37 x1) x2 < 74 then z_R 259 (z_up m 252 (x2).toNat (m 275 (z_add (z_mul 37 x1) x2).toNat), 40, [(2, 251), (0, x1), (0, x2 + 1)], []) else none :=
  have hK : kt_at 259 = kt_259 := rfl
  (z_R_run hK (n := 2) (g' := (m, 43, [(2, 251), (0, x1), (0, x2)], [(0, 37), (0, x2)])) rfl).trans (z_R_ifd hK (c := 37 ≤ x2) (p1 := 69) (p2 := 46) rfl rfl rfl (fun h1 => (z_R_run hK (n := 4) (g' := (z_up m 251 25 0, 75, [(2, 251), (0, x1), (0, x2)], [(0, 1)])) rfl).trans (z_R_ret hK rfl rfl rfl)) (fun h1 => (z_R_run hK (n := 2) (g' := (m, 50, [(2, 251), (0, x1), (0, x2)], [(2, 252)])) rfl).trans ((z_R_run hK (n := 3) (g' := (m, 55, [(2, 251), (0, x1), (0, x2)], [(2, 275), (0, x2), (2, 252)])) rfl).trans ((z_R_run hK (n := 5) (g' := (m, 61, [(2, 251), (0, x1), (0, x2)], [(0, z_add (z_mul 37 x1) x2), (2, 275), (0, x2), (2, 252)])) rfl).trans (z_R_ixD hK (n := 74) (g' := (m, 62, [(2, 251), (0, x1), (0, x2)], [(0, m 275 (z_add (z_mul 37 x1) x2).toNat), (0, x2), (2, 252)])) rfl rfl rfl  (fun h2 => z_R_ixT hK (n := 37) (g' := (z_up m 252 (x2).toNat (m 275 (z_add (z_mul 37 x1) x2).toNat), 63, [(2, 251), (0, x1), (0, x2)], [])) rfl rfl rfl (show 0 ≤ x2 ∧ x2 < 37 by omega) ((z_R_run hK (n := 1) (g' := (z_up m 252 (x2).toNat (m 275 (z_add (z_mul 37 x1) x2).toNat), 66, [(2, 251), (0, x1), (0, z_add x2 1)], [])) rfl).trans ((congrArg (fun vv => z_R 259 (z_up m 252 (x2).toNat (m 275 (z_add (z_mul 37 x1) x2).toNat), 66, [(2, 251), (0, x1), (0, vv)], [])) (z_add_eq (by omega) (by omega))).trans ((z_R_run hK (n := 1) (g' := (z_up m 252 (x2).toNat (m 275 (z_add (z_mul 37 x1) x2).toNat), 40, [(2, 251), (0, x1), (0, x2 + 1)], [])) rfl).trans (rfl))))))))))
end
section
/-! keep and again, of what both are in -/
section
variable {w h n : Nat} {heat price : Int} {D A : Nat → Int} {c : Nat} {U : Nat → Nat → Int} {kn : Nat → Int} {KS : Nat → Nat → Int} {cs : List Int} {m : z_M}
theorem C_keep_no (a : Int) (ok : ¬ (0 ≤ a ∧ a < 2)) : z_R 150 (m, 0, [(2, 0), (0, a)], []) = some (m, some (0, 0)) := by
  have e : z_R 151 (m, 0, [(2, 28), (0, a), (2, 12), (0, m 3 11)], []) = some (m, some (0, 0)) := by
    rw [k_ka_0]
    by_cases h1 : a < 0
    · rw [if_pos h1]
    · rw [if_neg h1, if_neg (by omega)]
  rw [k_keep_0, e, zb_v, k_keep_19]
theorem C_keep (hi : C_is w h n heat price D A c U kn KS cs m) {i : Nat} (hi2 : i < 2) : ∃ m1, z_R 150 (m, 0, [(2, 0), (0, (i : Int))], []) = some (m1, some (0, 1)) ∧ C_is w h n heat price D A c U (u_up kn i (n : Int)) (fun j => if j = i then A else KS j) cs m1 := by
  obtain ⟨m1, a1, a2, a3⟩ := c_become z_st_12 (z_st_kept hi2) (by omega) m
  have a1 : z_R 61 (m, 0, [(2, ((104 + 6 * i : Nat) : Int)), (2, 12)], []) = some (m1, none) := a1
  rw [k_keep_0, k_ka_0, if_neg (by omega), if_pos (by omega), Int.toNat_natCast, ga30 hi2, a1, zb_n, k_ka_21, if_pos (by omega), Int.toNat_natCast, zb_v, k_keep_19, hi.1.2.2.1]
  refine ⟨_, rfl, ?_⟩
  have hfa : ∀ p k, ¬ (p = 31 ∧ k = i) → ¬ (104 + 6 * i ≤ p ∧ p ≤ 104 + 6 * i + 5) → (z_up m1 31 i (n : Int)) p k = m p k := fun p k n1 n2 => by
    rw [X_up n1]
    exact a3.of (by
      unfold c_LB
      (repeat' (first | exact trivial | refine z_of_c ?_ ?_)) <;> omega)
  have hA : cS (z_up m1 31 i (n : Int)) (104 + 6 * i) n = A := by
    rw [cS_off (by omega), cS_cR a2]
    exact hi.2.2.1
  obtain ⟨⟨q1, q2, q3, q4, q5, q6, q7, q8⟩, qb, qd, qu, qe, qf1, qf2, qf3, qf4⟩ := hi
  refine ⟨⟨?_, ?_, ?_, ?_, ?_, ?_, ?_, ?_⟩, fun j hj => (hfa 8 j (by omega) (by omega)).trans (qb j hj), ?_, c_un_fr qu (fun p k hp => hfa p k (by omega) (by omega)), fun j hj => ⟨?_, fun y => ?_⟩, ?_, qf2, qf3, ?_⟩
  · exact (hfa 3 8 (by omega) (by omega)).trans q1
  · exact (hfa 3 9 (by omega) (by omega)).trans q2
  · exact (hfa 3 11 (by omega) (by omega)).trans q3
  · exact (hfa 3 12 (by omega) (by omega)).trans q4
  · exact (hfa 3 13 (by omega) (by omega)).trans q5
  · rw [hfa 3 10 (by omega) (by omega)]
    exact q6
  · exact (hfa 24 4 (by omega) (by omega)).trans q7
  · exact (hfa 24 5 (by omega) (by omega)).trans q8
  · rw [cS_fr (fun j k hj _ => hfa (12 + j) k (by omega) (by omega))]
    exact qd
  · unfold u_up
    by_cases hji : j = i
    · rw [if_pos hji, hji, zu_self]
    · rw [if_neg hji, hfa 31 j (by omega) (by omega)]
      exact (qe j hj).1
  · show cS (z_up m1 31 i (n : Int)) (104 + 6 * j) (n : Int) = if j = i then A else KS j
    by_cases hji : j = i
    · rw [if_pos hji, hji]
      exact hA
    · unfold u_up at y
      rw [if_neg hji] at y
      rw [if_neg hji, cS_fr (fun j' k hj' _ => hfa (104 + 6 * j + j') k (by omega) (by omega))]
      exact (qe j hj).2 y
  · exact (hfa 4 3 (by omega) (by omega)).trans qf1
  · rw [show (z_up m1 31 i (n : Int)) 5 = m 5 from funext fun k => hfa 5 k (by omega) (by omega)]
    exact qf4
theorem R_keep_no (hi : R_is w h n heat price D A c U kn KS cs m) (a : Int) (ok : ¬ (0 ≤ a ∧ a < 2)) : ∃ m1, z_R 258 (m, 0, [(2, 251), (0, a)], []) = some (m1, some (0, 0)) ∧ R_is w h n heat price D A c U kn KS cs m1 := by
  refine ⟨z_up m 251 11 0, ?_, R_upn hi (by decide)⟩
  rw [k_tk_0, if_neg (by omega)]
theorem R_keep (hi : R_is w h n heat price D A c U kn KS cs m) (h52 : -2147483648 ≤ m 251 52 ∧ m 251 52 ≤ 2147483647) {i : Nat} (hi2 : i < 2) : ∃ m1, z_R 258 (m, 0, [(2, 251), (0, (i : Int))], []) = some (m1, some (0, 1)) ∧ R_is w h n heat price D A c U (u_up kn i (n : Int)) (fun j => if j = i then A else KS j) cs m1 := by
  rw [k_tk_0, if_pos (by omega), Int.toNat_natCast]
  have k6 : (z_up (z_up (z_up m 251 11 0) 276 i 1) 277 i (m 251 52)) 276 i = 1 := by rw [zu_p (by decide), zu_self]
  have k7 : (z_up (z_up (z_up m 251 11 0) 276 i 1) 277 i (m 251 52)) 277 i = m 251 52 := zu_self
  have kp : ∀ p k, ¬ (p = 251 ∧ k = 11) → ¬ ((p = 276 ∨ p = 277) ∧ k = i) → (z_up (z_up (z_up m 251 11 0) 276 i 1) 277 i (m 251 52)) p k = m p k := fun p k n1 n2 => by rw [X_up (by omega), X_up (by omega), X_up n1]
  generalize z_up (z_up (z_up m 251 11 0) 276 i 1) 277 i (m 251 52) = m0 at k6 k7 kp ⊢
  obtain ⟨m1, a1, a2, a3⟩ := t_layd (a := 252) (q := 275) (B := 37) k_lay_0 k_lay_2 (by decide) (b := 37 * i) (by omega) m0
  have a1 : z_R 198 (m0, 0, [(2, 252), (2, 275), (0, ((37 * i : Nat) : Int)), (9, 0)], []) = some (m1, none) := a1
  rw [show 37 * (i : Int) = ((37 * i : Nat) : Int) by omega, a1, zb_n, k_tk_48]
  refine ⟨m1, rfl, ?_⟩
  have fr : ∀ p k, ¬ (p = 251 ∧ k = 11) → ¬ ((p = 276 ∨ p = 277) ∧ k = i) → ¬ (p = 275 ∧ 37 * i ≤ k ∧ k < 37 * i + 37) → m1 p k = m p k := fun p k n1 n2 n3 => (a3 p k n3).trans (kp p k n1 n2)
  obtain ⟨⟨s1, s2, s3, s4, s5, s6⟩, sb, sd, su, se, sf⟩ := hi
  refine ⟨⟨?_, ?_, ?_, ?_, ?_, ?_⟩, fun j hj => (fr 253 j (by omega) (by omega) (by omega)).trans (sb j hj), ?_, r_un_fr su (fun p k hp => fr p k (by omega) (by omega) (by omega)), fun j hj => ?_, ?_⟩
  · exact (fr 251 1 (by omega) (by omega) (by omega)).trans s1
  · exact (fr 251 2 (by omega) (by omega) (by omega)).trans s2
  · exact (fr 251 3 (by omega) (by omega) (by omega)).trans s3
  · exact (fr 251 5 (by omega) (by omega) (by omega)).trans s4
  · exact (fr 251 6 (by omega) (by omega) (by omega)).trans s5
  · exact (fr 251 23 (by omega) (by omega) (by omega)).trans s6
  · rw [rS_row (funext fun k => fr 252 k (by omega) (by omega) (by omega))]
    exact sd
  · have e52 : m1 251 52 = m 251 52 := fr 251 52 (by omega) (by omega) (by omega)
    show r_kp n (u_up kn i (n : Int) j) (if j = i then A else KS j) j m1
    by_cases hji : j = i
    · subst hji
      have e6 : m1 276 j = 1 := (a3 276 j (by omega)).trans k6
      have e7 : m1 277 j = m 251 52 := (a3 277 j (by omega)).trans k7
      unfold r_kp
      rw [if_pos rfl, e6, e7, e52]
      have eu : u_up kn j (n : Int) j = (n : Int) := by unfold u_up; rw [if_pos rfl]
      rw [eu]
      refine ⟨Or.inr ⟨rfl, 0, by omega, by omega, fun _ => rfl, ?_, h52.1, h52.2⟩, fun _ => ?_⟩
      · rw [show m 251 52 + ((0 : Nat) : Int) = m 251 52 by omega]
        exact (zr_of h52.1 h52.2).symm
      · rw [uR_is (m := m) (a := 252) (fun k hk => (a2 k hk).trans (kp 252 k (by omega) (by omega)))]
        exact sd
    · have eu : u_up kn i (n : Int) j = kn j := by unfold u_up; rw [if_neg hji]
      have e6 : m1 276 j = m 276 j := fr 276 j (by omega) (by omega) (by omega)
      have e7 : m1 277 j = m 277 j := fr 277 j (by omega) (by omega) (by omega)
      have e275 : ∀ k, k < 37 → m1 275 (37 * j + k) = m 275 (37 * j + k) := fun k hk => fr 275 (37 * j + k) (by omega) (by omega) (by omega)
      obtain ⟨k1, k2⟩ := se j hj
      unfold r_kp
      rw [if_neg hji, eu, e6, e7, e52, uR_row (m := m) e275]
      exact ⟨k1, k2⟩
  · unfold r_ru
    rw [fr 251 20 (by omega) (by omega) (by omega), show m1 258 = m 258 from funext fun k => fr 258 k (by omega) (by omega) (by omega)]
    exact sf
theorem C_again_no (hi : C_is w h n heat price D A c U kn KS cs m) (a : Int) (ok : ¬ ((0 ≤ a ∧ a < 2) ∧ kn a.toNat = (n : Int))) : z_R 152 (m, 0, [(2, 0), (0, a)], []) = some (m, some (0, 0)) := by
  have e : z_R 153 (m, 0, [(2, 28), (0, a), (2, 12), (0, m 3 11)], []) = some (m, some (0, 0)) := by
    rw [k_bb_0]
    by_cases h1 : a < 0
    · rw [if_pos h1]
    rw [if_neg h1]
    by_cases h2 : 2 ≤ a
    · rw [if_pos h2]
    rw [if_neg h2, (hi.2.2.2.2.1 a.toNat (by omega)).1, hi.1.2.2.1, if_neg (fun z => ok ⟨⟨by omega, by omega⟩, z⟩)]
  rw [k_again_0, e, zb_v, k_again_19]
theorem C_again (hi : C_is w h n heat price D A c U kn KS cs m) {i : Nat} (hi2 : i < 2) (hk : kn i = (n : Int)) : ∃ m1, z_R 152 (m, 0, [(2, 0), (0, (i : Int))], []) = some (m1, some (0, 1)) ∧ C_is w h n heat price D (KS i) 0 U kn KS cs m1 := by
  obtain ⟨m1, a1, a2, a3⟩ := c_become (z_st_kept hi2) z_st_12 (by omega) m
  have a1 : z_R 61 (m, 0, [(2, 12), (2, ((104 + 6 * i : Nat) : Int))], []) = some (m1, none) := a1
  have hfa : ∀ p k, ¬ (12 ≤ p ∧ p ≤ 17) → m1 p k = m p k := fun p k hp => a3.of (by
    unfold c_LB
    (repeat' (first | exact trivial | refine z_of_c ?_ ?_)) <;> omega)
  rw [k_again_0, k_bb_0, if_neg (by omega), if_neg (by omega), Int.toNat_natCast, (hi.2.2.2.2.1 i hi2).1, hi.1.2.2.1, if_pos hk, ga30 hi2, a1, zb_n, k_bb_31, s_fdone_0, zb_n, k_bb_35, zb_v, k_again_19]
  refine ⟨_, rfl, C_mk hi (fun p k _ h1 h2 h3 => (zu_p h2).trans (hfa p k h1)) ?_ ⟨?_, zu_self, by decide, fun j hj => absurd hj (Nat.not_lt_zero j)⟩⟩
  · rw [cS_off (by omega), cS_cR a2]
    exact (hi.2.2.2.2.1 i hi2).2 hk
  · rw [zu_k (by decide), hfa 28 3 (by decide)]
    exact hi.2.2.2.1.1
theorem R_kq (hi : R_is w h n heat price D A c U kn KS cs m) (n5 : n ≤ 5) {i : Nat} (hi2 : i < 2) : kn i = (n : Int) ↔ ¬ m 276 i = 0 ∧ m 277 i = m 251 52 := by
  rcases (hi.2.2.2.2.1 i hi2).1 with ⟨a, b⟩ | ⟨a, d, b1, b2, b3, b4, b5, b6⟩
  · constructor
    · intro z; omega
    · intro z; exact absurd a z.1
  · rw [Int32.toInt_ofInt] at b4
    constructor
    · intro z
      have hd : d = 0 := by omega
      subst hd
      refine ⟨by omega, ?_⟩
      rw [b4, show m 277 i + ((0 : Nat) : Int) = m 277 i by omega]
      exact (i32_bm b5 b6).symm
    · intro z
      refine b3 ?_
      have z2 := z.2
      rw [b4] at z2
      have hb := Int.bmod_emod (x := m 277 i + (d : Int)) (m := 4294967296)
      change m 277 i = (m 277 i + (d : Int)).bmod 4294967296 at z2
      rw [← z2] at hb
      omega
theorem R_again_no (hi : R_is w h n heat price D A c U kn KS cs m) (n5 : n ≤ 5) (a : Int) (ok : ¬ ((0 ≤ a ∧ a < 2) ∧ kn a.toNat = (n : Int))) : ∃ m1, z_R 259 (m, 0, [(2, 251), (0, a), (9, 0)], []) = some (m1, some (0, 0)) ∧ R_is w h n heat price D A c U kn KS cs m1 := by
  refine ⟨z_up m 251 11 0, ?_, R_upn hi (by decide)⟩
  rw [k_ta_0]
  by_cases h1 : 0 ≤ a ∧ a ≤ 1
  · rw [if_pos h1]
    have q := R_kq hi n5 (i := a.toNat) (by omega)
    by_cases h2 : m 276 a.toNat = 0
    · rw [if_pos h2]
    rw [if_neg h2]
    by_cases h3 : m 277 a.toNat = m 251 52
    · exact absurd ⟨⟨h1.1, by omega⟩, q.mpr ⟨h2, h3⟩⟩ ok
    · rw [if_neg h3]
  · rw [if_neg h1]
theorem k_ag {i : Nat} (hi2 : i < 2) : ∀ (f x : Nat) (m : z_M), x + f = 37 → ∃ m', z_R 259 (m, 40, [(2, 251), (0, (i : Int)), (0, (x : Int))], []) = some (z_up m' 251 25 0, some (0, 1)) ∧ (∀ k, x ≤ k → k < 37 → m' 252 k = m 275 (37 * i + k)) ∧ ∀ p k, ¬ (p = 252 ∧ x ≤ k ∧ k < 37) → m' p k = m p k := by
  intro f
  induction f with
  | zero =>
    intro x m hx
    rw [k_ta_40 m i x (by omega), if_pos (by omega)]
    exact ⟨m, rfl, fun k h1 h2 => by omega, fun _ _ _ => rfl⟩
  | succ f ih =>
    intro x m hx
    have e2 : z_add (z_mul 37 (i : Int)) (x : Int) = ((37 * i + x : Nat) : Int) := by rw [z_mul_eq (by omega) (by omega), z_add_eq (by omega) (by omega)]; omega
    rw [k_ta_40 m i x (by omega), if_neg (by omega), e2, if_pos (by omega), Int.toNat_natCast, Int.toNat_natCast, tc1]
    obtain ⟨m', a1, a2, a3⟩ := ih (x + 1) (z_up m 252 x (m 275 (37 * i + x))) (by omega)
    refine ⟨m', a1, fun k h1 h2 => ?_, fun p k hn => ?_⟩
    · by_cases hk : k = x
      · rw [hk, a3 252 x (by omega), zu_self]
      · rw [a2 k (by omega) h2, zu_p (by decide)]
    · rw [a3 p k (by omega), X_up (by omega)]
theorem R_again (hi : R_is w h n heat price D A c U kn KS cs m) (n5 : n ≤ 5) {i : Nat} (hi2 : i < 2) (hk : kn i = (n : Int)) : ∃ m1, z_R 259 (m, 0, [(2, 251), (0, (i : Int)), (9, 0)], []) = some (m1, some (0, 1)) ∧ R_is w h n heat price D (KS i) 0 U kn KS cs m1 := by
  obtain ⟨q1, q2⟩ := (R_kq hi n5 hi2).mp hk
  rw [k_ta_0, if_pos (by omega), Int.toNat_natCast, if_neg q1, if_pos q2]
  have hu := R_upn (p0 := 251) (k0 := 11) (v := 0) hi (by decide)
  generalize z_up m 251 11 0 = m0 at hu ⊢
  obtain ⟨m', a1, a2, a3⟩ := k_ag hi2 37 0 m0 (by decide)
  have a1 : z_R 259 (m0, 40, [(2, 251), (0, (i : Int)), (0, 0)], []) = some (z_up m' 251 25 0, some (0, 1)) := a1
  refine ⟨_, a1, R_mk hu (fun p k _ h1 h2 h3 => (X_up h3).trans (a3 p k (fun z => h1 z.1))) ?_ ⟨zu_self, by decide, fun j hj => absurd hj (Nat.not_lt_zero j)⟩⟩
  rw [rS_row (zu_rowne (by decide)), rS_is (p := 275) (j := i) (m := m0) (fun k hk => a2 k (Nat.zero_le _) hk)]
  exact (hu.2.2.2.2.1 i hi2).2 hk
end
theorem core_keep : l_rel2 Rel_C (1197, 176, 150, 1, false, 1208, 179, 258) := by
  intro M1 M2 M3 σ σ1 σ2 as v1 v2 C1 C2 ρ1 ρ2 ha hR hh hM1 hC1 hp1 hE1 hC2 hp2 hE2
  obtain ⟨a, rfl⟩ := as_one ha
  have hE1 : z_R 150 (z_m σ, 0, [(2, 0), (0, a.toInt)], []) = some (z_m σ1, some (0, v1.toInt)) := z_R_iff.mpr hE1
  have hE2 : z_R 258 (z_m σ1, 0, [(2, 251), (0, a.toInt)], []) = some (z_m σ2, some (0, v2.toInt)) := z_R_iff.mpr hE2
  have hT := T_two (y1 := 150) (y2 := 258) (by decide +kernel) (by decide +kernel) hC1 hC2 hp1 hp2 hR.1
  obtain ⟨w, h, n, heat, price, D, A, c, U, kn, KS, cs, cC, cR, cW⟩ := hR.2
  have f1 := R_off2_ok (y := 150) (by decide +kernel) hC1 hp1
  have f2 := C_off_ok (y := 258) (by decide +kernel) hC2 hp2
  have cR1 := R_fr cR f1
  have w52 := z_rng (c_post_h hp1).1 (p := 251) (k := 52) (lo := -2147483648) (hi := 2147483647) (by decide) (by decide +kernel) (by decide +kernel)
  by_cases ok : 0 ≤ a.toInt ∧ a.toInt < 2
  · obtain ⟨i, hi⟩ : ∃ i : Nat, a.toInt = (i : Int) := ⟨a.toInt.toNat, by omega⟩
    rw [hi] at hE1 hE2
    have z := core_do cR1 (fun q => C_fr q f2) (C_keep cC (i := i) (by omega)) (fun q => R_keep q w52 (i := i) (by omega)) hE1 hE2
    exact ⟨⟨hT, Core_mk z.1.1 z.1.2 (w_W_keep cW)⟩, fun _ => z.2⟩
  · have z := core_do cR1 (fun q => C_fr q f2) ⟨_, C_keep_no _ ok, cC⟩ (fun q => R_keep_no q _ ok) hE1 hE2
    exact ⟨⟨hT, Core_mk z.1.1 z.1.2 cW⟩, fun _ => z.2⟩
theorem core_again : l_rel2 Rel_C (1222, 180, 152, 1, false, 1233, 183, 259) := by
  intro M1 M2 M3 σ σ1 σ2 as v1 v2 C1 C2 ρ1 ρ2 ha hR hh hM1 hC1 hp1 hE1 hC2 hp2 hE2
  obtain ⟨a, rfl⟩ := as_one ha
  have hE1 : z_R 152 (z_m σ, 0, [(2, 0), (0, a.toInt)], []) = some (z_m σ1, some (0, v1.toInt)) := z_R_iff.mpr hE1
  have hE2 : z_R 259 (z_m σ1, 0, [(2, 251), (0, a.toInt), (9, 0)], []) = some (z_m σ2, some (0, v2.toInt)) := z_R_iff.mpr hE2
  have hT := T_two (y1 := 152) (y2 := 259) (by decide +kernel) (by decide +kernel) hC1 hC2 hp1 hp2 hR.1
  obtain ⟨w, h, n, heat, price, D, A, c, U, kn, KS, cs, cC, cR, cW⟩ := hR.2
  obtain ⟨⟨-, -, n5⟩, -⟩ := core_b hh hM1 cR
  have f1 := R_off2_ok (y := 152) (by decide +kernel) hC1 hp1
  have f2 := C_off_ok (y := 259) (by decide +kernel) hC2 hp2
  have cR1 := R_fr cR f1
  by_cases ok : (0 ≤ a.toInt ∧ a.toInt < 2) ∧ kn a.toInt.toNat = (n : Int)
  · obtain ⟨i, hi⟩ : ∃ i : Nat, a.toInt = (i : Int) := ⟨a.toInt.toNat, by omega⟩
    rw [hi] at hE1 hE2 ok
    rw [Int.toNat_natCast] at ok
    have z := core_do cR1 (fun q => C_fr q f2) (C_again cC (i := i) (by omega) ok.2) (fun q => R_again q n5 (i := i) (by omega) ok.2) hE1 hE2
    exact ⟨⟨hT, Core_mk z.1.1 z.1.2 (w_W_again cW (by omega) ok.2)⟩, fun _ => z.2⟩
  · have z := core_do cR1 (fun q => C_fr q f2) ⟨_, C_again_no cC _ ok, cC⟩ (fun q => R_again_no q n5 _ ok) hE1 hE2
    exact ⟨⟨hT, Core_mk z.1.1 z.1.2 cW⟩, fun _ => z.2⟩
end
