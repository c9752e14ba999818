/-! house, of what both are in -/
theorem u_sto_w {g : Int → Int} {y : Int} (hy : 0 < y) : ∀ (f : Nat) (x w i : Int) (a : Nat → Int), (u_sto g y f x w i a).2.1 = w := by
  intro f
  induction f with
  | zero => intro x w i a; rfl
  | succ f ih =>
    intro x w i a
    unfold u_sto
    by_cases c1 : w ≤ x
    · rw [if_pos c1]
    rw [if_neg c1]
    by_cases c2 : (u_ic g i).2 = -1
    · rw [if_pos c2]
    rw [if_neg c2]
    by_cases c3 : w ≤ x + 1
    · rw [if_pos c3]; exact ih _ _ _ _
    rw [if_neg c3]
    by_cases c4 : g (u_ic g i).1 = 44
    · rw [if_pos c4]; exact ih _ _ _ _
    rw [if_neg c4, if_neg (by omega)]
/-- what is read of a storey doesn't depend on what stood there -/
theorem u_sto_r {g : Int → Int} {y : Nat} : ∀ (f : Nat) (x : Nat) (w i : Int) (a b : Nat → Int), x + f = 3 → w ≤ 3 → (u_sto g y f x w i a).1 = true → ∀ k : Nat, ((∃ j : Nat, x ≤ j ∧ (j : Int) < (u_sto g y f x w i a).2.1 ∧ k = 3 * y + j) ∨ a k = b k) → (u_sto g y f x w i a).2.2.2 k = (u_sto g y f x w i b).2.2.2 k := by
  intro f
  induction f with
  | zero =>
    intro x w i a b hx hw hs k hk
    rcases hk with ⟨j, j1, j2, -⟩ | hk
    · have j2 : (j : Int) < w := j2
      omega
    · exact hk
  | succ f ih =>
    intro x w i a b hx hw hs k hk
    have ek : (3 * (y : Int) + (x : Int)).toNat = 3 * y + x := by omega
    unfold u_sto at hs hk ⊢
    rw [ek] at hs hk ⊢
    rw [tc1] at hs hk ⊢
    by_cases c1 : w ≤ (x : Int)
    · rw [if_pos c1] at hs hk
      rw [if_pos c1, if_pos c1]
      rcases hk with ⟨j, j1, j2, -⟩ | hk
      · have j2 : (j : Int) < w := j2
        omega
      · exact hk
    rw [if_neg c1] at hs hk
    rw [if_neg c1, if_neg c1]
    by_cases c2 : (u_ic g i).2 = -1
    · rw [if_pos c2] at hs; cases hs
    rw [if_neg c2] at hs hk
    rw [if_neg c2, if_neg c2]
    generalize (u_ic g i).2 = v at hs hk ⊢
    generalize (u_ic g i).1 = i1 at hs hk ⊢
    have step : ∀ (S : u_S), (∃ j : Nat, x ≤ j ∧ (j : Int) < S.2.1 ∧ k = 3 * y + j) ∨ a k = b k → (∃ j : Nat, x + 1 ≤ j ∧ (j : Int) < S.2.1 ∧ k = 3 * y + j) ∨ u_up a (3 * y + x) v k = u_up b (3 * y + x) v k := fun S hk => by
      unfold u_up
      by_cases e : k = 3 * y + x
      · rw [if_pos e, if_pos e]; exact Or.inr rfl
      · rw [if_neg e, if_neg e]
        rcases hk with ⟨j, j1, j2, j3⟩ | hk
        · exact Or.inl ⟨j, by omega, j2, j3⟩
        · exact Or.inr hk
    by_cases c3 : w ≤ ((x + 1 : Nat) : Int)
    · rw [if_pos c3] at hs hk
      rw [if_pos c3, if_pos c3]
      exact ih (x + 1) w _ _ _ (by omega) hw hs k (step _ hk)
    rw [if_neg c3] at hs hk
    rw [if_neg c3, if_neg c3]
    by_cases c4 : g i1 = 44
    · rw [if_pos c4] at hs hk
      rw [if_pos c4, if_pos c4]
      exact ih (x + 1) w _ _ _ (by omega) hw hs k (step _ hk)
    rw [if_neg c4] at hs hk
    rw [if_neg c4, if_neg c4]
    by_cases c5 : (y : Int) ≤ 0
    · rw [if_pos c5] at hs hk
      rw [if_pos c5, if_pos c5]
      exact ih (x + 1) _ _ _ _ (by omega) (by omega) hs k (step _ hk)
    · rw [if_neg c5] at hs; cases hs
theorem u_hou_w {g : Int → Int} {n : Int} : ∀ (f : Nat) (y w i : Int) (a : Nat → Int), 0 < y → (u_hou g n f y w i a).2.1 = w := by
  intro f
  induction f with
  | zero => intro y w i a hy; rfl
  | succ f ih =>
    intro y w i a hy
    have e := u_sto_w (g := g) hy 3 0 w i a
    unfold u_hou
    generalize u_sto g y 3 0 w i a = S at e ⊢
    by_cases c1 : S.1 = false
    · rw [if_pos c1]; exact e
    rw [if_neg c1]
    by_cases c2 : n ≤ S.2.2.1
    · rw [if_pos c2]; exact e
    rw [if_neg c2]
    by_cases c3 : 3 ≤ y + 1
    · rw [if_pos c3]; exact e
    rw [if_neg c3]
    by_cases c4 : g S.2.2.1 = 47
    · rw [if_pos c4, ih _ _ _ _ (by omega)]; exact e
    · rw [if_neg c4]; exact e
theorem u_sto_w3 {g : Int → Int} {y : Int} : ∀ (f : Nat) (x w i : Int) (a : Nat → Int), x + (f : Int) ≤ 3 → w ≤ 3 → (u_sto g y f x w i a).2.1 ≤ 3 := by
  intro f
  induction f with
  | zero => intro x w i a hx hw; exact hw
  | succ f ih =>
    intro x w i a hx hw
    unfold u_sto
    by_cases c1 : w ≤ x
    · rw [if_pos c1]; exact hw
    rw [if_neg c1]
    by_cases c2 : (u_ic g i).2 = -1
    · rw [if_pos c2]; exact hw
    rw [if_neg c2]
    by_cases c3 : w ≤ x + 1
    · rw [if_pos c3]; exact ih _ _ _ _ (by omega) hw
    rw [if_neg c3]
    by_cases c4 : g (u_ic g i).1 = 44
    · rw [if_pos c4]; exact ih _ _ _ _ (by omega) hw
    rw [if_neg c4]
    by_cases c5 : y ≤ 0
    · rw [if_pos c5]; exact ih _ _ _ _ (by omega) (by omega)
    · rw [if_neg c5]; exact hw
theorem u_hou_r {g : Int → Int} {n : Int} : ∀ (f : Nat) (y : Nat) (w i : Int) (a b : Nat → Int), y + f = 3 → w ≤ 3 → (u_hou g n f y w i a).1 = true → ∀ k : Nat, ((∃ z j : Nat, y ≤ z ∧ (z : Int) < (u_hou g n f y w i a).2.2.1 ∧ (j : Int) < (u_hou g n f y w i a).2.1 ∧ k = 3 * z + j) ∨ a k = b k) → (u_hou g n f y w i a).2.2.2.2 k = (u_hou g n f y w i b).2.2.2.2 k := by
  intro f
  induction f with
  | zero => intro y w i a b hy hw hs; cases hs
  | succ f ih =>
    intro y w i a b hy hw hs k hk
    have e := u_sto_e (g := g) (y := (y : Int)) 3 0 w i a b
    have r := u_sto_r (g := g) (y := y) 3 0 w i a b rfl hw
    have wS := u_sto_w3 (g := g) (y := (y : Int)) 3 0 w i a (by decide) hw
    rw [show ((0 : Nat) : Int) = 0 from rfl] at r
    unfold u_hou at hs hk ⊢
    generalize u_sto g y 3 0 w i a = S at e r wS hs hk ⊢
    generalize u_sto g y 3 0 w i b = T at e r ⊢
    obtain ⟨e1, e2, e3⟩ := e
    by_cases c1 : S.1 = false
    · rw [if_pos c1] at hs; cases hs
    have s1 : S.1 = true := by cases hq : S.1 <;> simp_all
    rw [if_neg c1] at hs hk
    rw [if_neg c1, if_neg (fun z => c1 (e1.trans z))]
    by_cases c2 : n ≤ S.2.2.1
    · rw [if_pos c2] at hk
      rw [if_pos c2, if_pos (show n ≤ T.2.2.1 by rw [← e3]; exact c2)]
      refine r s1 k ?_
      rcases hk with ⟨z, j, z1, z2, z3, z4⟩ | hk
      · have z2 : (z : Int) < (y : Int) + 1 := z2
        have z3 : (j : Int) < S.2.1 := z3
        exact Or.inl ⟨j, Nat.zero_le _, z3, by omega⟩
      · exact Or.inr hk
    rw [if_neg c2] at hs hk
    rw [if_neg c2, if_neg (show ¬ n ≤ T.2.2.1 by rw [← e3]; exact c2)]
    by_cases c3 : 3 ≤ (y : Int) + 1
    · rw [if_pos c3] at hs; cases hs
    rw [if_neg c3] at hs hk
    rw [if_neg c3, if_neg c3]
    by_cases c4 : g S.2.2.1 = 47
    · rw [if_pos c4] at hs hk
      rw [if_pos c4, if_pos (show g T.2.2.1 = 47 by rw [← e3]; exact c4), ← e2, ← e3]
      have hW := u_hou_w (g := g) (n := n) f ((y : Int) + 1) S.2.1 (S.2.2.1 + 1) S.2.2.2 (by omega)
      rw [hW] at hk
      rw [tc1] at hs hk hW ⊢
      refine ih (y + 1) S.2.1 _ _ _ (by omega) wS hs k ?_
      rcases hk with ⟨z, j, z1, z2, z3, z4⟩ | hk
      · by_cases hz : z = y
        · exact Or.inr (r s1 k (Or.inl ⟨j, Nat.zero_le _, z3, by omega⟩))
        · exact Or.inl ⟨z, j, by omega, z2, by rw [hW]; exact z3, z4⟩
      · exact Or.inr (r s1 k (Or.inr hk))
    · rw [if_neg c4] at hs; cases hs
/-- what the State is behind house -/
def u_hA (w h : Int) (row : Nat → Int) (fr : Int) : Nat → Int := a_msk 0 (fun k => if k < 9 then (if u_hs w h (k : Int) = 0 then 0 else row k) else if k = 34 then -1 else if k = 36 then fr else 0)
def u_mk (w h : Int) : Nat → Nat → Int → Int
  | 0, _, b => b
  | f + 1, x, b => u_mk w h f (x + 1) (if u_hs w h (x : Int) = 0 then b else z_or b (z_shl 1 (x : Int)))
theorem u_mk_ok {w h : Nat} (hw : w ≤ 3) (hh : h ≤ 3) (r : Nat) (hr : r < 9) : z_and (z_shr (u_mk (w : Int) (h : Int) 9 0 0) (r : Int)) 1 = 0 ↔ u_hs (w : Int) (h : Int) (r : Int) = 0 := by
  have e : ∀ w, w < 4 → ∀ h, h < 4 → ∀ r, r < 9 → (z_and (z_shr (u_mk ((w : Nat) : Int) ((h : Nat) : Int) 9 0 0) ((r : Nat) : Int)) 1 = 0 ↔ u_hs ((w : Nat) : Int) ((h : Nat) : Int) ((r : Nat) : Int) = 0) := by decide +kernel
  exact e w (by omega) h (by omega) r hr
theorem C_clear : ∀ (f x : Nat) (m : z_M), x + f = 9 → ∃ m', z_R 31 (m, 2, [(2, 12), (0, (x : Int))], []) = some (m', none) ∧ (∀ k, x ≤ k → k < 9 → m' 13 k = 0 ∧ m' 14 k = 0) ∧ (m' 12 5 = 0 ∧ m' 12 6 = -1 ∧ m' 12 7 = 0) ∧ ∀ p k, ¬ (p = 12 ∧ 5 ≤ k ∧ k ≤ 7) → ¬ ((p = 13 ∨ p = 14) ∧ x ≤ k ∧ k < 9) → m' p k = m p k := by
  intro f
  induction f with
  | zero =>
    intro x m hx
    rw [s_clear_2, if_pos (by omega)]
    refine ⟨_, rfl, fun k h1 h2 => by omega, ⟨?_, ?_, zu_self⟩, fun p k h1 h2 => ?_⟩
    · rw [zu_k (by decide), zu_k (by decide), zu_self]
    · rw [zu_k (by decide), zu_self]
    · rw [X_up (by omega), X_up (by omega), X_up (by omega)]
  | succ f ih =>
    intro x m hx
    obtain ⟨m', a1, a2, a3, a4⟩ := ih (x + 1) (z_up (z_up m 13 x 0) 14 x 0) (by omega)
    rw [s_clear_2, if_neg (by omega), if_pos (by omega), if_pos (by omega), z_add_eq (by omega) (by omega), Int.toNat_natCast, tc1]
    refine ⟨m', a1, fun k h1 h2 => ?_, a3, fun p k h1 h2 => ?_⟩
    · by_cases hk : k = x
      · rw [hk, a4 13 x (by omega) (by omega), a4 14 x (by omega) (by omega), zu_p (by decide), zu_self, zu_self]
        exact ⟨rfl, rfl⟩
      · exact a2 k (by omega) h2
    · rw [a4 p k h1 (by omega), X_up (by omega), X_up (by omega)]
theorem C_build1 {w h : Int} : ∀ (f x : Nat) (m : z_M), x + f = 9 → m 3 8 = w → m 3 9 = h → ∃ m', z_R 30 (m, 32, [(2, 3), (2, 12), (0, (x : Int))], []) = some (m', some (0, z_mul w h)) ∧ m' 3 10 = u_mk w h f x (m 3 10) ∧ (∀ k, k < 9 → m' 13 k = if x ≤ k ∧ ¬ u_hs w h (k : Int) = 0 then m 9 k else m 13 k) ∧ ∀ p k, ¬ (p = 3 ∧ k = 10) → ¬ (p = 13 ∧ k < 9) → m' p k = m p k := by
  intro f
  induction f with
  | zero =>
    intro x m hx hw hh
    rw [s_build_32, if_pos (by omega), hw, hh]
    exact ⟨m, rfl, rfl, fun k hk => by rw [if_neg (by omega)], fun _ _ _ _ => rfl⟩
  | succ f ih =>
    intro x m hx hw hh
    rw [s_build_32, if_neg (by omega), c_hasv, hw, hh]
    show ∃ m', z_R 30 (m, 43, [(2, 3), (2, 12), (0, (x : Int))], [(0, u_hs w h (x : Int))]) = _ ∧ _
    rw [s_build_43, z_add_eq (by omega) (by omega), Int.toNat_natCast, tc1]
    unfold u_mk
    by_cases c : u_hs w h (x : Int) = 0
    · rw [if_pos c, if_pos c]
      obtain ⟨m', a1, a2, a3, a4⟩ := ih (x + 1) m (by omega) hw hh
      refine ⟨m', a1, a2, fun k hk => ?_, a4⟩
      rw [a3 k hk]
      by_cases hkx : k = x
      · rw [hkx, if_neg (fun z => by omega), if_neg (fun z => z.2 c)]
      · by_cases z : x + 1 ≤ k ∧ ¬ u_hs w h (k : Int) = 0
        · rw [if_pos z, if_pos ⟨by omega, z.2⟩]
        · rw [if_neg z, if_neg (fun y => z ⟨by omega, y.2⟩)]
    · rw [if_neg c, if_neg c, if_pos (by omega), if_pos (by omega)]
      obtain ⟨m', a1, a2, a3, a4⟩ := ih (x + 1) (z_up (z_up m 13 x (m 9 x)) 3 10 (z_or (m 3 10) (z_shl 1 (x : Int)))) (by omega) (by rw [zu_k (by decide), zu_p (by decide)]; exact hw) (by rw [zu_k (by decide), zu_p (by decide)]; exact hh)
      rw [zu_self] at a2
      refine ⟨m', a1, a2, fun k hk => ?_, fun p k h1 h2 => ?_⟩
      · rw [a3 k hk, zu_p (by decide), zu_p (by decide), zu_p (by decide), zu_at]
        by_cases hkx : k = x
        · rw [hkx, if_neg (fun z => by omega), if_pos rfl, if_pos ⟨Nat.le_refl _, c⟩]
        · rw [if_neg hkx]
          by_cases z : x + 1 ≤ k ∧ ¬ u_hs w h (k : Int) = 0
          · rw [if_pos z, if_pos ⟨by omega, z.2⟩]
          · rw [if_neg z, if_neg (fun y => z ⟨by omega, y.2⟩)]
      · rw [a4 p k h1 h2, X_up h1, X_up (by omega)]
theorem C_build (m : z_M) {w h : Int} (e5 : m 3 5 = w) (e6 : m 3 6 = h) : ∃ m', z_R 30 (m, 0, [(2, 3), (2, 12), (9, 0)], []) = some (m', some (0, z_mul w h)) ∧ (m' 3 8 = w ∧ m' 3 9 = h ∧ m' 3 11 = 0 ∧ m' 3 10 = u_mk w h 9 0 0) ∧ (∀ k, k < 9 → m' 13 k = if u_hs w h (k : Int) = 0 then 0 else m 9 k) ∧ (∀ k, k < 9 → m' 14 k = 0) ∧ (m' 12 5 = 0 ∧ m' 12 6 = -1 ∧ m' 12 7 = 0) ∧ z_same [(3, 8, 11), (12, 5, 7), (13, 0, 8), (14, 0, 8)] m m' := by
  rw [s_build_0, s_clear_0, e5, e6]
  have s0 : z_same [(3, 8, 11)] m (z_up (z_up (z_up (z_up m 3 8 w) 3 9 h) 3 11 0) 3 10 0) := (((z_same.rf.upo (by (try unfold u_L2); first | exact z_on_h rfl (by omega) (by omega) | exact z_on_t (z_on_h rfl (by omega) (by omega)) | exact z_on_t (z_on_t (z_on_h rfl (by omega) (by omega))) | exact z_on_t (z_on_t (z_on_t (z_on_h rfl (by omega) (by omega)))) | exact z_on_t (z_on_t (z_on_t (z_on_t (z_on_h rfl (by omega) (by omega))))) | exact z_on_t (z_on_t (z_on_t (z_on_t (z_on_t (z_on_h rfl (by omega) (by omega)))))) | exact z_on_t (z_on_t (z_on_t (z_on_t (z_on_t (z_on_t (z_on_h rfl (by omega) (by omega))))))) | exact z_on_t (z_on_t (z_on_t (z_on_t (z_on_t (z_on_t (z_on_t (z_on_h rfl (by omega) (by omega)))))))) | exact z_on_t (z_on_t (z_on_t (z_on_t (z_on_t (z_on_t (z_on_t (z_on_t (z_on_h rfl (by omega) (by omega))))))))) | exact z_on_t (z_on_t (z_on_t (z_on_t (z_on_t (z_on_t (z_on_t (z_on_t (z_on_t (z_on_h rfl (by omega) (by omega)))))))))) | exact z_on_t (z_on_t (z_on_t (z_on_t (z_on_t (z_on_t (z_on_t (z_on_t (z_on_t (z_on_t (z_on_h rfl (by omega) (by omega))))))))))) | exact z_on_t (z_on_t (z_on_t (z_on_t (z_on_t (z_on_t (z_on_t (z_on_t (z_on_t (z_on_t (z_on_t (z_on_h rfl (by omega) (by omega)))))))))))) | exact z_on_t (z_on_t (z_on_t (z_on_t (z_on_t (z_on_t (z_on_t (z_on_t (z_on_t (z_on_t (z_on_t (z_on_t (z_on_h rfl (by omega) (by omega))))))))))))))).upo (by (try unfold u_L2); first | exact z_on_h rfl (by omega) (by omega) | exact z_on_t (z_on_h rfl (by omega) (by omega)) | exact z_on_t (z_on_t (z_on_h rfl (by omega) (by omega))) | exact z_on_t (z_on_t (z_on_t (z_on_h rfl (by omega) (by omega)))) | exact z_on_t (z_on_t (z_on_t (z_on_t (z_on_h rfl (by omega) (by omega))))) | exact z_on_t (z_on_t (z_on_t (z_on_t (z_on_t (z_on_h rfl (by omega) (by omega)))))) | exact z_on_t (z_on_t (z_on_t (z_on_t (z_on_t (z_on_t (z_on_h rfl (by omega) (by omega))))))) | exact z_on_t (z_on_t (z_on_t (z_on_t (z_on_t (z_on_t (z_on_t (z_on_h rfl (by omega) (by omega)))))))) | exact z_on_t (z_on_t (z_on_t (z_on_t (z_on_t (z_on_t (z_on_t (z_on_t (z_on_h rfl (by omega) (by omega))))))))) | exact z_on_t (z_on_t (z_on_t (z_on_t (z_on_t (z_on_t (z_on_t (z_on_t (z_on_t (z_on_h rfl (by omega) (by omega)))))))))) | exact z_on_t (z_on_t (z_on_t (z_on_t (z_on_t (z_on_t (z_on_t (z_on_t (z_on_t (z_on_t (z_on_h rfl (by omega) (by omega))))))))))) | exact z_on_t (z_on_t (z_on_t (z_on_t (z_on_t (z_on_t (z_on_t (z_on_t (z_on_t (z_on_t (z_on_t (z_on_h rfl (by omega) (by omega)))))))))))) | exact z_on_t (z_on_t (z_on_t (z_on_t (z_on_t (z_on_t (z_on_t (z_on_t (z_on_t (z_on_t (z_on_t (z_on_t (z_on_h rfl (by omega) (by omega))))))))))))))).upo (by (try unfold u_L2); first | exact z_on_h rfl (by omega) (by omega) | exact z_on_t (z_on_h rfl (by omega) (by omega)) | exact z_on_t (z_on_t (z_on_h rfl (by omega) (by omega))) | exact z_on_t (z_on_t (z_on_t (z_on_h rfl (by omega) (by omega)))) | exact z_on_t (z_on_t (z_on_t (z_on_t (z_on_h rfl (by omega) (by omega))))) | exact z_on_t (z_on_t (z_on_t (z_on_t (z_on_t (z_on_h rfl (by omega) (by omega)))))) | exact z_on_t (z_on_t (z_on_t (z_on_t (z_on_t (z_on_t (z_on_h rfl (by omega) (by omega))))))) | exact z_on_t (z_on_t (z_on_t (z_on_t (z_on_t (z_on_t (z_on_t (z_on_h rfl (by omega) (by omega)))))))) | exact z_on_t (z_on_t (z_on_t (z_on_t (z_on_t (z_on_t (z_on_t (z_on_t (z_on_h rfl (by omega) (by omega))))))))) | exact z_on_t (z_on_t (z_on_t (z_on_t (z_on_t (z_on_t (z_on_t (z_on_t (z_on_t (z_on_h rfl (by omega) (by omega)))))))))) | exact z_on_t (z_on_t (z_on_t (z_on_t (z_on_t (z_on_t (z_on_t (z_on_t (z_on_t (z_on_t (z_on_h rfl (by omega) (by omega))))))))))) | exact z_on_t (z_on_t (z_on_t (z_on_t (z_on_t (z_on_t (z_on_t (z_on_t (z_on_t (z_on_t (z_on_t (z_on_h rfl (by omega) (by omega)))))))))))) | exact z_on_t (z_on_t (z_on_t (z_on_t (z_on_t (z_on_t (z_on_t (z_on_t (z_on_t (z_on_t (z_on_t (z_on_t (z_on_h rfl (by omega) (by omega))))))))))))))).upo (by (try unfold u_L2); first | exact z_on_h rfl (by omega) (by omega) | exact z_on_t (z_on_h rfl (by omega) (by omega)) | exact z_on_t (z_on_t (z_on_h rfl (by omega) (by omega))) | exact z_on_t (z_on_t (z_on_t (z_on_h rfl (by omega) (by omega)))) | exact z_on_t (z_on_t (z_on_t (z_on_t (z_on_h rfl (by omega) (by omega))))) | exact z_on_t (z_on_t (z_on_t (z_on_t (z_on_t (z_on_h rfl (by omega) (by omega)))))) | exact z_on_t (z_on_t (z_on_t (z_on_t (z_on_t (z_on_t (z_on_h rfl (by omega) (by omega))))))) | exact z_on_t (z_on_t (z_on_t (z_on_t (z_on_t (z_on_t (z_on_t (z_on_h rfl (by omega) (by omega)))))))) | exact z_on_t (z_on_t (z_on_t (z_on_t (z_on_t (z_on_t (z_on_t (z_on_t (z_on_h rfl (by omega) (by omega))))))))) | exact z_on_t (z_on_t (z_on_t (z_on_t (z_on_t (z_on_t (z_on_t (z_on_t (z_on_t (z_on_h rfl (by omega) (by omega)))))))))) | exact z_on_t (z_on_t (z_on_t (z_on_t (z_on_t (z_on_t (z_on_t (z_on_t (z_on_t (z_on_t (z_on_h rfl (by omega) (by omega))))))))))) | exact z_on_t (z_on_t (z_on_t (z_on_t (z_on_t (z_on_t (z_on_t (z_on_t (z_on_t (z_on_t (z_on_t (z_on_h rfl (by omega) (by omega)))))))))))) | exact z_on_t (z_on_t (z_on_t (z_on_t (z_on_t (z_on_t (z_on_t (z_on_t (z_on_t (z_on_t (z_on_t (z_on_t (z_on_h rfl (by omega) (by omega))))))))))))))
  have g8 : (z_up (z_up (z_up (z_up m 3 8 w) 3 9 h) 3 11 0) 3 10 0) 3 8 = w := by rw [zu_k (by decide), zu_k (by decide), zu_k (by decide), zu_self]
  have g9 : (z_up (z_up (z_up (z_up m 3 8 w) 3 9 h) 3 11 0) 3 10 0) 3 9 = h := by rw [zu_k (by decide), zu_k (by decide), zu_self]
  have g11 : (z_up (z_up (z_up (z_up m 3 8 w) 3 9 h) 3 11 0) 3 10 0) 3 11 = 0 := by rw [zu_k (by decide), zu_self]
  have g10 : (z_up (z_up (z_up (z_up m 3 8 w) 3 9 h) 3 11 0) 3 10 0) 3 10 = 0 := zu_self
  generalize z_up (z_up (z_up (z_up m 3 8 w) 3 9 h) 3 11 0) 3 10 0 = m0 at s0 g8 g9 g11 g10 ⊢
  obtain ⟨m1, a1, a2, a3, a4⟩ := C_clear 9 0 m0 rfl
  have a1 : z_R 31 (m0, 2, [(2, 12), (0, 0)], []) = some (m1, none) := a1
  have k8 : m1 3 8 = w := (a4 3 8 (by decide) (by decide)).trans g8
  have k9 : m1 3 9 = h := (a4 3 9 (by decide) (by decide)).trans g9
  have k10 : m1 3 10 = 0 := (a4 3 10 (by decide) (by decide)).trans g10
  have k11 : m1 3 11 = 0 := (a4 3 11 (by decide) (by decide)).trans g11
  obtain ⟨m2, b1, b2, b3, b4⟩ := C_build1 (w := w) (h := h) 9 0 m1 rfl k8 k9
  have b1 : z_R 30 (m1, 32, [(2, 3), (2, 12), (0, 0)], []) = some (m2, some (0, z_mul w h)) := b1
  rw [k10] at b2
  rw [a1]
  show ∃ m', z_R 30 (m1, 30, [(2, 3), (2, 12), (9, 0)], []) = _ ∧ _
  rw [s_build_30, b1]
  refine ⟨m2, rfl, ⟨(b4 3 8 (by decide) (by decide)).trans k8, (b4 3 9 (by decide) (by decide)).trans k9, (b4 3 11 (by decide) (by decide)).trans k11, b2⟩, fun k hk => ?_, fun k hk => (b4 14 k (by omega) (by omega)).trans (a2 k (Nat.zero_le _) hk).2, ⟨(b4 12 5 (by decide) (by decide)).trans a3.1, (b4 12 6 (by decide) (by decide)).trans a3.2.1, (b4 12 7 (by decide) (by decide)).trans a3.2.2⟩, fun p k hn => ?_⟩
  · rw [b3 k hk, (a2 k (Nat.zero_le _) hk).1, a4 9 k (by omega) (by omega), s0.of (by (try unfold u_L2); (repeat' (first | exact trivial | refine z_of_c ?_ ?_)) <;> omega)]
    by_cases z : u_hs w h (k : Int) = 0
    · rw [if_pos z, if_neg (fun y => y.2 z)]
    · rw [if_neg z, if_pos ⟨Nat.zero_le _, z⟩]
  · have n1 := hn (3, 8, 11) (by decide)
    have n2 := hn (12, 5, 7) (by decide)
    have n3 := hn (13, 0, 8) (by decide)
    have n4 := hn (14, 0, 8) (by decide)
    try simp only at n1 n2 n3 n4
    rw [b4 p k (by omega) (by omega), a4 p k (by omega) (by omega), s0.of (by
      refine z_of_c ?_ trivial
      omega)]
theorem u_hA_vis {w h : Int} {row : Nat → Int} {fr : Int} {k : Nat} (hv : a_vis 0 k = true) : u_hA w h row fr k = if k < 9 then (if u_hs w h (k : Int) = 0 then 0 else row k) else if k = 34 then -1 else if k = 36 then fr else 0 := a_msk_at hv
theorem cS_hA {m : z_M} {w h : Int} {row : Nat → Int} {fr : Int} (h1 : ∀ k, k < 9 → m 13 k = if u_hs w h (k : Int) = 0 then 0 else row k) (h2 : ∀ k, k < 9 → m 14 k = 0) (h3 : m 12 5 = 0 ∧ m 12 6 = -1 ∧ m 12 7 = 0) (h4 : m 12 8 = fr) : cS m 12 ((0 : Nat) : Int) = u_hA w h row fr := by
  funext k
  unfold cS u_hA a_msk
  show (if a_vis 0 k = true then cR m 12 k else 0) = if a_vis 0 k = true then (if k < 9 then (if u_hs w h (k : Int) = 0 then 0 else row k) else if k = 34 then -1 else if k = 36 then fr else 0) else 0
  by_cases hv : a_vis 0 k = true
  · rw [if_pos hv, if_pos hv]
    unfold cR
    by_cases k1 : k < 9
    · rw [if_pos k1, if_pos k1]; exact h1 k k1
    rw [if_neg k1, if_neg k1]
    by_cases k2 : k < 18
    · rw [if_pos k2, if_neg (by omega), if_neg (by omega)]; exact h2 (k - 9) (by omega)
    rw [if_neg k2]
    by_cases k3 : k < 33
    · unfold a_vis at hv
      rw [decide_eq_false k2, decide_eq_false (show ¬ 33 ≤ k by omega), decide_eq_false (show ¬ (((k - 18) % 5 : Nat) : Int) < 0 by omega)] at hv
      cases hv
    rw [if_neg (by omega), if_neg (by omega), if_neg k3]
    by_cases k4 : k < 37
    · rw [if_pos k4]
      rcases (show k = 33 ∨ k = 34 ∨ k = 35 ∨ k = 36 by omega) with rfl | rfl | rfl | rfl
      · rw [if_neg (by decide), if_neg (by decide)]; exact h3.1
      · rw [if_pos rfl]; exact h3.2.1
      · rw [if_neg (by decide), if_neg (by decide)]; exact h3.2.2
      · rw [if_neg (by decide), if_pos rfl]; exact h4
    · rw [if_neg k4, if_neg (by omega), if_neg (by omega)]
  · rw [if_neg hv, if_neg hv]
theorem rS_hA {m : z_M} {w h : Int} {row : Nat → Int} {fr : Int} (h1 : ∀ k, k < 37 → m 252 k = if k < 9 then (if u_hs w h (k : Int) = 0 then 0 else row k) else if k = 34 then -1 else if k = 36 then fr else 0) : rS m 252 ((0 : Nat) : Int) = u_hA w h row fr := by
  funext k
  unfold rS u_hA a_msk rR
  show (if a_vis 0 k = true then (if k < 37 then m 252 k else 0) else 0) = if a_vis 0 k = true then (if k < 9 then (if u_hs w h (k : Int) = 0 then 0 else row k) else if k = 34 then -1 else if k = 36 then fr else 0) else 0
  refine z_ifc (fun _ => ?_) (fun _ => rfl)
  by_cases k4 : k < 37
  · rw [if_pos k4]; exact h1 k k4
  · rw [if_neg k4, if_neg (by omega), if_neg (by omega), if_neg (by omega)]
theorem u_hA_row {w h : Int} {row row' : Nat → Int} {fr : Int} (hr : ∀ k : Nat, k < 9 → ¬ u_hs w h (k : Int) = 0 → row k = row' k) : u_hA w h row fr = u_hA w h row' fr := by
  unfold u_hA
  congr 1
  funext k
  exact z_ifc (fun hk => z_ifc (fun _ => rfl) (fun hq => hr k hk hq)) (fun _ => rfl)
section
variable {w h n : Nat} {heat price : Int} {D A : Nat → Int} {c : Nat} {U : Nat → Nat → Int} {kn : Nat → Int} {KS : Nat → Nat → Int} {cs : List Int} {m : z_M}
theorem C_house (hi : C_is w h n heat price D A c U kn KS cs m) (h0 : 0 ≤ m 1 1) (h1 : m 1 1 ≤ 80) {S : u_H} (hS : u_hou (u_nx (m 2) (m 1 1) 80) (m 1 1) 3 0 3 0 (m 9) = S) : ∃ m', z_R 18 (m, 0, [(2, 0), (9, 0), (9, 0)], []) = some (m', some (0, u_ans S)) ∧ (S.1 = false → C_is w h n heat price D A c U kn KS cs m') ∧ (S.1 = true → ∃ w' h' : Nat, S.2.1 = (w' : Int) ∧ S.2.2.1 = (h' : Int) ∧ C_is w' h' 0 heat price D (u_hA (w' : Int) (h' : Int) S.2.2.2.2 (A 36)) 0 U (fun _ => -1) KS cs m') := by
  have b := u_hou_b (u_nx_b h1) (n := m 1 1) 3 0 3 0 (m 9) (g := u_nx (m 2) (m 1 1) 80) (by decide) (by decide) (by decide) (by decide) (by decide) (by decide)
  obtain ⟨m1, a1, a2⟩ := c_readHouse m h1
  rw [hS] at a1 a2 b
  obtain ⟨ok, w', h', i, a⟩ := S
  obtain ⟨p1, p2, p3, p4, p5⟩ := a2
  try simp only at a1 p1 p2 p3 p4 b
  unfold u_ans
  try simp only
  rw [s_house_0, a1]
  show ∃ m', z_R 18 (m1, 11, [(2, 0), (9, 0), (9, 0)], [(0, if ok = true then 1 else 0)]) = _ ∧ _
  rw [s_house_11, s_empty_0]
  show ∃ m', z_R 18 (z_up m1 1 1 0, 19, [(2, 0), (0, if ok = true then 1 else 0), (9, 0)], []) = _ ∧ _
  rw [s_house_19]
  have hf1 : ∀ p k, ¬ (p = 1 ∧ 1 ≤ k ∧ k ≤ 3) → ¬ (p = 3 ∧ 5 ≤ k ∧ k ≤ 6) → ¬ p = 9 → (z_up m1 1 1 0) p k = m p k := fun p k n1 n2 n3 => by
    rw [X_up (by omega)]
    exact p5.of (by
      unfold u_L2
      (repeat' (first | exact trivial | refine z_of_c ?_ ?_)) <;> omega)
  by_cases c : ok = true
  · rw [if_pos c, if_neg (by decide), if_pos c]
    obtain ⟨w2, rfl⟩ : ∃ w2 : Nat, w' = (w2 : Int) := ⟨w'.toNat, by omega⟩
    obtain ⟨h2, rfl⟩ : ∃ h2 : Nat, h' = (h2 : Int) := ⟨h'.toNat, by omega⟩
    obtain ⟨m2, d1, ⟨d2, d3, d4, d5⟩, d6, d7, d8, d9⟩ := C_build (z_up m1 1 1 0) ((zu_p (by decide)).trans p1) ((zu_p (by decide)).trans (p2 c))
    rw [d1]
    show ∃ m', z_R 18 (m2, 44, [(2, 0), (0, 1), (9, 0)], [(0, z_mul (w2 : Int) (h2 : Int))]) = _ ∧ _
    rw [s_house_44, s_fd_0]
    show ∃ m', z_R 18 (z_up m2 28 4 0, 52, [(2, 0), (0, 1), (0, z_mul (w2 : Int) (h2 : Int))], []) = _ ∧ _
    rw [s_house_52, s_fk_0]
    obtain ⟨m3, f1, f2, f3⟩ := c_fk 2 0 (z_up m2 28 4 0) (by decide) (by decide)
    rw [f1]
    have hf3 : ∀ p k, ¬ (p = 31 ∧ k ≤ 1) → ¬ (p = 28 ∧ k = 4) → m3 p k = m2 p k := fun p k n1 n2 => by
      rw [f2.of (by
        refine z_of_c ?_ trivial
        omega), X_up n2]
    have hf2 : ∀ p k, ¬ (p = 3 ∧ 8 ≤ k ∧ k ≤ 11) → ¬ (p = 12 ∧ 5 ≤ k ∧ k ≤ 7) → ¬ ((p = 13 ∨ p = 14) ∧ k ≤ 8) → m2 p k = (z_up m1 1 1 0) p k := fun p k n1 n2 n3 => d9.of (by
      (repeat' (first | exact trivial | refine z_of_c ?_ ?_)) <;> omega)
    have hfa : ∀ p k, C_hit p k k = true → ¬ (p = 3 ∧ 8 ≤ k ∧ k ≤ 11) → ¬ (p = 12 ∧ 5 ≤ k ∧ k ≤ 7) → ¬ ((p = 13 ∨ p = 14) ∧ k ≤ 8) → ¬ (p = 31 ∧ k ≤ 1) → ¬ (p = 28 ∧ k = 4) → m3 p k = m p k := fun p k hk n1 n2 n3 n4 n5 => by
      have hk' := hk
      unfold C_hit at hk'
      have hk' := of_decide_eq_true hk'
      rw [hf3 p k n4 n5, hf2 p k n1 n2 n3, hf1 p k (by omega) (by omega) (by omega)]
    refine ⟨m3, (s_house_59 _ _ _).trans (by rw [u_mul3 b.1 b.2.1 b.2.2.1 b.2.2.2.1]), (fun z => by rw [c] at z; cases z), fun _ => ⟨w2, h2, rfl, rfl, ?_⟩⟩
    obtain ⟨⟨q1, q2, q3, q4, q5, q6, q7, q8⟩, qb, qd, qu, qe, qf1, qf2, qf3, qf4⟩ := hi
    have e28 : m3 28 3 = m 28 3 := hfa 28 3 (by decide) (by decide) (by decide) (by decide) (by decide) (by decide)
    have e36 : m3 12 8 = A 36 := by
      rw [hfa 12 8 (by decide) (by decide) (by decide) (by decide) (by decide) (by decide), ← qd]
      exact cS_frostv.symm
    have w3 : w2 ≤ 3 := by omega
    have h3' : h2 ≤ 3 := by omega
    refine ⟨⟨?_, ?_, ?_, ?_, ?_, fun r hr => ?_, ?_, ?_⟩, fun j hj => ?_, ?_, ⟨by rw [e28]; exact qu.1, ?_, by decide, fun i hi => absurd hi (Nat.not_lt_zero i)⟩, fun i hi => ⟨?_, fun z => by cases z⟩, ?_, qf2, qf3, ?_⟩
    · exact (hf3 3 8 (by decide) (by decide)).trans d2
    · exact (hf3 3 9 (by decide) (by decide)).trans d3
    · exact (hf3 3 11 (by decide) (by decide)).trans d4
    · exact (hfa 3 12 (by decide) (by decide) (by decide) (by decide) (by decide) (by decide)).trans q4
    · exact (hfa 3 13 (by decide) (by decide) (by decide) (by decide) (by decide) (by decide)).trans q5
    · rw [hf3 3 10 (by decide) (by decide), d5]
      exact u_mk_ok w3 h3' r hr
    · exact (hfa 24 4 (by decide) (by decide) (by decide) (by decide) (by decide) (by decide)).trans q7
    · exact (hfa 24 5 (by decide) (by decide) (by decide) (by decide) (by decide) (by decide)).trans q8
    · exact (hfa 8 j hit_8 (by omega) (by omega) (by omega) (by omega) (by omega)).trans (qb j hj)
    · refine cS_hA (fun k hk => ?_) (fun k hk => ?_) ⟨?_, ?_, ?_⟩ e36
      · rw [hf3 13 k (by omega) (by omega), d6 k hk, zu_p (by decide), p4]
      · rw [hf3 14 k (by omega) (by omega)]; exact d7 k hk
      · exact (hf3 12 5 (by decide) (by decide)).trans d8.1
      · exact (hf3 12 6 (by decide) (by decide)).trans d8.2.1
      · exact (hf3 12 7 (by decide) (by decide)).trans d8.2.2
    · rw [f2.of (p := 28) (k := 4) (by (try unfold u_L2); (repeat' (first | exact trivial | refine z_of_c ?_ ?_)) <;> omega), zu_self]
      rfl
    · exact (f3 i (by omega)).trans (if_pos (by omega))
    · exact (hfa 4 3 (by decide) (by decide) (by decide) (by decide) (by decide) (by decide)).trans qf1
    · rw [show m3 5 = m 5 from funext fun k => hfa 5 k hit_5 (by omega) (by omega) (by omega) (by omega) (by omega)]
      exact qf4
  · rw [if_neg c, if_pos rfl, if_neg c]
    have e1 : (z_up m1 1 1 0) 1 2 = i := (zu_k (by decide)).trans p3
    rw [e1, z_sub_eq (by omega) (by omega)]
    refine ⟨_, rfl, fun _ => C_fr hi fun p k hk => ?_, fun z => absurd z c⟩
    have hk' := hk
    unfold C_hit at hk'
    have hk' := of_decide_eq_true hk'
    exact hf1 p k (by omega) (by omega) (by omega)
end
