section
/-! AN HOUR OF THE CLASS: what it does to the 37 numbers -/
abbrev c_LD (s : Nat) : List (Nat × Nat × Nat) := [(6, 0, 39), (7, 0, 6), (s + 1, 0, 8), (s + 2, 0, 8), (s, 5, 5), (24, 6, 6)]
abbrev c_LP (s : Nat) : List (Nat × Nat × Nat) := [(s + 3, 0, 4), (s + 5, 0, 4), (24, 9, 9), (24, 11, 11), (s, 6, 6)]
abbrev c_LQ (s : Nat) : List (Nat × Nat × Nat) := [(s + 1, 0, 8), (s + 2, 0, 8), (s + 3, 0, 4), (s + 5, 0, 4), (24, 7, 11), (s, 6, 7)]
abbrev c_LH (s : Nat) : List (Nat × Nat × Nat) := [(6, 0, 39), (7, 0, 6), (25, 0, 8), (26, 0, 8), (24, 6, 11), (s + 1, 0, 8), (s + 2, 0, 8), (s + 3, 0, 4), (s + 4, 0, 4), (s + 5, 0, 4), (s, 5, 7)]
theorem u_hs_rng {w h a : Int} (h0 : ¬ u_hs w h a = 0) : 0 ≤ a ∧ a < 9 := by
  unfold u_hs at h0
  by_cases h1 : a < 0
  · rw [if_pos h1] at h0; exact absurd rfl h0
  rw [if_neg h1] at h0
  by_cases h2 : 9 ≤ a
  · rw [if_pos h2] at h0; exact absurd rfl h0
  omega
def cw (m : z_M) (p : Nat) (t : Int) : Int := if z_and (z_shr (m 24 5) (6 * (p : Int) + t % 6)) 1 = 0 then (if (p : Int) = m 24 4 then 9 else m 8 (6 * (p : Int) + t % 6).toNat) else 0
theorem cw_sm {m m' : z_M} (h1 : m' 24 5 = m 24 5) (h2 : m' 24 4 = m 24 4) (h3 : m' 8 = m 8) {p : Nat} {t : Int} : cw m' p t = cw m p t := by unfold cw; rw [h1, h2, h3]
theorem c_wo (m : z_M) {p : Nat} {t : Int} (hp : p < 5) (ht : 0 ≤ t) (ht2 : t ≤ 2147483647) : z_R 70 (m, 0, [(2, 24), (0, (p : Int)), (0, t), (9, 0)], []) = some (m, some (0, cw m p t)) := by
  rw [s_wo_0 m p t ⟨by omega, by omega⟩ ⟨ht, ht2⟩]
  unfold cw
  by_cases h1 : z_and (z_shr (m 24 5) (6 * (p : Int) + t % 6)) 1 = 0
  · rw [if_pos h1, if_pos h1]
    by_cases h2 : (p : Int) = m 24 4
    · rw [if_pos h2, if_pos h2]
    · rw [if_neg h2, if_neg h2]
  · rw [if_neg h1, if_neg h1]
theorem c_gat1 {s : Nat} (hs : z_st s) : ∀ (f x : Nat) (m : z_M), x + f = 9 → ∃ m', z_R 69 (m, 2, [(2, 24), (2, ((s : Nat) : Int)), (0, (x : Int)), (9, 0), (9, 0)], []) = z_R 69 (m', 30, [(2, 24), (2, ((s : Nat) : Int)), (0, 0), (9, 0), (9, 0)], []) ∧ (∀ k, x ≤ k → k < 9 → m' 25 k = 0 ∧ m' 26 k = 0) ∧ (∀ k, k < x → m' 25 k = m 25 k ∧ m' 26 k = m 26 k) ∧ z_same [(25, 0, 8), (26, 0, 8)] m m' := by
  intro f
  induction f with
  | zero =>
    intro x m hx
    rw [s_gat_2 hs m x ⟨by omega, by omega⟩, if_pos (by omega)]
    exact ⟨m, rfl, fun k h1 h2 => by omega, fun k _ => ⟨rfl, rfl⟩, z_same.rf⟩
  | succ f ih =>
    intro x m hx
    rw [s_gat_2 hs m x ⟨by omega, by omega⟩, if_neg (by omega), Int.toNat_natCast, tc1]
    obtain ⟨m', a1, a2, a3, a4⟩ := ih (x + 1) (z_up (z_up m 25 x 0) 26 x 0) (by omega)
    refine ⟨m', a1, fun k h1 h2 => ?_, fun k h1 => ?_, ((z_same.rf.upo (by (try unfold c_LD); (try unfold c_LP); (try unfold c_LQ); (try unfold c_LH); first | exact z_on_h rfl (by omega) (by omega) | exact z_on_t (z_on_h rfl (by omega) (by omega)) | exact z_on_t (z_on_t (z_on_h rfl (by omega) (by omega))) | exact z_on_t (z_on_t (z_on_t (z_on_h rfl (by omega) (by omega)))) | exact z_on_t (z_on_t (z_on_t (z_on_t (z_on_h rfl (by omega) (by omega))))) | exact z_on_t (z_on_t (z_on_t (z_on_t (z_on_t (z_on_h rfl (by omega) (by omega)))))) | exact z_on_t (z_on_t (z_on_t (z_on_t (z_on_t (z_on_t (z_on_h rfl (by omega) (by omega))))))) | exact z_on_t (z_on_t (z_on_t (z_on_t (z_on_t (z_on_t (z_on_t (z_on_h rfl (by omega) (by omega)))))))) | exact z_on_t (z_on_t (z_on_t (z_on_t (z_on_t (z_on_t (z_on_t (z_on_t (z_on_h rfl (by omega) (by omega))))))))) | exact z_on_t (z_on_t (z_on_t (z_on_t (z_on_t (z_on_t (z_on_t (z_on_t (z_on_t (z_on_h rfl (by omega) (by omega)))))))))) | exact z_on_t (z_on_t (z_on_t (z_on_t (z_on_t (z_on_t (z_on_t (z_on_t (z_on_t (z_on_t (z_on_h rfl (by omega) (by omega))))))))))) | exact z_on_t (z_on_t (z_on_t (z_on_t (z_on_t (z_on_t (z_on_t (z_on_t (z_on_t (z_on_t (z_on_t (z_on_h rfl (by omega) (by omega)))))))))))) | exact z_on_t (z_on_t (z_on_t (z_on_t (z_on_t (z_on_t (z_on_t (z_on_t (z_on_t (z_on_t (z_on_t (z_on_t (z_on_h rfl (by omega) (by omega))))))))))))))).upo (by (try unfold c_LD); (try unfold c_LP); (try unfold c_LQ); (try unfold c_LH); first | exact z_on_h rfl (by omega) (by omega) | exact z_on_t (z_on_h rfl (by omega) (by omega)) | exact z_on_t (z_on_t (z_on_h rfl (by omega) (by omega))) | exact z_on_t (z_on_t (z_on_t (z_on_h rfl (by omega) (by omega)))) | exact z_on_t (z_on_t (z_on_t (z_on_t (z_on_h rfl (by omega) (by omega))))) | exact z_on_t (z_on_t (z_on_t (z_on_t (z_on_t (z_on_h rfl (by omega) (by omega)))))) | exact z_on_t (z_on_t (z_on_t (z_on_t (z_on_t (z_on_t (z_on_h rfl (by omega) (by omega))))))) | exact z_on_t (z_on_t (z_on_t (z_on_t (z_on_t (z_on_t (z_on_t (z_on_h rfl (by omega) (by omega)))))))) | exact z_on_t (z_on_t (z_on_t (z_on_t (z_on_t (z_on_t (z_on_t (z_on_t (z_on_h rfl (by omega) (by omega))))))))) | exact z_on_t (z_on_t (z_on_t (z_on_t (z_on_t (z_on_t (z_on_t (z_on_t (z_on_t (z_on_h rfl (by omega) (by omega)))))))))) | exact z_on_t (z_on_t (z_on_t (z_on_t (z_on_t (z_on_t (z_on_t (z_on_t (z_on_t (z_on_t (z_on_h rfl (by omega) (by omega))))))))))) | exact z_on_t (z_on_t (z_on_t (z_on_t (z_on_t (z_on_t (z_on_t (z_on_t (z_on_t (z_on_t (z_on_t (z_on_h rfl (by omega) (by omega)))))))))))) | exact z_on_t (z_on_t (z_on_t (z_on_t (z_on_t (z_on_t (z_on_t (z_on_t (z_on_t (z_on_t (z_on_t (z_on_t (z_on_h rfl (by omega) (by omega))))))))))))))).tr a4⟩
    · by_cases hk : k = x
      · obtain ⟨b1, b2⟩ := a3 k (by omega)
        rw [b1, b2, hk, zu_p (by decide), zu_self, zu_self]
        exact ⟨rfl, rfl⟩
      · exact a2 k (by omega) h2
    · obtain ⟨b1, b2⟩ := a3 k (by omega)
      rw [b1, b2, zu_p (by decide), zu_k (by omega), zu_k (by omega), zu_p (by decide)]
      exact ⟨rfl, rfl⟩
/-- who is where: warmth by rooms, how many, what they owe -/
def hr_g (wm : Nat → Int) (price : Int) : Nat → Nat → (Nat → Int) → (Nat → Int) → (Nat → Int) → (Nat → Int) × (Nat → Int) × (Nat → Int)
  | 0, _, W, C, A => (W, C, A)
  | f + 1, x, W, C, A => if A (x + 18) < 0 then hr_g wm price f (x + 1) W C A else if 9 ≤ A (x + 18) then hr_g wm price f (x + 1) W C A else hr_g wm price f (x + 1) (u_up W (A (x + 18)).toNat (z_add (W (A (x + 18)).toNat) (wm x))) (u_up C (A (x + 18)).toNat (z_add (C (A (x + 18)).toNat) 1)) (u_up A (x + 23) (z_add (A (x + 23)) (z_mul price (wm x))))
theorem c_gat2 {s : Nat} (hs : z_st s) {n : Nat} (hn5 : n ≤ 5) {wm : Nat → Int} {price t : Int} (ht : 0 ≤ t) (ht2 : t ≤ 2147483647) : ∀ (f x : Nat) (v3 v4 : z_V) (m : z_M), x + f = n → m 3 11 = (n : Int) → m 3 13 = price → m s 7 = t → (∀ p, p < 5 → cw m p t = wm p) → ∃ m' v3' v4', z_R 69 (m, 30, [(2, 24), (2, ((s : Nat) : Int)), (0, (x : Int)), v3, v4], []) = z_R 69 (m', 30, [(2, 24), (2, ((s : Nat) : Int)), (0, (n : Int)), v3', v4'], []) ∧ (m' 25, m' 26, cS m' s n) = hr_g wm price f x (m 25) (m 26) (cS m s n) ∧ z_same [(25, 0, 8), (26, 0, 8), (s + 4, 0, 4)] m m' := by
  have hs2 := hs.2
  intro f
  induction f with
  | zero =>
    intro x v3 v4 m hx hn hp ht' hw
    have e : x = n := by omega
    subst e
    exact ⟨m, v3, v4, rfl, rfl, z_same.rf⟩
  | succ f ih =>
    intro x v3 v4 m hx hn hp ht' hw
    have eA : cS m s n (x + 18) = m (s + 3) x := cS_at3 (by omega) (by omega)
    rw [s_gat_30 hs m x v3 v4 ⟨by omega, by omega⟩ ⟨by omega, by omega⟩, if_neg (by omega), Int.toNat_natCast]
    unfold hr_g
    rw [eA]
    by_cases c1 : m (s + 3) x < 0
    · rw [if_pos c1, if_pos c1, tc1]
      exact ih (x + 1) _ _ m (by omega) hn hp ht' hw
    rw [if_neg c1, if_neg c1]
    by_cases c2 : 9 ≤ m (s + 3) x
    · rw [if_pos c2, if_pos c2, tc1]
      exact ih (x + 1) _ _ m (by omega) hn hp ht' hw
    rw [if_neg c2, if_neg c2, ht', c_wo m (by omega) ht ht2, zb_v, s_gat_67 hs m x _ v4 _ ⟨by omega, by omega⟩ ⟨by omega, by omega⟩, Int.toNat_natCast, tc1, hw x (by omega), hp]
    generalize hr : (m (s + 3) x).toNat = r
    have hr9 : r < 9 := by omega
    have sm : z_same [(25, 0, 8), (26, 0, 8), (s + 4, 0, 4)] m (z_up (z_up (z_up m 25 r (z_add (m 25 r) (wm x))) 26 r (z_add (m 26 r) 1)) (s + 4) x (z_add (m (s + 4) x) (z_mul price (wm x)))) := ((z_same.rf.upo (by (try unfold c_LD); (try unfold c_LP); (try unfold c_LQ); (try unfold c_LH); first | exact z_on_h rfl (by omega) (by omega) | exact z_on_t (z_on_h rfl (by omega) (by omega)) | exact z_on_t (z_on_t (z_on_h rfl (by omega) (by omega))) | exact z_on_t (z_on_t (z_on_t (z_on_h rfl (by omega) (by omega)))) | exact z_on_t (z_on_t (z_on_t (z_on_t (z_on_h rfl (by omega) (by omega))))) | exact z_on_t (z_on_t (z_on_t (z_on_t (z_on_t (z_on_h rfl (by omega) (by omega)))))) | exact z_on_t (z_on_t (z_on_t (z_on_t (z_on_t (z_on_t (z_on_h rfl (by omega) (by omega))))))) | exact z_on_t (z_on_t (z_on_t (z_on_t (z_on_t (z_on_t (z_on_t (z_on_h rfl (by omega) (by omega)))))))) | exact z_on_t (z_on_t (z_on_t (z_on_t (z_on_t (z_on_t (z_on_t (z_on_t (z_on_h rfl (by omega) (by omega))))))))) | exact z_on_t (z_on_t (z_on_t (z_on_t (z_on_t (z_on_t (z_on_t (z_on_t (z_on_t (z_on_h rfl (by omega) (by omega)))))))))) | exact z_on_t (z_on_t (z_on_t (z_on_t (z_on_t (z_on_t (z_on_t (z_on_t (z_on_t (z_on_t (z_on_h rfl (by omega) (by omega))))))))))) | exact z_on_t (z_on_t (z_on_t (z_on_t (z_on_t (z_on_t (z_on_t (z_on_t (z_on_t (z_on_t (z_on_t (z_on_h rfl (by omega) (by omega)))))))))))) | exact z_on_t (z_on_t (z_on_t (z_on_t (z_on_t (z_on_t (z_on_t (z_on_t (z_on_t (z_on_t (z_on_t (z_on_t (z_on_h rfl (by omega) (by omega))))))))))))))).upo (by (try unfold c_LD); (try unfold c_LP); (try unfold c_LQ); (try unfold c_LH); first | exact z_on_h rfl (by omega) (by omega) | exact z_on_t (z_on_h rfl (by omega) (by omega)) | exact z_on_t (z_on_t (z_on_h rfl (by omega) (by omega))) | exact z_on_t (z_on_t (z_on_t (z_on_h rfl (by omega) (by omega)))) | exact z_on_t (z_on_t (z_on_t (z_on_t (z_on_h rfl (by omega) (by omega))))) | exact z_on_t (z_on_t (z_on_t (z_on_t (z_on_t (z_on_h rfl (by omega) (by omega)))))) | exact z_on_t (z_on_t (z_on_t (z_on_t (z_on_t (z_on_t (z_on_h rfl (by omega) (by omega))))))) | exact z_on_t (z_on_t (z_on_t (z_on_t (z_on_t (z_on_t (z_on_t (z_on_h rfl (by omega) (by omega)))))))) | exact z_on_t (z_on_t (z_on_t (z_on_t (z_on_t (z_on_t (z_on_t (z_on_t (z_on_h rfl (by omega) (by omega))))))))) | exact z_on_t (z_on_t (z_on_t (z_on_t (z_on_t (z_on_t (z_on_t (z_on_t (z_on_t (z_on_h rfl (by omega) (by omega)))))))))) | exact z_on_t (z_on_t (z_on_t (z_on_t (z_on_t (z_on_t (z_on_t (z_on_t (z_on_t (z_on_t (z_on_h rfl (by omega) (by omega))))))))))) | exact z_on_t (z_on_t (z_on_t (z_on_t (z_on_t (z_on_t (z_on_t (z_on_t (z_on_t (z_on_t (z_on_t (z_on_h rfl (by omega) (by omega)))))))))))) | exact z_on_t (z_on_t (z_on_t (z_on_t (z_on_t (z_on_t (z_on_t (z_on_t (z_on_t (z_on_t (z_on_t (z_on_t (z_on_h rfl (by omega) (by omega))))))))))))))).upo (by (try unfold c_LD); (try unfold c_LP); (try unfold c_LQ); (try unfold c_LH); first | exact z_on_h rfl (by omega) (by omega) | exact z_on_t (z_on_h rfl (by omega) (by omega)) | exact z_on_t (z_on_t (z_on_h rfl (by omega) (by omega))) | exact z_on_t (z_on_t (z_on_t (z_on_h rfl (by omega) (by omega)))) | exact z_on_t (z_on_t (z_on_t (z_on_t (z_on_h rfl (by omega) (by omega))))) | exact z_on_t (z_on_t (z_on_t (z_on_t (z_on_t (z_on_h rfl (by omega) (by omega)))))) | exact z_on_t (z_on_t (z_on_t (z_on_t (z_on_t (z_on_t (z_on_h rfl (by omega) (by omega))))))) | exact z_on_t (z_on_t (z_on_t (z_on_t (z_on_t (z_on_t (z_on_t (z_on_h rfl (by omega) (by omega)))))))) | exact z_on_t (z_on_t (z_on_t (z_on_t (z_on_t (z_on_t (z_on_t (z_on_t (z_on_h rfl (by omega) (by omega))))))))) | exact z_on_t (z_on_t (z_on_t (z_on_t (z_on_t (z_on_t (z_on_t (z_on_t (z_on_t (z_on_h rfl (by omega) (by omega)))))))))) | exact z_on_t (z_on_t (z_on_t (z_on_t (z_on_t (z_on_t (z_on_t (z_on_t (z_on_t (z_on_t (z_on_h rfl (by omega) (by omega))))))))))) | exact z_on_t (z_on_t (z_on_t (z_on_t (z_on_t (z_on_t (z_on_t (z_on_t (z_on_t (z_on_t (z_on_t (z_on_h rfl (by omega) (by omega)))))))))))) | exact z_on_t (z_on_t (z_on_t (z_on_t (z_on_t (z_on_t (z_on_t (z_on_t (z_on_t (z_on_t (z_on_t (z_on_t (z_on_h rfl (by omega) (by omega))))))))))))))
    generalize hm1 : z_up (z_up (z_up m 25 r (z_add (m 25 r) (wm x))) 26 r (z_add (m 26 r) 1)) (s + 4) x (z_add (m (s + 4) x) (z_mul price (wm x))) = m1 at sm ⊢
    have e25 : m1 25 = u_up (m 25) r (z_add (m 25 r) (wm x)) := by rw [← hm1, zu_rowne (by omega), zu_rowne (by decide), zu_row]
    have e26 : m1 26 = u_up (m 26) r (z_add (m 26 r) 1) := by rw [← hm1, zu_rowne (by omega), zu_row, zu_rowne (by decide)]
    have eS : cS m1 s n = u_up (cS m s n) (x + 23) (z_add (cS m s n (x + 23)) (z_mul price (wm x))) := by
      rw [← hm1, cS_up4 (by omega) (by omega), cS_off (by omega), cS_off (by omega), cS_at4 (j := x) (by omega) (by omega)]
    obtain ⟨m', v3', v4', a1, a2, a3⟩ := ih (x + 1) (0, m (s + 3) x) (0, wm x) m1 (by omega) ((sm.of (by (try unfold c_LD); (try unfold c_LP); (try unfold c_LQ); (try unfold c_LH); (repeat' (first | exact trivial | refine z_of_c ?_ ?_)) <;> omega)).trans hn) ((sm.of (by (try unfold c_LD); (try unfold c_LP); (try unfold c_LQ); (try unfold c_LH); (repeat' (first | exact trivial | refine z_of_c ?_ ?_)) <;> omega)).trans hp) ((sm.of (by (try unfold c_LD); (try unfold c_LP); (try unfold c_LQ); (try unfold c_LH); (repeat' (first | exact trivial | refine z_of_c ?_ ?_)) <;> omega)).trans ht') (fun p hp5 => (cw_sm (sm.of (by (try unfold c_LD); (try unfold c_LP); (try unfold c_LQ); (try unfold c_LH); (repeat' (first | exact trivial | refine z_of_c ?_ ?_)) <;> omega)) (sm.of (by (try unfold c_LD); (try unfold c_LP); (try unfold c_LQ); (try unfold c_LH); (repeat' (first | exact trivial | refine z_of_c ?_ ?_)) <;> omega)) (sm.ofr (by (try unfold c_LD); (try unfold c_LP); (try unfold c_LQ); (try unfold c_LH); (repeat' (first | exact trivial | refine z_ofr_c ?_ ?_)) <;> omega))).trans (hw p hp5))
    rw [e25, e26, eS] at a2
    exact ⟨m', v3', v4', a1, a2, sm.tr a3⟩
def hr_sv (heat v : Int) (W : Nat → Int) : Nat → Int := if v < 0 then W else if 9 ≤ v then W else u_up W v.toNat (z_add (W v.toNat) heat)
theorem c_gat {s : Nat} (hs : z_st s) {n : Nat} (hn5 : n ≤ 5) {wm : Nat → Int} {price t heat : Int} (ht : 0 ≤ t) (ht2 : t ≤ 2147483647) (m : z_M) (hn : m 3 11 = (n : Int)) (hp : m 3 13 = price) (hh : m 3 12 = heat) (ht' : m s 7 = t) (hw : ∀ p, p < 5 → cw m p t = wm p) : ∃ m' W0 C0, z_R 69 (m, 0, [(2, 24), (2, ((s : Nat) : Int)), (9, 0), (9, 0), (9, 0)], []) = some (m', none) ∧ (∀ k, k < 9 → W0 k = 0 ∧ C0 k = 0) ∧ m' 25 = hr_sv heat (cS m s n 34) (hr_g wm price n 0 W0 C0 (cS m s n)).1 ∧ m' 26 = (hr_g wm price n 0 W0 C0 (cS m s n)).2.1 ∧ cS m' s n = (hr_g wm price n 0 W0 C0 (cS m s n)).2.2 ∧ z_same [(25, 0, 8), (26, 0, 8), (s + 4, 0, 4)] m m' := by
  have hs2 := hs.2
  obtain ⟨m1, a1, a2, a3, a4⟩ := c_gat1 hs 9 0 m (by omega)
  have eS : cS m1 s n = cS m s n := cS_same a4 (by (try unfold c_LD); (try unfold c_LP); (try unfold c_LQ); (try unfold c_LH); (repeat' (first | exact trivial | refine z_ofr_c ?_ ?_)) <;> omega) (by (try unfold c_LD); (try unfold c_LP); (try unfold c_LQ); (try unfold c_LH); (repeat' (first | exact trivial | refine z_ofr_c ?_ ?_)) <;> omega) (by (try unfold c_LD); (try unfold c_LP); (try unfold c_LQ); (try unfold c_LH); (repeat' (first | exact trivial | refine z_ofr_c ?_ ?_)) <;> omega) (by (try unfold c_LD); (try unfold c_LP); (try unfold c_LQ); (try unfold c_LH); (repeat' (first | exact trivial | refine z_ofr_c ?_ ?_)) <;> omega) (by (try unfold c_LD); (try unfold c_LP); (try unfold c_LQ); (try unfold c_LH); (repeat' (first | exact trivial | refine z_ofr_c ?_ ?_)) <;> omega) (by (try unfold c_LD); (try unfold c_LP); (try unfold c_LQ); (try unfold c_LH); (repeat' (first | exact trivial | refine z_ofr_c ?_ ?_)) <;> omega)
  obtain ⟨m2, v3, v4, b1, b2, b3⟩ := c_gat2 hs hn5 (wm := wm) (price := price) ht ht2 n 0 (9, 0) (9, 0) m1 (by omega) ((a4.of (by (try unfold c_LD); (try unfold c_LP); (try unfold c_LQ); (try unfold c_LH); (repeat' (first | exact trivial | refine z_of_c ?_ ?_)) <;> omega)).trans hn) ((a4.of (by (try unfold c_LD); (try unfold c_LP); (try unfold c_LQ); (try unfold c_LH); (repeat' (first | exact trivial | refine z_of_c ?_ ?_)) <;> omega)).trans hp) ((a4.of (by (try unfold c_LD); (try unfold c_LP); (try unfold c_LQ); (try unfold c_LH); (repeat' (first | exact trivial | refine z_of_c ?_ ?_)) <;> omega)).trans ht') (fun p hp5 => (cw_sm (a4.of (by (try unfold c_LD); (try unfold c_LP); (try unfold c_LQ); (try unfold c_LH); (repeat' (first | exact trivial | refine z_of_c ?_ ?_)) <;> omega)) (a4.of (by (try unfold c_LD); (try unfold c_LP); (try unfold c_LQ); (try unfold c_LH); (repeat' (first | exact trivial | refine z_of_c ?_ ?_)) <;> omega)) (a4.ofr (by (try unfold c_LD); (try unfold c_LP); (try unfold c_LQ); (try unfold c_LH); (repeat' (first | exact trivial | refine z_ofr_c ?_ ?_)) <;> omega))).trans (hw p hp5))
  have sm : z_same [(25, 0, 8), (26, 0, 8), (s + 4, 0, 4)] m m2 := (a4.subo (by (try unfold c_LD); (try unfold c_LP); (try unfold c_LQ); (try unfold c_LH); (repeat' (first | exact trivial | refine z_sbo_c ?_ ?_)) <;> (intro k h1 h2; first | exact z_on_h rfl (by omega) (by omega) | exact z_on_t (z_on_h rfl (by omega) (by omega)) | exact z_on_t (z_on_t (z_on_h rfl (by omega) (by omega))) | exact z_on_t (z_on_t (z_on_t (z_on_h rfl (by omega) (by omega)))) | exact z_on_t (z_on_t (z_on_t (z_on_t (z_on_h rfl (by omega) (by omega))))) | exact z_on_t (z_on_t (z_on_t (z_on_t (z_on_t (z_on_h rfl (by omega) (by omega)))))) | exact z_on_t (z_on_t (z_on_t (z_on_t (z_on_t (z_on_t (z_on_h rfl (by omega) (by omega))))))) | exact z_on_t (z_on_t (z_on_t (z_on_t (z_on_t (z_on_t (z_on_t (z_on_h rfl (by omega) (by omega)))))))) | exact z_on_t (z_on_t (z_on_t (z_on_t (z_on_t (z_on_t (z_on_t (z_on_t (z_on_h rfl (by omega) (by omega))))))))) | exact z_on_t (z_on_t (z_on_t (z_on_t (z_on_t (z_on_t (z_on_t (z_on_t (z_on_t (z_on_h rfl (by omega) (by omega)))))))))) | exact z_on_t (z_on_t (z_on_t (z_on_t (z_on_t (z_on_t (z_on_t (z_on_t (z_on_t (z_on_t (z_on_h rfl (by omega) (by omega))))))))))) | exact z_on_t (z_on_t (z_on_t (z_on_t (z_on_t (z_on_t (z_on_t (z_on_t (z_on_t (z_on_t (z_on_t (z_on_h rfl (by omega) (by omega)))))))))))) | exact z_on_t (z_on_t (z_on_t (z_on_t (z_on_t (z_on_t (z_on_t (z_on_t (z_on_t (z_on_t (z_on_t (z_on_t (z_on_h rfl (by omega) (by omega)))))))))))))))).tr b3
  rw [eS] at b2
  have c1 := congrArg Prod.fst b2
  have c2 := congrArg (fun z => z.2.1) b2
  have c3 := congrArg (fun z => z.2.2) b2
  simp only at c1 c2 c3
  have e6 : m2 s 6 = cS m s n 34 := (sm.of (by (try unfold c_LD); (try unfold c_LP); (try unfold c_LQ); (try unfold c_LH); (repeat' (first | exact trivial | refine z_of_c ?_ ?_)) <;> omega)).trans cS_stovev.symm
  have e12 : m2 3 12 = heat := (sm.of (by (try unfold c_LD); (try unfold c_LP); (try unfold c_LQ); (try unfold c_LH); (repeat' (first | exact trivial | refine z_of_c ?_ ?_)) <;> omega)).trans hh
  have e11 : m2 3 11 = (n : Int) := (sm.of (by (try unfold c_LD); (try unfold c_LP); (try unfold c_LQ); (try unfold c_LH); (repeat' (first | exact trivial | refine z_of_c ?_ ?_)) <;> omega)).trans hn
  rw [show ((0 : Nat) : Int) = 0 from rfl] at a1 b1
  rw [s_gat_0 hs, a1, b1, s_gat_30 hs m2 n v3 v4 ⟨by omega, by omega⟩ ⟨by omega, by omega⟩, if_pos (by omega), e6, e12]
  unfold hr_sv
  by_cases d1 : cS m s n 34 < 0
  · refine ⟨m2, m1 25, m1 26, by rw [if_pos d1], fun k hk => a2 k (by omega) hk, by rw [if_pos d1]; exact c1, c2, c3, sm⟩
  by_cases d2 : 9 ≤ cS m s n 34
  · refine ⟨m2, m1 25, m1 26, by rw [if_neg d1, if_pos d2], fun k hk => a2 k (by omega) hk, by rw [if_neg d1, if_pos d2]; exact c1, c2, c3, sm⟩
  · refine ⟨_, m1 25, m1 26, by rw [if_neg d1, if_neg d2], fun k hk => a2 k (by omega) hk, ?_, ?_, ?_, sm.upo (by (try unfold c_LD); (try unfold c_LP); (try unfold c_LQ); (try unfold c_LH); first | exact z_on_h rfl (by omega) (by omega) | exact z_on_t (z_on_h rfl (by omega) (by omega)) | exact z_on_t (z_on_t (z_on_h rfl (by omega) (by omega))) | exact z_on_t (z_on_t (z_on_t (z_on_h rfl (by omega) (by omega)))) | exact z_on_t (z_on_t (z_on_t (z_on_t (z_on_h rfl (by omega) (by omega))))) | exact z_on_t (z_on_t (z_on_t (z_on_t (z_on_t (z_on_h rfl (by omega) (by omega)))))) | exact z_on_t (z_on_t (z_on_t (z_on_t (z_on_t (z_on_t (z_on_h rfl (by omega) (by omega))))))) | exact z_on_t (z_on_t (z_on_t (z_on_t (z_on_t (z_on_t (z_on_t (z_on_h rfl (by omega) (by omega)))))))) | exact z_on_t (z_on_t (z_on_t (z_on_t (z_on_t (z_on_t (z_on_t (z_on_t (z_on_h rfl (by omega) (by omega))))))))) | exact z_on_t (z_on_t (z_on_t (z_on_t (z_on_t (z_on_t (z_on_t (z_on_t (z_on_t (z_on_h rfl (by omega) (by omega)))))))))) | exact z_on_t (z_on_t (z_on_t (z_on_t (z_on_t (z_on_t (z_on_t (z_on_t (z_on_t (z_on_t (z_on_h rfl (by omega) (by omega))))))))))) | exact z_on_t (z_on_t (z_on_t (z_on_t (z_on_t (z_on_t (z_on_t (z_on_t (z_on_t (z_on_t (z_on_t (z_on_h rfl (by omega) (by omega)))))))))))) | exact z_on_t (z_on_t (z_on_t (z_on_t (z_on_t (z_on_t (z_on_t (z_on_t (z_on_t (z_on_t (z_on_t (z_on_t (z_on_h rfl (by omega) (by omega))))))))))))))⟩
    · rw [if_neg d1, if_neg d2, zu_row, c1]
    · rw [zu_rowne (by decide), c2]
    · rw [cS_off (by omega), c3]
/-- a room drips -/
def hr_d1 (u e : Int) (r : Nat) (A : Nat → Int) : Nat → Int := u_up (u_up (if u = 0 then u_up A 33 (z_add (A 33) (A (r + 9))) else u_up A (r + 12) (z_add (A (r + 12)) (A (r + 9)))) (r + 9) e) r (z_sub (A r) e)
theorem c_drip {s : Nat} (hs : z_st s) (m : z_M) {k : Nat} {e : Int} (hk : k < 9) : ∃ m', z_R 73 (m, 0, [(2, 24), (2, ((s : Nat) : Int)), (0, (k : Int)), (0, e), (9, 0)], []) = some (m', none) ∧ (∀ n, cS m' s n = hr_d1 (u_hs (m 3 8) (m 3 9) ((k : Int) + 3)) e k (cS m s n)) ∧ m' 24 6 = z_add (m 24 6) e ∧ z_same [(s + 1, 0, 8), (s + 2, 0, 8), (s, 5, 5), (24, 6, 6)] m m' := by
  have hs2 := hs.2
  rw [s_drip_0 hs m k e ⟨by omega, by omega⟩, c_hasv, zb_v, s_drip_14 hs m k e ((k : Int) + 3) _ ⟨by omega, by omega⟩ ⟨by omega, by omega⟩, Int.toNat_natCast]
  by_cases c : u_hs (m 3 8) (m 3 9) ((k : Int) + 3) = 0
  · rw [if_pos c]
    refine ⟨_, rfl, fun n => ?_, ?_, (((z_same.rf.upo (by (try unfold c_LD); (try unfold c_LP); (try unfold c_LQ); (try unfold c_LH); first | exact z_on_h rfl (by omega) (by omega) | exact z_on_t (z_on_h rfl (by omega) (by omega)) | exact z_on_t (z_on_t (z_on_h rfl (by omega) (by omega))) | exact z_on_t (z_on_t (z_on_t (z_on_h rfl (by omega) (by omega)))) | exact z_on_t (z_on_t (z_on_t (z_on_t (z_on_h rfl (by omega) (by omega))))) | exact z_on_t (z_on_t (z_on_t (z_on_t (z_on_t (z_on_h rfl (by omega) (by omega)))))) | exact z_on_t (z_on_t (z_on_t (z_on_t (z_on_t (z_on_t (z_on_h rfl (by omega) (by omega))))))) | exact z_on_t (z_on_t (z_on_t (z_on_t (z_on_t (z_on_t (z_on_t (z_on_h rfl (by omega) (by omega)))))))) | exact z_on_t (z_on_t (z_on_t (z_on_t (z_on_t (z_on_t (z_on_t (z_on_t (z_on_h rfl (by omega) (by omega))))))))) | exact z_on_t (z_on_t (z_on_t (z_on_t (z_on_t (z_on_t (z_on_t (z_on_t (z_on_t (z_on_h rfl (by omega) (by omega)))))))))) | exact z_on_t (z_on_t (z_on_t (z_on_t (z_on_t (z_on_t (z_on_t (z_on_t (z_on_t (z_on_t (z_on_h rfl (by omega) (by omega))))))))))) | exact z_on_t (z_on_t (z_on_t (z_on_t (z_on_t (z_on_t (z_on_t (z_on_t (z_on_t (z_on_t (z_on_t (z_on_h rfl (by omega) (by omega)))))))))))) | exact z_on_t (z_on_t (z_on_t (z_on_t (z_on_t (z_on_t (z_on_t (z_on_t (z_on_t (z_on_t (z_on_t (z_on_t (z_on_h rfl (by omega) (by omega))))))))))))))).upo (by (try unfold c_LD); (try unfold c_LP); (try unfold c_LQ); (try unfold c_LH); first | exact z_on_h rfl (by omega) (by omega) | exact z_on_t (z_on_h rfl (by omega) (by omega)) | exact z_on_t (z_on_t (z_on_h rfl (by omega) (by omega))) | exact z_on_t (z_on_t (z_on_t (z_on_h rfl (by omega) (by omega)))) | exact z_on_t (z_on_t (z_on_t (z_on_t (z_on_h rfl (by omega) (by omega))))) | exact z_on_t (z_on_t (z_on_t (z_on_t (z_on_t (z_on_h rfl (by omega) (by omega)))))) | exact z_on_t (z_on_t (z_on_t (z_on_t (z_on_t (z_on_t (z_on_h rfl (by omega) (by omega))))))) | exact z_on_t (z_on_t (z_on_t (z_on_t (z_on_t (z_on_t (z_on_t (z_on_h rfl (by omega) (by omega)))))))) | exact z_on_t (z_on_t (z_on_t (z_on_t (z_on_t (z_on_t (z_on_t (z_on_t (z_on_h rfl (by omega) (by omega))))))))) | exact z_on_t (z_on_t (z_on_t (z_on_t (z_on_t (z_on_t (z_on_t (z_on_t (z_on_t (z_on_h rfl (by omega) (by omega)))))))))) | exact z_on_t (z_on_t (z_on_t (z_on_t (z_on_t (z_on_t (z_on_t (z_on_t (z_on_t (z_on_t (z_on_h rfl (by omega) (by omega))))))))))) | exact z_on_t (z_on_t (z_on_t (z_on_t (z_on_t (z_on_t (z_on_t (z_on_t (z_on_t (z_on_t (z_on_t (z_on_h rfl (by omega) (by omega)))))))))))) | exact z_on_t (z_on_t (z_on_t (z_on_t (z_on_t (z_on_t (z_on_t (z_on_t (z_on_t (z_on_t (z_on_t (z_on_t (z_on_h rfl (by omega) (by omega))))))))))))))).upo (by (try unfold c_LD); (try unfold c_LP); (try unfold c_LQ); (try unfold c_LH); first | exact z_on_h rfl (by omega) (by omega) | exact z_on_t (z_on_h rfl (by omega) (by omega)) | exact z_on_t (z_on_t (z_on_h rfl (by omega) (by omega))) | exact z_on_t (z_on_t (z_on_t (z_on_h rfl (by omega) (by omega)))) | exact z_on_t (z_on_t (z_on_t (z_on_t (z_on_h rfl (by omega) (by omega))))) | exact z_on_t (z_on_t (z_on_t (z_on_t (z_on_t (z_on_h rfl (by omega) (by omega)))))) | exact z_on_t (z_on_t (z_on_t (z_on_t (z_on_t (z_on_t (z_on_h rfl (by omega) (by omega))))))) | exact z_on_t (z_on_t (z_on_t (z_on_t (z_on_t (z_on_t (z_on_t (z_on_h rfl (by omega) (by omega)))))))) | exact z_on_t (z_on_t (z_on_t (z_on_t (z_on_t (z_on_t (z_on_t (z_on_t (z_on_h rfl (by omega) (by omega))))))))) | exact z_on_t (z_on_t (z_on_t (z_on_t (z_on_t (z_on_t (z_on_t (z_on_t (z_on_t (z_on_h rfl (by omega) (by omega)))))))))) | exact z_on_t (z_on_t (z_on_t (z_on_t (z_on_t (z_on_t (z_on_t (z_on_t (z_on_t (z_on_t (z_on_h rfl (by omega) (by omega))))))))))) | exact z_on_t (z_on_t (z_on_t (z_on_t (z_on_t (z_on_t (z_on_t (z_on_t (z_on_t (z_on_t (z_on_t (z_on_h rfl (by omega) (by omega)))))))))))) | exact z_on_t (z_on_t (z_on_t (z_on_t (z_on_t (z_on_t (z_on_t (z_on_t (z_on_t (z_on_t (z_on_t (z_on_t (z_on_h rfl (by omega) (by omega))))))))))))))).upo (by (try unfold c_LD); (try unfold c_LP); (try unfold c_LQ); (try unfold c_LH); first | exact z_on_h rfl (by omega) (by omega) | exact z_on_t (z_on_h rfl (by omega) (by omega)) | exact z_on_t (z_on_t (z_on_h rfl (by omega) (by omega))) | exact z_on_t (z_on_t (z_on_t (z_on_h rfl (by omega) (by omega)))) | exact z_on_t (z_on_t (z_on_t (z_on_t (z_on_h rfl (by omega) (by omega))))) | exact z_on_t (z_on_t (z_on_t (z_on_t (z_on_t (z_on_h rfl (by omega) (by omega)))))) | exact z_on_t (z_on_t (z_on_t (z_on_t (z_on_t (z_on_t (z_on_h rfl (by omega) (by omega))))))) | exact z_on_t (z_on_t (z_on_t (z_on_t (z_on_t (z_on_t (z_on_t (z_on_h rfl (by omega) (by omega)))))))) | exact z_on_t (z_on_t (z_on_t (z_on_t (z_on_t (z_on_t (z_on_t (z_on_t (z_on_h rfl (by omega) (by omega))))))))) | exact z_on_t (z_on_t (z_on_t (z_on_t (z_on_t (z_on_t (z_on_t (z_on_t (z_on_t (z_on_h rfl (by omega) (by omega)))))))))) | exact z_on_t (z_on_t (z_on_t (z_on_t (z_on_t (z_on_t (z_on_t (z_on_t (z_on_t (z_on_t (z_on_h rfl (by omega) (by omega))))))))))) | exact z_on_t (z_on_t (z_on_t (z_on_t (z_on_t (z_on_t (z_on_t (z_on_t (z_on_t (z_on_t (z_on_t (z_on_h rfl (by omega) (by omega)))))))))))) | exact z_on_t (z_on_t (z_on_t (z_on_t (z_on_t (z_on_t (z_on_t (z_on_t (z_on_t (z_on_t (z_on_t (z_on_t (z_on_h rfl (by omega) (by omega))))))))))))))⟩
    · rw [cS_off (by omega), cS_up1 (by omega), cS_up2 (by omega), cS_pond]
      unfold hr_d1
      rw [if_pos c, cS_pondv, cS_at2 (j := k) (by omega), cS_at1 (j := k) (by omega)]
    · rw [zu_self]
  · have hb := u_hs_rng c
    rw [if_neg c, if_pos ⟨by omega, by omega⟩, s_drip_33 hs _ k e _ ⟨by omega, by omega⟩, Int.toNat_natCast, tn3]
    refine ⟨_, rfl, fun n => ?_, ?_, (((z_same.rf.upo (by (try unfold c_LD); (try unfold c_LP); (try unfold c_LQ); (try unfold c_LH); first | exact z_on_h rfl (by omega) (by omega) | exact z_on_t (z_on_h rfl (by omega) (by omega)) | exact z_on_t (z_on_t (z_on_h rfl (by omega) (by omega))) | exact z_on_t (z_on_t (z_on_t (z_on_h rfl (by omega) (by omega)))) | exact z_on_t (z_on_t (z_on_t (z_on_t (z_on_h rfl (by omega) (by omega))))) | exact z_on_t (z_on_t (z_on_t (z_on_t (z_on_t (z_on_h rfl (by omega) (by omega)))))) | exact z_on_t (z_on_t (z_on_t (z_on_t (z_on_t (z_on_t (z_on_h rfl (by omega) (by omega))))))) | exact z_on_t (z_on_t (z_on_t (z_on_t (z_on_t (z_on_t (z_on_t (z_on_h rfl (by omega) (by omega)))))))) | exact z_on_t (z_on_t (z_on_t (z_on_t (z_on_t (z_on_t (z_on_t (z_on_t (z_on_h rfl (by omega) (by omega))))))))) | exact z_on_t (z_on_t (z_on_t (z_on_t (z_on_t (z_on_t (z_on_t (z_on_t (z_on_t (z_on_h rfl (by omega) (by omega)))))))))) | exact z_on_t (z_on_t (z_on_t (z_on_t (z_on_t (z_on_t (z_on_t (z_on_t (z_on_t (z_on_t (z_on_h rfl (by omega) (by omega))))))))))) | exact z_on_t (z_on_t (z_on_t (z_on_t (z_on_t (z_on_t (z_on_t (z_on_t (z_on_t (z_on_t (z_on_t (z_on_h rfl (by omega) (by omega)))))))))))) | exact z_on_t (z_on_t (z_on_t (z_on_t (z_on_t (z_on_t (z_on_t (z_on_t (z_on_t (z_on_t (z_on_t (z_on_t (z_on_h rfl (by omega) (by omega))))))))))))))).upo (by (try unfold c_LD); (try unfold c_LP); (try unfold c_LQ); (try unfold c_LH); first | exact z_on_h rfl (by omega) (by omega) | exact z_on_t (z_on_h rfl (by omega) (by omega)) | exact z_on_t (z_on_t (z_on_h rfl (by omega) (by omega))) | exact z_on_t (z_on_t (z_on_t (z_on_h rfl (by omega) (by omega)))) | exact z_on_t (z_on_t (z_on_t (z_on_t (z_on_h rfl (by omega) (by omega))))) | exact z_on_t (z_on_t (z_on_t (z_on_t (z_on_t (z_on_h rfl (by omega) (by omega)))))) | exact z_on_t (z_on_t (z_on_t (z_on_t (z_on_t (z_on_t (z_on_h rfl (by omega) (by omega))))))) | exact z_on_t (z_on_t (z_on_t (z_on_t (z_on_t (z_on_t (z_on_t (z_on_h rfl (by omega) (by omega)))))))) | exact z_on_t (z_on_t (z_on_t (z_on_t (z_on_t (z_on_t (z_on_t (z_on_t (z_on_h rfl (by omega) (by omega))))))))) | exact z_on_t (z_on_t (z_on_t (z_on_t (z_on_t (z_on_t (z_on_t (z_on_t (z_on_t (z_on_h rfl (by omega) (by omega)))))))))) | exact z_on_t (z_on_t (z_on_t (z_on_t (z_on_t (z_on_t (z_on_t (z_on_t (z_on_t (z_on_t (z_on_h rfl (by omega) (by omega))))))))))) | exact z_on_t (z_on_t (z_on_t (z_on_t (z_on_t (z_on_t (z_on_t (z_on_t (z_on_t (z_on_t (z_on_t (z_on_h rfl (by omega) (by omega)))))))))))) | exact z_on_t (z_on_t (z_on_t (z_on_t (z_on_t (z_on_t (z_on_t (z_on_t (z_on_t (z_on_t (z_on_t (z_on_t (z_on_h rfl (by omega) (by omega))))))))))))))).upo (by (try unfold c_LD); (try unfold c_LP); (try unfold c_LQ); (try unfold c_LH); first | exact z_on_h rfl (by omega) (by omega) | exact z_on_t (z_on_h rfl (by omega) (by omega)) | exact z_on_t (z_on_t (z_on_h rfl (by omega) (by omega))) | exact z_on_t (z_on_t (z_on_t (z_on_h rfl (by omega) (by omega)))) | exact z_on_t (z_on_t (z_on_t (z_on_t (z_on_h rfl (by omega) (by omega))))) | exact z_on_t (z_on_t (z_on_t (z_on_t (z_on_t (z_on_h rfl (by omega) (by omega)))))) | exact z_on_t (z_on_t (z_on_t (z_on_t (z_on_t (z_on_t (z_on_h rfl (by omega) (by omega))))))) | exact z_on_t (z_on_t (z_on_t (z_on_t (z_on_t (z_on_t (z_on_t (z_on_h rfl (by omega) (by omega)))))))) | exact z_on_t (z_on_t (z_on_t (z_on_t (z_on_t (z_on_t (z_on_t (z_on_t (z_on_h rfl (by omega) (by omega))))))))) | exact z_on_t (z_on_t (z_on_t (z_on_t (z_on_t (z_on_t (z_on_t (z_on_t (z_on_t (z_on_h rfl (by omega) (by omega)))))))))) | exact z_on_t (z_on_t (z_on_t (z_on_t (z_on_t (z_on_t (z_on_t (z_on_t (z_on_t (z_on_t (z_on_h rfl (by omega) (by omega))))))))))) | exact z_on_t (z_on_t (z_on_t (z_on_t (z_on_t (z_on_t (z_on_t (z_on_t (z_on_t (z_on_t (z_on_t (z_on_h rfl (by omega) (by omega)))))))))))) | exact z_on_t (z_on_t (z_on_t (z_on_t (z_on_t (z_on_t (z_on_t (z_on_t (z_on_t (z_on_t (z_on_t (z_on_t (z_on_h rfl (by omega) (by omega))))))))))))))).upo (by (try unfold c_LD); (try unfold c_LP); (try unfold c_LQ); (try unfold c_LH); first | exact z_on_h rfl (by omega) (by omega) | exact z_on_t (z_on_h rfl (by omega) (by omega)) | exact z_on_t (z_on_t (z_on_h rfl (by omega) (by omega))) | exact z_on_t (z_on_t (z_on_t (z_on_h rfl (by omega) (by omega)))) | exact z_on_t (z_on_t (z_on_t (z_on_t (z_on_h rfl (by omega) (by omega))))) | exact z_on_t (z_on_t (z_on_t (z_on_t (z_on_t (z_on_h rfl (by omega) (by omega)))))) | exact z_on_t (z_on_t (z_on_t (z_on_t (z_on_t (z_on_t (z_on_h rfl (by omega) (by omega))))))) | exact z_on_t (z_on_t (z_on_t (z_on_t (z_on_t (z_on_t (z_on_t (z_on_h rfl (by omega) (by omega)))))))) | exact z_on_t (z_on_t (z_on_t (z_on_t (z_on_t (z_on_t (z_on_t (z_on_t (z_on_h rfl (by omega) (by omega))))))))) | exact z_on_t (z_on_t (z_on_t (z_on_t (z_on_t (z_on_t (z_on_t (z_on_t (z_on_t (z_on_h rfl (by omega) (by omega)))))))))) | exact z_on_t (z_on_t (z_on_t (z_on_t (z_on_t (z_on_t (z_on_t (z_on_t (z_on_t (z_on_t (z_on_h rfl (by omega) (by omega))))))))))) | exact z_on_t (z_on_t (z_on_t (z_on_t (z_on_t (z_on_t (z_on_t (z_on_t (z_on_t (z_on_t (z_on_t (z_on_h rfl (by omega) (by omega)))))))))))) | exact z_on_t (z_on_t (z_on_t (z_on_t (z_on_t (z_on_t (z_on_t (z_on_t (z_on_t (z_on_t (z_on_t (z_on_t (z_on_h rfl (by omega) (by omega))))))))))))))⟩
    · rw [cS_off (by omega), cS_up1 (by omega), cS_up2 (by omega), cS_up2 (by omega), zu_p (by omega)]
      unfold hr_d1
      rw [if_neg c, cS_at2 (j := k) (by omega), cS_at1 (j := k) (by omega), show k + 12 = k + 3 + 9 by omega, cS_at2 (j := k + 3) (by omega)]
    · rw [zu_self, zu_p (by omega)]
/-- what the rule makes of seven numbers, and that the class's rule does so while its code stays -/
abbrev hr_M : Type := Int → Int → Int → Int → Int → Int → Int → Int
noncomputable def c_Hml (ml : hr_M) (m : z_M) : Prop := ∀ m2 : z_M, m2 5 = m 5 → m2 4 3 = m 4 3 → ∀ w i a f y n h : Int, ∃ m', z_R 71 (m2, 0, [(2, 4), (0, w), (0, i), (0, a), (0, f), (0, y), (0, n), (0, h), (9, 0), (9, 0), (9, 0)], []) = some (m', some (0, ml w i a f y n h)) ∧ z_same [(6, 0, 39), (7, 0, 6)] m2 m'
def hr_e (ml : hr_M) (W C : Nat → Int) (r : Nat) (A : Nat → Int) : Int := if A r = 0 then 0 else ml (W r) (A r) (A (r + 9)) (A 36) ((r : Int) / 3) (C r) (A 35)
def hr_d (w h b : Int) (ml : hr_M) (W C : Nat → Int) : Nat → (Nat → Int) → Int → (Nat → Int) × Int
  | 0, A, t => (A, t)
  | r + 1, A, t => if z_and (z_shr b (r : Int)) 1 = 0 then hr_d w h b ml W C r A t else hr_d w h b ml W C r (hr_d1 (u_hs w h ((r : Int) + 3)) (hr_e ml W C r A) r A) (z_add t (hr_e ml W C r A))
theorem c_p1 {s : Nat} (hs : z_st s) {ml : hr_M} {b w h : Int} {n : Nat} : ∀ (f : Nat) (x3 : Int) (v4 v5 : z_V) (m : z_M), x3 = (f : Int) - 1 → f ≤ 9 → c_Hml ml m → m 3 8 = w → m 3 9 = h → ∃ m' v4' v5', z_R 68 (m, 8, [(2, 24), (2, ((s : Nat) : Int)), (0, b), (0, x3), v4, v5], []) = z_R 68 (z_up (z_up m' 24 10 0) 24 11 0, 106, [(2, 24), (2, ((s : Nat) : Int)), (0, b), (0, 0), v4', v5'], []) ∧ (cS m' s n, m' 24 6) = hr_d w h b ml (m 25) (m 26) f (cS m s n) (m 24 6) ∧ z_same (c_LD s) m m' := by
  have hs2 := hs.2
  intro f
  induction f with
  | zero =>
    intro x3 v4 v5 m hx hf hm hw hh
    rw [s_pass_8 hs m b x3 v4 v5 ⟨by omega, by omega⟩, if_pos (by omega)]
    exact ⟨m, v4, v5, rfl, rfl, z_same.rf⟩
  | succ f ih =>
    intro x3 v4 v5 m hx hf hm hw hh
    obtain rfl : x3 = (f : Int) := by omega
    rw [s_pass_8 hs m b f v4 v5 ⟨by omega, by omega⟩, if_neg (by omega), Int.toNat_natCast]
    unfold hr_d
    by_cases c1 : z_and (z_shr b (f : Int)) 1 = 0
    · rw [if_pos c1, if_pos c1]
      exact ih _ v4 v5 m rfl (by omega) hm hw hh
    rw [if_neg c1, if_neg c1]
    have go : ∀ (m1 : z_M) (u : Int) (v4 v5 : z_V), z_same (c_LD s) m m1 → cS m1 s n = cS m s n → m1 24 6 = m 24 6 → u = hr_e ml (m 25) (m 26) f (cS m s n) → ∃ m' v4' v5', ((z_R 73 (m1, 0, [(2, 24), (2, ((s : Nat) : Int)), (0, (f : Int)), (0, u), (9, 0)], [])).bind fun qq => z_R 68 (qq.1, 88, [(2, 24), (2, ((s : Nat) : Int)), (0, b), (0, (f : Int)), (0, m (s + 1) f), (0, u)], qq.2.toList ++ [])) = z_R 68 (z_up (z_up m' 24 10 0) 24 11 0, 106, [(2, 24), (2, ((s : Nat) : Int)), (0, b), (0, 0), v4', v5'], []) ∧ (cS m' s n, m' 24 6) = hr_d w h b ml (m 25) (m 26) f (hr_d1 (u_hs w h ((f : Int) + 3)) (hr_e ml (m 25) (m 26) f (cS m s n)) f (cS m s n)) (z_add (m 24 6) (hr_e ml (m 25) (m 26) f (cS m s n))) ∧ z_same (c_LD s) m m' := by
      intro m1 u v4 v5 sm eS e6 eu
      have g8 : m1 3 8 = w := (sm.of (by (try unfold c_LD); (try unfold c_LP); (try unfold c_LQ); (try unfold c_LH); (repeat' (first | exact trivial | refine z_of_c ?_ ?_)) <;> omega)).trans hw
      have g9 : m1 3 9 = h := (sm.of (by (try unfold c_LD); (try unfold c_LP); (try unfold c_LQ); (try unfold c_LH); (repeat' (first | exact trivial | refine z_of_c ?_ ?_)) <;> omega)).trans hh
      obtain ⟨m2, b1, b2, b3, b4⟩ := c_drip hs m1 (k := f) (e := u) (by omega)
      have b4' : z_same (c_LD s) m1 m2 := b4.subo (by (try unfold c_LD); (try unfold c_LP); (try unfold c_LQ); (try unfold c_LH); (repeat' (first | exact trivial | refine z_sbo_c ?_ ?_)) <;> (intro k h1 h2; first | exact z_on_h rfl (by omega) (by omega) | exact z_on_t (z_on_h rfl (by omega) (by omega)) | exact z_on_t (z_on_t (z_on_h rfl (by omega) (by omega))) | exact z_on_t (z_on_t (z_on_t (z_on_h rfl (by omega) (by omega)))) | exact z_on_t (z_on_t (z_on_t (z_on_t (z_on_h rfl (by omega) (by omega))))) | exact z_on_t (z_on_t (z_on_t (z_on_t (z_on_t (z_on_h rfl (by omega) (by omega)))))) | exact z_on_t (z_on_t (z_on_t (z_on_t (z_on_t (z_on_t (z_on_h rfl (by omega) (by omega))))))) | exact z_on_t (z_on_t (z_on_t (z_on_t (z_on_t (z_on_t (z_on_t (z_on_h rfl (by omega) (by omega)))))))) | exact z_on_t (z_on_t (z_on_t (z_on_t (z_on_t (z_on_t (z_on_t (z_on_t (z_on_h rfl (by omega) (by omega))))))))) | exact z_on_t (z_on_t (z_on_t (z_on_t (z_on_t (z_on_t (z_on_t (z_on_t (z_on_t (z_on_h rfl (by omega) (by omega)))))))))) | exact z_on_t (z_on_t (z_on_t (z_on_t (z_on_t (z_on_t (z_on_t (z_on_t (z_on_t (z_on_t (z_on_h rfl (by omega) (by omega))))))))))) | exact z_on_t (z_on_t (z_on_t (z_on_t (z_on_t (z_on_t (z_on_t (z_on_t (z_on_t (z_on_t (z_on_t (z_on_h rfl (by omega) (by omega)))))))))))) | exact z_on_t (z_on_t (z_on_t (z_on_t (z_on_t (z_on_t (z_on_t (z_on_t (z_on_t (z_on_t (z_on_t (z_on_t (z_on_h rfl (by omega) (by omega)))))))))))))))
      have sm2 := sm.tr b4'
      rw [b1, zb_n, s_pass_88 hs m2 b f _ _ ⟨by omega, by omega⟩]
      obtain ⟨m', v4', v5', d1, d2, d3⟩ := ih ((f : Int) - 1) (0, m (s + 1) f) (0, u) m2 rfl (by omega) (fun m3 z1 z2 => hm m3 (z1.trans (sm2.ofr (by (try unfold c_LD); (try unfold c_LP); (try unfold c_LQ); (try unfold c_LH); (repeat' (first | exact trivial | refine z_ofr_c ?_ ?_)) <;> omega))) (z2.trans (sm2.of (by (try unfold c_LD); (try unfold c_LP); (try unfold c_LQ); (try unfold c_LH); (repeat' (first | exact trivial | refine z_of_c ?_ ?_)) <;> omega)))) ((sm2.of (by (try unfold c_LD); (try unfold c_LP); (try unfold c_LQ); (try unfold c_LH); (repeat' (first | exact trivial | refine z_of_c ?_ ?_)) <;> omega)).trans hw) ((sm2.of (by (try unfold c_LD); (try unfold c_LP); (try unfold c_LQ); (try unfold c_LH); (repeat' (first | exact trivial | refine z_of_c ?_ ?_)) <;> omega)).trans hh)
      rw [sm2.ofr (p := 25) (by (try unfold c_LD); (try unfold c_LP); (try unfold c_LQ); (try unfold c_LH); (repeat' (first | exact trivial | refine z_ofr_c ?_ ?_)) <;> omega), sm2.ofr (p := 26) (by (try unfold c_LD); (try unfold c_LP); (try unfold c_LQ); (try unfold c_LH); (repeat' (first | exact trivial | refine z_ofr_c ?_ ?_)) <;> omega), b2, b3, eS, e6, g8, g9, eu] at d2
      exact ⟨m', v4', v5', d1, d2, sm2.tr d3⟩
    have e1 : cS m s n f = m (s + 1) f := cS_at1 (j := f) (by omega)
    by_cases c2 : m (s + 1) f = 0
    · rw [if_pos c2]
      have h0 : (0 : Int) = hr_e ml (m 25) (m 26) f (cS m s n) := by
        unfold hr_e
        rw [e1, if_pos c2]
      obtain ⟨m', v4', v5', z⟩ := go m 0 v4 v5 z_same.rf rfl rfl h0
      exact ⟨m', v4', v5', z⟩
    · rw [if_neg c2]
      obtain ⟨m1, b1, b2⟩ := hm m rfl rfl (m 25 f) (m (s + 1) f) (m (s + 2) f) (m s 8) ((f : Int) / 3) (m 26 f) (m s 7)
      have sm : z_same (c_LD s) m m1 := b2.subo (by (try unfold c_LD); (try unfold c_LP); (try unfold c_LQ); (try unfold c_LH); (repeat' (first | exact trivial | refine z_sbo_c ?_ ?_)) <;> (intro k h1 h2; first | exact z_on_h rfl (by omega) (by omega) | exact z_on_t (z_on_h rfl (by omega) (by omega)) | exact z_on_t (z_on_t (z_on_h rfl (by omega) (by omega))) | exact z_on_t (z_on_t (z_on_t (z_on_h rfl (by omega) (by omega)))) | exact z_on_t (z_on_t (z_on_t (z_on_t (z_on_h rfl (by omega) (by omega))))) | exact z_on_t (z_on_t (z_on_t (z_on_t (z_on_t (z_on_h rfl (by omega) (by omega)))))) | exact z_on_t (z_on_t (z_on_t (z_on_t (z_on_t (z_on_t (z_on_h rfl (by omega) (by omega))))))) | exact z_on_t (z_on_t (z_on_t (z_on_t (z_on_t (z_on_t (z_on_t (z_on_h rfl (by omega) (by omega)))))))) | exact z_on_t (z_on_t (z_on_t (z_on_t (z_on_t (z_on_t (z_on_t (z_on_t (z_on_h rfl (by omega) (by omega))))))))) | exact z_on_t (z_on_t (z_on_t (z_on_t (z_on_t (z_on_t (z_on_t (z_on_t (z_on_t (z_on_h rfl (by omega) (by omega)))))))))) | exact z_on_t (z_on_t (z_on_t (z_on_t (z_on_t (z_on_t (z_on_t (z_on_t (z_on_t (z_on_t (z_on_h rfl (by omega) (by omega))))))))))) | exact z_on_t (z_on_t (z_on_t (z_on_t (z_on_t (z_on_t (z_on_t (z_on_t (z_on_t (z_on_t (z_on_t (z_on_h rfl (by omega) (by omega)))))))))))) | exact z_on_t (z_on_t (z_on_t (z_on_t (z_on_t (z_on_t (z_on_t (z_on_t (z_on_t (z_on_t (z_on_t (z_on_t (z_on_h rfl (by omega) (by omega)))))))))))))))
      rw [b1, zb_v, s_pass_78 hs m1 b f _ v5 _ ⟨by omega, by omega⟩]
      have h0 : ml (m 25 f) (m (s + 1) f) (m (s + 2) f) (m s 8) ((f : Int) / 3) (m 26 f) (m s 7) = hr_e ml (m 25) (m 26) f (cS m s n) := by
        unfold hr_e
        rw [e1, if_neg c2, cS_at2 (j := f) (by omega), cS_frostv, cS_nowv]
      exact go m1 _ v4 v5 sm (cS_same b2 (by (try unfold c_LD); (try unfold c_LP); (try unfold c_LQ); (try unfold c_LH); (repeat' (first | exact trivial | refine z_ofr_c ?_ ?_)) <;> omega) (by (try unfold c_LD); (try unfold c_LP); (try unfold c_LQ); (try unfold c_LH); (repeat' (first | exact trivial | refine z_ofr_c ?_ ?_)) <;> omega) (by (try unfold c_LD); (try unfold c_LP); (try unfold c_LQ); (try unfold c_LH); (repeat' (first | exact trivial | refine z_ofr_c ?_ ?_)) <;> omega) (by (try unfold c_LD); (try unfold c_LP); (try unfold c_LQ); (try unfold c_LH); (repeat' (first | exact trivial | refine z_ofr_c ?_ ?_)) <;> omega) (by (try unfold c_LD); (try unfold c_LP); (try unfold c_LQ); (try unfold c_LH); (repeat' (first | exact trivial | refine z_ofr_c ?_ ?_)) <;> omega) (by (try unfold c_LD); (try unfold c_LP); (try unfold c_LQ); (try unfold c_LH); (repeat' (first | exact trivial | refine z_ofr_c ?_ ?_)) <;> omega)) (b2.of (by (try unfold c_LD); (try unfold c_LP); (try unfold c_LQ); (try unfold c_LH); (repeat' (first | exact trivial | refine z_of_c ?_ ?_)) <;> omega)) h0
/-- a room freezes -/
def hr_v (f w i : Int) : Int := if z_sub 99 i < (if w < f then w else f) then z_sub 99 i else (if w < f then w else f)
def hr_f (r : Nat) (A : Nat → Int) : Nat → Int := u_up (u_up A (r + 9) (z_sub (A (r + 9)) (hr_v (A 36) (A (r + 9)) (A r)))) r (z_add (A r) (hr_v (A 36) (A (r + 9)) (A r)))
theorem c_frz {s : Nat} (hs : z_st s) (m : z_M) {k : Nat} (hk : k < 9) : ∃ m', z_R 74 (m, 0, [(2, 24), (2, ((s : Nat) : Int)), (0, (k : Int)), (9, 0)], []) = some (m', none) ∧ (∀ n, cS m' s n = hr_f k (cS m s n)) ∧ z_same [(s + 1, 0, 8), (s + 2, 0, 8)] m m' := by
  have hs2 := hs.2
  rw [s_frz_0 hs m k ⟨by omega, by omega⟩, Int.toNat_natCast]
  refine ⟨_, rfl, fun n => ?_, (z_same.rf.upo (by (try unfold c_LD); (try unfold c_LP); (try unfold c_LQ); (try unfold c_LH); first | exact z_on_h rfl (by omega) (by omega) | exact z_on_t (z_on_h rfl (by omega) (by omega)) | exact z_on_t (z_on_t (z_on_h rfl (by omega) (by omega))) | exact z_on_t (z_on_t (z_on_t (z_on_h rfl (by omega) (by omega)))) | exact z_on_t (z_on_t (z_on_t (z_on_t (z_on_h rfl (by omega) (by omega))))) | exact z_on_t (z_on_t (z_on_t (z_on_t (z_on_t (z_on_h rfl (by omega) (by omega)))))) | exact z_on_t (z_on_t (z_on_t (z_on_t (z_on_t (z_on_t (z_on_h rfl (by omega) (by omega))))))) | exact z_on_t (z_on_t (z_on_t (z_on_t (z_on_t (z_on_t (z_on_t (z_on_h rfl (by omega) (by omega)))))))) | exact z_on_t (z_on_t (z_on_t (z_on_t (z_on_t (z_on_t (z_on_t (z_on_t (z_on_h rfl (by omega) (by omega))))))))) | exact z_on_t (z_on_t (z_on_t (z_on_t (z_on_t (z_on_t (z_on_t (z_on_t (z_on_t (z_on_h rfl (by omega) (by omega)))))))))) | exact z_on_t (z_on_t (z_on_t (z_on_t (z_on_t (z_on_t (z_on_t (z_on_t (z_on_t (z_on_t (z_on_h rfl (by omega) (by omega))))))))))) | exact z_on_t (z_on_t (z_on_t (z_on_t (z_on_t (z_on_t (z_on_t (z_on_t (z_on_t (z_on_t (z_on_t (z_on_h rfl (by omega) (by omega)))))))))))) | exact z_on_t (z_on_t (z_on_t (z_on_t (z_on_t (z_on_t (z_on_t (z_on_t (z_on_t (z_on_t (z_on_t (z_on_t (z_on_h rfl (by omega) (by omega))))))))))))))).upo (by (try unfold c_LD); (try unfold c_LP); (try unfold c_LQ); (try unfold c_LH); first | exact z_on_h rfl (by omega) (by omega) | exact z_on_t (z_on_h rfl (by omega) (by omega)) | exact z_on_t (z_on_t (z_on_h rfl (by omega) (by omega))) | exact z_on_t (z_on_t (z_on_t (z_on_h rfl (by omega) (by omega)))) | exact z_on_t (z_on_t (z_on_t (z_on_t (z_on_h rfl (by omega) (by omega))))) | exact z_on_t (z_on_t (z_on_t (z_on_t (z_on_t (z_on_h rfl (by omega) (by omega)))))) | exact z_on_t (z_on_t (z_on_t (z_on_t (z_on_t (z_on_t (z_on_h rfl (by omega) (by omega))))))) | exact z_on_t (z_on_t (z_on_t (z_on_t (z_on_t (z_on_t (z_on_t (z_on_h rfl (by omega) (by omega)))))))) | exact z_on_t (z_on_t (z_on_t (z_on_t (z_on_t (z_on_t (z_on_t (z_on_t (z_on_h rfl (by omega) (by omega))))))))) | exact z_on_t (z_on_t (z_on_t (z_on_t (z_on_t (z_on_t (z_on_t (z_on_t (z_on_t (z_on_h rfl (by omega) (by omega)))))))))) | exact z_on_t (z_on_t (z_on_t (z_on_t (z_on_t (z_on_t (z_on_t (z_on_t (z_on_t (z_on_t (z_on_h rfl (by omega) (by omega))))))))))) | exact z_on_t (z_on_t (z_on_t (z_on_t (z_on_t (z_on_t (z_on_t (z_on_t (z_on_t (z_on_t (z_on_t (z_on_h rfl (by omega) (by omega)))))))))))) | exact z_on_t (z_on_t (z_on_t (z_on_t (z_on_t (z_on_t (z_on_t (z_on_t (z_on_t (z_on_t (z_on_t (z_on_t (z_on_h rfl (by omega) (by omega))))))))))))))⟩
  rw [cS_up1 (by omega), cS_up2 (by omega)]
  unfold hr_f hr_v
  rw [cS_frostv, cS_at2 (j := k) (by omega), cS_at1 (j := k) (by omega)]
/-- those in a room that gives -/
def hr_p (r to : Int) : Nat → Nat → (Nat → Int) → Int → Int → (Nat → Int) × Int × Int
  | 0, _, A, fb, fm => (A, fb, fm)
  | f + 1, x, A, fb, fm => if A (x + 18) = r then hr_p r to f (x + 1) (u_up (u_up A (x + 18) to) (x + 28) (z_add (A (x + 28)) 1)) (z_or fb (z_shl 1 (x : Int))) (z_add fm 1) else hr_p r to f (x + 1) A fb fm
theorem c_drop1 {s : Nat} (hs : z_st s) {n : Nat} (hn5 : n ≤ 5) {r to : Int} : ∀ (f x : Nat) (m : z_M), x + f = n → m 3 11 = (n : Int) → ∃ m', z_R 75 (m, 24, [(2, 24), (2, ((s : Nat) : Int)), (0, r), (0, to), (0, (x : Int))], []) = (if m' s 6 = r then some (z_up m' s 6 to, none) else some (m', none)) ∧ (cS m' s n, m' 24 11, m' 24 9) = hr_p r to f x (cS m s n) (m 24 11) (m 24 9) ∧ z_same (c_LP s) m m' := by
  have hs2 := hs.2
  intro f
  induction f with
  | zero =>
    intro x m hx hn
    rw [s_drop_24 hs m r to x ⟨by omega, by omega⟩ ⟨by omega, by omega⟩, if_pos (by omega)]
    exact ⟨m, rfl, rfl, z_same.rf⟩
  | succ f ih =>
    intro x m hx hn
    have eA : cS m s n (x + 18) = m (s + 3) x := cS_at3 (by omega) (by omega)
    rw [s_drop_24 hs m r to x ⟨by omega, by omega⟩ ⟨by omega, by omega⟩, if_neg (by omega), Int.toNat_natCast, tc1]
    unfold hr_p
    rw [eA]
    by_cases c1 : m (s + 3) x = r
    · rw [if_pos c1, if_pos c1]
      have sm : z_same (c_LP s) m (z_up (z_up (z_up (z_up m (s + 3) x to) (s + 5) x (z_add (m (s + 5) x) 1)) 24 11 (z_or (m 24 11) (z_shl 1 (x : Int)))) 24 9 (z_add (m 24 9) 1)) := (((z_same.rf.upo (by (try unfold c_LD); (try unfold c_LP); (try unfold c_LQ); (try unfold c_LH); first | exact z_on_h rfl (by omega) (by omega) | exact z_on_t (z_on_h rfl (by omega) (by omega)) | exact z_on_t (z_on_t (z_on_h rfl (by omega) (by omega))) | exact z_on_t (z_on_t (z_on_t (z_on_h rfl (by omega) (by omega)))) | exact z_on_t (z_on_t (z_on_t (z_on_t (z_on_h rfl (by omega) (by omega))))) | exact z_on_t (z_on_t (z_on_t (z_on_t (z_on_t (z_on_h rfl (by omega) (by omega)))))) | exact z_on_t (z_on_t (z_on_t (z_on_t (z_on_t (z_on_t (z_on_h rfl (by omega) (by omega))))))) | exact z_on_t (z_on_t (z_on_t (z_on_t (z_on_t (z_on_t (z_on_t (z_on_h rfl (by omega) (by omega)))))))) | exact z_on_t (z_on_t (z_on_t (z_on_t (z_on_t (z_on_t (z_on_t (z_on_t (z_on_h rfl (by omega) (by omega))))))))) | exact z_on_t (z_on_t (z_on_t (z_on_t (z_on_t (z_on_t (z_on_t (z_on_t (z_on_t (z_on_h rfl (by omega) (by omega)))))))))) | exact z_on_t (z_on_t (z_on_t (z_on_t (z_on_t (z_on_t (z_on_t (z_on_t (z_on_t (z_on_t (z_on_h rfl (by omega) (by omega))))))))))) | exact z_on_t (z_on_t (z_on_t (z_on_t (z_on_t (z_on_t (z_on_t (z_on_t (z_on_t (z_on_t (z_on_t (z_on_h rfl (by omega) (by omega)))))))))))) | exact z_on_t (z_on_t (z_on_t (z_on_t (z_on_t (z_on_t (z_on_t (z_on_t (z_on_t (z_on_t (z_on_t (z_on_t (z_on_h rfl (by omega) (by omega))))))))))))))).upo (by (try unfold c_LD); (try unfold c_LP); (try unfold c_LQ); (try unfold c_LH); first | exact z_on_h rfl (by omega) (by omega) | exact z_on_t (z_on_h rfl (by omega) (by omega)) | exact z_on_t (z_on_t (z_on_h rfl (by omega) (by omega))) | exact z_on_t (z_on_t (z_on_t (z_on_h rfl (by omega) (by omega)))) | exact z_on_t (z_on_t (z_on_t (z_on_t (z_on_h rfl (by omega) (by omega))))) | exact z_on_t (z_on_t (z_on_t (z_on_t (z_on_t (z_on_h rfl (by omega) (by omega)))))) | exact z_on_t (z_on_t (z_on_t (z_on_t (z_on_t (z_on_t (z_on_h rfl (by omega) (by omega))))))) | exact z_on_t (z_on_t (z_on_t (z_on_t (z_on_t (z_on_t (z_on_t (z_on_h rfl (by omega) (by omega)))))))) | exact z_on_t (z_on_t (z_on_t (z_on_t (z_on_t (z_on_t (z_on_t (z_on_t (z_on_h rfl (by omega) (by omega))))))))) | exact z_on_t (z_on_t (z_on_t (z_on_t (z_on_t (z_on_t (z_on_t (z_on_t (z_on_t (z_on_h rfl (by omega) (by omega)))))))))) | exact z_on_t (z_on_t (z_on_t (z_on_t (z_on_t (z_on_t (z_on_t (z_on_t (z_on_t (z_on_t (z_on_h rfl (by omega) (by omega))))))))))) | exact z_on_t (z_on_t (z_on_t (z_on_t (z_on_t (z_on_t (z_on_t (z_on_t (z_on_t (z_on_t (z_on_t (z_on_h rfl (by omega) (by omega)))))))))))) | exact z_on_t (z_on_t (z_on_t (z_on_t (z_on_t (z_on_t (z_on_t (z_on_t (z_on_t (z_on_t (z_on_t (z_on_t (z_on_h rfl (by omega) (by omega))))))))))))))).upo (by (try unfold c_LD); (try unfold c_LP); (try unfold c_LQ); (try unfold c_LH); first | exact z_on_h rfl (by omega) (by omega) | exact z_on_t (z_on_h rfl (by omega) (by omega)) | exact z_on_t (z_on_t (z_on_h rfl (by omega) (by omega))) | exact z_on_t (z_on_t (z_on_t (z_on_h rfl (by omega) (by omega)))) | exact z_on_t (z_on_t (z_on_t (z_on_t (z_on_h rfl (by omega) (by omega))))) | exact z_on_t (z_on_t (z_on_t (z_on_t (z_on_t (z_on_h rfl (by omega) (by omega)))))) | exact z_on_t (z_on_t (z_on_t (z_on_t (z_on_t (z_on_t (z_on_h rfl (by omega) (by omega))))))) | exact z_on_t (z_on_t (z_on_t (z_on_t (z_on_t (z_on_t (z_on_t (z_on_h rfl (by omega) (by omega)))))))) | exact z_on_t (z_on_t (z_on_t (z_on_t (z_on_t (z_on_t (z_on_t (z_on_t (z_on_h rfl (by omega) (by omega))))))))) | exact z_on_t (z_on_t (z_on_t (z_on_t (z_on_t (z_on_t (z_on_t (z_on_t (z_on_t (z_on_h rfl (by omega) (by omega)))))))))) | exact z_on_t (z_on_t (z_on_t (z_on_t (z_on_t (z_on_t (z_on_t (z_on_t (z_on_t (z_on_t (z_on_h rfl (by omega) (by omega))))))))))) | exact z_on_t (z_on_t (z_on_t (z_on_t (z_on_t (z_on_t (z_on_t (z_on_t (z_on_t (z_on_t (z_on_t (z_on_h rfl (by omega) (by omega)))))))))))) | exact z_on_t (z_on_t (z_on_t (z_on_t (z_on_t (z_on_t (z_on_t (z_on_t (z_on_t (z_on_t (z_on_t (z_on_t (z_on_h rfl (by omega) (by omega))))))))))))))).upo (by (try unfold c_LD); (try unfold c_LP); (try unfold c_LQ); (try unfold c_LH); first | exact z_on_h rfl (by omega) (by omega) | exact z_on_t (z_on_h rfl (by omega) (by omega)) | exact z_on_t (z_on_t (z_on_h rfl (by omega) (by omega))) | exact z_on_t (z_on_t (z_on_t (z_on_h rfl (by omega) (by omega)))) | exact z_on_t (z_on_t (z_on_t (z_on_t (z_on_h rfl (by omega) (by omega))))) | exact z_on_t (z_on_t (z_on_t (z_on_t (z_on_t (z_on_h rfl (by omega) (by omega)))))) | exact z_on_t (z_on_t (z_on_t (z_on_t (z_on_t (z_on_t (z_on_h rfl (by omega) (by omega))))))) | exact z_on_t (z_on_t (z_on_t (z_on_t (z_on_t (z_on_t (z_on_t (z_on_h rfl (by omega) (by omega)))))))) | exact z_on_t (z_on_t (z_on_t (z_on_t (z_on_t (z_on_t (z_on_t (z_on_t (z_on_h rfl (by omega) (by omega))))))))) | exact z_on_t (z_on_t (z_on_t (z_on_t (z_on_t (z_on_t (z_on_t (z_on_t (z_on_t (z_on_h rfl (by omega) (by omega)))))))))) | exact z_on_t (z_on_t (z_on_t (z_on_t (z_on_t (z_on_t (z_on_t (z_on_t (z_on_t (z_on_t (z_on_h rfl (by omega) (by omega))))))))))) | exact z_on_t (z_on_t (z_on_t (z_on_t (z_on_t (z_on_t (z_on_t (z_on_t (z_on_t (z_on_t (z_on_t (z_on_h rfl (by omega) (by omega)))))))))))) | exact z_on_t (z_on_t (z_on_t (z_on_t (z_on_t (z_on_t (z_on_t (z_on_t (z_on_t (z_on_t (z_on_t (z_on_t (z_on_h rfl (by omega) (by omega))))))))))))))
      generalize hm1 : z_up (z_up (z_up (z_up m (s + 3) x to) (s + 5) x (z_add (m (s + 5) x) 1)) 24 11 (z_or (m 24 11) (z_shl 1 (x : Int)))) 24 9 (z_add (m 24 9) 1) = m1 at sm ⊢
      have e11 : m1 24 11 = z_or (m 24 11) (z_shl 1 (x : Int)) := by rw [← hm1, zu_k (by decide), zu_self]
      have e9 : m1 24 9 = z_add (m 24 9) 1 := by rw [← hm1, zu_self]
      have eS : cS m1 s n = u_up (u_up (cS m s n) (x + 18) to) (x + 28) (z_add (cS m s n (x + 28)) 1) := by
        rw [← hm1, cS_off (by omega), cS_off (by omega), cS_up5 (by omega) (by omega), cS_up3 (by omega) (by omega), cS_at5 (j := x) (by omega) (by omega)]
      obtain ⟨m', a1, a2, a3⟩ := ih (x + 1) m1 (by omega) ((sm.of (by (try unfold c_LD); (try unfold c_LP); (try unfold c_LQ); (try unfold c_LH); (repeat' (first | exact trivial | refine z_of_c ?_ ?_)) <;> omega)).trans hn)
      rw [e11, e9, eS] at a2
      exact ⟨m', a1, a2, sm.tr a3⟩
    · rw [if_neg c1, if_neg c1]
      exact ih (x + 1) m (by omega) hn
def hr_to (w h : Int) (r : Nat) : Int := if u_hs w h ((r : Int) + 3) = 0 then -1 else (r : Int) + 3
def hr_st (r to : Int) (A : Nat → Int) : Nat → Int := if A 34 = r then u_up A 34 to else A
theorem c_drop {s : Nat} (hs : z_st s) {n : Nat} (hn5 : n ≤ 5) (m : z_M) {k : Nat} (hk : k < 9) (hn : m 3 11 = (n : Int)) : ∃ m', z_R 75 (m, 0, [(2, 24), (2, ((s : Nat) : Int)), (0, (k : Int)), (9, 0), (9, 0)], []) = some (m', none) ∧ (cS m' s n, m' 24 11, m' 24 9) = (hr_st k (hr_to (m 3 8) (m 3 9) k) (hr_p k (hr_to (m 3 8) (m 3 9) k) n 0 (cS m s n) (m 24 11) (m 24 9)).1, (hr_p k (hr_to (m 3 8) (m 3 9) k) n 0 (cS m s n) (m 24 11) (m 24 9)).2) ∧ z_same (c_LP s) m m' := by
  have hs2 := hs.2
  rw [s_drop_0 hs m k ⟨by omega, by omega⟩, c_hasv, zb_v, s_drop_10 hs m k _ ⟨by omega, by omega⟩]
  have go : ∀ to : Int, to = hr_to (m 3 8) (m 3 9) k → ∃ m', z_R 75 (m, 24, [(2, 24), (2, ((s : Nat) : Int)), (0, (k : Int)), (0, to), (0, 0)], []) = some (m', none) ∧ (cS m' s n, m' 24 11, m' 24 9) = (hr_st k (hr_to (m 3 8) (m 3 9) k) (hr_p k (hr_to (m 3 8) (m 3 9) k) n 0 (cS m s n) (m 24 11) (m 24 9)).1, (hr_p k (hr_to (m 3 8) (m 3 9) k) n 0 (cS m s n) (m 24 11) (m 24 9)).2) ∧ z_same (c_LP s) m m' := by
    intro to hto
    obtain ⟨m1, a1, a2, a3⟩ := c_drop1 hs hn5 (r := k) (to := to) n 0 m (by omega) hn
    rw [show ((0 : Nat) : Int) = 0 from rfl] at a1
    rw [a1, ← hto, ← a2]
    unfold hr_st
    simp only
    rw [cS_stovev]
    by_cases c : m1 s 6 = (k : Int)
    · rw [if_pos c, if_pos c]
      refine ⟨_, rfl, ?_, a3.upo (by (try unfold c_LD); (try unfold c_LP); (try unfold c_LQ); (try unfold c_LH); first | exact z_on_h rfl (by omega) (by omega) | exact z_on_t (z_on_h rfl (by omega) (by omega)) | exact z_on_t (z_on_t (z_on_h rfl (by omega) (by omega))) | exact z_on_t (z_on_t (z_on_t (z_on_h rfl (by omega) (by omega)))) | exact z_on_t (z_on_t (z_on_t (z_on_t (z_on_h rfl (by omega) (by omega))))) | exact z_on_t (z_on_t (z_on_t (z_on_t (z_on_t (z_on_h rfl (by omega) (by omega)))))) | exact z_on_t (z_on_t (z_on_t (z_on_t (z_on_t (z_on_t (z_on_h rfl (by omega) (by omega))))))) | exact z_on_t (z_on_t (z_on_t (z_on_t (z_on_t (z_on_t (z_on_t (z_on_h rfl (by omega) (by omega)))))))) | exact z_on_t (z_on_t (z_on_t (z_on_t (z_on_t (z_on_t (z_on_t (z_on_t (z_on_h rfl (by omega) (by omega))))))))) | exact z_on_t (z_on_t (z_on_t (z_on_t (z_on_t (z_on_t (z_on_t (z_on_t (z_on_t (z_on_h rfl (by omega) (by omega)))))))))) | exact z_on_t (z_on_t (z_on_t (z_on_t (z_on_t (z_on_t (z_on_t (z_on_t (z_on_t (z_on_t (z_on_h rfl (by omega) (by omega))))))))))) | exact z_on_t (z_on_t (z_on_t (z_on_t (z_on_t (z_on_t (z_on_t (z_on_t (z_on_t (z_on_t (z_on_t (z_on_h rfl (by omega) (by omega)))))))))))) | exact z_on_t (z_on_t (z_on_t (z_on_t (z_on_t (z_on_t (z_on_t (z_on_t (z_on_t (z_on_t (z_on_t (z_on_t (z_on_h rfl (by omega) (by omega))))))))))))))⟩
      rw [cS_stove, zu_p (by omega), zu_p (by omega)]
    · rw [if_neg c, if_neg c]
      exact ⟨m1, rfl, rfl, a3⟩
  unfold hr_to at go ⊢
  by_cases c : u_hs (m 3 8) (m 3 9) ((k : Int) + 3) = 0
  · rw [if_pos c] at go ⊢
    rw [if_pos c]
    exact go (-1) rfl
  · rw [if_neg c] at go ⊢
    rw [if_neg c]
    exact go ((k : Int) + 3) rfl
def hr_q (w h b : Int) (n : Nat) : Nat → Nat → (Nat → Int) → Int → Int → Int → (Nat → Int) × Int × Int × Int
  | 0, _, A, g, fb, fm => (A, g, fb, fm)
  | f + 1, x, A, g, fb, fm => if z_and (z_shr b (x : Int)) 1 = 0 then hr_q w h b n f (x + 1) A g fb fm else
    if hr_f x A x = 0 then hr_q w h b n f (x + 1) (hr_st x (hr_to w h x) (hr_p x (hr_to w h x) n 0 (hr_f x A) fb fm).1) (z_or g (z_shl 1 (x : Int))) (hr_p x (hr_to w h x) n 0 (hr_f x A) fb fm).2.1 (hr_p x (hr_to w h x) n 0 (hr_f x A) fb fm).2.2 else hr_q w h b n f (x + 1) (hr_f x A) g fb fm
theorem c_p2 {s : Nat} (hs : z_st s) {b w h : Int} {n : Nat} (hn5 : n ≤ 5) : ∀ (f x : Nat) (v4 v5 : z_V) (m : z_M), x + f = 9 → m 3 8 = w → m 3 9 = h → m 3 11 = (n : Int) → ∃ m', z_R 68 (m, 106, [(2, 24), (2, ((s : Nat) : Int)), (0, b), (0, (x : Int)), v4, v5], []) = some (z_up (z_up (z_up m' 24 7 (z_or (m' 24 7) (m' 24 10))) 24 8 (z_or (m' 24 8) (m' 24 11))) s 7 (z_add (m' s 7) 1), none) ∧ (cS m' s n, m' 24 10, m' 24 11, m' 24 9) = hr_q w h b n f x (cS m s n) (m 24 10) (m 24 11) (m 24 9) ∧ m' 24 7 = m 24 7 ∧ m' 24 8 = m 24 8 ∧ z_same (c_LQ s) m m' := by
  have hs2 := hs.2
  intro f
  induction f with
  | zero =>
    intro x v4 v5 m hx hw hh hn
    rw [s_pass_106 hs m b x v4 v5 ⟨by omega, by omega⟩, if_pos (by omega)]
    exact ⟨m, rfl, rfl, rfl, rfl, z_same.rf⟩
  | succ f ih =>
    intro x v4 v5 m hx hw hh hn
    rw [s_pass_106 hs m b x v4 v5 ⟨by omega, by omega⟩, if_neg (by omega), tc1]
    unfold hr_q
    by_cases c1 : z_and (z_shr b (x : Int)) 1 = 0
    · rw [if_pos c1, if_pos c1]
      exact ih (x + 1) v4 v5 m (by omega) hw hh hn
    rw [if_neg c1, if_neg c1]
    obtain ⟨m1, a1, a2, a3⟩ := c_frz hs m (k := x) (by omega)
    have s1 : z_same (c_LQ s) m m1 := a3.subo (by (try unfold c_LD); (try unfold c_LP); (try unfold c_LQ); (try unfold c_LH); (repeat' (first | exact trivial | refine z_sbo_c ?_ ?_)) <;> (intro k h1 h2; first | exact z_on_h rfl (by omega) (by omega) | exact z_on_t (z_on_h rfl (by omega) (by omega)) | exact z_on_t (z_on_t (z_on_h rfl (by omega) (by omega))) | exact z_on_t (z_on_t (z_on_t (z_on_h rfl (by omega) (by omega)))) | exact z_on_t (z_on_t (z_on_t (z_on_t (z_on_h rfl (by omega) (by omega))))) | exact z_on_t (z_on_t (z_on_t (z_on_t (z_on_t (z_on_h rfl (by omega) (by omega)))))) | exact z_on_t (z_on_t (z_on_t (z_on_t (z_on_t (z_on_t (z_on_h rfl (by omega) (by omega))))))) | exact z_on_t (z_on_t (z_on_t (z_on_t (z_on_t (z_on_t (z_on_t (z_on_h rfl (by omega) (by omega)))))))) | exact z_on_t (z_on_t (z_on_t (z_on_t (z_on_t (z_on_t (z_on_t (z_on_t (z_on_h rfl (by omega) (by omega))))))))) | exact z_on_t (z_on_t (z_on_t (z_on_t (z_on_t (z_on_t (z_on_t (z_on_t (z_on_t (z_on_h rfl (by omega) (by omega)))))))))) | exact z_on_t (z_on_t (z_on_t (z_on_t (z_on_t (z_on_t (z_on_t (z_on_t (z_on_t (z_on_t (z_on_h rfl (by omega) (by omega))))))))))) | exact z_on_t (z_on_t (z_on_t (z_on_t (z_on_t (z_on_t (z_on_t (z_on_t (z_on_t (z_on_t (z_on_t (z_on_h rfl (by omega) (by omega)))))))))))) | exact z_on_t (z_on_t (z_on_t (z_on_t (z_on_t (z_on_t (z_on_t (z_on_t (z_on_t (z_on_t (z_on_t (z_on_t (z_on_h rfl (by omega) (by omega)))))))))))))))
    have e10 : m1 24 10 = m 24 10 := a3.of (by (try unfold c_LD); (try unfold c_LP); (try unfold c_LQ); (try unfold c_LH); (repeat' (first | exact trivial | refine z_of_c ?_ ?_)) <;> omega)
    have e11 : m1 24 11 = m 24 11 := a3.of (by (try unfold c_LD); (try unfold c_LP); (try unfold c_LQ); (try unfold c_LH); (repeat' (first | exact trivial | refine z_of_c ?_ ?_)) <;> omega)
    have e9 : m1 24 9 = m 24 9 := a3.of (by (try unfold c_LD); (try unfold c_LP); (try unfold c_LQ); (try unfold c_LH); (repeat' (first | exact trivial | refine z_of_c ?_ ?_)) <;> omega)
    have e7 : m1 24 7 = m 24 7 := a3.of (by (try unfold c_LD); (try unfold c_LP); (try unfold c_LQ); (try unfold c_LH); (repeat' (first | exact trivial | refine z_of_c ?_ ?_)) <;> omega)
    have e8 : m1 24 8 = m 24 8 := a3.of (by (try unfold c_LD); (try unfold c_LP); (try unfold c_LQ); (try unfold c_LH); (repeat' (first | exact trivial | refine z_of_c ?_ ?_)) <;> omega)
    have g8 : m1 3 8 = w := (s1.of (by (try unfold c_LD); (try unfold c_LP); (try unfold c_LQ); (try unfold c_LH); (repeat' (first | exact trivial | refine z_of_c ?_ ?_)) <;> omega)).trans hw
    have g9 : m1 3 9 = h := (s1.of (by (try unfold c_LD); (try unfold c_LP); (try unfold c_LQ); (try unfold c_LH); (repeat' (first | exact trivial | refine z_of_c ?_ ?_)) <;> omega)).trans hh
    have gn : m1 3 11 = (n : Int) := (s1.of (by (try unfold c_LD); (try unfold c_LP); (try unfold c_LQ); (try unfold c_LH); (repeat' (first | exact trivial | refine z_of_c ?_ ?_)) <;> omega)).trans hn
    have eA : cS m1 s n x = m1 (s + 1) x := cS_at1 (j := x) (by omega)
    rw [a1, zb_n, s_pass_126 hs m1 b x v4 v5 ⟨by omega, by omega⟩, Int.toNat_natCast, ← eA, a2, tc1]
    by_cases c2 : hr_f x (cS m s n) x = 0
    · rw [if_pos c2, if_pos c2]
      have s2 : z_same (c_LQ s) m (z_up m1 24 10 (z_or (m1 24 10) (z_shl 1 (x : Int)))) := s1.upo (by (try unfold c_LD); (try unfold c_LP); (try unfold c_LQ); (try unfold c_LH); first | exact z_on_h rfl (by omega) (by omega) | exact z_on_t (z_on_h rfl (by omega) (by omega)) | exact z_on_t (z_on_t (z_on_h rfl (by omega) (by omega))) | exact z_on_t (z_on_t (z_on_t (z_on_h rfl (by omega) (by omega)))) | exact z_on_t (z_on_t (z_on_t (z_on_t (z_on_h rfl (by omega) (by omega))))) | exact z_on_t (z_on_t (z_on_t (z_on_t (z_on_t (z_on_h rfl (by omega) (by omega)))))) | exact z_on_t (z_on_t (z_on_t (z_on_t (z_on_t (z_on_t (z_on_h rfl (by omega) (by omega))))))) | exact z_on_t (z_on_t (z_on_t (z_on_t (z_on_t (z_on_t (z_on_t (z_on_h rfl (by omega) (by omega)))))))) | exact z_on_t (z_on_t (z_on_t (z_on_t (z_on_t (z_on_t (z_on_t (z_on_t (z_on_h rfl (by omega) (by omega))))))))) | exact z_on_t (z_on_t (z_on_t (z_on_t (z_on_t (z_on_t (z_on_t (z_on_t (z_on_t (z_on_h rfl (by omega) (by omega)))))))))) | exact z_on_t (z_on_t (z_on_t (z_on_t (z_on_t (z_on_t (z_on_t (z_on_t (z_on_t (z_on_t (z_on_h rfl (by omega) (by omega))))))))))) | exact z_on_t (z_on_t (z_on_t (z_on_t (z_on_t (z_on_t (z_on_t (z_on_t (z_on_t (z_on_t (z_on_t (z_on_h rfl (by omega) (by omega)))))))))))) | exact z_on_t (z_on_t (z_on_t (z_on_t (z_on_t (z_on_t (z_on_t (z_on_t (z_on_t (z_on_t (z_on_t (z_on_t (z_on_h rfl (by omega) (by omega))))))))))))))
      generalize hm2 : z_up m1 24 10 (z_or (m1 24 10) (z_shl 1 (x : Int))) = m2 at s2 ⊢
      obtain ⟨m3, b1, b2, b3⟩ := c_drop hs hn5 m2 (k := x) (by omega) (by rw [← hm2, zu_p (by decide)]; exact gn)
      have s3 : z_same (c_LQ s) m m3 := s2.tr (b3.subo (by (try unfold c_LD); (try unfold c_LP); (try unfold c_LQ); (try unfold c_LH); (repeat' (first | exact trivial | refine z_sbo_c ?_ ?_)) <;> (intro k h1 h2; first | exact z_on_h rfl (by omega) (by omega) | exact z_on_t (z_on_h rfl (by omega) (by omega)) | exact z_on_t (z_on_t (z_on_h rfl (by omega) (by omega))) | exact z_on_t (z_on_t (z_on_t (z_on_h rfl (by omega) (by omega)))) | exact z_on_t (z_on_t (z_on_t (z_on_t (z_on_h rfl (by omega) (by omega))))) | exact z_on_t (z_on_t (z_on_t (z_on_t (z_on_t (z_on_h rfl (by omega) (by omega)))))) | exact z_on_t (z_on_t (z_on_t (z_on_t (z_on_t (z_on_t (z_on_h rfl (by omega) (by omega))))))) | exact z_on_t (z_on_t (z_on_t (z_on_t (z_on_t (z_on_t (z_on_t (z_on_h rfl (by omega) (by omega)))))))) | exact z_on_t (z_on_t (z_on_t (z_on_t (z_on_t (z_on_t (z_on_t (z_on_t (z_on_h rfl (by omega) (by omega))))))))) | exact z_on_t (z_on_t (z_on_t (z_on_t (z_on_t (z_on_t (z_on_t (z_on_t (z_on_t (z_on_h rfl (by omega) (by omega)))))))))) | exact z_on_t (z_on_t (z_on_t (z_on_t (z_on_t (z_on_t (z_on_t (z_on_t (z_on_t (z_on_t (z_on_h rfl (by omega) (by omega))))))))))) | exact z_on_t (z_on_t (z_on_t (z_on_t (z_on_t (z_on_t (z_on_t (z_on_t (z_on_t (z_on_t (z_on_t (z_on_h rfl (by omega) (by omega)))))))))))) | exact z_on_t (z_on_t (z_on_t (z_on_t (z_on_t (z_on_t (z_on_t (z_on_t (z_on_t (z_on_t (z_on_t (z_on_t (z_on_h rfl (by omega) (by omega))))))))))))))))
      have q1 : m2 3 8 = w := by rw [← hm2, zu_p (by decide)]; exact g8
      have q2 : m2 3 9 = h := by rw [← hm2, zu_p (by decide)]; exact g9
      have q3 : cS m2 s n = hr_f x (cS m s n) := by rw [← hm2, cS_off (by omega)]; exact a2 n
      have q4 : m2 24 11 = m 24 11 := by rw [← hm2, zu_k (by decide)]; exact e11
      have q5 : m2 24 9 = m 24 9 := by rw [← hm2, zu_k (by decide)]; exact e9
      have q6 : m3 24 10 = z_or (m 24 10) (z_shl 1 (x : Int)) := by rw [b3.of (by (try unfold c_LD); (try unfold c_LP); (try unfold c_LQ); (try unfold c_LH); (repeat' (first | exact trivial | refine z_of_c ?_ ?_)) <;> omega), ← hm2, zu_self, e10]
      have q7 : m3 24 7 = m 24 7 := by rw [b3.of (by (try unfold c_LD); (try unfold c_LP); (try unfold c_LQ); (try unfold c_LH); (repeat' (first | exact trivial | refine z_of_c ?_ ?_)) <;> omega), ← hm2, zu_k (by decide)]; exact e7
      have q8 : m3 24 8 = m 24 8 := by rw [b3.of (by (try unfold c_LD); (try unfold c_LP); (try unfold c_LQ); (try unfold c_LH); (repeat' (first | exact trivial | refine z_of_c ?_ ?_)) <;> omega), ← hm2, zu_k (by decide)]; exact e8
      rw [q1, q2, q3, q4, q5] at b2
      have p1 := congrArg Prod.fst b2
      have p2 := congrArg (fun z => z.2.1) b2
      have p3 := congrArg (fun z => z.2.2) b2
      simp only at p1 p2 p3
      rw [b1, zb_n, s_pass_153 hs m3 b x v4 v5 ⟨by omega, by omega⟩, tc1]
      obtain ⟨m', d1, d2, d3, d4, d5⟩ := ih (x + 1) v4 v5 m3 (by omega) ((s3.of (by (try unfold c_LD); (try unfold c_LP); (try unfold c_LQ); (try unfold c_LH); (repeat' (first | exact trivial | refine z_of_c ?_ ?_)) <;> omega)).trans hw) ((s3.of (by (try unfold c_LD); (try unfold c_LP); (try unfold c_LQ); (try unfold c_LH); (repeat' (first | exact trivial | refine z_of_c ?_ ?_)) <;> omega)).trans hh) ((s3.of (by (try unfold c_LD); (try unfold c_LP); (try unfold c_LQ); (try unfold c_LH); (repeat' (first | exact trivial | refine z_of_c ?_ ?_)) <;> omega)).trans hn)
      rw [p1, p2, p3, q6] at d2
      exact ⟨m', d1, d2, d3.trans q7, d4.trans q8, s3.tr d5⟩
    · rw [if_neg c2, if_neg c2]
      obtain ⟨m', d1, d2, d3, d4, d5⟩ := ih (x + 1) v4 v5 m1 (by omega) g8 g9 gn
      rw [a2, e10, e11, e9] at d2
      exact ⟨m', d1, d2, d3.trans e7, d4.trans e8, s1.tr d5⟩
def hr_D (w h b : Int) (n : Nat) (heat price : Int) (ml : hr_M) (wm W0 C0 A : Nat → Int) (t : Int) : (Nat → Int) × Int := hr_d w h b ml (hr_sv heat (A 34) (hr_g wm price n 0 W0 C0 A).1) (hr_g wm price n 0 W0 C0 A).2.1 9 (hr_g wm price n 0 W0 C0 A).2.2 t
def hr_Q (w h b : Int) (n : Nat) (heat price : Int) (ml : hr_M) (wm W0 C0 A : Nat → Int) (fm : Int) : (Nat → Int) × Int × Int × Int := hr_q w h b n 9 0 (hr_D w h b n heat price ml wm W0 C0 A 0).1 0 0 fm
theorem hr_d_A {w h b : Int} {ml : hr_M} {W C : Nat → Int} : ∀ (f : Nat) (A : Nat → Int) (t t' : Int), (hr_d w h b ml W C f A t).1 = (hr_d w h b ml W C f A t').1 := by
  intro f
  induction f with
  | zero => intro A t t'; rfl
  | succ f ih =>
    intro A t t'
    unfold hr_d
    by_cases c : z_and (z_shr b (f : Int)) 1 = 0
    · rw [if_pos c, if_pos c]; exact ih _ _ _
    · rw [if_neg c, if_neg c]; exact ih _ _ _
theorem c_pass {s : Nat} (hs : z_st s) {n : Nat} (hn5 : n ≤ 5) {ml : hr_M} {wm : Nat → Int} {price t heat b w h : Int} (ht : 0 ≤ t) (ht2 : t ≤ 2147483647) (m : z_M) (hn : m 3 11 = (n : Int)) (hp : m 3 13 = price) (hh : m 3 12 = heat) (ht' : m s 7 = t) (hwm : ∀ p, p < 5 → cw m p t = wm p) (h8 : m 3 8 = w) (h9 : m 3 9 = h) (hml : c_Hml ml m) : ∃ m' W0 C0, z_R 68 (m, 0, [(2, 24), (2, ((s : Nat) : Int)), (0, b), (9, 0), (9, 0), (9, 0)], []) = some (m', none) ∧ (∀ k, k < 9 → W0 k = 0 ∧ C0 k = 0) ∧ cS m' s n = u_up (hr_Q w h b n heat price ml wm W0 C0 (cS m s n) (m 24 9)).1 35 (z_add ((hr_Q w h b n heat price ml wm W0 C0 (cS m s n) (m 24 9)).1 35) 1) ∧ m' 24 6 = (hr_D w h b n heat price ml wm W0 C0 (cS m s n) (m 24 6)).2 ∧ m' 24 7 = z_or (m 24 7) (hr_Q w h b n heat price ml wm W0 C0 (cS m s n) (m 24 9)).2.1 ∧ m' 24 8 = z_or (m 24 8) (hr_Q w h b n heat price ml wm W0 C0 (cS m s n) (m 24 9)).2.2.1 ∧ m' 24 9 = (hr_Q w h b n heat price ml wm W0 C0 (cS m s n) (m 24 9)).2.2.2 ∧ m' 24 10 = (hr_Q w h b n heat price ml wm W0 C0 (cS m s n) (m 24 9)).2.1 ∧ m' 24 11 = (hr_Q w h b n heat price ml wm W0 C0 (cS m s n) (m 24 9)).2.2.1 ∧ z_same (c_LH s) m m' := by
  have hs2 := hs.2
  obtain ⟨m1, W0, C0, a1, a2, a3, a4, a5, a6⟩ := c_gat hs hn5 ht ht2 m hn hp hh ht' hwm
  have s1 : z_same (c_LH s) m m1 := a6.subo (by (try unfold c_LD); (try unfold c_LP); (try unfold c_LQ); (try unfold c_LH); (repeat' (first | exact trivial | refine z_sbo_c ?_ ?_)) <;> (intro k h1 h2; first | exact z_on_h rfl (by omega) (by omega) | exact z_on_t (z_on_h rfl (by omega) (by omega)) | exact z_on_t (z_on_t (z_on_h rfl (by omega) (by omega))) | exact z_on_t (z_on_t (z_on_t (z_on_h rfl (by omega) (by omega)))) | exact z_on_t (z_on_t (z_on_t (z_on_t (z_on_h rfl (by omega) (by omega))))) | exact z_on_t (z_on_t (z_on_t (z_on_t (z_on_t (z_on_h rfl (by omega) (by omega)))))) | exact z_on_t (z_on_t (z_on_t (z_on_t (z_on_t (z_on_t (z_on_h rfl (by omega) (by omega))))))) | exact z_on_t (z_on_t (z_on_t (z_on_t (z_on_t (z_on_t (z_on_t (z_on_h rfl (by omega) (by omega)))))))) | exact z_on_t (z_on_t (z_on_t (z_on_t (z_on_t (z_on_t (z_on_t (z_on_t (z_on_h rfl (by omega) (by omega))))))))) | exact z_on_t (z_on_t (z_on_t (z_on_t (z_on_t (z_on_t (z_on_t (z_on_t (z_on_t (z_on_h rfl (by omega) (by omega)))))))))) | exact z_on_t (z_on_t (z_on_t (z_on_t (z_on_t (z_on_t (z_on_t (z_on_t (z_on_t (z_on_t (z_on_h rfl (by omega) (by omega))))))))))) | exact z_on_t (z_on_t (z_on_t (z_on_t (z_on_t (z_on_t (z_on_t (z_on_t (z_on_t (z_on_t (z_on_t (z_on_h rfl (by omega) (by omega)))))))))))) | exact z_on_t (z_on_t (z_on_t (z_on_t (z_on_t (z_on_t (z_on_t (z_on_t (z_on_t (z_on_t (z_on_t (z_on_t (z_on_h rfl (by omega) (by omega)))))))))))))))
  rw [s_pass_0 hs, a1, zb_n, s_pass_5 hs]
  obtain ⟨m2, v4, v5, b1, b2, b3⟩ := c_p1 hs (ml := ml) (b := b) (w := w) (h := h) (n := n) 9 8 (9, 0) (9, 0) m1 (by decide) (by decide) (fun m3 z1 z2 => hml m3 (z1.trans (a6.ofr (by (try unfold c_LD); (try unfold c_LP); (try unfold c_LQ); (try unfold c_LH); (repeat' (first | exact trivial | refine z_ofr_c ?_ ?_)) <;> omega))) (z2.trans (a6.of (by (try unfold c_LD); (try unfold c_LP); (try unfold c_LQ); (try unfold c_LH); (repeat' (first | exact trivial | refine z_of_c ?_ ?_)) <;> omega)))) ((a6.of (by (try unfold c_LD); (try unfold c_LP); (try unfold c_LQ); (try unfold c_LH); (repeat' (first | exact trivial | refine z_of_c ?_ ?_)) <;> omega)).trans h8) ((a6.of (by (try unfold c_LD); (try unfold c_LP); (try unfold c_LQ); (try unfold c_LH); (repeat' (first | exact trivial | refine z_of_c ?_ ?_)) <;> omega)).trans h9)
  have s2 : z_same (c_LH s) m m2 := s1.tr (b3.subo (by (try unfold c_LD); (try unfold c_LP); (try unfold c_LQ); (try unfold c_LH); (repeat' (first | exact trivial | refine z_sbo_c ?_ ?_)) <;> (intro k h1 h2; first | exact z_on_h rfl (by omega) (by omega) | exact z_on_t (z_on_h rfl (by omega) (by omega)) | exact z_on_t (z_on_t (z_on_h rfl (by omega) (by omega))) | exact z_on_t (z_on_t (z_on_t (z_on_h rfl (by omega) (by omega)))) | exact z_on_t (z_on_t (z_on_t (z_on_t (z_on_h rfl (by omega) (by omega))))) | exact z_on_t (z_on_t (z_on_t (z_on_t (z_on_t (z_on_h rfl (by omega) (by omega)))))) | exact z_on_t (z_on_t (z_on_t (z_on_t (z_on_t (z_on_t (z_on_h rfl (by omega) (by omega))))))) | exact z_on_t (z_on_t (z_on_t (z_on_t (z_on_t (z_on_t (z_on_t (z_on_h rfl (by omega) (by omega)))))))) | exact z_on_t (z_on_t (z_on_t (z_on_t (z_on_t (z_on_t (z_on_t (z_on_t (z_on_h rfl (by omega) (by omega))))))))) | exact z_on_t (z_on_t (z_on_t (z_on_t (z_on_t (z_on_t (z_on_t (z_on_t (z_on_t (z_on_h rfl (by omega) (by omega)))))))))) | exact z_on_t (z_on_t (z_on_t (z_on_t (z_on_t (z_on_t (z_on_t (z_on_t (z_on_t (z_on_t (z_on_h rfl (by omega) (by omega))))))))))) | exact z_on_t (z_on_t (z_on_t (z_on_t (z_on_t (z_on_t (z_on_t (z_on_t (z_on_t (z_on_t (z_on_t (z_on_h rfl (by omega) (by omega)))))))))))) | exact z_on_t (z_on_t (z_on_t (z_on_t (z_on_t (z_on_t (z_on_t (z_on_t (z_on_t (z_on_t (z_on_t (z_on_t (z_on_h rfl (by omega) (by omega))))))))))))))))
  rw [a3, a4, a5] at b2
  have p1 := congrArg Prod.fst b2
  have p2 := congrArg Prod.snd b2
  simp only at p1 p2
  rw [b1]
  have s3 : z_same (c_LH s) m (z_up (z_up m2 24 10 0) 24 11 0) := (s2.upo (by (try unfold c_LD); (try unfold c_LP); (try unfold c_LQ); (try unfold c_LH); first | exact z_on_h rfl (by omega) (by omega) | exact z_on_t (z_on_h rfl (by omega) (by omega)) | exact z_on_t (z_on_t (z_on_h rfl (by omega) (by omega))) | exact z_on_t (z_on_t (z_on_t (z_on_h rfl (by omega) (by omega)))) | exact z_on_t (z_on_t (z_on_t (z_on_t (z_on_h rfl (by omega) (by omega))))) | exact z_on_t (z_on_t (z_on_t (z_on_t (z_on_t (z_on_h rfl (by omega) (by omega)))))) | exact z_on_t (z_on_t (z_on_t (z_on_t (z_on_t (z_on_t (z_on_h rfl (by omega) (by omega))))))) | exact z_on_t (z_on_t (z_on_t (z_on_t (z_on_t (z_on_t (z_on_t (z_on_h rfl (by omega) (by omega)))))))) | exact z_on_t (z_on_t (z_on_t (z_on_t (z_on_t (z_on_t (z_on_t (z_on_t (z_on_h rfl (by omega) (by omega))))))))) | exact z_on_t (z_on_t (z_on_t (z_on_t (z_on_t (z_on_t (z_on_t (z_on_t (z_on_t (z_on_h rfl (by omega) (by omega)))))))))) | exact z_on_t (z_on_t (z_on_t (z_on_t (z_on_t (z_on_t (z_on_t (z_on_t (z_on_t (z_on_t (z_on_h rfl (by omega) (by omega))))))))))) | exact z_on_t (z_on_t (z_on_t (z_on_t (z_on_t (z_on_t (z_on_t (z_on_t (z_on_t (z_on_t (z_on_t (z_on_h rfl (by omega) (by omega)))))))))))) | exact z_on_t (z_on_t (z_on_t (z_on_t (z_on_t (z_on_t (z_on_t (z_on_t (z_on_t (z_on_t (z_on_t (z_on_t (z_on_h rfl (by omega) (by omega))))))))))))))).upo (by (try unfold c_LD); (try unfold c_LP); (try unfold c_LQ); (try unfold c_LH); first | exact z_on_h rfl (by omega) (by omega) | exact z_on_t (z_on_h rfl (by omega) (by omega)) | exact z_on_t (z_on_t (z_on_h rfl (by omega) (by omega))) | exact z_on_t (z_on_t (z_on_t (z_on_h rfl (by omega) (by omega)))) | exact z_on_t (z_on_t (z_on_t (z_on_t (z_on_h rfl (by omega) (by omega))))) | exact z_on_t (z_on_t (z_on_t (z_on_t (z_on_t (z_on_h rfl (by omega) (by omega)))))) | exact z_on_t (z_on_t (z_on_t (z_on_t (z_on_t (z_on_t (z_on_h rfl (by omega) (by omega))))))) | exact z_on_t (z_on_t (z_on_t (z_on_t (z_on_t (z_on_t (z_on_t (z_on_h rfl (by omega) (by omega)))))))) | exact z_on_t (z_on_t (z_on_t (z_on_t (z_on_t (z_on_t (z_on_t (z_on_t (z_on_h rfl (by omega) (by omega))))))))) | exact z_on_t (z_on_t (z_on_t (z_on_t (z_on_t (z_on_t (z_on_t (z_on_t (z_on_t (z_on_h rfl (by omega) (by omega)))))))))) | exact z_on_t (z_on_t (z_on_t (z_on_t (z_on_t (z_on_t (z_on_t (z_on_t (z_on_t (z_on_t (z_on_h rfl (by omega) (by omega))))))))))) | exact z_on_t (z_on_t (z_on_t (z_on_t (z_on_t (z_on_t (z_on_t (z_on_t (z_on_t (z_on_t (z_on_t (z_on_h rfl (by omega) (by omega)))))))))))) | exact z_on_t (z_on_t (z_on_t (z_on_t (z_on_t (z_on_t (z_on_t (z_on_t (z_on_t (z_on_t (z_on_t (z_on_t (z_on_h rfl (by omega) (by omega))))))))))))))
  generalize hm3 : z_up (z_up m2 24 10 0) 24 11 0 = m3 at s3 ⊢
  obtain ⟨m4, d1, d2, d3, d4, d5⟩ := c_p2 hs (b := b) (w := w) (h := h) hn5 9 0 v4 v5 m3 (by decide) ((s3.of (by (try unfold c_LD); (try unfold c_LP); (try unfold c_LQ); (try unfold c_LH); (repeat' (first | exact trivial | refine z_of_c ?_ ?_)) <;> omega)).trans h8) ((s3.of (by (try unfold c_LD); (try unfold c_LP); (try unfold c_LQ); (try unfold c_LH); (repeat' (first | exact trivial | refine z_of_c ?_ ?_)) <;> omega)).trans h9) ((s3.of (by (try unfold c_LD); (try unfold c_LP); (try unfold c_LQ); (try unfold c_LH); (repeat' (first | exact trivial | refine z_of_c ?_ ?_)) <;> omega)).trans hn)
  have q1 : cS m3 s n = (hr_D w h b n heat price ml wm W0 C0 (cS m s n) 0).1 := by
    rw [← hm3, cS_off (by omega), cS_off (by omega), p1]
    exact hr_d_A _ _ _ _
  have q2 : m3 24 10 = 0 := by rw [← hm3, zu_k (by decide), zu_self]
  have q3 : m3 24 11 = 0 := by rw [← hm3, zu_self]
  have q4 : m3 24 9 = m 24 9 := by rw [← hm3, zu_k (by decide), zu_k (by decide), b3.of (by (try unfold c_LD); (try unfold c_LP); (try unfold c_LQ); (try unfold c_LH); (repeat' (first | exact trivial | refine z_of_c ?_ ?_)) <;> omega), a6.of (by (try unfold c_LD); (try unfold c_LP); (try unfold c_LQ); (try unfold c_LH); (repeat' (first | exact trivial | refine z_of_c ?_ ?_)) <;> omega)]
  have q5 : m3 24 6 = (hr_D w h b n heat price ml wm W0 C0 (cS m s n) (m 24 6)).2 := by
    rw [← hm3, zu_k (by decide), zu_k (by decide), p2, a6.of (by (try unfold c_LD); (try unfold c_LP); (try unfold c_LQ); (try unfold c_LH); (repeat' (first | exact trivial | refine z_of_c ?_ ?_)) <;> omega)]
    rfl
  have q7 : m3 24 7 = m 24 7 := by rw [← hm3, zu_k (by decide), zu_k (by decide), b3.of (by (try unfold c_LD); (try unfold c_LP); (try unfold c_LQ); (try unfold c_LH); (repeat' (first | exact trivial | refine z_of_c ?_ ?_)) <;> omega), a6.of (by (try unfold c_LD); (try unfold c_LP); (try unfold c_LQ); (try unfold c_LH); (repeat' (first | exact trivial | refine z_of_c ?_ ?_)) <;> omega)]
  have q8 : m3 24 8 = m 24 8 := by rw [← hm3, zu_k (by decide), zu_k (by decide), b3.of (by (try unfold c_LD); (try unfold c_LP); (try unfold c_LQ); (try unfold c_LH); (repeat' (first | exact trivial | refine z_of_c ?_ ?_)) <;> omega), a6.of (by (try unfold c_LD); (try unfold c_LP); (try unfold c_LQ); (try unfold c_LH); (repeat' (first | exact trivial | refine z_of_c ?_ ?_)) <;> omega)]
  rw [q1, q2, q3, q4] at d2
  have d2 : (cS m4 s n, m4 24 10, m4 24 11, m4 24 9) = hr_Q w h b n heat price ml wm W0 C0 (cS m s n) (m 24 9) := d2
  rw [show ((0 : Nat) : Int) = 0 from rfl] at d1
  rw [d1]
  refine ⟨_, W0, C0, rfl, a2, ?_, ?_, ?_, ?_, ?_, ?_, ?_, (((s3.tr (d5.subo (by (try unfold c_LD); (try unfold c_LP); (try unfold c_LQ); (try unfold c_LH); (repeat' (first | exact trivial | refine z_sbo_c ?_ ?_)) <;> (intro k h1 h2; first | exact z_on_h rfl (by omega) (by omega) | exact z_on_t (z_on_h rfl (by omega) (by omega)) | exact z_on_t (z_on_t (z_on_h rfl (by omega) (by omega))) | exact z_on_t (z_on_t (z_on_t (z_on_h rfl (by omega) (by omega)))) | exact z_on_t (z_on_t (z_on_t (z_on_t (z_on_h rfl (by omega) (by omega))))) | exact z_on_t (z_on_t (z_on_t (z_on_t (z_on_t (z_on_h rfl (by omega) (by omega)))))) | exact z_on_t (z_on_t (z_on_t (z_on_t (z_on_t (z_on_t (z_on_h rfl (by omega) (by omega))))))) | exact z_on_t (z_on_t (z_on_t (z_on_t (z_on_t (z_on_t (z_on_t (z_on_h rfl (by omega) (by omega)))))))) | exact z_on_t (z_on_t (z_on_t (z_on_t (z_on_t (z_on_t (z_on_t (z_on_t (z_on_h rfl (by omega) (by omega))))))))) | exact z_on_t (z_on_t (z_on_t (z_on_t (z_on_t (z_on_t (z_on_t (z_on_t (z_on_t (z_on_h rfl (by omega) (by omega)))))))))) | exact z_on_t (z_on_t (z_on_t (z_on_t (z_on_t (z_on_t (z_on_t (z_on_t (z_on_t (z_on_t (z_on_h rfl (by omega) (by omega))))))))))) | exact z_on_t (z_on_t (z_on_t (z_on_t (z_on_t (z_on_t (z_on_t (z_on_t (z_on_t (z_on_t (z_on_t (z_on_h rfl (by omega) (by omega)))))))))))) | exact z_on_t (z_on_t (z_on_t (z_on_t (z_on_t (z_on_t (z_on_t (z_on_t (z_on_t (z_on_t (z_on_t (z_on_t (z_on_h rfl (by omega) (by omega))))))))))))))))).upo (by (try unfold c_LD); (try unfold c_LP); (try unfold c_LQ); (try unfold c_LH); first | exact z_on_h rfl (by omega) (by omega) | exact z_on_t (z_on_h rfl (by omega) (by omega)) | exact z_on_t (z_on_t (z_on_h rfl (by omega) (by omega))) | exact z_on_t (z_on_t (z_on_t (z_on_h rfl (by omega) (by omega)))) | exact z_on_t (z_on_t (z_on_t (z_on_t (z_on_h rfl (by omega) (by omega))))) | exact z_on_t (z_on_t (z_on_t (z_on_t (z_on_t (z_on_h rfl (by omega) (by omega)))))) | exact z_on_t (z_on_t (z_on_t (z_on_t (z_on_t (z_on_t (z_on_h rfl (by omega) (by omega))))))) | exact z_on_t (z_on_t (z_on_t (z_on_t (z_on_t (z_on_t (z_on_t (z_on_h rfl (by omega) (by omega)))))))) | exact z_on_t (z_on_t (z_on_t (z_on_t (z_on_t (z_on_t (z_on_t (z_on_t (z_on_h rfl (by omega) (by omega))))))))) | exact z_on_t (z_on_t (z_on_t (z_on_t (z_on_t (z_on_t (z_on_t (z_on_t (z_on_t (z_on_h rfl (by omega) (by omega)))))))))) | exact z_on_t (z_on_t (z_on_t (z_on_t (z_on_t (z_on_t (z_on_t (z_on_t (z_on_t (z_on_t (z_on_h rfl (by omega) (by omega))))))))))) | exact z_on_t (z_on_t (z_on_t (z_on_t (z_on_t (z_on_t (z_on_t (z_on_t (z_on_t (z_on_t (z_on_t (z_on_h rfl (by omega) (by omega)))))))))))) | exact z_on_t (z_on_t (z_on_t (z_on_t (z_on_t (z_on_t (z_on_t (z_on_t (z_on_t (z_on_t (z_on_t (z_on_t (z_on_h rfl (by omega) (by omega))))))))))))))).upo (by (try unfold c_LD); (try unfold c_LP); (try unfold c_LQ); (try unfold c_LH); first | exact z_on_h rfl (by omega) (by omega) | exact z_on_t (z_on_h rfl (by omega) (by omega)) | exact z_on_t (z_on_t (z_on_h rfl (by omega) (by omega))) | exact z_on_t (z_on_t (z_on_t (z_on_h rfl (by omega) (by omega)))) | exact z_on_t (z_on_t (z_on_t (z_on_t (z_on_h rfl (by omega) (by omega))))) | exact z_on_t (z_on_t (z_on_t (z_on_t (z_on_t (z_on_h rfl (by omega) (by omega)))))) | exact z_on_t (z_on_t (z_on_t (z_on_t (z_on_t (z_on_t (z_on_h rfl (by omega) (by omega))))))) | exact z_on_t (z_on_t (z_on_t (z_on_t (z_on_t (z_on_t (z_on_t (z_on_h rfl (by omega) (by omega)))))))) | exact z_on_t (z_on_t (z_on_t (z_on_t (z_on_t (z_on_t (z_on_t (z_on_t (z_on_h rfl (by omega) (by omega))))))))) | exact z_on_t (z_on_t (z_on_t (z_on_t (z_on_t (z_on_t (z_on_t (z_on_t (z_on_t (z_on_h rfl (by omega) (by omega)))))))))) | exact z_on_t (z_on_t (z_on_t (z_on_t (z_on_t (z_on_t (z_on_t (z_on_t (z_on_t (z_on_t (z_on_h rfl (by omega) (by omega))))))))))) | exact z_on_t (z_on_t (z_on_t (z_on_t (z_on_t (z_on_t (z_on_t (z_on_t (z_on_t (z_on_t (z_on_t (z_on_h rfl (by omega) (by omega)))))))))))) | exact z_on_t (z_on_t (z_on_t (z_on_t (z_on_t (z_on_t (z_on_t (z_on_t (z_on_t (z_on_t (z_on_t (z_on_t (z_on_h rfl (by omega) (by omega))))))))))))))).upo (by (try unfold c_LD); (try unfold c_LP); (try unfold c_LQ); (try unfold c_LH); first | exact z_on_h rfl (by omega) (by omega) | exact z_on_t (z_on_h rfl (by omega) (by omega)) | exact z_on_t (z_on_t (z_on_h rfl (by omega) (by omega))) | exact z_on_t (z_on_t (z_on_t (z_on_h rfl (by omega) (by omega)))) | exact z_on_t (z_on_t (z_on_t (z_on_t (z_on_h rfl (by omega) (by omega))))) | exact z_on_t (z_on_t (z_on_t (z_on_t (z_on_t (z_on_h rfl (by omega) (by omega)))))) | exact z_on_t (z_on_t (z_on_t (z_on_t (z_on_t (z_on_t (z_on_h rfl (by omega) (by omega))))))) | exact z_on_t (z_on_t (z_on_t (z_on_t (z_on_t (z_on_t (z_on_t (z_on_h rfl (by omega) (by omega)))))))) | exact z_on_t (z_on_t (z_on_t (z_on_t (z_on_t (z_on_t (z_on_t (z_on_t (z_on_h rfl (by omega) (by omega))))))))) | exact z_on_t (z_on_t (z_on_t (z_on_t (z_on_t (z_on_t (z_on_t (z_on_t (z_on_t (z_on_h rfl (by omega) (by omega)))))))))) | exact z_on_t (z_on_t (z_on_t (z_on_t (z_on_t (z_on_t (z_on_t (z_on_t (z_on_t (z_on_t (z_on_h rfl (by omega) (by omega))))))))))) | exact z_on_t (z_on_t (z_on_t (z_on_t (z_on_t (z_on_t (z_on_t (z_on_t (z_on_t (z_on_t (z_on_t (z_on_h rfl (by omega) (by omega)))))))))))) | exact z_on_t (z_on_t (z_on_t (z_on_t (z_on_t (z_on_t (z_on_t (z_on_t (z_on_t (z_on_t (z_on_t (z_on_t (z_on_h rfl (by omega) (by omega))))))))))))))⟩
  · rw [← d2, cS_now, cS_off (by omega), cS_off (by omega)]
    show _ = u_up (cS m4 s n) 35 (z_add (cS m4 s n 35) 1)
    rw [cS_nowv]
  · rw [zu_p (by omega), zu_k (by decide), zu_k (by decide), d5.of (by (try unfold c_LD); (try unfold c_LP); (try unfold c_LQ); (try unfold c_LH); (repeat' (first | exact trivial | refine z_of_c ?_ ?_)) <;> omega), q5]
  · rw [← d2, zu_p (by omega), zu_k (by decide), zu_self, d3, q7]
  · rw [← d2, zu_p (by omega), zu_self, d4, q8]
  · rw [← d2, zu_p (by omega), zu_k (by decide), zu_k (by decide)]
  · rw [← d2, zu_p (by omega), zu_k (by decide), zu_k (by decide)]
  · rw [← d2, zu_p (by omega), zu_k (by decide), zu_k (by decide)]
end
section
/-! AN HOUR OF THE REFERENCE: what it does to the 37 numbers -/
def rwm (m : z_M) (p : Nat) (t : Int) : Int := if (p : Int) = m 251 23 then 9 else m 253 (6 * (p : Int) + t % 6).toNat
theorem rwm_sm {m m' : z_M} (h1 : m' 251 23 = m 251 23) (h2 : m' 253 = m 253) {p : Nat} {t : Int} : rwm m' p t = rwm m p t := by unfold rwm; rw [h1, h2]
def hr_b (k : Int) : Nat → Nat → (Nat → Int) → Int → Int
  | 0, _, _, acc => acc
  | f + 1, x, A, acc => hr_b k f (x + 1) A (if A (x + 18) = k then z_or acc (z_shl 1 (x : Int)) else z_or acc 0)
def hr_s (wm : Nat → Int) (b : Int) : Nat → Nat → Int → Int
  | 0, _, s => s
  | f + 1, x, s => hr_s wm b f (x + 1) (if z_and (z_shr b (x : Int)) 1 = 1 then z_add s (wm x) else z_add s 0)
theorem r_pin1 {a : Nat} (ha : z_A 37 a) (ha2 : z_ab a) {n : Nat} (hn5 : n ≤ 5) {k : Int} (m : z_M) (hn : m 251 3 = (n : Int)) : ∀ (f x : Nat) (acc : Int), x + f = n → z_R 183 (m, 5, [(2, 251), (2, ((a : Nat) : Int)), (0, k), (0, acc), (0, (x : Int))], []) = some (m, some (0, hr_b k f x (rS m a n) acc)) := by
  intro f
  induction f with
  | zero =>
    intro x acc hx
    rw [t_pin_5 ha ha2 m k acc x ⟨by omega, by omega⟩ ⟨by omega, by omega⟩, if_pos (by omega)]
    rfl
  | succ f ih =>
    intro x acc hx
    have eA : rS m a n (x + 18) = m a (x + 18) := rS_at (by omega) (a_vis_p (b := 18) (p := x) (by omega) (by omega) (by omega) (by omega))
    rw [t_pin_5 ha ha2 m k acc x ⟨by omega, by omega⟩ ⟨by omega, by omega⟩, if_neg (by omega), tn18, tc1]
    unfold hr_b
    rw [eA]
    by_cases c : m a (x + 18) = k
    · rw [if_pos c, if_pos c]; exact ih (x + 1) _ (by omega)
    · rw [if_neg c, if_neg c]; exact ih (x + 1) _ (by omega)
theorem r_pin {a : Nat} (ha : z_A 37 a) (ha2 : z_ab a) {n : Nat} (hn5 : n ≤ 5) {k : Int} (m : z_M) (hn : m 251 3 = (n : Int)) : z_R 183 (m, 0, [(2, 251), (2, ((a : Nat) : Int)), (0, k), (9, 0), (9, 0)], []) = some (m, some (0, hr_b k n 0 (rS m a n) 0)) := by
  rw [t_pin_0 ha ha2, show (0 : Int) = ((0 : Nat) : Int) from rfl]
  exact r_pin1 ha ha2 hn5 m hn n 0 0 (by omega)
theorem r_wo {a : Nat} (ha : z_A 37 a) (ha2 : z_ab a) (m : z_M) {p : Nat} {t : Int} (hp : p < 5) (h : m a 35 = t) (ht : 0 ≤ t) (ht2 : t ≤ 2147483647) : z_R 186 (m, 0, [(2, 251), (2, ((a : Nat) : Int)), (0, (p : Int))], []) = some (m, some (0, rwm m p t)) := by
  rw [t_wo_0 ha ha2 m p ⟨by omega, by omega⟩ ⟨by omega, by omega⟩, h]
  unfold rwm
  by_cases h1 : (p : Int) = m 251 23
  · rw [if_pos h1, if_pos h1]
  · rw [if_neg h1, if_neg h1]
theorem r_wb1 {a : Nat} (ha : z_A 37 a) (ha2 : z_ab a) {n : Nat} (hn5 : n ≤ 5) {k b t : Int} {wm : Nat → Int} (ht : 0 ≤ t) (ht2 : t ≤ 2147483647) (m : z_M) (hn : m 251 3 = (n : Int)) (h35 : m a 35 = t) (hw : ∀ p, p < 5 → rwm m p t = wm p) : ∀ (f x : Nat) (s : Int), x + f = n → z_R 184 (m, 21, [(2, 251), (2, ((a : Nat) : Int)), (0, k), (0, b), (0, s), (0, (x : Int))], []) = some (m, some (0, hr_s wm b f x s)) := by
  intro f
  induction f with
  | zero =>
    intro x s hx
    rw [t_wb_21 ha ha2 m k b s x ⟨by omega, by omega⟩ ⟨by omega, by omega⟩, if_pos (by omega)]
    rfl
  | succ f ih =>
    intro x s hx
    rw [t_wb_21 ha ha2 m k b s x ⟨by omega, by omega⟩ ⟨by omega, by omega⟩, if_neg (by omega), t_has_0]
    unfold hr_s
    by_cases c : z_and (z_shr b (x : Int)) 1 = 1
    · rw [if_pos c, if_pos c, zb_v, t_wb_38 ha ha2 m k b s x s 1 ⟨by omega, by omega⟩, if_neg (by decide), r_wo ha ha2 m (by omega) h35 ht ht2, zb_v, t_wb_48 ha ha2 m k b s x s _ ⟨by omega, by omega⟩, tc1, hw x (by omega)]
      exact ih (x + 1) _ (by omega)
    · rw [if_neg c, if_neg c, zb_v, t_wb_38 ha ha2 m k b s x s 0 ⟨by omega, by omega⟩, if_pos rfl, tc1]
      exact ih (x + 1) _ (by omega)
def hr_wb (heat : Int) (wm : Nat → Int) (n : Nat) (A : Nat → Int) (k b : Int) : Int := hr_s wm b n 0 (if A 34 = k then heat else 0)
theorem r_wb {a : Nat} (ha : z_A 37 a) (ha2 : z_ab a) {n : Nat} (hn5 : n ≤ 5) {k b t heat : Int} {wm : Nat → Int} (ht : 0 ≤ t) (ht2 : t ≤ 2147483647) (m : z_M) (hn : m 251 3 = (n : Int)) (hh : m 251 5 = heat) (h35 : m a 35 = t) (hw : ∀ p, p < 5 → rwm m p t = wm p) : z_R 184 (m, 0, [(2, 251), (2, ((a : Nat) : Int)), (0, k), (0, b), (9, 0), (9, 0)], []) = some (m, some (0, hr_wb heat wm n (rS m a n) k b)) := by
  unfold hr_wb
  rw [t_wb_0 ha ha2, rS_at (by decide) (a_vis_hi (by decide)), hh]
  by_cases c : m a 34 = k
  · rw [if_pos c, if_pos c, show (0 : Int) = ((0 : Nat) : Int) from rfl]; exact r_wb1 ha ha2 hn5 ht ht2 m hn h35 hw n 0 heat (by omega)
  · rw [if_neg c, if_neg c]
    exact r_wb1 ha ha2 hn5 (k := k) ht ht2 m hn h35 hw n 0 0 (by omega)
abbrev r_RL : List (Nat × Nat × Nat) := [(259, 0, 6), (251, 12, 16), (251, 21, 21)]
/-- numbers of a row, as they should be -/
def r_rg (a : Nat) (m : z_M) : Prop := (∀ k, k < 9 → (0 ≤ m a k ∧ m a k ≤ 99) ∧ 0 ≤ m a (k + 9) ∧ m a (k + 9) ≤ 2147483647) ∧ (0 ≤ m a 36 ∧ m a 36 ≤ 2147483647) ∧ 0 ≤ m a 35 ∧ m a 35 ≤ 2147483647
def r_i (v : Int) : Prop := 0 ≤ v ∧ v ≤ 2147483647
/-- that the reference's rule makes these numbers, while its text stays -/
noncomputable def r_Hml (ml : hr_M) (m : z_M) : Prop := ∀ m2 : z_M, m2 258 = m 258 → m2 251 20 = m 251 20 → ∀ (a : Nat), z_A 37 a → z_ab a → ∀ (k : Nat) (w n : Int), k < 9 → r_rg a m2 → r_i w → r_i n → ∃ m', z_R 189 (m2, 0, [(2, 251), (2, ((a : Nat) : Int)), (0, (k : Int)), (0, w), (0, n), (9, 0)], []) = some (m', some (0, ml w (m2 a k) (m2 a (k + 9)) (m2 a 36) ((k : Int) / 3) n (m2 a 35))) ∧ z_same r_RL m2 m'
def hr_mB (heat : Int) (ml : hr_M) (wm : Nat → Int) (n : Nat) (A : Nat → Int) (k : Nat) (b : Int) : Int := ml (hr_wb heat wm n A k b) (A k) (A (k + 9)) (A 36) ((k : Int) / 3) (hr_pc b) (A 35)
theorem r_mb {a : Nat} (ha : z_A 37 a) (ha2 : z_ab a) {n : Nat} (hn5 : n ≤ 5) {ml : hr_M} {b t heat : Int} {wm : Nat → Int} (ht : 0 ≤ t) (ht2 : t ≤ 2147483647) (m : z_M) (hn : m 251 3 = (n : Int)) (hh : m 251 5 = heat) (h35 : m a 35 = t) (hw : ∀ p, p < 5 → rwm m p t = wm p) (hm : r_Hml ml m) {k : Nat} (hk : k < 9) (h0 : r_rg a m) (hW : r_i (hr_wb heat wm n (rS m a n) k b)) (hP : r_i (hr_pc b)) : ∃ m', z_R 188 (m, 0, [(2, 251), (2, ((a : Nat) : Int)), (0, (k : Int)), (0, b)], []) = some (m', some (0, hr_mB heat ml wm n (rS m a n) k b)) ∧ z_same r_RL m m' := by
  obtain ⟨m', e, sm⟩ := hm m rfl rfl a ha ha2 k (hr_wb heat wm n (rS m a n) k b) (hr_pc b) hk h0 hW hP
  refine ⟨m', ?_, sm⟩
  rw [t_mb_0 ha ha2, r_wb ha ha2 hn5 ht ht2 m hn hh h35 hw, zb_v, t_mb_10 ha ha2, t_bc_0, zb_v, t_mb_14 ha ha2, e, zb_v, t_mb_17 ha ha2]
  unfold hr_mB
  rw [rS_at (k := k) (by omega) (a_vis_lo (by omega)), rS_at (k := k + 9) (by omega) (a_vis_lo (by omega)), rS_at (k := 36) (by decide) (a_vis_hi (by decide)), rS_at (k := 35) (by decide) (a_vis_hi (by decide))]
def hr_mN (heat : Int) (ml : hr_M) (wm : Nat → Int) (n : Nat) (A : Nat → Int) (k : Nat) : Int := hr_mB heat ml wm n A k (hr_b k n 0 A 0)
theorem r_mn {a : Nat} (ha : z_A 37 a) (ha2 : z_ab a) {n : Nat} (hn5 : n ≤ 5) {ml : hr_M} {t heat : Int} {wm : Nat → Int} (ht : 0 ≤ t) (ht2 : t ≤ 2147483647) (m : z_M) (hn : m 251 3 = (n : Int)) (hh : m 251 5 = heat) (h35 : m a 35 = t) (hw : ∀ p, p < 5 → rwm m p t = wm p) (hm : r_Hml ml m) {k : Nat} (hk : k < 9) (h0 : r_rg a m) (hW : r_i (hr_wb heat wm n (rS m a n) k (hr_b k n 0 (rS m a n) 0))) (hP : r_i (hr_pc (hr_b k n 0 (rS m a n) 0))) : ∃ m', z_R 187 (m, 0, [(2, 251), (2, ((a : Nat) : Int)), (0, (k : Int))], []) = some (m', some (0, hr_mN heat ml wm n (rS m a n) k)) ∧ z_same r_RL m m' := by
  obtain ⟨m', e, sm⟩ := r_mb ha ha2 hn5 (b := hr_b k n 0 (rS m a n) 0) ht ht2 m hn hh h35 hw hm hk h0 hW hP
  refine ⟨m', ?_, sm⟩
  rw [t_mn_0 ha ha2, r_pin ha ha2 hn5 m hn, zb_v, t_mn_9 ha ha2, e, zb_v, t_mn_12 ha ha2]
  rfl
/-! the loops of an hour -/
def hr_me (w h heat : Int) (ml : hr_M) (wm : Nat → Int) (n : Nat) (A : Nat → Int) (k : Nat) : Int := if u_hs w h (k : Int) = 0 then 0 else hr_mN heat ml wm n A k
def hr_ms (e : Nat → Int) : Nat → Nat → Int → Int
  | 0, _, t => t
  | f + 1, x, t => hr_ms e f (x + 1) (z_add t (e x))
abbrev r_L1 : List (Nat × Nat × Nat) := [(259, 0, 6), (251, 12, 16), (251, 21, 21), (262, 0, 8), (251, 28, 28)]
theorem r_ne251 {a : Nat} (ha2 : z_ab a) : a = 252 ∨ a = 264 := ha2
theorem r_h1 {a : Nat} (ha : z_A 37 a) (ha2 : z_ab a) {n : Nat} (hn5 : n ≤ 5) {ml : hr_M} {w h t heat : Int} {wm : Nat → Int} {A : Nat → Int} (ht : 0 ≤ t) (ht2 : t ≤ 2147483647) (hWP : ∀ k : Nat, k < 9 → r_i (hr_wb heat wm n A k (hr_b k n 0 A 0)) ∧ r_i (hr_pc (hr_b k n 0 A 0))) : ∀ (f x : Nat) (m : z_M), x + f = 9 → m 251 1 = w → m 251 2 = h → m 251 3 = (n : Int) → m 251 5 = heat → m a 35 = t → (∀ p, p < 5 → rwm m p t = wm p) → r_Hml ml m → r_rg a m → rS m a n = A → ∃ m', z_R 208 (m, 22, [(2, 251), (2, ((a : Nat) : Int)), (0, (x : Int)), (9, 0), (9, 0)], []) = z_R 208 (m', 75, [(2, 251), (2, ((a : Nat) : Int)), (0, 0), (9, 0), (9, 0)], []) ∧ (∀ k, x ≤ k → k < 9 → m' 262 k = hr_me w h heat ml wm n A k) ∧ (∀ k, k < x → m' 262 k = m 262 k) ∧ m' 251 28 = hr_ms (hr_me w h heat ml wm n A) f x (m 251 28) ∧ z_same r_L1 m m' := by
  have ha3 := r_ne251 ha2
  intro f
  induction f with
  | zero =>
    intro x m hx hw hh hn hheat h35 hwm hml h0 hA
    rw [t_hr_22 ha ha2 m x ⟨by omega, by omega⟩, if_pos (by omega)]
    exact ⟨m, rfl, fun k h1 h2 => by omega, fun k _ => rfl, rfl, z_same.rf⟩
  | succ f ih =>
    intro x m hx hw hh hn hheat h35 hwm hml h0 hA
    have go : ∀ (m1 : z_M) (u : Int), z_same r_RL m m1 → u = hr_me w h heat ml wm n A x → ∃ m', z_R 208 (z_up (z_up m1 262 x u) 251 28 (z_add (m1 251 28) ((z_up m1 262 x u) 262 x)), 22, [(2, 251), (2, ((a : Nat) : Int)), (0, ((x + 1 : Nat) : Int)), (9, 0), (9, 0)], []) = z_R 208 (m', 75, [(2, 251), (2, ((a : Nat) : Int)), (0, 0), (9, 0), (9, 0)], []) ∧ (∀ k, x ≤ k → k < 9 → m' 262 k = hr_me w h heat ml wm n A k) ∧ (∀ k, k < x → m' 262 k = m 262 k) ∧ m' 251 28 = hr_ms (hr_me w h heat ml wm n A) f (x + 1) (z_add (m 251 28) (hr_me w h heat ml wm n A x)) ∧ z_same r_L1 m m' := by
      intro m1 u sm hu
      have s1 : z_same r_L1 m m1 := sm.subo (by (try unfold r_RL); (try unfold r_L1); (try unfold r_LP); (try unfold r_LG); (repeat' (first | exact trivial | refine z_sbo_c ?_ ?_)) <;> (intro k h1 h2; first | exact z_on_h rfl (by omega) (by omega) | exact z_on_t (z_on_h rfl (by omega) (by omega)) | exact z_on_t (z_on_t (z_on_h rfl (by omega) (by omega))) | exact z_on_t (z_on_t (z_on_t (z_on_h rfl (by omega) (by omega)))) | exact z_on_t (z_on_t (z_on_t (z_on_t (z_on_h rfl (by omega) (by omega))))) | exact z_on_t (z_on_t (z_on_t (z_on_t (z_on_t (z_on_h rfl (by omega) (by omega)))))) | exact z_on_t (z_on_t (z_on_t (z_on_t (z_on_t (z_on_t (z_on_h rfl (by omega) (by omega))))))) | exact z_on_t (z_on_t (z_on_t (z_on_t (z_on_t (z_on_t (z_on_t (z_on_h rfl (by omega) (by omega)))))))) | exact z_on_t (z_on_t (z_on_t (z_on_t (z_on_t (z_on_t (z_on_t (z_on_t (z_on_h rfl (by omega) (by omega))))))))) | exact z_on_t (z_on_t (z_on_t (z_on_t (z_on_t (z_on_t (z_on_t (z_on_t (z_on_t (z_on_h rfl (by omega) (by omega)))))))))) | exact z_on_t (z_on_t (z_on_t (z_on_t (z_on_t (z_on_t (z_on_t (z_on_t (z_on_t (z_on_t (z_on_h rfl (by omega) (by omega))))))))))) | exact z_on_t (z_on_t (z_on_t (z_on_t (z_on_t (z_on_t (z_on_t (z_on_t (z_on_t (z_on_t (z_on_t (z_on_h rfl (by omega) (by omega)))))))))))) | exact z_on_t (z_on_t (z_on_t (z_on_t (z_on_t (z_on_t (z_on_t (z_on_t (z_on_t (z_on_t (z_on_t (z_on_t (z_on_h rfl (by omega) (by omega)))))))))))))))
      have s2 : z_same r_L1 m (z_up (z_up m1 262 x u) 251 28 (z_add (m1 251 28) ((z_up m1 262 x u) 262 x))) := (s1.upo (by (try unfold r_RL); (try unfold r_L1); (try unfold r_LP); (try unfold r_LG); first | exact z_on_h rfl (by omega) (by omega) | exact z_on_t (z_on_h rfl (by omega) (by omega)) | exact z_on_t (z_on_t (z_on_h rfl (by omega) (by omega))) | exact z_on_t (z_on_t (z_on_t (z_on_h rfl (by omega) (by omega)))) | exact z_on_t (z_on_t (z_on_t (z_on_t (z_on_h rfl (by omega) (by omega))))) | exact z_on_t (z_on_t (z_on_t (z_on_t (z_on_t (z_on_h rfl (by omega) (by omega)))))) | exact z_on_t (z_on_t (z_on_t (z_on_t (z_on_t (z_on_t (z_on_h rfl (by omega) (by omega))))))) | exact z_on_t (z_on_t (z_on_t (z_on_t (z_on_t (z_on_t (z_on_t (z_on_h rfl (by omega) (by omega)))))))) | exact z_on_t (z_on_t (z_on_t (z_on_t (z_on_t (z_on_t (z_on_t (z_on_t (z_on_h rfl (by omega) (by omega))))))))) | exact z_on_t (z_on_t (z_on_t (z_on_t (z_on_t (z_on_t (z_on_t (z_on_t (z_on_t (z_on_h rfl (by omega) (by omega)))))))))) | exact z_on_t (z_on_t (z_on_t (z_on_t (z_on_t (z_on_t (z_on_t (z_on_t (z_on_t (z_on_t (z_on_h rfl (by omega) (by omega))))))))))) | exact z_on_t (z_on_t (z_on_t (z_on_t (z_on_t (z_on_t (z_on_t (z_on_t (z_on_t (z_on_t (z_on_t (z_on_h rfl (by omega) (by omega)))))))))))) | exact z_on_t (z_on_t (z_on_t (z_on_t (z_on_t (z_on_t (z_on_t (z_on_t (z_on_t (z_on_t (z_on_t (z_on_t (z_on_h rfl (by omega) (by omega))))))))))))))).upo (by (try unfold r_RL); (try unfold r_L1); (try unfold r_LP); (try unfold r_LG); first | exact z_on_h rfl (by omega) (by omega) | exact z_on_t (z_on_h rfl (by omega) (by omega)) | exact z_on_t (z_on_t (z_on_h rfl (by omega) (by omega))) | exact z_on_t (z_on_t (z_on_t (z_on_h rfl (by omega) (by omega)))) | exact z_on_t (z_on_t (z_on_t (z_on_t (z_on_h rfl (by omega) (by omega))))) | exact z_on_t (z_on_t (z_on_t (z_on_t (z_on_t (z_on_h rfl (by omega) (by omega)))))) | exact z_on_t (z_on_t (z_on_t (z_on_t (z_on_t (z_on_t (z_on_h rfl (by omega) (by omega))))))) | exact z_on_t (z_on_t (z_on_t (z_on_t (z_on_t (z_on_t (z_on_t (z_on_h rfl (by omega) (by omega)))))))) | exact z_on_t (z_on_t (z_on_t (z_on_t (z_on_t (z_on_t (z_on_t (z_on_t (z_on_h rfl (by omega) (by omega))))))))) | exact z_on_t (z_on_t (z_on_t (z_on_t (z_on_t (z_on_t (z_on_t (z_on_t (z_on_t (z_on_h rfl (by omega) (by omega)))))))))) | exact z_on_t (z_on_t (z_on_t (z_on_t (z_on_t (z_on_t (z_on_t (z_on_t (z_on_t (z_on_t (z_on_h rfl (by omega) (by omega))))))))))) | exact z_on_t (z_on_t (z_on_t (z_on_t (z_on_t (z_on_t (z_on_t (z_on_t (z_on_t (z_on_t (z_on_t (z_on_h rfl (by omega) (by omega)))))))))))) | exact z_on_t (z_on_t (z_on_t (z_on_t (z_on_t (z_on_t (z_on_t (z_on_t (z_on_t (z_on_t (z_on_t (z_on_t (z_on_h rfl (by omega) (by omega))))))))))))))
      generalize hm2 : z_up (z_up m1 262 x u) 251 28 (z_add (m1 251 28) ((z_up m1 262 x u) 262 x)) = m2 at s2 ⊢
      have e28 : m2 251 28 = z_add (m 251 28) (hr_me w h heat ml wm n A x) := by rw [← hm2, zu_self, zu_self, hu, sm.of (by (try unfold r_RL); (try unfold r_L1); (try unfold r_LP); (try unfold r_LG); (repeat' (first | exact trivial | refine z_of_c ?_ ?_)) <;> omega)]
      have e262 : m2 262 x = hr_me w h heat ml wm n A x := by rw [← hm2, zu_p (by decide), zu_self, hu]
      have e262' : ∀ k, ¬ k = x → m2 262 k = m 262 k := fun k hk => by rw [← hm2, zu_p (by decide), zu_k hk, sm.of (by (try unfold r_RL); (try unfold r_L1); (try unfold r_LP); (try unfold r_LG); (repeat' (first | exact trivial | refine z_of_c ?_ ?_)) <;> omega)]
      have ea : m2 a = m a := s2.ofr (by (try unfold r_RL); (try unfold r_L1); (try unfold r_LP); (try unfold r_LG); (repeat' (first | exact trivial | refine z_ofr_c ?_ ?_)) <;> omega)
      obtain ⟨m', a1, a2, a3, a4, a5⟩ := ih (x + 1) m2 (by omega) ((s2.of (by (try unfold r_RL); (try unfold r_L1); (try unfold r_LP); (try unfold r_LG); (repeat' (first | exact trivial | refine z_of_c ?_ ?_)) <;> omega)).trans hw) ((s2.of (by (try unfold r_RL); (try unfold r_L1); (try unfold r_LP); (try unfold r_LG); (repeat' (first | exact trivial | refine z_of_c ?_ ?_)) <;> omega)).trans hh) ((s2.of (by (try unfold r_RL); (try unfold r_L1); (try unfold r_LP); (try unfold r_LG); (repeat' (first | exact trivial | refine z_of_c ?_ ?_)) <;> omega)).trans hn) ((s2.of (by (try unfold r_RL); (try unfold r_L1); (try unfold r_LP); (try unfold r_LG); (repeat' (first | exact trivial | refine z_of_c ?_ ?_)) <;> omega)).trans hheat) ((congrFun ea 35).trans h35) (fun p hp => (rwm_sm (s2.of (by (try unfold r_RL); (try unfold r_L1); (try unfold r_LP); (try unfold r_LG); (repeat' (first | exact trivial | refine z_of_c ?_ ?_)) <;> omega)) (s2.ofr (by (try unfold r_RL); (try unfold r_L1); (try unfold r_LP); (try unfold r_LG); (repeat' (first | exact trivial | refine z_ofr_c ?_ ?_)) <;> omega))).trans (hwm p hp)) (fun m3 z1 z2 => hml m3 (z1.trans (s2.ofr (by (try unfold r_RL); (try unfold r_L1); (try unfold r_LP); (try unfold r_LG); (repeat' (first | exact trivial | refine z_ofr_c ?_ ?_)) <;> omega))) (z2.trans (s2.of (by (try unfold r_RL); (try unfold r_L1); (try unfold r_LP); (try unfold r_LG); (repeat' (first | exact trivial | refine z_of_c ?_ ?_)) <;> omega)))) (by unfold r_rg; rw [ea]; exact h0) ((rS_row ea).trans hA)
      refine ⟨m', a1, fun k h1 h2 => ?_, fun k h1 => ?_, by rw [a4, e28], s2.tr a5⟩
      · by_cases hk : k = x
        · rw [hk, a3 x (by omega), e262]
        · exact a2 k (by omega) h2
      · rw [a3 k (by omega), e262' k (by omega)]
    rw [t_hr_22 ha ha2 m x ⟨by omega, by omega⟩, if_neg (by omega), t_roomv, zb_v, t_hr_38 ha ha2 m x x _ ⟨by omega, by omega⟩ ⟨by omega, by omega⟩, hw, hh, Int.toNat_natCast, tc1]
    unfold hr_ms
    by_cases c : u_hs w h (x : Int) = 0
    · rw [if_pos c]
      exact go m 0 z_same.rf (by unfold hr_me; rw [if_pos c])
    · rw [if_neg c]
      obtain ⟨m1, b1, b2⟩ := r_mn ha ha2 hn5 ht ht2 m hn hheat h35 hwm hml (k := x) (by omega) h0 (by rw [hA]; exact (hWP x (by omega)).1) (by rw [hA]; exact (hWP x (by omega)).2)
      rw [b1, zb_v, t_hr_47 ha ha2 m1 x x _ ⟨by omega, by omega⟩ ⟨by omega, by omega⟩, Int.toNat_natCast, tc1]
      exact go m1 _ b2 (by unfold hr_me; rw [if_neg c, hA])
def hr_o (wm : Nat → Int) (price : Int) : Nat → Nat → (Nat → Int) → (Nat → Int)
  | 0, _, A => A
  | f + 1, x, A => hr_o wm price f (x + 1) (if A (x + 18) = -1 then A else u_up A (x + 23) (z_add (A (x + 23)) (z_mul price (wm x))))
theorem r_h2 {a : Nat} (ha : z_A 37 a) (ha2 : z_ab a) {n : Nat} (hn5 : n ≤ 5) {t price : Int} {wm : Nat → Int} (ht : 0 ≤ t) (ht2 : t ≤ 2147483647) {h : Int} (hh3 : 0 ≤ h ∧ h ≤ 3) : ∀ (f x : Nat) (m : z_M), x + f = n → m 251 2 = h → m 251 3 = (n : Int) → m 251 6 = price → m a 35 = t → (∀ p, p < 5 → rwm m p t = wm p) → ∃ m', z_R 208 (m, 75, [(2, 251), (2, ((a : Nat) : Int)), (0, (x : Int)), (9, 0), (9, 0)], []) = z_R 208 (m', 126, [(2, 251), (2, ((a : Nat) : Int)), (0, h - 1), (9, 0), (9, 0)], []) ∧ rS m' a n = hr_o wm price f x (rS m a n) ∧ z_same [(a, 23, 27)] m m' := by
  have ha3 := r_ne251 ha2
  intro f
  induction f with
  | zero =>
    intro x m hx hh hn hp h35 hw
    rw [t_hr_75 ha ha2 m x ⟨by omega, by omega⟩ ⟨by omega, by omega⟩ ⟨by omega, by omega⟩, if_pos (by omega), hh]
    exact ⟨m, rfl, rfl, z_same.rf⟩
  | succ f ih =>
    intro x m hx hh hn hp h35 hw
    have eA : rS m a n (x + 18) = m a (x + 18) := rS_at (by omega) (a_vis_p (b := 18) (p := x) (by omega) (by omega) (by omega) (by omega))
    have eO : rS m a n (x + 23) = m a (x + 23) := rS_at (by omega) (a_vis_p (b := 23) (p := x) (by omega) (by omega) (by omega) (by omega))
    rw [t_hr_75 ha ha2 m x ⟨by omega, by omega⟩ ⟨by omega, by omega⟩ ⟨by omega, by omega⟩, if_neg (by omega), tn18, tn23, tc1]
    unfold hr_o
    rw [eA]
    by_cases c : m a (x + 18) = -1
    · rw [if_pos c, if_pos c]
      exact ih (x + 1) m (by omega) hh hn hp h35 hw
    · rw [if_neg c, if_neg c, r_wo ha ha2 m (by omega) h35 ht ht2, zb_v, t_hr_110 ha ha2 m x _ _ ((x : Int) + 23) _ ⟨by omega, by omega⟩ ⟨by omega, by omega⟩, tn23, tc1, hw x (by omega), hp, eO]
      have sm : z_same [(a, 23, 27)] m (z_up m a (x + 23) (z_add (m a (x + 23)) (z_mul price (wm x)))) := z_same.rf.upo (by (try unfold r_RL); (try unfold r_L1); (try unfold r_LP); (try unfold r_LG); first | exact z_on_h rfl (by omega) (by omega) | exact z_on_t (z_on_h rfl (by omega) (by omega)) | exact z_on_t (z_on_t (z_on_h rfl (by omega) (by omega))) | exact z_on_t (z_on_t (z_on_t (z_on_h rfl (by omega) (by omega)))) | exact z_on_t (z_on_t (z_on_t (z_on_t (z_on_h rfl (by omega) (by omega))))) | exact z_on_t (z_on_t (z_on_t (z_on_t (z_on_t (z_on_h rfl (by omega) (by omega)))))) | exact z_on_t (z_on_t (z_on_t (z_on_t (z_on_t (z_on_t (z_on_h rfl (by omega) (by omega))))))) | exact z_on_t (z_on_t (z_on_t (z_on_t (z_on_t (z_on_t (z_on_t (z_on_h rfl (by omega) (by omega)))))))) | exact z_on_t (z_on_t (z_on_t (z_on_t (z_on_t (z_on_t (z_on_t (z_on_t (z_on_h rfl (by omega) (by omega))))))))) | exact z_on_t (z_on_t (z_on_t (z_on_t (z_on_t (z_on_t (z_on_t (z_on_t (z_on_t (z_on_h rfl (by omega) (by omega)))))))))) | exact z_on_t (z_on_t (z_on_t (z_on_t (z_on_t (z_on_t (z_on_t (z_on_t (z_on_t (z_on_t (z_on_h rfl (by omega) (by omega))))))))))) | exact z_on_t (z_on_t (z_on_t (z_on_t (z_on_t (z_on_t (z_on_t (z_on_t (z_on_t (z_on_t (z_on_t (z_on_h rfl (by omega) (by omega)))))))))))) | exact z_on_t (z_on_t (z_on_t (z_on_t (z_on_t (z_on_t (z_on_t (z_on_t (z_on_t (z_on_t (z_on_t (z_on_t (z_on_h rfl (by omega) (by omega))))))))))))))
      generalize hm1 : z_up m a (x + 23) (z_add (m a (x + 23)) (z_mul price (wm x))) = m1 at sm ⊢
      have eS : rS m1 a n = u_up (rS m a n) (x + 23) (z_add (m a (x + 23)) (z_mul price (wm x))) := by rw [← hm1, rS_up (by omega) (a_vis_p (b := 23) (p := x) (by omega) (by omega) (by omega) (by omega))]
      obtain ⟨m', a1, a2, a3⟩ := ih (x + 1) m1 (by omega) ((sm.of (by (try unfold r_RL); (try unfold r_L1); (try unfold r_LP); (try unfold r_LG); (repeat' (first | exact trivial | refine z_of_c ?_ ?_)) <;> omega)).trans hh) ((sm.of (by (try unfold r_RL); (try unfold r_L1); (try unfold r_LP); (try unfold r_LG); (repeat' (first | exact trivial | refine z_of_c ?_ ?_)) <;> omega)).trans hn) ((sm.of (by (try unfold r_RL); (try unfold r_L1); (try unfold r_LP); (try unfold r_LG); (repeat' (first | exact trivial | refine z_of_c ?_ ?_)) <;> omega)).trans hp) ((sm.of (by (try unfold r_RL); (try unfold r_L1); (try unfold r_LP); (try unfold r_LG); (repeat' (first | exact trivial | refine z_of_c ?_ ?_)) <;> omega)).trans h35) (fun p hp5 => (rwm_sm (sm.of (by (try unfold r_RL); (try unfold r_L1); (try unfold r_LP); (try unfold r_LG); (repeat' (first | exact trivial | refine z_of_c ?_ ?_)) <;> omega)) (sm.ofr (by (try unfold r_RL); (try unfold r_L1); (try unfold r_LP); (try unfold r_LG); (repeat' (first | exact trivial | refine z_ofr_c ?_ ?_)) <;> omega))).trans (hw p hp5))
      rw [eS] at a2
      exact ⟨m', a1, a2, sm.tr a3⟩
/-! what melted drips, from the lowest storey up -/
def hr_x (h : Nat) (e : Nat → Int) (y : Nat) : Nat → Nat → (Nat → Int) → (Nat → Int)
  | 0, _, A => A
  | f + 1, x, A => hr_x h e y f (x + 1) (hr_d1 (if y + 1 = h then 0 else 1) (e (3 * y + x)) (3 * y + x) A)
def hr_y (w h : Nat) (e : Nat → Int) : Nat → (Nat → Int) → (Nat → Int)
  | 0, A => A
  | y + 1, A => hr_y w h e y (hr_x h e y w 0 A)
theorem r_h3x {a : Nat} (ha : z_A 37 a) (ha2 : z_ab a) {n w h y : Nat} (hw3 : w ≤ 3) (hh3 : h ≤ 3) (hy : y < h) {e : Nat → Int} : ∀ (f x : Nat) (v4 : z_V) (m : z_M), x + f = w → m 251 1 = (w : Int) → m 251 2 = (h : Int) → (∀ k, k < 9 → m 262 k = e k) → ∃ m' v4', z_R 208 (m, 132, [(2, 251), (2, ((a : Nat) : Int)), (0, (y : Int)), (0, (x : Int)), v4], []) = z_R 208 (m', 126, [(2, 251), (2, ((a : Nat) : Int)), (0, (y : Int) - 1), (0, (w : Int)), v4'], []) ∧ rS m' a n = hr_x h e y f x (rS m a n) ∧ z_same [(a, 0, 17), (a, 33, 33)] m m' := by
  have ha3 := r_ne251 ha2
  intro f
  induction f with
  | zero =>
    intro x v4 m hx hw hh he
    have ex : x = w := by omega
    subst ex
    rw [t_hr_132 ha ha2 m y x v4 ⟨by omega, by omega⟩ ⟨by omega, by omega⟩ ⟨by omega, by omega⟩ ⟨by omega, by omega⟩, if_pos (by omega)]
    exact ⟨m, v4, rfl, rfl, z_same.rf⟩
  | succ f ih =>
    intro x v4 m hx hw hh he
    generalize hr : 3 * y + x = r
    have hr9 : r < 9 := by omega
    have t0 : (3 * (y : Int) + (x : Int)).toNat = r := by omega
    have t9 : (3 * (y : Int) + (x : Int) + 9).toNat = r + 9 := by omega
    have t12 : (3 * (y : Int) + (x : Int) + 12).toNat = r + 12 := by omega
    have e0 : rS m a n r = m a r := rS_at (by omega) (a_vis_lo (by omega))
    have e9 : rS m a n (r + 9) = m a (r + 9) := rS_at (by omega) (a_vis_lo (by omega))
    have e33 : rS m a n 33 = m a 33 := rS_at (by omega) (a_vis_hi (by omega))
    rw [t_hr_132 ha ha2 m y x v4 ⟨by omega, by omega⟩ ⟨by omega, by omega⟩ ⟨by omega, by omega⟩ ⟨by omega, by omega⟩, if_neg (by omega), t0, t9, t12, tc1, he r hr9]
    unfold hr_x
    rw [hr]
    have go : ∀ m1 : z_M, z_same [(a, 0, 17), (a, 33, 33)] m m1 → rS m1 a n = hr_d1 (if y + 1 = h then 0 else 1) (e r) r (rS m a n) → ∃ m' v4', z_R 208 (m1, 132, [(2, 251), (2, ((a : Nat) : Int)), (0, (y : Int)), (0, ((x + 1 : Nat) : Int)), (0, 3 * (y : Int) + (x : Int))], []) = z_R 208 (m', 126, [(2, 251), (2, ((a : Nat) : Int)), (0, (y : Int) - 1), (0, (w : Int)), v4'], []) ∧ rS m' a n = hr_x h e y f (x + 1) (hr_d1 (if y + 1 = h then 0 else 1) (e r) r (rS m a n)) ∧ z_same [(a, 0, 17), (a, 33, 33)] m m' := by
      intro m1 sm eS
      obtain ⟨m', v4', a1, a2, a3⟩ := ih (x + 1) (0, 3 * (y : Int) + (x : Int)) m1 (by omega) ((sm.of (by (try unfold r_RL); (try unfold r_L1); (try unfold r_LP); (try unfold r_LG); (repeat' (first | exact trivial | refine z_of_c ?_ ?_)) <;> omega)).trans hw) ((sm.of (by (try unfold r_RL); (try unfold r_L1); (try unfold r_LP); (try unfold r_LG); (repeat' (first | exact trivial | refine z_of_c ?_ ?_)) <;> omega)).trans hh) (fun k hk => (sm.of (by (try unfold r_RL); (try unfold r_L1); (try unfold r_LP); (try unfold r_LG); (repeat' (first | exact trivial | refine z_of_c ?_ ?_)) <;> omega)).trans (he k hk))
      rw [eS] at a2
      exact ⟨m', v4', a1, a2, sm.tr a3⟩
    by_cases c : (y : Int) = (h : Int) - 1
    · have c' : y + 1 = h := by omega
      rw [hh, if_pos c]
      refine go _ (((z_same.rf.upo (by (try unfold r_RL); (try unfold r_L1); (try unfold r_LP); (try unfold r_LG); first | exact z_on_h rfl (by omega) (by omega) | exact z_on_t (z_on_h rfl (by omega) (by omega)) | exact z_on_t (z_on_t (z_on_h rfl (by omega) (by omega))) | exact z_on_t (z_on_t (z_on_t (z_on_h rfl (by omega) (by omega)))) | exact z_on_t (z_on_t (z_on_t (z_on_t (z_on_h rfl (by omega) (by omega))))) | exact z_on_t (z_on_t (z_on_t (z_on_t (z_on_t (z_on_h rfl (by omega) (by omega)))))) | exact z_on_t (z_on_t (z_on_t (z_on_t (z_on_t (z_on_t (z_on_h rfl (by omega) (by omega))))))) | exact z_on_t (z_on_t (z_on_t (z_on_t (z_on_t (z_on_t (z_on_t (z_on_h rfl (by omega) (by omega)))))))) | exact z_on_t (z_on_t (z_on_t (z_on_t (z_on_t (z_on_t (z_on_t (z_on_t (z_on_h rfl (by omega) (by omega))))))))) | exact z_on_t (z_on_t (z_on_t (z_on_t (z_on_t (z_on_t (z_on_t (z_on_t (z_on_t (z_on_h rfl (by omega) (by omega)))))))))) | exact z_on_t (z_on_t (z_on_t (z_on_t (z_on_t (z_on_t (z_on_t (z_on_t (z_on_t (z_on_t (z_on_h rfl (by omega) (by omega))))))))))) | exact z_on_t (z_on_t (z_on_t (z_on_t (z_on_t (z_on_t (z_on_t (z_on_t (z_on_t (z_on_t (z_on_t (z_on_h rfl (by omega) (by omega)))))))))))) | exact z_on_t (z_on_t (z_on_t (z_on_t (z_on_t (z_on_t (z_on_t (z_on_t (z_on_t (z_on_t (z_on_t (z_on_t (z_on_h rfl (by omega) (by omega))))))))))))))).upo (by (try unfold r_RL); (try unfold r_L1); (try unfold r_LP); (try unfold r_LG); first | exact z_on_h rfl (by omega) (by omega) | exact z_on_t (z_on_h rfl (by omega) (by omega)) | exact z_on_t (z_on_t (z_on_h rfl (by omega) (by omega))) | exact z_on_t (z_on_t (z_on_t (z_on_h rfl (by omega) (by omega)))) | exact z_on_t (z_on_t (z_on_t (z_on_t (z_on_h rfl (by omega) (by omega))))) | exact z_on_t (z_on_t (z_on_t (z_on_t (z_on_t (z_on_h rfl (by omega) (by omega)))))) | exact z_on_t (z_on_t (z_on_t (z_on_t (z_on_t (z_on_t (z_on_h rfl (by omega) (by omega))))))) | exact z_on_t (z_on_t (z_on_t (z_on_t (z_on_t (z_on_t (z_on_t (z_on_h rfl (by omega) (by omega)))))))) | exact z_on_t (z_on_t (z_on_t (z_on_t (z_on_t (z_on_t (z_on_t (z_on_t (z_on_h rfl (by omega) (by omega))))))))) | exact z_on_t (z_on_t (z_on_t (z_on_t (z_on_t (z_on_t (z_on_t (z_on_t (z_on_t (z_on_h rfl (by omega) (by omega)))))))))) | exact z_on_t (z_on_t (z_on_t (z_on_t (z_on_t (z_on_t (z_on_t (z_on_t (z_on_t (z_on_t (z_on_h rfl (by omega) (by omega))))))))))) | exact z_on_t (z_on_t (z_on_t (z_on_t (z_on_t (z_on_t (z_on_t (z_on_t (z_on_t (z_on_t (z_on_t (z_on_h rfl (by omega) (by omega)))))))))))) | exact z_on_t (z_on_t (z_on_t (z_on_t (z_on_t (z_on_t (z_on_t (z_on_t (z_on_t (z_on_t (z_on_t (z_on_t (z_on_h rfl (by omega) (by omega))))))))))))))).upo (by (try unfold r_RL); (try unfold r_L1); (try unfold r_LP); (try unfold r_LG); first | exact z_on_h rfl (by omega) (by omega) | exact z_on_t (z_on_h rfl (by omega) (by omega)) | exact z_on_t (z_on_t (z_on_h rfl (by omega) (by omega))) | exact z_on_t (z_on_t (z_on_t (z_on_h rfl (by omega) (by omega)))) | exact z_on_t (z_on_t (z_on_t (z_on_t (z_on_h rfl (by omega) (by omega))))) | exact z_on_t (z_on_t (z_on_t (z_on_t (z_on_t (z_on_h rfl (by omega) (by omega)))))) | exact z_on_t (z_on_t (z_on_t (z_on_t (z_on_t (z_on_t (z_on_h rfl (by omega) (by omega))))))) | exact z_on_t (z_on_t (z_on_t (z_on_t (z_on_t (z_on_t (z_on_t (z_on_h rfl (by omega) (by omega)))))))) | exact z_on_t (z_on_t (z_on_t (z_on_t (z_on_t (z_on_t (z_on_t (z_on_t (z_on_h rfl (by omega) (by omega))))))))) | exact z_on_t (z_on_t (z_on_t (z_on_t (z_on_t (z_on_t (z_on_t (z_on_t (z_on_t (z_on_h rfl (by omega) (by omega)))))))))) | exact z_on_t (z_on_t (z_on_t (z_on_t (z_on_t (z_on_t (z_on_t (z_on_t (z_on_t (z_on_t (z_on_h rfl (by omega) (by omega))))))))))) | exact z_on_t (z_on_t (z_on_t (z_on_t (z_on_t (z_on_t (z_on_t (z_on_t (z_on_t (z_on_t (z_on_t (z_on_h rfl (by omega) (by omega)))))))))))) | exact z_on_t (z_on_t (z_on_t (z_on_t (z_on_t (z_on_t (z_on_t (z_on_t (z_on_t (z_on_t (z_on_t (z_on_t (z_on_h rfl (by omega) (by omega))))))))))))))) ?_
      rw [rS_up (by omega) (a_vis_lo (by omega)), rS_up (by omega) (a_vis_lo (by omega)), rS_up (by omega) (a_vis_hi (by omega))]
      unfold hr_d1
      rw [if_pos c', if_pos rfl, e0, e9, e33]
    · have c' : ¬ y + 1 = h := by omega
      have e12 : rS m a n (r + 12) = m a (r + 12) := rS_at (by omega) (a_vis_lo (by omega))
      rw [hh, if_neg c]
      refine go _ (((z_same.rf.upo (by (try unfold r_RL); (try unfold r_L1); (try unfold r_LP); (try unfold r_LG); first | exact z_on_h rfl (by omega) (by omega) | exact z_on_t (z_on_h rfl (by omega) (by omega)) | exact z_on_t (z_on_t (z_on_h rfl (by omega) (by omega))) | exact z_on_t (z_on_t (z_on_t (z_on_h rfl (by omega) (by omega)))) | exact z_on_t (z_on_t (z_on_t (z_on_t (z_on_h rfl (by omega) (by omega))))) | exact z_on_t (z_on_t (z_on_t (z_on_t (z_on_t (z_on_h rfl (by omega) (by omega)))))) | exact z_on_t (z_on_t (z_on_t (z_on_t (z_on_t (z_on_t (z_on_h rfl (by omega) (by omega))))))) | exact z_on_t (z_on_t (z_on_t (z_on_t (z_on_t (z_on_t (z_on_t (z_on_h rfl (by omega) (by omega)))))))) | exact z_on_t (z_on_t (z_on_t (z_on_t (z_on_t (z_on_t (z_on_t (z_on_t (z_on_h rfl (by omega) (by omega))))))))) | exact z_on_t (z_on_t (z_on_t (z_on_t (z_on_t (z_on_t (z_on_t (z_on_t (z_on_t (z_on_h rfl (by omega) (by omega)))))))))) | exact z_on_t (z_on_t (z_on_t (z_on_t (z_on_t (z_on_t (z_on_t (z_on_t (z_on_t (z_on_t (z_on_h rfl (by omega) (by omega))))))))))) | exact z_on_t (z_on_t (z_on_t (z_on_t (z_on_t (z_on_t (z_on_t (z_on_t (z_on_t (z_on_t (z_on_t (z_on_h rfl (by omega) (by omega)))))))))))) | exact z_on_t (z_on_t (z_on_t (z_on_t (z_on_t (z_on_t (z_on_t (z_on_t (z_on_t (z_on_t (z_on_t (z_on_t (z_on_h rfl (by omega) (by omega))))))))))))))).upo (by (try unfold r_RL); (try unfold r_L1); (try unfold r_LP); (try unfold r_LG); first | exact z_on_h rfl (by omega) (by omega) | exact z_on_t (z_on_h rfl (by omega) (by omega)) | exact z_on_t (z_on_t (z_on_h rfl (by omega) (by omega))) | exact z_on_t (z_on_t (z_on_t (z_on_h rfl (by omega) (by omega)))) | exact z_on_t (z_on_t (z_on_t (z_on_t (z_on_h rfl (by omega) (by omega))))) | exact z_on_t (z_on_t (z_on_t (z_on_t (z_on_t (z_on_h rfl (by omega) (by omega)))))) | exact z_on_t (z_on_t (z_on_t (z_on_t (z_on_t (z_on_t (z_on_h rfl (by omega) (by omega))))))) | exact z_on_t (z_on_t (z_on_t (z_on_t (z_on_t (z_on_t (z_on_t (z_on_h rfl (by omega) (by omega)))))))) | exact z_on_t (z_on_t (z_on_t (z_on_t (z_on_t (z_on_t (z_on_t (z_on_t (z_on_h rfl (by omega) (by omega))))))))) | exact z_on_t (z_on_t (z_on_t (z_on_t (z_on_t (z_on_t (z_on_t (z_on_t (z_on_t (z_on_h rfl (by omega) (by omega)))))))))) | exact z_on_t (z_on_t (z_on_t (z_on_t (z_on_t (z_on_t (z_on_t (z_on_t (z_on_t (z_on_t (z_on_h rfl (by omega) (by omega))))))))))) | exact z_on_t (z_on_t (z_on_t (z_on_t (z_on_t (z_on_t (z_on_t (z_on_t (z_on_t (z_on_t (z_on_t (z_on_h rfl (by omega) (by omega)))))))))))) | exact z_on_t (z_on_t (z_on_t (z_on_t (z_on_t (z_on_t (z_on_t (z_on_t (z_on_t (z_on_t (z_on_t (z_on_t (z_on_h rfl (by omega) (by omega))))))))))))))).upo (by (try unfold r_RL); (try unfold r_L1); (try unfold r_LP); (try unfold r_LG); first | exact z_on_h rfl (by omega) (by omega) | exact z_on_t (z_on_h rfl (by omega) (by omega)) | exact z_on_t (z_on_t (z_on_h rfl (by omega) (by omega))) | exact z_on_t (z_on_t (z_on_t (z_on_h rfl (by omega) (by omega)))) | exact z_on_t (z_on_t (z_on_t (z_on_t (z_on_h rfl (by omega) (by omega))))) | exact z_on_t (z_on_t (z_on_t (z_on_t (z_on_t (z_on_h rfl (by omega) (by omega)))))) | exact z_on_t (z_on_t (z_on_t (z_on_t (z_on_t (z_on_t (z_on_h rfl (by omega) (by omega))))))) | exact z_on_t (z_on_t (z_on_t (z_on_t (z_on_t (z_on_t (z_on_t (z_on_h rfl (by omega) (by omega)))))))) | exact z_on_t (z_on_t (z_on_t (z_on_t (z_on_t (z_on_t (z_on_t (z_on_t (z_on_h rfl (by omega) (by omega))))))))) | exact z_on_t (z_on_t (z_on_t (z_on_t (z_on_t (z_on_t (z_on_t (z_on_t (z_on_t (z_on_h rfl (by omega) (by omega)))))))))) | exact z_on_t (z_on_t (z_on_t (z_on_t (z_on_t (z_on_t (z_on_t (z_on_t (z_on_t (z_on_t (z_on_h rfl (by omega) (by omega))))))))))) | exact z_on_t (z_on_t (z_on_t (z_on_t (z_on_t (z_on_t (z_on_t (z_on_t (z_on_t (z_on_t (z_on_t (z_on_h rfl (by omega) (by omega)))))))))))) | exact z_on_t (z_on_t (z_on_t (z_on_t (z_on_t (z_on_t (z_on_t (z_on_t (z_on_t (z_on_t (z_on_t (z_on_t (z_on_h rfl (by omega) (by omega))))))))))))))) ?_
      rw [rS_up (by omega) (a_vis_lo (by omega)), rS_up (by omega) (a_vis_lo (by omega)), rS_up (by omega) (a_vis_lo (by omega))]
      unfold hr_d1
      rw [if_neg c', if_neg (by decide), e0, e9, e12]
theorem r_h3 {a : Nat} (ha : z_A 37 a) (ha2 : z_ab a) {n w h : Nat} (hw3 : w ≤ 3) (hh3 : h ≤ 3) {e : Nat → Int} : ∀ (y : Nat) (v3 v4 : z_V) (m : z_M), y ≤ h → m 251 1 = (w : Int) → m 251 2 = (h : Int) → (∀ k, k < 9 → m 262 k = e k) → ∃ m' v3' v4', z_R 208 (m, 126, [(2, 251), (2, ((a : Nat) : Int)), (0, (y : Int) - 1), v3, v4], []) = z_R 208 (m', 235, [(2, 251), (2, ((a : Nat) : Int)), (0, 0), v3', v4'], []) ∧ rS m' a n = hr_y w h e y (rS m a n) ∧ z_same [(a, 0, 17), (a, 33, 33)] m m' := by
  have ha3 := r_ne251 ha2
  intro y
  induction y with
  | zero =>
    intro v3 v4 m hy hw hh he
    rw [t_hr_126 ha ha2 m _ v3 v4 ⟨by omega, by omega⟩, if_pos (by omega)]
    exact ⟨m, v3, v4, rfl, rfl, z_same.rf⟩
  | succ y ih =>
    intro v3 v4 m hy hw hh he
    rw [show ((y + 1 : Nat) : Int) - 1 = (y : Int) by omega, t_hr_126 ha ha2 m y v3 v4 ⟨by omega, by omega⟩, if_neg (by omega)]
    obtain ⟨m1, v4', a1, a2, a3⟩ := r_h3x ha ha2 (n := n) hw3 hh3 (y := y) (by omega) (e := e) w 0 v4 m (by omega) hw hh he
    obtain ⟨m2, w3, w4, b1, b2, b3⟩ := ih (0, (w : Int)) v4' m1 (by omega) ((a3.of (by (try unfold r_RL); (try unfold r_L1); (try unfold r_LP); (try unfold r_LG); (repeat' (first | exact trivial | refine z_of_c ?_ ?_)) <;> omega)).trans hw) ((a3.of (by (try unfold r_RL); (try unfold r_L1); (try unfold r_LP); (try unfold r_LG); (repeat' (first | exact trivial | refine z_of_c ?_ ?_)) <;> omega)).trans hh) (fun k hk => (a3.of (by (try unfold r_RL); (try unfold r_L1); (try unfold r_LP); (try unfold r_LG); (repeat' (first | exact trivial | refine z_of_c ?_ ?_)) <;> omega)).trans (he k hk))
    refine ⟨m2, w3, w4, ?_, ?_, a3.tr b3⟩
    · rw [show ((0 : Nat) : Int) = 0 from rfl] at a1
      rw [a1, b1]
    · rw [b2, a2]
      rfl
theorem hr_v_eq (f w i : Int) : (if (if f < w then f else w) < z_sub 99 i then (if f < w then f else w) else z_sub 99 i) = hr_v f w i := by
  unfold hr_v
  generalize z_sub 99 i = d
  by_cases h1 : f < w
  · rw [if_pos h1]
    by_cases h2 : w < f
    · omega
    rw [if_neg h2]
    by_cases h3 : f < d
    · rw [if_pos h3, if_neg (by omega)]
    · rw [if_neg h3]
      by_cases h4 : d < f
      · rw [if_pos h4]
      · rw [if_neg h4]; omega
  · rw [if_neg h1]
    by_cases h2 : w < f
    · rw [if_pos h2]
      by_cases h3 : w < d
      · rw [if_pos h3, if_neg (by omega)]
      · rw [if_neg h3]
        by_cases h4 : d < w
        · rw [if_pos h4]
        · rw [if_neg h4]; omega
    · rw [if_neg h2]
      have : w = f := by omega
      subst this
      by_cases h3 : w < d
      · rw [if_pos h3, if_neg (by omega)]
      · rw [if_neg h3]
        by_cases h4 : d < w
        · rw [if_pos h4]
        · rw [if_neg h4]; omega
def hr_F (w h : Int) : Nat → Nat → (Nat → Int) → (Nat → Int)
  | 0, _, A => A
  | f + 1, x, A => hr_F w h f (x + 1) (if u_hs w h (x : Int) = 0 then A else hr_f x A)
theorem r_h4 {a : Nat} (ha : z_A 37 a) (ha2 : z_ab a) {n : Nat} {w h : Int} : ∀ (f x : Nat) (v3 v4 : z_V) (m : z_M), x + f = 9 → m 251 1 = w → m 251 2 = h → ∃ m' v3' v4', z_R 208 (m, 235, [(2, 251), (2, ((a : Nat) : Int)), (0, (x : Int)), v3, v4], []) = z_R 208 (m', 300, [(2, 251), (2, ((a : Nat) : Int)), (0, 0), v3', v4'], []) ∧ rS m' a n = hr_F w h f x (rS m a n) ∧ z_same [(a, 0, 17)] m m' := by
  have ha3 := r_ne251 ha2
  intro f
  induction f with
  | zero =>
    intro x v3 v4 m hx hw hh
    rw [t_hr_235 ha ha2 m x v3 v4 ⟨by omega, by omega⟩, if_pos (by omega)]
    exact ⟨m, v3, v4, rfl, rfl, z_same.rf⟩
  | succ f ih =>
    intro x v3 v4 m hx hw hh
    rw [t_hr_235 ha ha2 m x v3 v4 ⟨by omega, by omega⟩, if_neg (by omega), t_roomv, zb_v, t_hr_246 ha ha2 m x v3 v4 _ ⟨by omega, by omega⟩, hw, hh, tc1, Int.toNat_natCast, tn9, hr_v_eq]
    unfold hr_F
    by_cases c : u_hs w h (x : Int) = 0
    · rw [if_pos c, if_pos c]
      exact ih (x + 1) _ _ m (by omega) hw hh
    · rw [if_neg c, if_neg c]
      have sm : z_same [(a, 0, 17)] m (z_up (z_up m a (x + 9) (z_sub (m a (x + 9)) (hr_v (m a 36) (m a (x + 9)) (m a x)))) a x (z_add (m a x) (hr_v (m a 36) (m a (x + 9)) (m a x)))) := (z_same.rf.upo (by (try unfold r_RL); (try unfold r_L1); (try unfold r_LP); (try unfold r_LG); first | exact z_on_h rfl (by omega) (by omega) | exact z_on_t (z_on_h rfl (by omega) (by omega)) | exact z_on_t (z_on_t (z_on_h rfl (by omega) (by omega))) | exact z_on_t (z_on_t (z_on_t (z_on_h rfl (by omega) (by omega)))) | exact z_on_t (z_on_t (z_on_t (z_on_t (z_on_h rfl (by omega) (by omega))))) | exact z_on_t (z_on_t (z_on_t (z_on_t (z_on_t (z_on_h rfl (by omega) (by omega)))))) | exact z_on_t (z_on_t (z_on_t (z_on_t (z_on_t (z_on_t (z_on_h rfl (by omega) (by omega))))))) | exact z_on_t (z_on_t (z_on_t (z_on_t (z_on_t (z_on_t (z_on_t (z_on_h rfl (by omega) (by omega)))))))) | exact z_on_t (z_on_t (z_on_t (z_on_t (z_on_t (z_on_t (z_on_t (z_on_t (z_on_h rfl (by omega) (by omega))))))))) | exact z_on_t (z_on_t (z_on_t (z_on_t (z_on_t (z_on_t (z_on_t (z_on_t (z_on_t (z_on_h rfl (by omega) (by omega)))))))))) | exact z_on_t (z_on_t (z_on_t (z_on_t (z_on_t (z_on_t (z_on_t (z_on_t (z_on_t (z_on_t (z_on_h rfl (by omega) (by omega))))))))))) | exact z_on_t (z_on_t (z_on_t (z_on_t (z_on_t (z_on_t (z_on_t (z_on_t (z_on_t (z_on_t (z_on_t (z_on_h rfl (by omega) (by omega)))))))))))) | exact z_on_t (z_on_t (z_on_t (z_on_t (z_on_t (z_on_t (z_on_t (z_on_t (z_on_t (z_on_t (z_on_t (z_on_t (z_on_h rfl (by omega) (by omega))))))))))))))).upo (by (try unfold r_RL); (try unfold r_L1); (try unfold r_LP); (try unfold r_LG); first | exact z_on_h rfl (by omega) (by omega) | exact z_on_t (z_on_h rfl (by omega) (by omega)) | exact z_on_t (z_on_t (z_on_h rfl (by omega) (by omega))) | exact z_on_t (z_on_t (z_on_t (z_on_h rfl (by omega) (by omega)))) | exact z_on_t (z_on_t (z_on_t (z_on_t (z_on_h rfl (by omega) (by omega))))) | exact z_on_t (z_on_t (z_on_t (z_on_t (z_on_t (z_on_h rfl (by omega) (by omega)))))) | exact z_on_t (z_on_t (z_on_t (z_on_t (z_on_t (z_on_t (z_on_h rfl (by omega) (by omega))))))) | exact z_on_t (z_on_t (z_on_t (z_on_t (z_on_t (z_on_t (z_on_t (z_on_h rfl (by omega) (by omega)))))))) | exact z_on_t (z_on_t (z_on_t (z_on_t (z_on_t (z_on_t (z_on_t (z_on_t (z_on_h rfl (by omega) (by omega))))))))) | exact z_on_t (z_on_t (z_on_t (z_on_t (z_on_t (z_on_t (z_on_t (z_on_t (z_on_t (z_on_h rfl (by omega) (by omega)))))))))) | exact z_on_t (z_on_t (z_on_t (z_on_t (z_on_t (z_on_t (z_on_t (z_on_t (z_on_t (z_on_t (z_on_h rfl (by omega) (by omega))))))))))) | exact z_on_t (z_on_t (z_on_t (z_on_t (z_on_t (z_on_t (z_on_t (z_on_t (z_on_t (z_on_t (z_on_t (z_on_h rfl (by omega) (by omega)))))))))))) | exact z_on_t (z_on_t (z_on_t (z_on_t (z_on_t (z_on_t (z_on_t (z_on_t (z_on_t (z_on_t (z_on_t (z_on_t (z_on_h rfl (by omega) (by omega))))))))))))))
      have eS : rS (z_up (z_up m a (x + 9) (z_sub (m a (x + 9)) (hr_v (m a 36) (m a (x + 9)) (m a x)))) a x (z_add (m a x) (hr_v (m a 36) (m a (x + 9)) (m a x)))) a n = hr_f x (rS m a n) := by
        rw [rS_up (by omega) (a_vis_lo (by omega)), rS_up (by omega) (a_vis_lo (by omega))]
        unfold hr_f
        rw [rS_at (k := 36) (by omega) (a_vis_hi (by omega)), rS_at (k := x + 9) (by omega) (a_vis_lo (by omega)), rS_at (k := x) (by omega) (a_vis_lo (by omega))]
      obtain ⟨m', v3', v4', a1, a2, a3⟩ := ih (x + 1) (0, hr_v (m a 36) (m a (x + 9)) (m a x)) v4 _ (by omega) ((sm.of (by (try unfold r_RL); (try unfold r_L1); (try unfold r_LP); (try unfold r_LG); (repeat' (first | exact trivial | refine z_of_c ?_ ?_)) <;> omega)).trans hw) ((sm.of (by (try unfold r_RL); (try unfold r_L1); (try unfold r_LP); (try unfold r_LG); (repeat' (first | exact trivial | refine z_of_c ?_ ?_)) <;> omega)).trans hh)
      rw [eS] at a2
      exact ⟨m', v3', v4', a1, a2, sm.tr a3⟩
abbrev r_LP (a : Nat) : List (Nat × Nat × Nat) := [(a, 18, 22), (a, 28, 32), (251, 30, 31)]
theorem r_gw1 {a : Nat} (ha : z_A 37 a) (ha2 : z_ab a) {n : Nat} (hn5 : n ≤ 5) {r to : Int} : ∀ (f x : Nat) (m : z_M), x + f = n → m 251 3 = (n : Int) → ∃ m', z_R 209 (m, 46, [(2, 251), (2, ((a : Nat) : Int)), (0, r), (0, to), (0, (x : Int))], []) = some (m', none) ∧ (rS m' a n, m' 251 30, m' 251 31) = hr_p r to f x (rS m a n) (m 251 30) (m 251 31) ∧ z_same (r_LP a) m m' := by
  have ha3 := r_ne251 ha2
  intro f
  induction f with
  | zero =>
    intro x m hx hn
    rw [t_gw_46 ha ha2 m r to x ⟨by omega, by omega⟩ ⟨by omega, by omega⟩, if_pos (by omega)]
    exact ⟨m, rfl, rfl, z_same.rf⟩
  | succ f ih =>
    intro x m hx hn
    have eA : rS m a n (x + 18) = m a (x + 18) := rS_at (by omega) (a_vis_p (b := 18) (p := x) (by omega) (by omega) (by omega) (by omega))
    have eF : rS m a n (x + 28) = m a (x + 28) := rS_at (by omega) (a_vis_p (b := 28) (p := x) (by omega) (by omega) (by omega) (by omega))
    rw [t_gw_46 ha ha2 m r to x ⟨by omega, by omega⟩ ⟨by omega, by omega⟩, if_neg (by omega), tn18, tn28, tc1]
    unfold hr_p
    rw [eA, eF]
    by_cases c : m a (x + 18) = r
    · rw [if_pos c, if_pos c]
      have sm : z_same (r_LP a) m (z_up (z_up (z_up (z_up m a (x + 18) to) a (x + 28) (z_add (m a (x + 28)) 1)) 251 30 (z_or (m 251 30) (z_shl 1 (x : Int)))) 251 31 (z_add (m 251 31) 1)) := (((z_same.rf.upo (by (try unfold r_RL); (try unfold r_L1); (try unfold r_LP); (try unfold r_LG); first | exact z_on_h rfl (by omega) (by omega) | exact z_on_t (z_on_h rfl (by omega) (by omega)) | exact z_on_t (z_on_t (z_on_h rfl (by omega) (by omega))) | exact z_on_t (z_on_t (z_on_t (z_on_h rfl (by omega) (by omega)))) | exact z_on_t (z_on_t (z_on_t (z_on_t (z_on_h rfl (by omega) (by omega))))) | exact z_on_t (z_on_t (z_on_t (z_on_t (z_on_t (z_on_h rfl (by omega) (by omega)))))) | exact z_on_t (z_on_t (z_on_t (z_on_t (z_on_t (z_on_t (z_on_h rfl (by omega) (by omega))))))) | exact z_on_t (z_on_t (z_on_t (z_on_t (z_on_t (z_on_t (z_on_t (z_on_h rfl (by omega) (by omega)))))))) | exact z_on_t (z_on_t (z_on_t (z_on_t (z_on_t (z_on_t (z_on_t (z_on_t (z_on_h rfl (by omega) (by omega))))))))) | exact z_on_t (z_on_t (z_on_t (z_on_t (z_on_t (z_on_t (z_on_t (z_on_t (z_on_t (z_on_h rfl (by omega) (by omega)))))))))) | exact z_on_t (z_on_t (z_on_t (z_on_t (z_on_t (z_on_t (z_on_t (z_on_t (z_on_t (z_on_t (z_on_h rfl (by omega) (by omega))))))))))) | exact z_on_t (z_on_t (z_on_t (z_on_t (z_on_t (z_on_t (z_on_t (z_on_t (z_on_t (z_on_t (z_on_t (z_on_h rfl (by omega) (by omega)))))))))))) | exact z_on_t (z_on_t (z_on_t (z_on_t (z_on_t (z_on_t (z_on_t (z_on_t (z_on_t (z_on_t (z_on_t (z_on_t (z_on_h rfl (by omega) (by omega))))))))))))))).upo (by (try unfold r_RL); (try unfold r_L1); (try unfold r_LP); (try unfold r_LG); first | exact z_on_h rfl (by omega) (by omega) | exact z_on_t (z_on_h rfl (by omega) (by omega)) | exact z_on_t (z_on_t (z_on_h rfl (by omega) (by omega))) | exact z_on_t (z_on_t (z_on_t (z_on_h rfl (by omega) (by omega)))) | exact z_on_t (z_on_t (z_on_t (z_on_t (z_on_h rfl (by omega) (by omega))))) | exact z_on_t (z_on_t (z_on_t (z_on_t (z_on_t (z_on_h rfl (by omega) (by omega)))))) | exact z_on_t (z_on_t (z_on_t (z_on_t (z_on_t (z_on_t (z_on_h rfl (by omega) (by omega))))))) | exact z_on_t (z_on_t (z_on_t (z_on_t (z_on_t (z_on_t (z_on_t (z_on_h rfl (by omega) (by omega)))))))) | exact z_on_t (z_on_t (z_on_t (z_on_t (z_on_t (z_on_t (z_on_t (z_on_t (z_on_h rfl (by omega) (by omega))))))))) | exact z_on_t (z_on_t (z_on_t (z_on_t (z_on_t (z_on_t (z_on_t (z_on_t (z_on_t (z_on_h rfl (by omega) (by omega)))))))))) | exact z_on_t (z_on_t (z_on_t (z_on_t (z_on_t (z_on_t (z_on_t (z_on_t (z_on_t (z_on_t (z_on_h rfl (by omega) (by omega))))))))))) | exact z_on_t (z_on_t (z_on_t (z_on_t (z_on_t (z_on_t (z_on_t (z_on_t (z_on_t (z_on_t (z_on_t (z_on_h rfl (by omega) (by omega)))))))))))) | exact z_on_t (z_on_t (z_on_t (z_on_t (z_on_t (z_on_t (z_on_t (z_on_t (z_on_t (z_on_t (z_on_t (z_on_t (z_on_h rfl (by omega) (by omega))))))))))))))).upo (by (try unfold r_RL); (try unfold r_L1); (try unfold r_LP); (try unfold r_LG); first | exact z_on_h rfl (by omega) (by omega) | exact z_on_t (z_on_h rfl (by omega) (by omega)) | exact z_on_t (z_on_t (z_on_h rfl (by omega) (by omega))) | exact z_on_t (z_on_t (z_on_t (z_on_h rfl (by omega) (by omega)))) | exact z_on_t (z_on_t (z_on_t (z_on_t (z_on_h rfl (by omega) (by omega))))) | exact z_on_t (z_on_t (z_on_t (z_on_t (z_on_t (z_on_h rfl (by omega) (by omega)))))) | exact z_on_t (z_on_t (z_on_t (z_on_t (z_on_t (z_on_t (z_on_h rfl (by omega) (by omega))))))) | exact z_on_t (z_on_t (z_on_t (z_on_t (z_on_t (z_on_t (z_on_t (z_on_h rfl (by omega) (by omega)))))))) | exact z_on_t (z_on_t (z_on_t (z_on_t (z_on_t (z_on_t (z_on_t (z_on_t (z_on_h rfl (by omega) (by omega))))))))) | exact z_on_t (z_on_t (z_on_t (z_on_t (z_on_t (z_on_t (z_on_t (z_on_t (z_on_t (z_on_h rfl (by omega) (by omega)))))))))) | exact z_on_t (z_on_t (z_on_t (z_on_t (z_on_t (z_on_t (z_on_t (z_on_t (z_on_t (z_on_t (z_on_h rfl (by omega) (by omega))))))))))) | exact z_on_t (z_on_t (z_on_t (z_on_t (z_on_t (z_on_t (z_on_t (z_on_t (z_on_t (z_on_t (z_on_t (z_on_h rfl (by omega) (by omega)))))))))))) | exact z_on_t (z_on_t (z_on_t (z_on_t (z_on_t (z_on_t (z_on_t (z_on_t (z_on_t (z_on_t (z_on_t (z_on_t (z_on_h rfl (by omega) (by omega))))))))))))))).upo (by (try unfold r_RL); (try unfold r_L1); (try unfold r_LP); (try unfold r_LG); first | exact z_on_h rfl (by omega) (by omega) | exact z_on_t (z_on_h rfl (by omega) (by omega)) | exact z_on_t (z_on_t (z_on_h rfl (by omega) (by omega))) | exact z_on_t (z_on_t (z_on_t (z_on_h rfl (by omega) (by omega)))) | exact z_on_t (z_on_t (z_on_t (z_on_t (z_on_h rfl (by omega) (by omega))))) | exact z_on_t (z_on_t (z_on_t (z_on_t (z_on_t (z_on_h rfl (by omega) (by omega)))))) | exact z_on_t (z_on_t (z_on_t (z_on_t (z_on_t (z_on_t (z_on_h rfl (by omega) (by omega))))))) | exact z_on_t (z_on_t (z_on_t (z_on_t (z_on_t (z_on_t (z_on_t (z_on_h rfl (by omega) (by omega)))))))) | exact z_on_t (z_on_t (z_on_t (z_on_t (z_on_t (z_on_t (z_on_t (z_on_t (z_on_h rfl (by omega) (by omega))))))))) | exact z_on_t (z_on_t (z_on_t (z_on_t (z_on_t (z_on_t (z_on_t (z_on_t (z_on_t (z_on_h rfl (by omega) (by omega)))))))))) | exact z_on_t (z_on_t (z_on_t (z_on_t (z_on_t (z_on_t (z_on_t (z_on_t (z_on_t (z_on_t (z_on_h rfl (by omega) (by omega))))))))))) | exact z_on_t (z_on_t (z_on_t (z_on_t (z_on_t (z_on_t (z_on_t (z_on_t (z_on_t (z_on_t (z_on_t (z_on_h rfl (by omega) (by omega)))))))))))) | exact z_on_t (z_on_t (z_on_t (z_on_t (z_on_t (z_on_t (z_on_t (z_on_t (z_on_t (z_on_t (z_on_t (z_on_t (z_on_h rfl (by omega) (by omega))))))))))))))
      generalize hm1 : z_up (z_up (z_up (z_up m a (x + 18) to) a (x + 28) (z_add (m a (x + 28)) 1)) 251 30 (z_or (m 251 30) (z_shl 1 (x : Int)))) 251 31 (z_add (m 251 31) 1) = m1 at sm ⊢
      have e30 : m1 251 30 = z_or (m 251 30) (z_shl 1 (x : Int)) := by rw [← hm1, zu_k (by decide), zu_self]
      have e31 : m1 251 31 = z_add (m 251 31) 1 := by rw [← hm1, zu_self]
      have eS : rS m1 a n = u_up (u_up (rS m a n) (x + 18) to) (x + 28) (z_add (m a (x + 28)) 1) := by
        rw [← hm1, rS_row (m := z_up (z_up m a (x + 18) to) a (x + 28) (z_add (m a (x + 28)) 1)) (by rw [zu_rowne (by omega), zu_rowne (by omega)]), rS_up (by omega) (a_vis_p (b := 28) (p := x) (by omega) (by omega) (by omega) (by omega)), rS_up (by omega) (a_vis_p (b := 18) (p := x) (by omega) (by omega) (by omega) (by omega))]
      obtain ⟨m', a1, a2, a3⟩ := ih (x + 1) m1 (by omega) ((sm.of (by (try unfold r_RL); (try unfold r_L1); (try unfold r_LP); (try unfold r_LG); (repeat' (first | exact trivial | refine z_of_c ?_ ?_)) <;> omega)).trans hn)
      rw [e30, e31, eS] at a2
      exact ⟨m', a1, a2, sm.tr a3⟩
    · rw [if_neg c, if_neg c]
      exact ih (x + 1) m (by omega) hn
abbrev r_LG (a : Nat) : List (Nat × Nat × Nat) := [(a, 18, 22), (a, 28, 32), (a, 34, 34), (251, 29, 31)]
theorem r_gw {a : Nat} (ha : z_A 37 a) (ha2 : z_ab a) {n : Nat} (hn5 : n ≤ 5) (m : z_M) {k : Nat} (hk : k < 9) (hn : m 251 3 = (n : Int)) {w h : Int} (hw : m 251 1 = w) (hh : m 251 2 = h) : ∃ m', z_R 209 (m, 0, [(2, 251), (2, ((a : Nat) : Int)), (0, (k : Int)), (9, 0), (9, 0)], []) = some (m', none) ∧ (rS m' a n, m' 251 30, m' 251 31) = hr_p k (hr_to w h k) n 0 (hr_st k (hr_to w h k) (rS m a n)) (m 251 30) (m 251 31) ∧ m' 251 29 = z_or (m 251 29) (z_shl 1 (k : Int)) ∧ z_same (r_LG a) m m' := by
  have ha3 := r_ne251 ha2
  rw [t_gw_0 ha ha2 m k ⟨by omega, by omega⟩]
  have s1 : z_same (r_LG a) m (z_up m 251 29 (z_or (m 251 29) (z_shl 1 (k : Int)))) := z_same.rf.upo (by (try unfold r_RL); (try unfold r_L1); (try unfold r_LP); (try unfold r_LG); first | exact z_on_h rfl (by omega) (by omega) | exact z_on_t (z_on_h rfl (by omega) (by omega)) | exact z_on_t (z_on_t (z_on_h rfl (by omega) (by omega))) | exact z_on_t (z_on_t (z_on_t (z_on_h rfl (by omega) (by omega)))) | exact z_on_t (z_on_t (z_on_t (z_on_t (z_on_h rfl (by omega) (by omega))))) | exact z_on_t (z_on_t (z_on_t (z_on_t (z_on_t (z_on_h rfl (by omega) (by omega)))))) | exact z_on_t (z_on_t (z_on_t (z_on_t (z_on_t (z_on_t (z_on_h rfl (by omega) (by omega))))))) | exact z_on_t (z_on_t (z_on_t (z_on_t (z_on_t (z_on_t (z_on_t (z_on_h rfl (by omega) (by omega)))))))) | exact z_on_t (z_on_t (z_on_t (z_on_t (z_on_t (z_on_t (z_on_t (z_on_t (z_on_h rfl (by omega) (by omega))))))))) | exact z_on_t (z_on_t (z_on_t (z_on_t (z_on_t (z_on_t (z_on_t (z_on_t (z_on_t (z_on_h rfl (by omega) (by omega)))))))))) | exact z_on_t (z_on_t (z_on_t (z_on_t (z_on_t (z_on_t (z_on_t (z_on_t (z_on_t (z_on_t (z_on_h rfl (by omega) (by omega))))))))))) | exact z_on_t (z_on_t (z_on_t (z_on_t (z_on_t (z_on_t (z_on_t (z_on_t (z_on_t (z_on_t (z_on_t (z_on_h rfl (by omega) (by omega)))))))))))) | exact z_on_t (z_on_t (z_on_t (z_on_t (z_on_t (z_on_t (z_on_t (z_on_t (z_on_t (z_on_t (z_on_t (z_on_t (z_on_h rfl (by omega) (by omega))))))))))))))
  generalize hm1 : z_up m 251 29 (z_or (m 251 29) (z_shl 1 (k : Int))) = m1 at s1 ⊢
  have e1 : m1 251 1 = w := by rw [← hm1, zu_k (by decide), hw]
  have e2 : m1 251 2 = h := by rw [← hm1, zu_k (by decide), hh]
  have e3 : m1 251 3 = (n : Int) := by rw [← hm1, zu_k (by decide), hn]
  have e29 : m1 251 29 = z_or (m 251 29) (z_shl 1 (k : Int)) := by rw [← hm1, zu_self]
  have e30 : m1 251 30 = m 251 30 := by rw [← hm1, zu_k (by decide)]
  have e31 : m1 251 31 = m 251 31 := by rw [← hm1, zu_k (by decide)]
  have eS : rS m1 a n = rS m a n := by rw [← hm1]; exact rS_row (zu_rowne (by omega))
  have e34 : rS m a n 34 = m1 a 34 := by rw [← eS]; exact rS_at (by decide) (a_vis_hi (by decide))
  rw [t_roomv, zb_v, t_gw_19 ha ha2 m1 k _ ⟨by omega, by omega⟩, e1, e2]
  have go : ∀ to : Int, to = hr_to w h k → ∃ m', (if m1 a 34 = (k : Int) then z_R 209 (z_up m1 a 34 to, 46, [(2, 251), (2, ((a : Nat) : Int)), (0, (k : Int)), (0, to), (0, 0)], []) else z_R 209 (m1, 46, [(2, 251), (2, ((a : Nat) : Int)), (0, (k : Int)), (0, to), (0, 0)], [])) = some (m', none) ∧ (rS m' a n, m' 251 30, m' 251 31) = hr_p k (hr_to w h k) n 0 (hr_st k (hr_to w h k) (rS m a n)) (m 251 30) (m 251 31) ∧ m' 251 29 = z_or (m 251 29) (z_shl 1 (k : Int)) ∧ z_same (r_LG a) m m' := by
    intro to hto
    rw [← hto]
    unfold hr_st
    rw [e34]
    have fin : ∀ m2 : z_M, z_same (r_LG a) m m2 → m2 251 29 = z_or (m 251 29) (z_shl 1 (k : Int)) → m2 251 30 = m 251 30 → m2 251 31 = m 251 31 → m2 251 3 = (n : Int) → ∃ m', z_R 209 (m2, 46, [(2, 251), (2, ((a : Nat) : Int)), (0, (k : Int)), (0, to), (0, 0)], []) = some (m', none) ∧ (rS m' a n, m' 251 30, m' 251 31) = hr_p k to n 0 (rS m2 a n) (m 251 30) (m 251 31) ∧ m' 251 29 = z_or (m 251 29) (z_shl 1 (k : Int)) ∧ z_same (r_LG a) m m' := by
      intro m2 sm g29 g30 g31 g3
      obtain ⟨m', a1, a2, a3⟩ := r_gw1 ha ha2 hn5 (r := k) (to := to) n 0 m2 (by omega) g3
      rw [g30, g31] at a2
      exact ⟨m', a1, a2, (a3.of (by (try unfold r_RL); (try unfold r_L1); (try unfold r_LP); (try unfold r_LG); (repeat' (first | exact trivial | refine z_of_c ?_ ?_)) <;> omega)).trans g29, sm.tr (a3.subo (by (try unfold r_RL); (try unfold r_L1); (try unfold r_LP); (try unfold r_LG); (repeat' (first | exact trivial | refine z_sbo_c ?_ ?_)) <;> (intro k h1 h2; first | exact z_on_h rfl (by omega) (by omega) | exact z_on_t (z_on_h rfl (by omega) (by omega)) | exact z_on_t (z_on_t (z_on_h rfl (by omega) (by omega))) | exact z_on_t (z_on_t (z_on_t (z_on_h rfl (by omega) (by omega)))) | exact z_on_t (z_on_t (z_on_t (z_on_t (z_on_h rfl (by omega) (by omega))))) | exact z_on_t (z_on_t (z_on_t (z_on_t (z_on_t (z_on_h rfl (by omega) (by omega)))))) | exact z_on_t (z_on_t (z_on_t (z_on_t (z_on_t (z_on_t (z_on_h rfl (by omega) (by omega))))))) | exact z_on_t (z_on_t (z_on_t (z_on_t (z_on_t (z_on_t (z_on_t (z_on_h rfl (by omega) (by omega)))))))) | exact z_on_t (z_on_t (z_on_t (z_on_t (z_on_t (z_on_t (z_on_t (z_on_t (z_on_h rfl (by omega) (by omega))))))))) | exact z_on_t (z_on_t (z_on_t (z_on_t (z_on_t (z_on_t (z_on_t (z_on_t (z_on_t (z_on_h rfl (by omega) (by omega)))))))))) | exact z_on_t (z_on_t (z_on_t (z_on_t (z_on_t (z_on_t (z_on_t (z_on_t (z_on_t (z_on_t (z_on_h rfl (by omega) (by omega))))))))))) | exact z_on_t (z_on_t (z_on_t (z_on_t (z_on_t (z_on_t (z_on_t (z_on_t (z_on_t (z_on_t (z_on_t (z_on_h rfl (by omega) (by omega)))))))))))) | exact z_on_t (z_on_t (z_on_t (z_on_t (z_on_t (z_on_t (z_on_t (z_on_t (z_on_t (z_on_t (z_on_t (z_on_t (z_on_h rfl (by omega) (by omega))))))))))))))))⟩
    by_cases c : m1 a 34 = (k : Int)
    · rw [if_pos c, if_pos c]
      have z := fin (z_up m1 a 34 to) (s1.upo (by (try unfold r_RL); (try unfold r_L1); (try unfold r_LP); (try unfold r_LG); first | exact z_on_h rfl (by omega) (by omega) | exact z_on_t (z_on_h rfl (by omega) (by omega)) | exact z_on_t (z_on_t (z_on_h rfl (by omega) (by omega))) | exact z_on_t (z_on_t (z_on_t (z_on_h rfl (by omega) (by omega)))) | exact z_on_t (z_on_t (z_on_t (z_on_t (z_on_h rfl (by omega) (by omega))))) | exact z_on_t (z_on_t (z_on_t (z_on_t (z_on_t (z_on_h rfl (by omega) (by omega)))))) | exact z_on_t (z_on_t (z_on_t (z_on_t (z_on_t (z_on_t (z_on_h rfl (by omega) (by omega))))))) | exact z_on_t (z_on_t (z_on_t (z_on_t (z_on_t (z_on_t (z_on_t (z_on_h rfl (by omega) (by omega)))))))) | exact z_on_t (z_on_t (z_on_t (z_on_t (z_on_t (z_on_t (z_on_t (z_on_t (z_on_h rfl (by omega) (by omega))))))))) | exact z_on_t (z_on_t (z_on_t (z_on_t (z_on_t (z_on_t (z_on_t (z_on_t (z_on_t (z_on_h rfl (by omega) (by omega)))))))))) | exact z_on_t (z_on_t (z_on_t (z_on_t (z_on_t (z_on_t (z_on_t (z_on_t (z_on_t (z_on_t (z_on_h rfl (by omega) (by omega))))))))))) | exact z_on_t (z_on_t (z_on_t (z_on_t (z_on_t (z_on_t (z_on_t (z_on_t (z_on_t (z_on_t (z_on_t (z_on_h rfl (by omega) (by omega)))))))))))) | exact z_on_t (z_on_t (z_on_t (z_on_t (z_on_t (z_on_t (z_on_t (z_on_t (z_on_t (z_on_t (z_on_t (z_on_t (z_on_h rfl (by omega) (by omega))))))))))))))) (by rw [zu_p (by omega)]; exact e29) (by rw [zu_p (by omega)]; exact e30) (by rw [zu_p (by omega)]; exact e31) (by rw [zu_p (by omega)]; exact e3)
      rw [rS_up (by decide) (a_vis_hi (by decide)), eS] at z
      exact z
    · rw [if_neg c, if_neg c]
      have z := fin m1 s1 e29 e30 e31 e3
      rw [eS] at z
      exact z
  unfold hr_to at go ⊢
  by_cases c : u_hs w h ((k : Int) + 3) = 0
  · rw [if_pos c] at go ⊢
    rw [if_pos c]
    exact go (-1) rfl
  · rw [if_neg c] at go ⊢
    rw [if_neg c]
    exact go ((k : Int) + 3) rfl
def hr_k (w h : Int) (n : Nat) : Nat → Nat → (Nat → Int) → Int → Int → Int → (Nat → Int) × Int × Int × Int
  | 0, _, A, g, fb, fm => (A, g, fb, fm)
  | f + 1, x, A, g, fb, fm => if u_hs w h (x : Int) = 0 then hr_k w h n f (x + 1) A g fb fm else if A x = 0 then hr_k w h n f (x + 1) (hr_p x (hr_to w h x) n 0 (hr_st x (hr_to w h x) A) fb fm).1 (z_or g (z_shl 1 (x : Int))) (hr_p x (hr_to w h x) n 0 (hr_st x (hr_to w h x) A) fb fm).2.1 (hr_p x (hr_to w h x) n 0 (hr_st x (hr_to w h x) A) fb fm).2.2 else hr_k w h n f (x + 1) A g fb fm
theorem r_h5 {a : Nat} (ha : z_A 37 a) (ha2 : z_ab a) {n : Nat} (hn5 : n ≤ 5) {w h : Int} : ∀ (f x : Nat) (v3 v4 : z_V) (m : z_M), x + f = 9 → m 251 1 = w → m 251 2 = h → m 251 3 = (n : Int) → ∃ m', z_R 208 (m, 300, [(2, 251), (2, ((a : Nat) : Int)), (0, (x : Int)), v3, v4], []) = some (z_up m' a 35 (z_add (m' a 35) 1), none) ∧ (rS m' a n, m' 251 29, m' 251 30, m' 251 31) = hr_k w h n f x (rS m a n) (m 251 29) (m 251 30) (m 251 31) ∧ z_same (r_LG a) m m' := by
  have ha3 := r_ne251 ha2
  intro f
  induction f with
  | zero =>
    intro x v3 v4 m hx hw hh hn
    rw [t_hr_300 ha ha2 m x v3 v4 ⟨by omega, by omega⟩, if_pos (by omega)]
    exact ⟨m, rfl, rfl, z_same.rf⟩
  | succ f ih =>
    intro x v3 v4 m hx hw hh hn
    have e0 : rS m a n x = m a x := rS_at (by omega) (a_vis_lo (by omega))
    rw [t_hr_300 ha ha2 m x v3 v4 ⟨by omega, by omega⟩, if_neg (by omega), t_roomv, zb_v, t_hr_311 ha ha2 m x v3 v4 _ ⟨by omega, by omega⟩, hw, hh, tc1, Int.toNat_natCast]
    unfold hr_k
    rw [e0]
    by_cases c : u_hs w h (x : Int) = 0
    · rw [if_pos c, if_pos c]
      exact ih (x + 1) v3 v4 m (by omega) hw hh hn
    rw [if_neg c, if_neg c]
    by_cases c2 : m a x = 0
    · rw [if_pos c2, if_pos c2]
      obtain ⟨m1, a1, a2, a3, a4⟩ := r_gw ha ha2 hn5 m (k := x) (by omega) hn hw hh
      have p1 := congrArg Prod.fst a2
      have p2 := congrArg (fun z => z.2.1) a2
      have p3 := congrArg (fun z => z.2.2) a2
      simp only at p1 p2 p3
      rw [a1, zb_n, t_hr_326 ha ha2 m1 x v3 v4 ⟨by omega, by omega⟩, tc1]
      obtain ⟨m', d1, d2, d3⟩ := ih (x + 1) v3 v4 m1 (by omega) ((a4.of (by (try unfold r_RL); (try unfold r_L1); (try unfold r_LP); (try unfold r_LG); (repeat' (first | exact trivial | refine z_of_c ?_ ?_)) <;> omega)).trans hw) ((a4.of (by (try unfold r_RL); (try unfold r_L1); (try unfold r_LP); (try unfold r_LG); (repeat' (first | exact trivial | refine z_of_c ?_ ?_)) <;> omega)).trans hh) ((a4.of (by (try unfold r_RL); (try unfold r_L1); (try unfold r_LP); (try unfold r_LG); (repeat' (first | exact trivial | refine z_of_c ?_ ?_)) <;> omega)).trans hn)
      rw [p1, p2, p3, a3] at d2
      exact ⟨m', d1, d2, a4.tr d3⟩
    · rw [if_neg c2, if_neg c2]
      exact ih (x + 1) v3 v4 m (by omega) hw hh hn
end
section
/-! BOTH HOURS ARE ONE -/
theorem u_hs_eq {w h : Nat} (hw : w ≤ 3) (hh : h ≤ 3) {r : Nat} (hr : r ≤ 11) : u_hs (w : Int) (h : Int) (r : Int) = if r < 9 ∧ r % 3 < w ∧ r / 3 < h then 1 else 0 := by
  unfold u_hs
  rw [if_neg (by omega)]
  by_cases h1 : 9 ≤ (r : Int)
  · rw [if_pos h1, if_neg (by omega)]
  rw [if_neg h1, z_rem_nn (by omega) (by omega) (by decide) (by decide), z_div_nn (by omega) (by omega) (by decide) (by decide)]
  by_cases h2 : (w : Int) ≤ (r : Int) % 3
  · rw [if_pos h2, if_neg (by omega)]
  rw [if_neg h2]
  by_cases h3 : (h : Int) ≤ (r : Int) / 3
  · rw [if_pos h3, if_neg (by omega)]
  · rw [if_neg h3, if_pos (by omega)]
def hq (w h r : Nat) : Bool := decide (r < 9) && (decide (r % 3 < w) && decide (r / 3 < h))
theorem hq_t {w h r : Nat} : hq w h r = true ↔ r < 9 ∧ r % 3 < w ∧ r / 3 < h := by
  unfold hq
  simp only [Bool.and_eq_true, decide_eq_true_eq]
theorem u_hs_q {w h : Nat} (hw : w ≤ 3) (hh : h ≤ 3) {r : Nat} (hr : r ≤ 11) : u_hs (w : Int) (h : Int) (r : Int) = bif hq w h r then 1 else 0 := by
  rw [u_hs_eq hw hh hr]
  cases e : hq w h r with
  | true => rw [if_pos (hq_t.mp e)]; rfl
  | false => rw [if_neg (fun z => by rw [hq_t.mpr z] at e; cases e)]; rfl
/-! sums over persons -/
def hr_t (g : Nat → Int) : Nat → Nat → Int
  | 0, _ => 0
  | f + 1, x => g x + hr_t g f (x + 1)
theorem hr_t_s {g : Nat → Int} {f x : Nat} : hr_t g (f + 1) x = g x + hr_t g f (x + 1) := rfl
theorem hr_t_cg {g g' : Nat → Int} : ∀ (f x : Nat), (∀ p, x ≤ p → p < x + f → g p = g' p) → hr_t g f x = hr_t g' f x := by
  intro f
  induction f with
  | zero => intro x h; rfl
  | succ f ih =>
    intro x h
    unfold hr_t
    rw [h x (by omega) (by omega), ih (x + 1) (fun p h1 h2 => h p (by omega) (by omega))]
theorem hr_t_b {g : Nat → Int} {B : Int} (hB : 0 ≤ B) (hg : ∀ p, p < 5 → 0 ≤ g p ∧ g p ≤ B) : ∀ (f x : Nat), x + f ≤ 5 → 0 ≤ hr_t g f x ∧ hr_t g f x ≤ B * f := by
  intro f
  induction f with
  | zero => intro x h; unfold hr_t; omega
  | succ f ih =>
    intro x h
    unfold hr_t
    have a := ih (x + 1) (by omega)
    have b := hg x (by omega)
    have e : B * ((f + 1 : Nat) : Int) = B * (f : Int) + B := by rw [Int.natCast_add, Int.mul_add]; simp
    omega
theorem hr_g_eq {wm v : Nat → Int} {price : Int} (hv : ∀ p, p < 5 → -1 ≤ v p ∧ v p ≤ 8) (hwm : ∀ p, p < 5 → 0 ≤ wm p ∧ wm p ≤ 9) : ∀ (f x : Nat) (W C A : Nat → Int), x + f ≤ 5 → (∀ p, p < x + f → A (p + 18) = v p) → (∀ k, k < 9 → 0 ≤ W k ∧ W k ≤ 9 * (x : Int)) → (∀ k, k < 9 → 0 ≤ C k ∧ C k ≤ (x : Int)) → (∀ r : Nat, r < 9 → (hr_g wm price f x W C A).1 r = W r + hr_t (fun p => if v p = (r : Int) then wm p else 0) f x ∧ (hr_g wm price f x W C A).2.1 r = C r + hr_t (fun p => if v p = (r : Int) then 1 else 0) f x) ∧ (hr_g wm price f x W C A).2.2 = hr_o wm price f x A := by
  intro f
  induction f with
  | zero =>
    intro x W C A hx hA hW hC
    refine ⟨fun r hr => ?_, rfl⟩
    show W r = W r + 0 ∧ C r = C r + 0
    omega
  | succ f ih =>
    intro x W C A hx hA hW hC
    have e := hA x (by omega)
    have vx := hv x (by omega)
    unfold hr_g hr_o
    rw [e]
    by_cases c1 : v x < 0
    · have c1' : v x = -1 := by omega
      rw [if_pos c1, if_pos c1']
      obtain ⟨i1, i2⟩ := ih (x + 1) W C A (by omega) (fun p hp => hA p (by omega)) (fun k hk => by have := hW k hk; omega) (fun k hk => by have := hC k hk; omega)
      refine ⟨fun r hr => ?_, i2⟩
      have := i1 r hr
      rw [this.1, this.2]
      rw [hr_t_s, hr_t_s, if_neg (show ¬ v x = (r : Int) by omega), if_neg (show ¬ v x = (r : Int) by omega)]
      omega
    · have c1' : ¬ v x = -1 := by omega
      rw [if_neg c1, if_neg c1', if_neg (show ¬ 9 ≤ v x by omega)]
      generalize hr0 : (v x).toNat = r0
      have hr9 : r0 < 9 := by omega
      have bw := hwm x (by omega)
      have bW := hW r0 hr9
      have bC := hC r0 hr9
      rw [z_add_eq (x := W r0) (by omega) (by omega), z_add_eq (x := C r0) (by omega) (by omega)]
      obtain ⟨i1, i2⟩ := ih (x + 1) (u_up W r0 (W r0 + wm x)) (u_up C r0 (C r0 + 1)) (u_up A (x + 23) (z_add (A (x + 23)) (z_mul price (wm x)))) (by omega) (fun p hp => by
        unfold u_up
        rw [if_neg (by omega)]
        exact hA p (by omega)) (fun k hk => by
        unfold u_up
        by_cases hk0 : k = r0
        · rw [if_pos hk0]; omega
        · rw [if_neg hk0]; have := hW k hk; omega) (fun k hk => by
        unfold u_up
        by_cases hk0 : k = r0
        · rw [if_pos hk0]; omega
        · rw [if_neg hk0]; have := hC k hk; omega)
      refine ⟨fun r hr => ?_, i2⟩
      have := i1 r hr
      rw [this.1, this.2]
      rw [hr_t_s, hr_t_s]
      unfold u_up
      by_cases hk0 : r = r0
      · rw [if_pos hk0, if_pos hk0, if_pos (show v x = (r : Int) by omega), if_pos (show v x = (r : Int) by omega), hk0]
        omega
      · rw [if_neg hk0, if_neg hk0, if_neg (show ¬ v x = (r : Int) by omega), if_neg (show ¬ v x = (r : Int) by omega)]
        omega
/-! who is in a room, as bits -/
def hr_bb (c : Nat → Bool) : Nat → Nat → Int → Int
  | 0, _, acc => acc
  | f + 1, x, acc => hr_bb c f (x + 1) (bif c x then z_or acc (z_shl 1 (x : Int)) else z_or acc 0)
theorem hr_b_bb {A : Nat → Int} {k : Int} {c : Nat → Bool} : ∀ (f x : Nat) (acc : Int), (∀ p, x ≤ p → p < x + f → (c p = true ↔ A (p + 18) = k)) → hr_b k f x A acc = hr_bb c f x acc := by
  intro f
  induction f with
  | zero => intro x acc h; rfl
  | succ f ih =>
    intro x acc h
    unfold hr_b hr_bb
    rw [ih (x + 1) _ (fun p h1 h2 => h p (by omega) (by omega))]
    have hx := h x (by omega) (by omega)
    by_cases e : A (x + 18) = k
    · rw [if_pos e, hx.mpr e]; rfl
    · rw [if_neg e]
      cases hc : c x with
      | true => exact absurd (hx.mp hc) e
      | false => rfl
theorem hr_bb_cg {c c' : Nat → Bool} : ∀ (f x : Nat) (acc : Int), (∀ p, x ≤ p → p < x + f → c p = c' p) → hr_bb c f x acc = hr_bb c' f x acc := by
  intro f
  induction f with
  | zero => intro x acc h; rfl
  | succ f ih =>
    intro x acc h
    unfold hr_bb
    rw [h x (by omega) (by omega), ih (x + 1) _ (fun p h1 h2 => h p (by omega) (by omega))]
theorem hr_ex_t (c : Nat → Bool) : ∃ t, t < 32 ∧ ∀ p, p < 5 → c p = Nat.testBit t p := by
  have h : ∀ b0 b1 b2 b3 b4 : Bool, ∃ t : Fin 32, b0 = Nat.testBit t.val 0 ∧ b1 = Nat.testBit t.val 1 ∧ b2 = Nat.testBit t.val 2 ∧ b3 = Nat.testBit t.val 3 ∧ b4 = Nat.testBit t.val 4 := by decide +kernel
  obtain ⟨t, h0, h1, h2, h3, h4⟩ := h (c 0) (c 1) (c 2) (c 3) (c 4)
  refine ⟨t.val, t.isLt, fun p hp => ?_⟩
  rcases (show p = 0 ∨ p = 1 ∨ p = 2 ∨ p = 3 ∨ p = 4 by omega) with rfl | rfl | rfl | rfl | rfl
  · exact h0
  · exact h1
  · exact h2
  · exact h3
  · exact h4
noncomputable def hr_bck (n t : Nat) : Bool := i_le 0 (hr_bb (Nat.testBit t) n 0 0) && (i_le (hr_bb (Nat.testBit t) n 0 0) 31 && (i_eq (hr_pc (hr_bb (Nat.testBit t) n 0 0)) (hr_t (fun p => bif Nat.testBit t p then 1 else 0) n 0) && (List.range n).all (fun p => i_eq (z_and (z_shr (hr_bb (Nat.testBit t) n 0 0) (p : Int)) 1) (bif Nat.testBit t p then 1 else 0))))
theorem hr_bcks : ((List.range 6).all fun n => (List.range 32).all fun t => hr_bck n t) = true := by decide +kernel
/-- the bits of those who are in a room -/
theorem hr_b_ok {n : Nat} (hn : n ≤ 5) (A : Nat → Int) (k : Int) : (∀ p, p < n → (z_and (z_shr (hr_b k n 0 A 0) (p : Int)) 1 = 1 ↔ A (p + 18) = k)) ∧ hr_pc (hr_b k n 0 A 0) = hr_t (fun p => if A (p + 18) = k then 1 else 0) n 0 ∧ 0 ≤ hr_b k n 0 A 0 ∧ hr_b k n 0 A 0 ≤ 31 := by
  obtain ⟨t, ht, hb⟩ := hr_ex_t (fun p => decide (A (p + 18) = k))
  have e1 : hr_b k n 0 A 0 = hr_bb (Nat.testBit t) n 0 0 := hr_b_bb n 0 0 (fun p _ hp => by
    rw [← hb p (by omega)]
    exact decide_eq_true_iff)
  have h := List.all_eq_true.mp (List.all_eq_true.mp hr_bcks n (List.mem_range.mpr (by omega))) t (List.mem_range.mpr ht)
  obtain ⟨h1, h⟩ := Bool.and_eq_true _ _ |>.mp h
  obtain ⟨h2, h⟩ := Bool.and_eq_true _ _ |>.mp h
  obtain ⟨h3, h4⟩ := Bool.and_eq_true _ _ |>.mp h
  have h3 := i_eq_iff.mp h3
  rw [e1]
  refine ⟨fun p hp => ?_, ?_, i_le_iff.mp h1, i_le_iff.mp h2⟩
  · have := i_eq_iff.mp (List.all_eq_true.mp h4 p (List.mem_range.mpr hp))
    rw [this, ← hb p (by omega)]
    by_cases c : A (p + 18) = k
    · rw [decide_eq_true c]; exact ⟨fun _ => c, fun _ => rfl⟩
    · rw [decide_eq_false c]; exact ⟨fun z => (by cases z), fun z => absurd z c⟩
  · rw [h3]
    refine hr_t_cg n 0 (fun p _ hp => ?_)
    rw [← hb p (by omega)]
    by_cases c : A (p + 18) = k
    · rw [decide_eq_true c, if_pos c]; rfl
    · rw [decide_eq_false c, if_neg c]; rfl
theorem hr_s_eq {wm : Nat → Int} {b : Int} (hwm : ∀ p, p < 5 → 0 ≤ wm p ∧ wm p ≤ 9) : ∀ (f x : Nat) (s : Int), x + f ≤ 5 → 0 ≤ s → s ≤ 9 + 9 * (x : Int) → hr_s wm b f x s = s + hr_t (fun p => if z_and (z_shr b (p : Int)) 1 = 1 then wm p else 0) f x := by
  intro f
  induction f with
  | zero => intro x s hx h0 h1; show s = s + 0; omega
  | succ f ih =>
    intro x s hx h0 h1
    have b1 := hwm x (by omega)
    unfold hr_s hr_t
    by_cases c : z_and (z_shr b (x : Int)) 1 = 1
    · rw [if_pos c, if_pos c, z_add_eq (by omega) (by omega), ih (x + 1) _ (by omega) (by omega) (by omega)]
      omega
    · rw [if_neg c, if_neg c, z_add_eq (by omega) (by omega), ih (x + 1) _ (by omega) (by omega) (by omega)]
      omega
/-! what melts in a room -/
def hr_mlok (ml : hr_M) : Prop := ∀ w i a f y n h : Int, 0 ≤ i → 0 ≤ ml w i a f y n h ∧ ml w i a f y n h ≤ i
/-- warmth in a room, those in it -/
def hr_W (heat : Int) (wm : Nat → Int) (n : Nat) (A : Nat → Int) (r : Nat) : Int := (if A 34 = (r : Int) then heat else 0) + hr_t (fun p => if A (p + 18) = (r : Int) then wm p else 0) n 0
def hr_C (n : Nat) (A : Nat → Int) (r : Nat) : Int := hr_t (fun p => if A (p + 18) = (r : Int) then 1 else 0) n 0
theorem hr_wb_eq {heat : Int} {wm : Nat → Int} {n : Nat} (hn : n ≤ 5) (hwm : ∀ p, p < 5 → 0 ≤ wm p ∧ wm p ≤ 9) (hh : 0 ≤ heat ∧ heat ≤ 9) (A : Nat → Int) (r : Nat) : hr_wb heat wm n A (r : Int) (hr_b (r : Int) n 0 A 0) = hr_W heat wm n A r := by
  have hb := (hr_b_ok hn A (r : Int)).1
  unfold hr_wb hr_W
  rw [hr_s_eq hwm n 0 _ (by omega) (by split <;> omega) (by split <;> omega)]
  congr 1
  refine hr_t_cg n 0 (fun p _ hp => ?_)
  have := hb p (by omega)
  by_cases c : A (p + 18) = (r : Int)
  · rw [if_pos c, if_pos (this.mpr c)]
  · rw [if_neg c, if_neg (fun z => c (this.mp z))]
theorem hr_mN_eq {heat : Int} {ml : hr_M} {wm : Nat → Int} {n : Nat} (hn : n ≤ 5) (hwm : ∀ p, p < 5 → 0 ≤ wm p ∧ wm p ≤ 9) (hh : 0 ≤ heat ∧ heat ≤ 9) (A : Nat → Int) (r : Nat) : hr_mN heat ml wm n A r = ml (hr_W heat wm n A r) (A r) (A (r + 9)) (A 36) ((r : Int) / 3) (hr_C n A r) (A 35) := by
  unfold hr_mN hr_mB
  rw [hr_wb_eq hn hwm hh A r, (hr_b_ok hn A (r : Int)).2.1]
  rfl
theorem hr_o_ne {wm : Nat → Int} {price : Int} : ∀ (f x : Nat) (A : Nat → Int) (j : Nat), x + f ≤ 5 → (j < 23 ∨ 28 ≤ j) → hr_o wm price f x A j = A j := by
  intro f
  induction f with
  | zero => intro x A j hx hj; rfl
  | succ f ih =>
    intro x A j hx hj
    unfold hr_o
    rw [ih (x + 1) _ j (by omega) hj]
    by_cases c : A (x + 18) = -1
    · rw [if_pos c]
    · rw [if_neg c]; unfold u_up; rw [if_neg (by omega)]
/-- the class's, by the reference's numbers -/
theorem hr_e_eq {heat price : Int} {ml : hr_M} {wm W0 C0 A : Nat → Int} {n : Nat} (hn : n ≤ 5) (hwm : ∀ p, p < 5 → 0 ≤ wm p ∧ wm p ≤ 9) (hh : 0 ≤ heat ∧ heat ≤ 9) (hml : hr_mlok ml) (hv : ∀ p, p < n → -1 ≤ A (p + 18) ∧ A (p + 18) ≤ 8) (h0 : ∀ k, k < 9 → W0 k = 0 ∧ C0 k = 0) {r : Nat} (hr : r < 9) : hr_e ml (hr_sv heat (A 34) (hr_g wm price n 0 W0 C0 A).1) (hr_g wm price n 0 W0 C0 A).2.1 r (hr_g wm price n 0 W0 C0 A).2.2 = hr_mN heat ml wm n A r := by
  have hv' : ∀ p, p < 5 → -1 ≤ (if p < n then A (p + 18) else 0) ∧ (if p < n then A (p + 18) else 0) ≤ 8 := fun p _ => by
    by_cases c : p < n
    · rw [if_pos c]; exact hv p c
    · rw [if_neg c]; omega
  obtain ⟨g1, g2⟩ := hr_g_eq (v := fun p => if p < n then A (p + 18) else 0) (price := price) hv' hwm n 0 W0 C0 A (by omega) (fun p hp => by rw [if_pos (by omega)]) (fun k hk => by rw [(h0 k hk).1]; omega) (fun k hk => by rw [(h0 k hk).2]; omega)
  have c1 : hr_t (fun p => if (if p < n then A (p + 18) else 0) = (r : Int) then wm p else 0) n 0 = hr_t (fun p => if A (p + 18) = (r : Int) then wm p else 0) n 0 := hr_t_cg n 0 (fun p _ hp => by rw [if_pos (show p < n by omega)])
  have c2 : hr_t (fun p => if (if p < n then A (p + 18) else 0) = (r : Int) then (1 : Int) else 0) n 0 = hr_t (fun p => if A (p + 18) = (r : Int) then 1 else 0) n 0 := hr_t_cg n 0 (fun p _ hp => by rw [if_pos (show p < n by omega)])
  have gr := g1 r hr
  rw [(h0 r hr).1, (h0 r hr).2, c1, c2, Int.zero_add, Int.zero_add] at gr
  have bt := hr_t_b (B := 9) (by omega) (g := fun p => if A (p + 18) = (r : Int) then wm p else 0) (fun p hp => by
    have := hwm p hp
    split <;> omega) n 0 (by omega)
  have eW : hr_sv heat (A 34) (hr_g wm price n 0 W0 C0 A).1 r = hr_W heat wm n A r := by
    unfold hr_sv hr_W
    by_cases d1 : A 34 < 0
    · rw [if_pos d1, if_neg (by omega), gr.1]; omega
    rw [if_neg d1]
    by_cases d2 : 9 ≤ A 34
    · rw [if_pos d2, if_neg (by omega), gr.1]; omega
    rw [if_neg d2]
    unfold u_up
    by_cases d3 : A 34 = (r : Int)
    · rw [if_pos (show r = (A 34).toNat by omega), if_pos d3, show (A 34).toNat = r by omega, gr.1, z_add_eq (by omega) (by omega)]
      omega
    · rw [if_neg (show ¬ r = (A 34).toNat by omega), if_neg d3, gr.1]; omega
  rw [hr_mN_eq hn hwm hh A r]
  unfold hr_e
  rw [g2, hr_o_ne n 0 A r (by omega) (by omega), hr_o_ne n 0 A (r + 9) (by omega) (by omega), hr_o_ne n 0 A 36 (by omega) (by omega), hr_o_ne n 0 A 35 (by omega) (by omega), eW, gr.2]
  by_cases c : A r = 0
  · rw [if_pos c]
    have := hml (hr_W heat wm n A r) (A r) (A (r + 9)) (A 36) ((r : Int) / 3) (hr_C n A r) (A 35) (by omega)
    omega
  · rw [if_neg c]
    rfl
/-! dripping in the one order and in the other -/
theorem hr_d1_ne {u e : Int} {r : Nat} {A : Nat → Int} {j : Nat} (h1 : ¬ j = r) (h2 : ¬ j = r + 9) (h3 : ¬ j = r + 12) (h4 : ¬ j = 33) : hr_d1 u e r A j = A j := by
  unfold hr_d1 u_up
  rw [if_neg h1, if_neg h2]
  by_cases c : u = 0
  · rw [if_pos c, if_neg h4]
  · rw [if_neg c, if_neg h3]
def hr_dc (w h : Int) (e : Nat → Int) : Nat → (Nat → Int) → (Nat → Int)
  | 0, A => A
  | r + 1, A => if u_hs w h (r : Int) = 0 then hr_dc w h e r A else hr_dc w h e r (hr_d1 (u_hs w h ((r : Int) + 3)) (e r) r A)
def hr_dm (w h : Int) (e : Nat → Int) : Nat → Int → Int
  | 0, t => t
  | r + 1, t => if u_hs w h (r : Int) = 0 then hr_dm w h e r t else hr_dm w h e r (z_add t (e r))
theorem hr_d_eq {w h b : Int} {ml : hr_M} {W C A1 e : Nat → Int} (hb : ∀ r : Nat, r < 9 → (z_and (z_shr b (r : Int)) 1 = 0 ↔ u_hs w h (r : Int) = 0)) (he : ∀ r : Nat, r < 9 → ¬ u_hs w h (r : Int) = 0 → hr_e ml W C r A1 = e r) : ∀ (f : Nat) (B : Nat → Int) (t : Int), f ≤ 9 → (∀ k, k < f → B k = A1 k ∧ B (k + 9) = A1 (k + 9)) → B 35 = A1 35 → B 36 = A1 36 → hr_d w h b ml W C f B t = (hr_dc w h e f B, hr_dm w h e f t) := by
  intro f
  induction f with
  | zero => intro B t hf hB h5 h6; rfl
  | succ f ih =>
    intro B t hf hB h5 h6
    unfold hr_d hr_dc hr_dm
    have hbf := hb f (by omega)
    by_cases c : u_hs w h (f : Int) = 0
    · rw [if_pos c, if_pos c, if_pos (hbf.mpr c)]
      exact ih B t (by omega) (fun k hk => hB k (by omega)) h5 h6
    · rw [if_neg c, if_neg c, if_neg (fun z => c (hbf.mp z))]
      have e1 : hr_e ml W C f B = e f := by
        rw [← he f (by omega) c]
        unfold hr_e
        rw [(hB f (by omega)).1, (hB f (by omega)).2, h5, h6]
      rw [e1]
      refine ih _ _ (by omega) (fun k hk => ?_) ?_ ?_
      · rw [hr_d1_ne (by omega) (by omega) (by omega) (by omega), hr_d1_ne (by omega) (by omega) (by omega) (by omega)]
        exact hB k (by omega)
      · rw [hr_d1_ne (by omega) (by omega) (by omega) (by omega)]; exact h5
      · rw [hr_d1_ne (by omega) (by omega) (by omega) (by omega)]; exact h6
def hr_dq (w h : Nat) (e : Nat → Int) : Nat → (Nat → Int) → (Nat → Int)
  | 0, A => A
  | r + 1, A => bif hq w h r then hr_dq w h e r (hr_d1 (bif hq w h (r + 3) then 1 else 0) (e r) r A) else hr_dq w h e r A
theorem hr_dc_q {w h : Nat} (hw : w ≤ 3) (hh : h ≤ 3) {e : Nat → Int} : ∀ (f : Nat) (A : Nat → Int), f ≤ 9 → hr_dc (w : Int) (h : Int) e f A = hr_dq w h e f A := by
  intro f
  induction f with
  | zero => intro A hf; rfl
  | succ f ih =>
    intro A hf
    unfold hr_dc hr_dq
    rw [u_hs_q hw hh (r := f) (by omega), show (f : Int) + 3 = ((f + 3 : Nat) : Int) by omega, u_hs_q hw hh (r := f + 3) (by omega)]
    cases hq w h f with
    | true => rw [cond_true, if_neg (by decide)]; exact ih _ (by omega)
    | false => rw [cond_false, if_pos rfl]; exact ih _ (by omega)
theorem z_add2 {p a b : Int} : z_add (z_add p a) b = z_add (z_add p b) a := by rw [z_add_as, z_add_as, z_add_cm (a := a)]
theorem z_add3 {p a b c : Int} : z_add (z_add (z_add p a) b) c = z_add (z_add (z_add p c) b) a := by rw [z_add2 (p := z_add p a), z_add2 (p := p) (a := a), z_add2 (p := z_add p c)]
theorem hr_d1_at0 {u e : Int} {r : Nat} {A : Nat → Int} {j : Nat} (hu : u = 0) : hr_d1 u e r A j = if j = r then z_sub (A r) e else if j = r + 9 then e else if j = 33 then z_add (A 33) (A (r + 9)) else A j := by
  unfold hr_d1
  rw [if_pos hu]
  rfl
theorem hr_d1_at1 {u e : Int} {r : Nat} {A : Nat → Int} {j : Nat} (hu : ¬ u = 0) : hr_d1 u e r A j = if j = r then z_sub (A r) e else if j = r + 9 then e else if j = r + 12 then z_add (A (r + 12)) (A (r + 9)) else A j := by
  unfold hr_d1
  rw [if_neg hu]
  rfl
/-- two of one row -/
theorem hr_d1_cm {u e e' : Int} {r r' : Nat} {A : Nat → Int} (h0 : r < 9) (h0' : r' < 9) (h1 : ¬ r = r') (h2 : ¬ r = r' + 3) (h3 : ¬ r' = r + 3) : hr_d1 u e r (hr_d1 u e' r' A) = hr_d1 u e' r' (hr_d1 u e r A) := by
  funext k
  by_cases hu : u = 0
  · have b1 : hr_d1 u e' r' A r = A r := by rw [hr_d1_at0 hu, if_neg (by omega), if_neg (by omega), if_neg (by omega)]
    have b2 : hr_d1 u e' r' A (r + 9) = A (r + 9) := by rw [hr_d1_at0 hu, if_neg (by omega), if_neg (by omega), if_neg (by omega)]
    have b3 : hr_d1 u e' r' A 33 = z_add (A 33) (A (r' + 9)) := by rw [hr_d1_at0 hu, if_neg (by omega), if_neg (by omega), if_pos rfl]
    have c1 : hr_d1 u e r A r' = A r' := by rw [hr_d1_at0 hu, if_neg (by omega), if_neg (by omega), if_neg (by omega)]
    have c2 : hr_d1 u e r A (r' + 9) = A (r' + 9) := by rw [hr_d1_at0 hu, if_neg (by omega), if_neg (by omega), if_neg (by omega)]
    have c3 : hr_d1 u e r A 33 = z_add (A 33) (A (r + 9)) := by rw [hr_d1_at0 hu, if_neg (by omega), if_neg (by omega), if_pos rfl]
    rw [hr_d1_at0 hu (A := hr_d1 u e' r' A), hr_d1_at0 hu (A := hr_d1 u e r A), b1, b2, b3, c1, c2, c3, hr_d1_at0 (e := e') (r := r') (A := A) (j := k) hu, hr_d1_at0 (e := e) (r := r) (A := A) (j := k) hu]
    by_cases k1 : k = r
    · rw [if_pos k1, if_neg (show ¬ k = r' by omega), if_neg (show ¬ k = r' + 9 by omega), if_neg (show ¬ k = 33 by omega), if_pos k1]
    by_cases k2 : k = r + 9
    · rw [if_neg (show ¬ k = r by omega), if_pos k2, if_neg (show ¬ k = r' by omega), if_neg (show ¬ k = r' + 9 by omega), if_neg (show ¬ k = 33 by omega), if_neg (show ¬ k = r by omega), if_pos k2]
    by_cases k3 : k = r'
    · rw [if_neg (show ¬ k = r by omega), if_neg (show ¬ k = r + 9 by omega), if_neg (show ¬ k = 33 by omega), if_pos k3, if_pos k3]
    by_cases k4 : k = r' + 9
    · rw [if_neg (show ¬ k = r by omega), if_neg (show ¬ k = r + 9 by omega), if_neg (show ¬ k = 33 by omega), if_neg (show ¬ k = r' by omega), if_neg (show ¬ k = r' by omega), if_pos k4, if_pos k4]
    by_cases k5 : k = 33
    · rw [if_neg (show ¬ k = r by omega), if_neg (show ¬ k = r + 9 by omega), if_pos k5, if_neg (show ¬ k = r' by omega), if_neg (show ¬ k = r' + 9 by omega), if_pos k5]
      exact z_add2
    rw [if_neg (show ¬ k = r by omega), if_neg (show ¬ k = r + 9 by omega), if_neg (show ¬ k = 33 by omega), if_neg (show ¬ k = r' by omega), if_neg (show ¬ k = r' + 9 by omega), if_neg (show ¬ k = 33 by omega), if_neg (show ¬ k = r' by omega), if_neg (show ¬ k = r' + 9 by omega), if_neg (show ¬ k = 33 by omega), if_neg (show ¬ k = r by omega), if_neg (show ¬ k = r + 9 by omega), if_neg (show ¬ k = 33 by omega)]
  · have b1 : hr_d1 u e' r' A r = A r := by rw [hr_d1_at1 hu, if_neg (by omega), if_neg (by omega), if_neg (by omega)]
    have b2 : hr_d1 u e' r' A (r + 9) = A (r + 9) := by rw [hr_d1_at1 hu, if_neg (by omega), if_neg (by omega), if_neg (by omega)]
    have b3 : hr_d1 u e' r' A (r + 12) = A (r + 12) := by rw [hr_d1_at1 hu, if_neg (by omega), if_neg (by omega), if_neg (by omega)]
    have c1 : hr_d1 u e r A r' = A r' := by rw [hr_d1_at1 hu, if_neg (by omega), if_neg (by omega), if_neg (by omega)]
    have c2 : hr_d1 u e r A (r' + 9) = A (r' + 9) := by rw [hr_d1_at1 hu, if_neg (by omega), if_neg (by omega), if_neg (by omega)]
    have c3 : hr_d1 u e r A (r' + 12) = A (r' + 12) := by rw [hr_d1_at1 hu, if_neg (by omega), if_neg (by omega), if_neg (by omega)]
    rw [hr_d1_at1 hu (A := hr_d1 u e' r' A), hr_d1_at1 hu (A := hr_d1 u e r A), b1, b2, b3, c1, c2, c3, hr_d1_at1 (e := e') (r := r') (A := A) (j := k) hu, hr_d1_at1 (e := e) (r := r) (A := A) (j := k) hu]
    by_cases k1 : k = r
    · rw [if_pos k1, if_neg (show ¬ k = r' by omega), if_neg (show ¬ k = r' + 9 by omega), if_neg (show ¬ k = r' + 12 by omega), if_pos k1]
    by_cases k2 : k = r + 9
    · rw [if_neg (show ¬ k = r by omega), if_pos k2, if_neg (show ¬ k = r' by omega), if_neg (show ¬ k = r' + 9 by omega), if_neg (show ¬ k = r' + 12 by omega), if_neg (show ¬ k = r by omega), if_pos k2]
    by_cases k3 : k = r'
    · rw [if_neg (show ¬ k = r by omega), if_neg (show ¬ k = r + 9 by omega), if_neg (show ¬ k = r + 12 by omega), if_pos k3, if_pos k3]
    by_cases k4 : k = r' + 9
    · rw [if_neg (show ¬ k = r by omega), if_neg (show ¬ k = r + 9 by omega), if_neg (show ¬ k = r + 12 by omega), if_neg (show ¬ k = r' by omega), if_neg (show ¬ k = r' by omega), if_pos k4, if_pos k4]
    by_cases k5 : k = r + 12
    · rw [if_neg (show ¬ k = r by omega), if_neg (show ¬ k = r + 9 by omega), if_pos k5, if_neg (show ¬ k = r' by omega), if_neg (show ¬ k = r' + 9 by omega), if_neg (show ¬ k = r' + 12 by omega), if_neg (show ¬ k = r by omega), if_neg (show ¬ k = r + 9 by omega), if_pos k5]
    by_cases k6 : k = r' + 12
    · rw [if_neg (show ¬ k = r by omega), if_neg (show ¬ k = r + 9 by omega), if_neg (show ¬ k = r + 12 by omega), if_neg (show ¬ k = r' by omega), if_neg (show ¬ k = r' by omega), if_neg (show ¬ k = r' + 9 by omega), if_neg (show ¬ k = r' + 9 by omega), if_pos k6, if_pos k6]
    rw [if_neg (show ¬ k = r by omega), if_neg (show ¬ k = r + 9 by omega), if_neg (show ¬ k = r + 12 by omega), if_neg (show ¬ k = r' by omega), if_neg (show ¬ k = r' + 9 by omega), if_neg (show ¬ k = r' + 12 by omega), if_neg (show ¬ k = r' by omega), if_neg (show ¬ k = r' + 9 by omega), if_neg (show ¬ k = r' + 12 by omega), if_neg (show ¬ k = r by omega), if_neg (show ¬ k = r + 9 by omega), if_neg (show ¬ k = r + 12 by omega)]
def hr_Y2 (u : Int) (e : Nat → Int) (r : Nat) (B : Nat → Int) : Nat → Int := hr_d1 u (e r) r (hr_d1 u (e (r + 1)) (r + 1) B)
def hr_X2 (u : Int) (e : Nat → Int) (r : Nat) (B : Nat → Int) : Nat → Int := hr_d1 u (e (r + 1)) (r + 1) (hr_d1 u (e r) r B)
def hr_Y3 (u : Int) (e : Nat → Int) (r : Nat) (B : Nat → Int) : Nat → Int := hr_d1 u (e r) r (hr_d1 u (e (r + 1)) (r + 1) (hr_d1 u (e (r + 2)) (r + 2) B))
def hr_X3 (u : Int) (e : Nat → Int) (r : Nat) (B : Nat → Int) : Nat → Int := hr_d1 u (e (r + 2)) (r + 2) (hr_d1 u (e (r + 1)) (r + 1) (hr_d1 u (e r) r B))
theorem hr_XY2 {u : Int} {e : Nat → Int} {r : Nat} {B : Nat → Int} (h : r + 1 < 9) : hr_Y2 u e r B = hr_X2 u e r B := hr_d1_cm (by omega) h (by omega) (by omega) (by omega)
theorem hr_XY3 {u : Int} {e : Nat → Int} {r : Nat} {B : Nat → Int} (h : r + 2 < 9) : hr_Y3 u e r B = hr_X3 u e r B := by
  have a1 : hr_d1 u (e r) r (hr_d1 u (e (r + 1)) (r + 1) (hr_d1 u (e (r + 2)) (r + 2) B)) = hr_d1 u (e (r + 1)) (r + 1) (hr_d1 u (e r) r (hr_d1 u (e (r + 2)) (r + 2) B)) := hr_d1_cm (by omega) (by omega) (by omega) (by omega) (by omega)
  have a2 : hr_d1 u (e r) r (hr_d1 u (e (r + 2)) (r + 2) B) = hr_d1 u (e (r + 2)) (r + 2) (hr_d1 u (e r) r B) := hr_d1_cm (by omega) h (by omega) (by omega) (by omega)
  have a3 : hr_d1 u (e (r + 1)) (r + 1) (hr_d1 u (e (r + 2)) (r + 2) (hr_d1 u (e r) r B)) = hr_d1 u (e (r + 2)) (r + 2) (hr_d1 u (e (r + 1)) (r + 1) (hr_d1 u (e r) r B)) := hr_d1_cm (by omega) h (by omega) (by omega) (by omega)
  unfold hr_Y3 hr_X3
  rw [a1, a2, a3]
theorem hr_bq_00 (e A : Nat → Int) : hr_dq 0 0 e 9 A = hr_y 0 0 e 0 A := by
  rfl
theorem hr_bq_01 (e A : Nat → Int) : hr_dq 0 1 e 9 A = hr_y 0 1 e 1 A := by
  rfl
theorem hr_bq_02 (e A : Nat → Int) : hr_dq 0 2 e 9 A = hr_y 0 2 e 2 A := by
  rfl
theorem hr_bq_03 (e A : Nat → Int) : hr_dq 0 3 e 9 A = hr_y 0 3 e 3 A := by
  rfl
theorem hr_bq_10 (e A : Nat → Int) : hr_dq 1 0 e 9 A = hr_y 1 0 e 0 A := by
  rfl
theorem hr_bq_11 (e A : Nat → Int) : hr_dq 1 1 e 9 A = hr_y 1 1 e 1 A := by
  rfl
theorem hr_bq_12 (e A : Nat → Int) : hr_dq 1 2 e 9 A = hr_y 1 2 e 2 A := by
  rfl
theorem hr_bq_13 (e A : Nat → Int) : hr_dq 1 3 e 9 A = hr_y 1 3 e 3 A := by
  rfl
theorem hr_bq_20 (e A : Nat → Int) : hr_dq 2 0 e 9 A = hr_y 2 0 e 0 A := by
  rfl
theorem hr_bq_21 (e A : Nat → Int) : hr_dq 2 1 e 9 A = hr_y 2 1 e 1 A := by
  show hr_Y2 0 e 0 A = hr_X2 0 e 0 A
  rw [hr_XY2 (by decide)]
theorem hr_bq_22 (e A : Nat → Int) : hr_dq 2 2 e 9 A = hr_y 2 2 e 2 A := by
  show hr_Y2 1 e 0 (hr_Y2 0 e 3 A) = hr_X2 1 e 0 (hr_X2 0 e 3 A)
  rw [hr_XY2 (by decide), hr_XY2 (by decide)]
theorem hr_bq_23 (e A : Nat → Int) : hr_dq 2 3 e 9 A = hr_y 2 3 e 3 A := by
  show hr_Y2 1 e 0 (hr_Y2 1 e 3 (hr_Y2 0 e 6 A)) = hr_X2 1 e 0 (hr_X2 1 e 3 (hr_X2 0 e 6 A))
  rw [hr_XY2 (by decide), hr_XY2 (by decide), hr_XY2 (by decide)]
theorem hr_bq_30 (e A : Nat → Int) : hr_dq 3 0 e 9 A = hr_y 3 0 e 0 A := by
  rfl
theorem hr_bq_31 (e A : Nat → Int) : hr_dq 3 1 e 9 A = hr_y 3 1 e 1 A := by
  show hr_Y3 0 e 0 A = hr_X3 0 e 0 A
  rw [hr_XY3 (by decide)]
theorem hr_bq_32 (e A : Nat → Int) : hr_dq 3 2 e 9 A = hr_y 3 2 e 2 A := by
  show hr_Y3 1 e 0 (hr_Y3 0 e 3 A) = hr_X3 1 e 0 (hr_X3 0 e 3 A)
  rw [hr_XY3 (by decide), hr_XY3 (by decide)]
theorem hr_bq_33 (e A : Nat → Int) : hr_dq 3 3 e 9 A = hr_y 3 3 e 3 A := by
  show hr_Y3 1 e 0 (hr_Y3 1 e 3 (hr_Y3 0 e 6 A)) = hr_X3 1 e 0 (hr_X3 1 e 3 (hr_X3 0 e 6 A))
  rw [hr_XY3 (by decide), hr_XY3 (by decide), hr_XY3 (by decide)]
theorem hr_dq_ne {w h : Nat} {e : Nat → Int} {j : Nat} (hj : 21 ≤ j) (h33 : ¬ j = 33) : ∀ (f : Nat) (A : Nat → Int), f ≤ 9 → hr_dq w h e f A j = A j := by
  intro f
  induction f with
  | zero => intro A hf; rfl
  | succ f ih =>
    intro A hf
    unfold hr_dq
    cases hq w h f with
    | true => rw [cond_true, ih _ (by omega), hr_d1_ne (by omega) (by omega) (by omega) h33]
    | false => rw [cond_false]; exact ih _ (by omega)
theorem hr_x_ne {h y w : Nat} (hy : y < 3) (hw : w ≤ 3) {e : Nat → Int} {j : Nat} (hj : 21 ≤ j) (h33 : ¬ j = 33) : ∀ (f x : Nat) (A : Nat → Int), x + f = w → hr_x h e y f x A j = A j := by
  intro f
  induction f with
  | zero => intro x A hx; rfl
  | succ f ih =>
    intro x A hx
    unfold hr_x
    rw [ih (x + 1) _ (by omega), hr_d1_ne (by omega) (by omega) (by omega) h33]
theorem hr_y_ne {w h : Nat} (hw : w ≤ 3) {e : Nat → Int} {j : Nat} (hj : 21 ≤ j) (h33 : ¬ j = 33) : ∀ (y : Nat) (A : Nat → Int), y ≤ 3 → hr_y w h e y A j = A j := by
  intro y
  induction y with
  | zero => intro A hy; rfl
  | succ y ih =>
    intro A hy
    unfold hr_y
    rw [ih _ (by omega), hr_x_ne (by omega) hw hj h33 w 0 A (by omega)]
theorem hr_dq_y {w h : Nat} (hw : w ≤ 3) (hh : h ≤ 3) (e A : Nat → Int) : hr_dq w h e 9 A = hr_y w h e h A := by
  rcases (show w = 0 ∨ w = 1 ∨ w = 2 ∨ w = 3 by omega) with rfl | rfl | rfl | rfl <;> rcases (show h = 0 ∨ h = 1 ∨ h = 2 ∨ h = 3 by omega) with rfl | rfl | rfl | rfl
  · exact hr_bq_00 e A
  · exact hr_bq_01 e A
  · exact hr_bq_02 e A
  · exact hr_bq_03 e A
  · exact hr_bq_10 e A
  · exact hr_bq_11 e A
  · exact hr_bq_12 e A
  · exact hr_bq_13 e A
  · exact hr_bq_20 e A
  · exact hr_bq_21 e A
  · exact hr_bq_22 e A
  · exact hr_bq_23 e A
  · exact hr_bq_30 e A
  · exact hr_bq_31 e A
  · exact hr_bq_32 e A
  · exact hr_bq_33 e A
/-! freezing and giving way -/
theorem u_up_cm {A : Nat → Int} {i j : Nat} {v x : Int} (h : ¬ i = j) : u_up (u_up A i v) j x = u_up (u_up A j x) i v := by
  funext k
  unfold u_up
  by_cases h1 : k = j
  · rw [if_pos h1, if_neg (by omega), if_pos h1]
  · rw [if_neg h1, if_neg h1]
theorem u_up_ne {A : Nat → Int} {i j : Nat} {v : Int} (h : ¬ j = i) : u_up A i v j = A j := by unfold u_up; rw [if_neg h]
theorem u_up_self {A : Nat → Int} {i : Nat} {v : Int} : u_up A i v i = v := by unfold u_up; rw [if_pos rfl]
theorem hr_f_ne {r : Nat} {A : Nat → Int} {j : Nat} (h1 : ¬ j = r) (h2 : ¬ j = r + 9) : hr_f r A j = A j := by
  unfold hr_f
  rw [u_up_ne h1, u_up_ne h2]
/-- a change far from ICE and WATER and FROST commutes with freezing -/
theorem hr_f_up {r : Nat} (hr : r < 9) {A : Nat → Int} {j : Nat} {v : Int} (h1 : 18 ≤ j) (h2 : ¬ j = 36) : hr_f r (u_up A j v) = u_up (hr_f r A) j v := by
  unfold hr_f
  rw [u_up_ne (show ¬ 36 = j by omega), u_up_ne (show ¬ r + 9 = j by omega), u_up_ne (show ¬ r = j by omega), u_up_cm (i := j) (j := r + 9) (by omega), u_up_cm (i := j) (j := r) (by omega)]
theorem hr_F_up {w h : Int} {j : Nat} {v : Int} (h1 : 18 ≤ j) (h2 : ¬ j = 36) : ∀ (f x : Nat) (A : Nat → Int), x + f ≤ 9 → hr_F w h f x (u_up A j v) = u_up (hr_F w h f x A) j v := by
  intro f
  induction f with
  | zero => intro x A hx; rfl
  | succ f ih =>
    intro x A hx
    unfold hr_F
    by_cases c : u_hs w h (x : Int) = 0
    · rw [if_pos c, if_pos c]; exact ih (x + 1) A (by omega)
    · rw [if_neg c, if_neg c, hr_f_up (by omega) h1 h2]; exact ih (x + 1) _ (by omega)
theorem hr_F_hi {w h : Int} {j : Nat} (h1 : 18 ≤ j) : ∀ (f x : Nat) (A : Nat → Int), x + f ≤ 9 → hr_F w h f x A j = A j := by
  intro f
  induction f with
  | zero => intro x A hx; rfl
  | succ f ih =>
    intro x A hx
    unfold hr_F
    rw [ih (x + 1) _ (by omega)]
    by_cases c : u_hs w h (x : Int) = 0
    · rw [if_pos c]
    · rw [if_neg c, hr_f_ne (by omega) (by omega)]
theorem hr_F_lo {w h : Int} {j : Nat} : ∀ (f x : Nat) (A : Nat → Int), x + f ≤ 9 → j < x → hr_F w h f x A j = A j := by
  intro f
  induction f with
  | zero => intro x A hx hj; rfl
  | succ f ih =>
    intro x A hx hj
    unfold hr_F
    rw [ih (x + 1) _ (by omega) (by omega)]
    by_cases c : u_hs w h (x : Int) = 0
    · rw [if_pos c]
    · rw [if_neg c, hr_f_ne (by omega) (by omega)]
theorem hr_p_F {w h : Int} {fF xF : Nat} (hF : xF + fF ≤ 9) {r to : Int} : ∀ (f x : Nat) (A : Nat → Int) (fb fm : Int), x + f ≤ 5 → hr_p r to f x (hr_F w h fF xF A) fb fm = (hr_F w h fF xF (hr_p r to f x A fb fm).1, (hr_p r to f x A fb fm).2) := by
  intro f
  induction f with
  | zero => intro x A fb fm hx; rfl
  | succ f ih =>
    intro x A fb fm hx
    unfold hr_p
    rw [hr_F_hi (by omega) fF xF A hF, hr_F_hi (by omega) fF xF A hF]
    by_cases c : A (x + 18) = r
    · rw [if_pos c, if_pos c, ← hr_F_up (by omega) (by omega) fF xF A hF, ← hr_F_up (by omega) (by omega) fF xF _ hF]
      exact ih (x + 1) _ _ _ (by omega)
    · rw [if_neg c, if_neg c]
      exact ih (x + 1) _ _ _ (by omega)
theorem hr_st_F {w h : Int} {fF xF : Nat} (hF : xF + fF ≤ 9) {r to : Int} (A : Nat → Int) : hr_st r to (hr_F w h fF xF A) = hr_F w h fF xF (hr_st r to A) := by
  unfold hr_st
  rw [hr_F_hi (by omega) fF xF A hF]
  by_cases c : A 34 = r
  · rw [if_pos c, if_pos c, hr_F_up (by omega) (by omega) fF xF A hF]
  · rw [if_neg c, if_neg c]
theorem hr_p_up34 {r to v : Int} : ∀ (f x : Nat) (A : Nat → Int) (fb fm : Int), x + f ≤ 5 → hr_p r to f x (u_up A 34 v) fb fm = (u_up (hr_p r to f x A fb fm).1 34 v, (hr_p r to f x A fb fm).2) := by
  intro f
  induction f with
  | zero => intro x A fb fm hx; rfl
  | succ f ih =>
    intro x A fb fm hx
    unfold hr_p
    rw [u_up_ne (show ¬ x + 18 = 34 by omega), u_up_ne (show ¬ x + 28 = 34 by omega)]
    by_cases c : A (x + 18) = r
    · rw [if_pos c, if_pos c, u_up_cm (i := 34) (j := x + 18) (by omega), u_up_cm (i := 34) (j := x + 28) (by omega)]
      exact ih (x + 1) _ _ _ (by omega)
    · rw [if_neg c, if_neg c]
      exact ih (x + 1) _ _ _ (by omega)
theorem hr_p_hi {r to : Int} {j : Nat} (hj : j < 18 ∨ 33 ≤ j) : ∀ (f x : Nat) (A : Nat → Int) (fb fm : Int), x + f ≤ 5 → (hr_p r to f x A fb fm).1 j = A j := by
  intro f
  induction f with
  | zero => intro x A fb fm hx; rfl
  | succ f ih =>
    intro x A fb fm hx
    unfold hr_p
    by_cases c : A (x + 18) = r
    · rw [if_pos c, ih (x + 1) _ _ _ (by omega), u_up_ne (by omega), u_up_ne (by omega)]
    · rw [if_neg c]
      exact ih (x + 1) _ _ _ (by omega)
/-- first the persons, then the stove; or the other way round -/
theorem hr_st_p {r to : Int} {n : Nat} (hn : n ≤ 5) (A : Nat → Int) (fb fm : Int) : hr_p r to n 0 (hr_st r to A) fb fm = (hr_st r to (hr_p r to n 0 A fb fm).1, (hr_p r to n 0 A fb fm).2) := by
  unfold hr_st
  rw [hr_p_hi (Or.inr (by decide)) n 0 A fb fm (by omega)]
  by_cases c : A 34 = r
  · rw [if_pos c, if_pos c]; exact hr_p_up34 n 0 A fb fm (by omega)
  · rw [if_neg c, if_neg c]
theorem hr_q_k {w h b : Int} {n : Nat} (hn : n ≤ 5) (hb : ∀ r : Nat, r < 9 → (z_and (z_shr b (r : Int)) 1 = 0 ↔ u_hs w h (r : Int) = 0)) : ∀ (f x : Nat) (A : Nat → Int) (g fb fm : Int), x + f ≤ 9 → hr_q w h b n f x A g fb fm = hr_k w h n f x (hr_F w h f x A) g fb fm := by
  intro f
  induction f with
  | zero => intro x A g fb fm hx; rfl
  | succ f ih =>
    intro x A g fb fm hx
    have hbx := hb x (by omega)
    unfold hr_q hr_k
    by_cases c : u_hs w h (x : Int) = 0
    · have e : hr_F w h (f + 1) x A = hr_F w h f (x + 1) A := by unfold hr_F; rw [if_pos c]; cases f <;> rfl
      rw [if_pos c, if_pos (hbx.mpr c), e]
      exact ih (x + 1) A g fb fm (by omega)
    have e : hr_F w h (f + 1) x A = hr_F w h f (x + 1) (hr_f x A) := by
      show hr_F w h f (x + 1) (if u_hs w h (x : Int) = 0 then A else hr_f x A) = _
      rw [if_neg c]
    rw [if_neg c, if_neg (fun z => c (hbx.mp z)), e, hr_F_lo f (x + 1) _ (by omega) (by omega)]
    by_cases c2 : hr_f x A x = 0
    · rw [if_pos c2, if_pos c2, hr_st_F (by omega), hr_p_F (by omega) n 0 _ fb fm (by omega), hr_st_p hn]
      exact ih (x + 1) _ _ _ _ (by omega)
    · rw [if_neg c2, if_neg c2]
      exact ih (x + 1) _ _ _ _ (by omega)
/-! counts that go on -/
theorem hr_p_fm {r to : Int} : ∀ (f x : Nat) (A : Nat → Int) (fb fm d : Int), hr_p r to f x A fb (z_add d fm) = ((hr_p r to f x A fb fm).1, (hr_p r to f x A fb fm).2.1, z_add d (hr_p r to f x A fb fm).2.2) := by
  intro f
  induction f with
  | zero => intro x A fb fm d; rfl
  | succ f ih =>
    intro x A fb fm d
    unfold hr_p
    by_cases c : A (x + 18) = r
    · rw [if_pos c, if_pos c, z_add_as]
      exact ih (x + 1) _ _ _ _
    · rw [if_neg c, if_neg c]
      exact ih (x + 1) _ _ _ _
theorem hr_k_fm {w h : Int} {n : Nat} : ∀ (f x : Nat) (A : Nat → Int) (g fb fm d : Int), hr_k w h n f x A g fb (z_add d fm) = ((hr_k w h n f x A g fb fm).1, (hr_k w h n f x A g fb fm).2.1, (hr_k w h n f x A g fb fm).2.2.1, z_add d (hr_k w h n f x A g fb fm).2.2.2) := by
  intro f
  induction f with
  | zero => intro x A g fb fm d; rfl
  | succ f ih =>
    intro x A g fb fm d
    unfold hr_k
    by_cases c : u_hs w h (x : Int) = 0
    · rw [if_pos c, if_pos c]; exact ih (x + 1) _ _ _ _ _
    rw [if_neg c, if_neg c]
    by_cases c2 : A x = 0
    · rw [if_pos c2, if_pos c2, hr_p_fm]
      exact ih (x + 1) _ _ _ _ _
    · rw [if_neg c2, if_neg c2]; exact ih (x + 1) _ _ _ _ _
def hr_sd (g : Nat → Int) : Nat → Int
  | 0 => 0
  | r + 1 => hr_sd g r + g r
theorem hr_dm_w {w h : Int} {e : Nat → Int} : ∀ (f : Nat) (t : Int), z_w t = t → hr_dm w h e f t = z_w (t + hr_sd (fun r => if u_hs w h (r : Int) = 0 then 0 else e r) f) := by
  intro f
  induction f with
  | zero => intro t ht; show t = z_w (t + 0); rw [Int.add_zero, ht]
  | succ f ih =>
    intro t ht
    unfold hr_dm hr_sd
    by_cases c : u_hs w h (f : Int) = 0
    · rw [if_pos c, if_pos c, ih t ht, Int.add_zero]
    · rw [if_neg c, if_neg c, ih _ (by rw [z_add_w]; exact z_w_w), z_add_w, z_w_l]
      congr 1
      omega
theorem hr_ms_w {e : Nat → Int} : ∀ (f x : Nat) (t : Int), z_w t = t → hr_ms e f x t = z_w (t + hr_t e f x) := by
  intro f
  induction f with
  | zero => intro x t ht; show t = z_w (t + 0); rw [Int.add_zero, ht]
  | succ f ih =>
    intro x t ht
    unfold hr_ms hr_t
    rw [ih (x + 1) _ (by rw [z_add_w]; exact z_w_w), z_add_w, z_w_l]
    congr 1
    omega
theorem hr_sd_t (g : Nat → Int) : hr_sd g 9 = hr_t g 9 0 := by
  show 0 + g 0 + g 1 + g 2 + g 3 + g 4 + g 5 + g 6 + g 7 + g 8 = g 0 + (g 1 + (g 2 + (g 3 + (g 4 + (g 5 + (g 6 + (g 7 + (g 8 + 0))))))))
  omega
theorem hr_cl_00 (e A : Nat → Int) : ∀ k, k < 9 → hr_dq 0 0 e 9 A k = (bif hq 0 0 k then z_sub (A k) (e k) else A k) ∧ hr_dq 0 0 e 9 A (k + 9) = (bif hq 0 0 k then (bif Nat.ble 3 k then z_add (e k) (A (k + 6)) else e k) else A (k + 9)) := by
  intro k hk
  rcases (show k = 0 ∨ k = 1 ∨ k = 2 ∨ k = 3 ∨ k = 4 ∨ k = 5 ∨ k = 6 ∨ k = 7 ∨ k = 8 by omega) with rfl | rfl | rfl | rfl | rfl | rfl | rfl | rfl | rfl
  · exact ⟨rfl, rfl⟩
  · exact ⟨rfl, rfl⟩
  · exact ⟨rfl, rfl⟩
  · exact ⟨rfl, rfl⟩
  · exact ⟨rfl, rfl⟩
  · exact ⟨rfl, rfl⟩
  · exact ⟨rfl, rfl⟩
  · exact ⟨rfl, rfl⟩
  · exact ⟨rfl, rfl⟩
theorem hr_cl_01 (e A : Nat → Int) : ∀ k, k < 9 → hr_dq 0 1 e 9 A k = (bif hq 0 1 k then z_sub (A k) (e k) else A k) ∧ hr_dq 0 1 e 9 A (k + 9) = (bif hq 0 1 k then (bif Nat.ble 3 k then z_add (e k) (A (k + 6)) else e k) else A (k + 9)) := by
  intro k hk
  rcases (show k = 0 ∨ k = 1 ∨ k = 2 ∨ k = 3 ∨ k = 4 ∨ k = 5 ∨ k = 6 ∨ k = 7 ∨ k = 8 by omega) with rfl | rfl | rfl | rfl | rfl | rfl | rfl | rfl | rfl
  · exact ⟨rfl, rfl⟩
  · exact ⟨rfl, rfl⟩
  · exact ⟨rfl, rfl⟩
  · exact ⟨rfl, rfl⟩
  · exact ⟨rfl, rfl⟩
  · exact ⟨rfl, rfl⟩
  · exact ⟨rfl, rfl⟩
  · exact ⟨rfl, rfl⟩
  · exact ⟨rfl, rfl⟩
theorem hr_cl_02 (e A : Nat → Int) : ∀ k, k < 9 → hr_dq 0 2 e 9 A k = (bif hq 0 2 k then z_sub (A k) (e k) else A k) ∧ hr_dq 0 2 e 9 A (k + 9) = (bif hq 0 2 k then (bif Nat.ble 3 k then z_add (e k) (A (k + 6)) else e k) else A (k + 9)) := by
  intro k hk
  rcases (show k = 0 ∨ k = 1 ∨ k = 2 ∨ k = 3 ∨ k = 4 ∨ k = 5 ∨ k = 6 ∨ k = 7 ∨ k = 8 by omega) with rfl | rfl | rfl | rfl | rfl | rfl | rfl | rfl | rfl
  · exact ⟨rfl, rfl⟩
  · exact ⟨rfl, rfl⟩
  · exact ⟨rfl, rfl⟩
  · exact ⟨rfl, rfl⟩
  · exact ⟨rfl, rfl⟩
  · exact ⟨rfl, rfl⟩
  · exact ⟨rfl, rfl⟩
  · exact ⟨rfl, rfl⟩
  · exact ⟨rfl, rfl⟩
theorem hr_cl_03 (e A : Nat → Int) : ∀ k, k < 9 → hr_dq 0 3 e 9 A k = (bif hq 0 3 k then z_sub (A k) (e k) else A k) ∧ hr_dq 0 3 e 9 A (k + 9) = (bif hq 0 3 k then (bif Nat.ble 3 k then z_add (e k) (A (k + 6)) else e k) else A (k + 9)) := by
  intro k hk
  rcases (show k = 0 ∨ k = 1 ∨ k = 2 ∨ k = 3 ∨ k = 4 ∨ k = 5 ∨ k = 6 ∨ k = 7 ∨ k = 8 by omega) with rfl | rfl | rfl | rfl | rfl | rfl | rfl | rfl | rfl
  · exact ⟨rfl, rfl⟩
  · exact ⟨rfl, rfl⟩
  · exact ⟨rfl, rfl⟩
  · exact ⟨rfl, rfl⟩
  · exact ⟨rfl, rfl⟩
  · exact ⟨rfl, rfl⟩
  · exact ⟨rfl, rfl⟩
  · exact ⟨rfl, rfl⟩
  · exact ⟨rfl, rfl⟩
theorem hr_cl_10 (e A : Nat → Int) : ∀ k, k < 9 → hr_dq 1 0 e 9 A k = (bif hq 1 0 k then z_sub (A k) (e k) else A k) ∧ hr_dq 1 0 e 9 A (k + 9) = (bif hq 1 0 k then (bif Nat.ble 3 k then z_add (e k) (A (k + 6)) else e k) else A (k + 9)) := by
  intro k hk
  rcases (show k = 0 ∨ k = 1 ∨ k = 2 ∨ k = 3 ∨ k = 4 ∨ k = 5 ∨ k = 6 ∨ k = 7 ∨ k = 8 by omega) with rfl | rfl | rfl | rfl | rfl | rfl | rfl | rfl | rfl
  · exact ⟨rfl, rfl⟩
  · exact ⟨rfl, rfl⟩
  · exact ⟨rfl, rfl⟩
  · exact ⟨rfl, rfl⟩
  · exact ⟨rfl, rfl⟩
  · exact ⟨rfl, rfl⟩
  · exact ⟨rfl, rfl⟩
  · exact ⟨rfl, rfl⟩
  · exact ⟨rfl, rfl⟩
theorem hr_cl_11 (e A : Nat → Int) : ∀ k, k < 9 → hr_dq 1 1 e 9 A k = (bif hq 1 1 k then z_sub (A k) (e k) else A k) ∧ hr_dq 1 1 e 9 A (k + 9) = (bif hq 1 1 k then (bif Nat.ble 3 k then z_add (e k) (A (k + 6)) else e k) else A (k + 9)) := by
  intro k hk
  rcases (show k = 0 ∨ k = 1 ∨ k = 2 ∨ k = 3 ∨ k = 4 ∨ k = 5 ∨ k = 6 ∨ k = 7 ∨ k = 8 by omega) with rfl | rfl | rfl | rfl | rfl | rfl | rfl | rfl | rfl
  · exact ⟨rfl, rfl⟩
  · exact ⟨rfl, rfl⟩
  · exact ⟨rfl, rfl⟩
  · exact ⟨rfl, rfl⟩
  · exact ⟨rfl, rfl⟩
  · exact ⟨rfl, rfl⟩
  · exact ⟨rfl, rfl⟩
  · exact ⟨rfl, rfl⟩
  · exact ⟨rfl, rfl⟩
theorem hr_cl_12 (e A : Nat → Int) : ∀ k, k < 9 → hr_dq 1 2 e 9 A k = (bif hq 1 2 k then z_sub (A k) (e k) else A k) ∧ hr_dq 1 2 e 9 A (k + 9) = (bif hq 1 2 k then (bif Nat.ble 3 k then z_add (e k) (A (k + 6)) else e k) else A (k + 9)) := by
  intro k hk
  rcases (show k = 0 ∨ k = 1 ∨ k = 2 ∨ k = 3 ∨ k = 4 ∨ k = 5 ∨ k = 6 ∨ k = 7 ∨ k = 8 by omega) with rfl | rfl | rfl | rfl | rfl | rfl | rfl | rfl | rfl
  · exact ⟨rfl, rfl⟩
  · exact ⟨rfl, rfl⟩
  · exact ⟨rfl, rfl⟩
  · exact ⟨rfl, rfl⟩
  · exact ⟨rfl, rfl⟩
  · exact ⟨rfl, rfl⟩
  · exact ⟨rfl, rfl⟩
  · exact ⟨rfl, rfl⟩
  · exact ⟨rfl, rfl⟩
theorem hr_cl_13 (e A : Nat → Int) : ∀ k, k < 9 → hr_dq 1 3 e 9 A k = (bif hq 1 3 k then z_sub (A k) (e k) else A k) ∧ hr_dq 1 3 e 9 A (k + 9) = (bif hq 1 3 k then (bif Nat.ble 3 k then z_add (e k) (A (k + 6)) else e k) else A (k + 9)) := by
  intro k hk
  rcases (show k = 0 ∨ k = 1 ∨ k = 2 ∨ k = 3 ∨ k = 4 ∨ k = 5 ∨ k = 6 ∨ k = 7 ∨ k = 8 by omega) with rfl | rfl | rfl | rfl | rfl | rfl | rfl | rfl | rfl
  · exact ⟨rfl, rfl⟩
  · exact ⟨rfl, rfl⟩
  · exact ⟨rfl, rfl⟩
  · exact ⟨rfl, rfl⟩
  · exact ⟨rfl, rfl⟩
  · exact ⟨rfl, rfl⟩
  · exact ⟨rfl, rfl⟩
  · exact ⟨rfl, rfl⟩
  · exact ⟨rfl, rfl⟩
theorem hr_cl_20 (e A : Nat → Int) : ∀ k, k < 9 → hr_dq 2 0 e 9 A k = (bif hq 2 0 k then z_sub (A k) (e k) else A k) ∧ hr_dq 2 0 e 9 A (k + 9) = (bif hq 2 0 k then (bif Nat.ble 3 k then z_add (e k) (A (k + 6)) else e k) else A (k + 9)) := by
  intro k hk
  rcases (show k = 0 ∨ k = 1 ∨ k = 2 ∨ k = 3 ∨ k = 4 ∨ k = 5 ∨ k = 6 ∨ k = 7 ∨ k = 8 by omega) with rfl | rfl | rfl | rfl | rfl | rfl | rfl | rfl | rfl
  · exact ⟨rfl, rfl⟩
  · exact ⟨rfl, rfl⟩
  · exact ⟨rfl, rfl⟩
  · exact ⟨rfl, rfl⟩
  · exact ⟨rfl, rfl⟩
  · exact ⟨rfl, rfl⟩
  · exact ⟨rfl, rfl⟩
  · exact ⟨rfl, rfl⟩
  · exact ⟨rfl, rfl⟩
theorem hr_cl_21 (e A : Nat → Int) : ∀ k, k < 9 → hr_dq 2 1 e 9 A k = (bif hq 2 1 k then z_sub (A k) (e k) else A k) ∧ hr_dq 2 1 e 9 A (k + 9) = (bif hq 2 1 k then (bif Nat.ble 3 k then z_add (e k) (A (k + 6)) else e k) else A (k + 9)) := by
  intro k hk
  rcases (show k = 0 ∨ k = 1 ∨ k = 2 ∨ k = 3 ∨ k = 4 ∨ k = 5 ∨ k = 6 ∨ k = 7 ∨ k = 8 by omega) with rfl | rfl | rfl | rfl | rfl | rfl | rfl | rfl | rfl
  · exact ⟨rfl, rfl⟩
  · exact ⟨rfl, rfl⟩
  · exact ⟨rfl, rfl⟩
  · exact ⟨rfl, rfl⟩
  · exact ⟨rfl, rfl⟩
  · exact ⟨rfl, rfl⟩
  · exact ⟨rfl, rfl⟩
  · exact ⟨rfl, rfl⟩
  · exact ⟨rfl, rfl⟩
theorem hr_cl_22 (e A : Nat → Int) : ∀ k, k < 9 → hr_dq 2 2 e 9 A k = (bif hq 2 2 k then z_sub (A k) (e k) else A k) ∧ hr_dq 2 2 e 9 A (k + 9) = (bif hq 2 2 k then (bif Nat.ble 3 k then z_add (e k) (A (k + 6)) else e k) else A (k + 9)) := by
  intro k hk
  rcases (show k = 0 ∨ k = 1 ∨ k = 2 ∨ k = 3 ∨ k = 4 ∨ k = 5 ∨ k = 6 ∨ k = 7 ∨ k = 8 by omega) with rfl | rfl | rfl | rfl | rfl | rfl | rfl | rfl | rfl
  · exact ⟨rfl, rfl⟩
  · exact ⟨rfl, rfl⟩
  · exact ⟨rfl, rfl⟩
  · exact ⟨rfl, rfl⟩
  · exact ⟨rfl, rfl⟩
  · exact ⟨rfl, rfl⟩
  · exact ⟨rfl, rfl⟩
  · exact ⟨rfl, rfl⟩
  · exact ⟨rfl, rfl⟩
theorem hr_cl_23 (e A : Nat → Int) : ∀ k, k < 9 → hr_dq 2 3 e 9 A k = (bif hq 2 3 k then z_sub (A k) (e k) else A k) ∧ hr_dq 2 3 e 9 A (k + 9) = (bif hq 2 3 k then (bif Nat.ble 3 k then z_add (e k) (A (k + 6)) else e k) else A (k + 9)) := by
  intro k hk
  rcases (show k = 0 ∨ k = 1 ∨ k = 2 ∨ k = 3 ∨ k = 4 ∨ k = 5 ∨ k = 6 ∨ k = 7 ∨ k = 8 by omega) with rfl | rfl | rfl | rfl | rfl | rfl | rfl | rfl | rfl
  · exact ⟨rfl, rfl⟩
  · exact ⟨rfl, rfl⟩
  · exact ⟨rfl, rfl⟩
  · exact ⟨rfl, rfl⟩
  · exact ⟨rfl, rfl⟩
  · exact ⟨rfl, rfl⟩
  · exact ⟨rfl, rfl⟩
  · exact ⟨rfl, rfl⟩
  · exact ⟨rfl, rfl⟩
theorem hr_cl_30 (e A : Nat → Int) : ∀ k, k < 9 → hr_dq 3 0 e 9 A k = (bif hq 3 0 k then z_sub (A k) (e k) else A k) ∧ hr_dq 3 0 e 9 A (k + 9) = (bif hq 3 0 k then (bif Nat.ble 3 k then z_add (e k) (A (k + 6)) else e k) else A (k + 9)) := by
  intro k hk
  rcases (show k = 0 ∨ k = 1 ∨ k = 2 ∨ k = 3 ∨ k = 4 ∨ k = 5 ∨ k = 6 ∨ k = 7 ∨ k = 8 by omega) with rfl | rfl | rfl | rfl | rfl | rfl | rfl | rfl | rfl
  · exact ⟨rfl, rfl⟩
  · exact ⟨rfl, rfl⟩
  · exact ⟨rfl, rfl⟩
  · exact ⟨rfl, rfl⟩
  · exact ⟨rfl, rfl⟩
  · exact ⟨rfl, rfl⟩
  · exact ⟨rfl, rfl⟩
  · exact ⟨rfl, rfl⟩
  · exact ⟨rfl, rfl⟩
theorem hr_cl_31 (e A : Nat → Int) : ∀ k, k < 9 → hr_dq 3 1 e 9 A k = (bif hq 3 1 k then z_sub (A k) (e k) else A k) ∧ hr_dq 3 1 e 9 A (k + 9) = (bif hq 3 1 k then (bif Nat.ble 3 k then z_add (e k) (A (k + 6)) else e k) else A (k + 9)) := by
  intro k hk
  rcases (show k = 0 ∨ k = 1 ∨ k = 2 ∨ k = 3 ∨ k = 4 ∨ k = 5 ∨ k = 6 ∨ k = 7 ∨ k = 8 by omega) with rfl | rfl | rfl | rfl | rfl | rfl | rfl | rfl | rfl
  · exact ⟨rfl, rfl⟩
  · exact ⟨rfl, rfl⟩
  · exact ⟨rfl, rfl⟩
  · exact ⟨rfl, rfl⟩
  · exact ⟨rfl, rfl⟩
  · exact ⟨rfl, rfl⟩
  · exact ⟨rfl, rfl⟩
  · exact ⟨rfl, rfl⟩
  · exact ⟨rfl, rfl⟩
theorem hr_cl_32 (e A : Nat → Int) : ∀ k, k < 9 → hr_dq 3 2 e 9 A k = (bif hq 3 2 k then z_sub (A k) (e k) else A k) ∧ hr_dq 3 2 e 9 A (k + 9) = (bif hq 3 2 k then (bif Nat.ble 3 k then z_add (e k) (A (k + 6)) else e k) else A (k + 9)) := by
  intro k hk
  rcases (show k = 0 ∨ k = 1 ∨ k = 2 ∨ k = 3 ∨ k = 4 ∨ k = 5 ∨ k = 6 ∨ k = 7 ∨ k = 8 by omega) with rfl | rfl | rfl | rfl | rfl | rfl | rfl | rfl | rfl
  · exact ⟨rfl, rfl⟩
  · exact ⟨rfl, rfl⟩
  · exact ⟨rfl, rfl⟩
  · exact ⟨rfl, rfl⟩
  · exact ⟨rfl, rfl⟩
  · exact ⟨rfl, rfl⟩
  · exact ⟨rfl, rfl⟩
  · exact ⟨rfl, rfl⟩
  · exact ⟨rfl, rfl⟩
theorem hr_cl_33 (e A : Nat → Int) : ∀ k, k < 9 → hr_dq 3 3 e 9 A k = (bif hq 3 3 k then z_sub (A k) (e k) else A k) ∧ hr_dq 3 3 e 9 A (k + 9) = (bif hq 3 3 k then (bif Nat.ble 3 k then z_add (e k) (A (k + 6)) else e k) else A (k + 9)) := by
  intro k hk
  rcases (show k = 0 ∨ k = 1 ∨ k = 2 ∨ k = 3 ∨ k = 4 ∨ k = 5 ∨ k = 6 ∨ k = 7 ∨ k = 8 by omega) with rfl | rfl | rfl | rfl | rfl | rfl | rfl | rfl | rfl
  · exact ⟨rfl, rfl⟩
  · exact ⟨rfl, rfl⟩
  · exact ⟨rfl, rfl⟩
  · exact ⟨rfl, rfl⟩
  · exact ⟨rfl, rfl⟩
  · exact ⟨rfl, rfl⟩
  · exact ⟨rfl, rfl⟩
  · exact ⟨rfl, rfl⟩
  · exact ⟨rfl, rfl⟩
theorem hr_cl {w h : Nat} (hw : w ≤ 3) (hh : h ≤ 3) (e A : Nat → Int) : ∀ k, k < 9 → hr_dq w h e 9 A k = (bif hq w h k then z_sub (A k) (e k) else A k) ∧ hr_dq w h e 9 A (k + 9) = (bif hq w h k then (bif Nat.ble 3 k then z_add (e k) (A (k + 6)) else e k) else A (k + 9)) := by
  intro k hk
  rcases (show w = 0 ∨ w = 1 ∨ w = 2 ∨ w = 3 by omega) with rfl | rfl | rfl | rfl <;> rcases (show h = 0 ∨ h = 1 ∨ h = 2 ∨ h = 3 by omega) with rfl | rfl | rfl | rfl
  · exact hr_cl_00 e A k hk
  · exact hr_cl_01 e A k hk
  · exact hr_cl_02 e A k hk
  · exact hr_cl_03 e A k hk
  · exact hr_cl_10 e A k hk
  · exact hr_cl_11 e A k hk
  · exact hr_cl_12 e A k hk
  · exact hr_cl_13 e A k hk
  · exact hr_cl_20 e A k hk
  · exact hr_cl_21 e A k hk
  · exact hr_cl_22 e A k hk
  · exact hr_cl_23 e A k hk
  · exact hr_cl_30 e A k hk
  · exact hr_cl_31 e A k hk
  · exact hr_cl_32 e A k hk
  · exact hr_cl_33 e A k hk
end
section
/-! AN HOUR, both of them; what holds of a State stays -/
def hr_K (w h : Nat) (heat price : Int) (ml : hr_M) (wm : Nat → Int) (n : Nat) (A : Nat → Int) : (Nat → Int) × Int × Int × Int := hr_k (w : Int) (h : Int) n 9 0 (hr_F (w : Int) (h : Int) 9 0 (hr_y w h (hr_me (w : Int) (h : Int) heat ml wm n A) h (hr_o wm price n 0 A))) 0 0 0
def hr_A (w h : Nat) (heat price : Int) (ml : hr_M) (wm : Nat → Int) (n : Nat) (A : Nat → Int) : Nat → Int := u_up (hr_K w h heat price ml wm n A).1 35 (z_add ((hr_K w h heat price ml wm n A).1 35) 1)
def hr_m (w h : Nat) (heat : Int) (ml : hr_M) (wm : Nat → Int) (n : Nat) (A : Nat → Int) : Int := hr_ms (hr_me (w : Int) (h : Int) heat ml wm n A) 9 0 0
def hr_ok (n : Nat) (A : Nat → Int) : Prop := (∀ k, k < 9 → 0 ≤ A k ∧ A k ≤ 99) ∧ (∀ k, k < 9 → 0 ≤ A (k + 9) ∧ A (k + 9) ≤ 99 * ((k / 3 + 1 : Nat) : Int)) ∧ (∀ p, p < n → -1 ≤ A (p + 18) ∧ A (p + 18) ≤ 8) ∧ 0 ≤ A 36 ∧ A 36 ≤ 9
abbrev c_LHo (s : Nat) : List (Nat × Nat × Nat) := c_LH s
/-- what the class holds while hours go by -/
noncomputable def c_cfg (w h n : Nat) (heat price : Int) (ml : hr_M) (wmt : Int → Nat → Int) (m : z_M) : Prop := m 3 8 = (w : Int) ∧ m 3 9 = (h : Int) ∧ m 3 11 = (n : Int) ∧ m 3 12 = heat ∧ m 3 13 = price ∧ (∀ t : Int, 0 ≤ t → ∀ p, p < 5 → cw m p t = wmt t p) ∧ c_Hml ml m ∧ (∀ r : Nat, r < 9 → (z_and (z_shr (m 3 10) (r : Int)) 1 = 0 ↔ u_hs (w : Int) (h : Int) (r : Int) = 0))
theorem c_cfg_sm {w h n : Nat} {heat price : Int} {ml : hr_M} {wmt : Int → Nat → Int} {L : List (Nat × Nat × Nat)} {m m' : z_M} (hc : c_cfg w h n heat price ml wmt m) (hs : z_same L m m') (h3 : z_ofr L 3) (h4 : z_of L 4 3) (h5 : z_ofr L 5) (h8 : z_ofr L 8) (h244 : z_of L 24 4) (h245 : z_of L 24 5) : c_cfg w h n heat price ml wmt m' := by
  obtain ⟨a1, a2, a3, a4, a5, a6, a7, a8⟩ := hc
  have e3 : m' 3 = m 3 := hs.ofr h3
  unfold c_cfg
  rw [e3]
  exact ⟨a1, a2, a3, a4, a5, fun t ht p hp => (cw_sm (hs.of h245) (hs.of h244) (hs.ofr h8)).trans (a6 t ht p hp), fun m3 z1 z2 => a7 m3 (z1.trans (hs.ofr h5)) (z2.trans (hs.of h4)), a8⟩
/-- numbers that are as they should be: warmth, HEAT -/
def hr_nums (n : Nat) (heat : Int) (ml : hr_M) (wmt : Int → Nat → Int) : Prop := n ≤ 5 ∧ (0 ≤ heat ∧ heat ≤ 9) ∧ hr_mlok ml ∧ ∀ t : Int, 0 ≤ t → ∀ p, p < 5 → 0 ≤ wmt t p ∧ wmt t p ≤ 9
theorem hr_me_s {w h n : Nat} {heat : Int} {ml : hr_M} {wm : Nat → Int} {A : Nat → Int} : hr_sd (fun r => if u_hs (w : Int) (h : Int) (r : Int) = 0 then 0 else hr_mN heat ml wm n A r) 9 = hr_t (hr_me (w : Int) (h : Int) heat ml wm n A) 9 0 := by
  rw [hr_sd_t]
  rfl
theorem hr_dq_cg {w h : Nat} {e e' : Nat → Int} (he : ∀ r, hq w h r = true → e r = e' r) : ∀ (f : Nat) (A : Nat → Int), hr_dq w h e f A = hr_dq w h e' f A := by
  intro f
  induction f with
  | zero => intro A; rfl
  | succ f ih =>
    intro A
    unfold hr_dq
    cases c : hq w h f with
    | true => rw [cond_true, cond_true, he f c, ih]
    | false => rw [cond_false, cond_false, ih]
theorem hr_y_cg {w h : Nat} (hw : w ≤ 3) (hh : h ≤ 3) {e e' : Nat → Int} (he : ∀ r : Nat, r < 9 → ¬ u_hs (w : Int) (h : Int) (r : Int) = 0 → e r = e' r) (A : Nat → Int) : hr_y w h e h A = hr_y w h e' h A := by
  rw [← hr_dq_y hw hh, ← hr_dq_y hw hh]
  exact hr_dq_cg (fun r hr => he r (hq_t.mp hr).1 (by rw [u_hs_q hw hh (by have := (hq_t.mp hr).1; omega), hr]; decide)) 9 A
theorem c_hour {s : Nat} (hs : z_st s) {w h n : Nat} {heat price : Int} {ml : hr_M} {wmt : Int → Nat → Int} (hw : w ≤ 3) (hh : h ≤ 3) (hN : hr_nums n heat ml wmt) (m : z_M) (hc : c_cfg w h n heat price ml wmt m) {A : Nat → Int} (hA : cS m s n = A) (hok : hr_ok n A) (ht : 0 ≤ A 35) (ht2 : A 35 ≤ 2147483647) (h6 : z_w (m 24 6) = m 24 6) (h9 : z_w (m 24 9) = m 24 9) : ∃ m', z_R 68 (m, 0, [(2, 24), (2, ((s : Nat) : Int)), (0, m 3 10), (9, 0), (9, 0), (9, 0)], []) = some (m', none) ∧ cS m' s n = hr_A w h heat price ml (wmt (A 35)) n A ∧ m' 24 6 = z_add (m 24 6) (hr_m w h heat ml (wmt (A 35)) n A) ∧ m' 24 7 = z_or (m 24 7) (hr_K w h heat price ml (wmt (A 35)) n A).2.1 ∧ m' 24 8 = z_or (m 24 8) (hr_K w h heat price ml (wmt (A 35)) n A).2.2.1 ∧ m' 24 9 = z_add (m 24 9) (hr_K w h heat price ml (wmt (A 35)) n A).2.2.2 ∧ m' 24 10 = (hr_K w h heat price ml (wmt (A 35)) n A).2.1 ∧ m' 24 11 = (hr_K w h heat price ml (wmt (A 35)) n A).2.2.1 ∧ z_same (c_LH s) m m' := by
  obtain ⟨n5, hheat, hml, hwm⟩ := hN
  obtain ⟨a1, a2, a3, a4, a5, a6, a7, a8⟩ := hc
  have e35 : m s 7 = A 35 := by rw [← hA]; exact cS_nowv.symm
  generalize hT : A 35 = t at ht ht2 e35 ⊢
  have bwm := hwm t ht
  obtain ⟨m', W0, C0, b1, b2, b3, b4, b5, b6, b7, b8, b9, b10⟩ := c_pass hs n5 (ml := ml) (wm := wmt t) (b := m 3 10) (w := (w : Int)) (h := (h : Int)) ht ht2 m a3 a5 a4 e35 (a6 t ht) a1 a2 a7
  rw [hA] at b3 b4 b5 b6 b7 b8 b9
  have he : ∀ r : Nat, r < 9 → ¬ u_hs (w : Int) (h : Int) (r : Int) = 0 → hr_e ml (hr_sv heat (A 34) (hr_g (wmt t) price n 0 W0 C0 A).1) (hr_g (wmt t) price n 0 W0 C0 A).2.1 r (hr_g (wmt t) price n 0 W0 C0 A).2.2 = hr_mN heat ml (wmt t) n A r := fun r hr _ => hr_e_eq n5 bwm hheat hml hok.2.2.1 b2 hr
  have hv' : ∀ p, p < 5 → -1 ≤ (if p < n then A (p + 18) else 0) ∧ (if p < n then A (p + 18) else 0) ≤ 8 := fun p _ => by
    by_cases c : p < n
    · rw [if_pos c]; exact hok.2.2.1 p c
    · rw [if_neg c]; omega
  have eo := (hr_g_eq (v := fun p => if p < n then A (p + 18) else 0) (price := price) hv' bwm n 0 W0 C0 A (by omega) (fun p hp => by rw [if_pos (by omega)]) (fun k hk => by rw [(b2 k hk).1]; omega) (fun k hk => by rw [(b2 k hk).2]; omega)).2
  have eD : ∀ u : Int, hr_D (w : Int) (h : Int) (m 3 10) n heat price ml (wmt t) W0 C0 A u = (hr_y w h (hr_me (w : Int) (h : Int) heat ml (wmt t) n A) h (hr_o (wmt t) price n 0 A), hr_dm (w : Int) (h : Int) (hr_mN heat ml (wmt t) n A) 9 u) := fun u => by
    unfold hr_D
    rw [hr_d_eq a8 he 9 _ u (by decide) (fun k hk => ⟨rfl, rfl⟩) rfl rfl, hr_dc_q hw hh 9 _ (by decide), hr_dq_y hw hh, eo]
    congr 1
    exact hr_y_cg hw hh (fun r hr hq => by unfold hr_me; rw [if_neg hq]) _
  have eQ : ∀ fm : Int, hr_Q (w : Int) (h : Int) (m 3 10) n heat price ml (wmt t) W0 C0 A fm = hr_k (w : Int) (h : Int) n 9 0 (hr_F (w : Int) (h : Int) 9 0 (hr_y w h (hr_me (w : Int) (h : Int) heat ml (wmt t) n A) h (hr_o (wmt t) price n 0 A))) 0 0 fm := fun fm => by
    unfold hr_Q
    rw [eD 0]
    exact hr_q_k n5 a8 9 0 _ 0 0 fm (by decide)
  have eF : hr_Q (w : Int) (h : Int) (m 3 10) n heat price ml (wmt t) W0 C0 A (m 24 9) = ((hr_K w h heat price ml (wmt t) n A).1, (hr_K w h heat price ml (wmt t) n A).2.1, (hr_K w h heat price ml (wmt t) n A).2.2.1, z_add (m 24 9) (hr_K w h heat price ml (wmt t) n A).2.2.2) := by
    rw [eQ, show m 24 9 = z_add (m 24 9) 0 by rw [z_add_w, Int.add_zero, h9]]
    rw [hr_k_fm, show z_add (m 24 9) 0 = m 24 9 by rw [z_add_w, Int.add_zero, h9]]
    rfl
  rw [eF] at b3 b5 b6 b7 b8 b9
  refine ⟨m', b1, b3, ?_, b5, b6, b7, b8, b9, b10⟩
  rw [b4, eD]
  try simp only
  rw [hr_dm_w 9 _ h6, hr_me_s]
  unfold hr_m
  rw [hr_ms_w 9 0 0 (z_w_of (by decide) (by decide)), z_add_w, z_w_r, Int.zero_add]
abbrev r_LH (a : Nat) : List (Nat × Nat × Nat) := [(259, 0, 6), (251, 12, 16), (251, 21, 21), (262, 0, 8), (251, 28, 31), (a, 0, 36)]
noncomputable def r_cfg (w h n : Nat) (heat price : Int) (ml : hr_M) (wmt : Int → Nat → Int) (m : z_M) : Prop := m 251 1 = (w : Int) ∧ m 251 2 = (h : Int) ∧ m 251 3 = (n : Int) ∧ m 251 5 = heat ∧ m 251 6 = price ∧ (∀ t : Int, 0 ≤ t → ∀ p, p < 5 → rwm m p t = wmt t p) ∧ r_Hml ml m
theorem r_cfg_sm {w h n : Nat} {heat price : Int} {ml : hr_M} {wmt : Int → Nat → Int} {L : List (Nat × Nat × Nat)} {m m' : z_M} (hc : r_cfg w h n heat price ml wmt m) (hs : z_same L m m') (h1 : z_of L 251 1) (h2 : z_of L 251 2) (h3 : z_of L 251 3) (h5 : z_of L 251 5) (h6 : z_of L 251 6) (h23 : z_of L 251 23) (h253 : z_ofr L 253) (h258 : z_ofr L 258) (h20 : z_of L 251 20) : r_cfg w h n heat price ml wmt m' := by
  obtain ⟨a1, a2, a3, a4, a5, a6, a7⟩ := hc
  unfold r_cfg
  rw [hs.of h1, hs.of h2, hs.of h3, hs.of h5, hs.of h6]
  exact ⟨a1, a2, a3, a4, a5, fun t ht p hp => (rwm_sm (hs.of h23) (hs.ofr h253)).trans (a6 t ht p hp), fun m3 z1 z2 => a7 m3 (z1.trans (hs.ofr h258)) (z2.trans (hs.of h20))⟩
theorem r_hour {a : Nat} (ha : z_A 37 a) (ha2 : z_ab a) {w h n : Nat} {heat price : Int} {ml : hr_M} {wmt : Int → Nat → Int} (hw : w ≤ 3) (hh : h ≤ 3) (hN : hr_nums n heat ml wmt) (m : z_M) (hc : r_cfg w h n heat price ml wmt m) {A : Nat → Int} (hA : rS m a n = A) (hok : hr_ok n A) (ht : 0 ≤ A 35) (ht2 : A 35 ≤ 2147483647) : ∃ m', z_R 208 (m, 0, [(2, 251), (2, ((a : Nat) : Int)), (9, 0), (9, 0), (9, 0)], []) = some (m', none) ∧ rS m' a n = hr_A w h heat price ml (wmt (A 35)) n A ∧ m' 251 28 = hr_m w h heat ml (wmt (A 35)) n A ∧ m' 251 29 = (hr_K w h heat price ml (wmt (A 35)) n A).2.1 ∧ m' 251 30 = (hr_K w h heat price ml (wmt (A 35)) n A).2.2.1 ∧ m' 251 31 = (hr_K w h heat price ml (wmt (A 35)) n A).2.2.2 ∧ z_same (r_LH a) m m' := by
  have ha3 := r_ne251 ha2
  obtain ⟨n5, hheat, hml, hwm⟩ := hN
  have e35 : m a 35 = A 35 := by rw [← hA]; exact (rS_at (by decide) (a_vis_hi (by decide))).symm
  have ea : ∀ k, k < 18 ∨ 33 ≤ k → k < 37 → m a k = A k := fun k hk h37 => by
    rw [← hA]
    rcases hk with hk | hk
    · exact (rS_at h37 (a_vis_lo hk)).symm
    · exact (rS_at h37 (a_vis_hi hk)).symm
  have e0 : r_rg a m := by
    refine ⟨fun k hk => ?_, ?_, ?_⟩
    · rw [ea k (by omega) (by omega), ea (k + 9) (by omega) (by omega)]
      have z1 := hok.1 k hk
      have z2 := hok.2.1 k hk
      omega
    · rw [ea 36 (by omega) (by omega)]
      have := hok.2.2.2
      omega
    · rw [e35]; omega
  have hWP : ∀ k : Nat, k < 9 → r_i (hr_wb heat (wmt (A 35)) n A k (hr_b k n 0 A 0)) ∧ r_i (hr_pc (hr_b k n 0 A 0)) := fun k hk => by
    have bwm := hwm (A 35) ht
    have z := hr_b_ok n5 A (k : Int)
    have b1 := hr_t_b (B := 9) (by omega) (g := fun p => if A (p + 18) = (k : Int) then wmt (A 35) p else 0) (fun p hp => by
      try simp only
      have := bwm p hp
      split <;> omega) n 0 (by omega)
    have b2 := hr_t_b (B := 1) (by omega) (g := fun p => if A (p + 18) = (k : Int) then (1 : Int) else 0) (fun p hp => by
      try simp only
      split <;> omega) n 0 (by omega)
    rw [hr_wb_eq n5 bwm hheat A k, z.2.1]
    unfold hr_W r_i
    refine ⟨?_, ?_⟩
    · split <;> omega
    · omega
  generalize hT : A 35 = t at ht ht2 e35 hWP ⊢
  rw [t_hr_0 ha ha2]
  have s0 : z_same (r_LH a) m (z_up (z_up (z_up (z_up m 251 28 0) 251 29 0) 251 30 0) 251 31 0) := (((z_same.rf.upo (by (try unfold c_LH); (try unfold c_LHo); (try unfold r_LH); first | exact z_on_h rfl (by omega) (by omega) | exact z_on_t (z_on_h rfl (by omega) (by omega)) | exact z_on_t (z_on_t (z_on_h rfl (by omega) (by omega))) | exact z_on_t (z_on_t (z_on_t (z_on_h rfl (by omega) (by omega)))) | exact z_on_t (z_on_t (z_on_t (z_on_t (z_on_h rfl (by omega) (by omega))))) | exact z_on_t (z_on_t (z_on_t (z_on_t (z_on_t (z_on_h rfl (by omega) (by omega)))))) | exact z_on_t (z_on_t (z_on_t (z_on_t (z_on_t (z_on_t (z_on_h rfl (by omega) (by omega))))))) | exact z_on_t (z_on_t (z_on_t (z_on_t (z_on_t (z_on_t (z_on_t (z_on_h rfl (by omega) (by omega)))))))) | exact z_on_t (z_on_t (z_on_t (z_on_t (z_on_t (z_on_t (z_on_t (z_on_t (z_on_h rfl (by omega) (by omega))))))))) | exact z_on_t (z_on_t (z_on_t (z_on_t (z_on_t (z_on_t (z_on_t (z_on_t (z_on_t (z_on_h rfl (by omega) (by omega)))))))))) | exact z_on_t (z_on_t (z_on_t (z_on_t (z_on_t (z_on_t (z_on_t (z_on_t (z_on_t (z_on_t (z_on_h rfl (by omega) (by omega))))))))))) | exact z_on_t (z_on_t (z_on_t (z_on_t (z_on_t (z_on_t (z_on_t (z_on_t (z_on_t (z_on_t (z_on_t (z_on_h rfl (by omega) (by omega)))))))))))) | exact z_on_t (z_on_t (z_on_t (z_on_t (z_on_t (z_on_t (z_on_t (z_on_t (z_on_t (z_on_t (z_on_t (z_on_t (z_on_h rfl (by omega) (by omega))))))))))))))).upo (by (try unfold c_LH); (try unfold c_LHo); (try unfold r_LH); first | exact z_on_h rfl (by omega) (by omega) | exact z_on_t (z_on_h rfl (by omega) (by omega)) | exact z_on_t (z_on_t (z_on_h rfl (by omega) (by omega))) | exact z_on_t (z_on_t (z_on_t (z_on_h rfl (by omega) (by omega)))) | exact z_on_t (z_on_t (z_on_t (z_on_t (z_on_h rfl (by omega) (by omega))))) | exact z_on_t (z_on_t (z_on_t (z_on_t (z_on_t (z_on_h rfl (by omega) (by omega)))))) | exact z_on_t (z_on_t (z_on_t (z_on_t (z_on_t (z_on_t (z_on_h rfl (by omega) (by omega))))))) | exact z_on_t (z_on_t (z_on_t (z_on_t (z_on_t (z_on_t (z_on_t (z_on_h rfl (by omega) (by omega)))))))) | exact z_on_t (z_on_t (z_on_t (z_on_t (z_on_t (z_on_t (z_on_t (z_on_t (z_on_h rfl (by omega) (by omega))))))))) | exact z_on_t (z_on_t (z_on_t (z_on_t (z_on_t (z_on_t (z_on_t (z_on_t (z_on_t (z_on_h rfl (by omega) (by omega)))))))))) | exact z_on_t (z_on_t (z_on_t (z_on_t (z_on_t (z_on_t (z_on_t (z_on_t (z_on_t (z_on_t (z_on_h rfl (by omega) (by omega))))))))))) | exact z_on_t (z_on_t (z_on_t (z_on_t (z_on_t (z_on_t (z_on_t (z_on_t (z_on_t (z_on_t (z_on_t (z_on_h rfl (by omega) (by omega)))))))))))) | exact z_on_t (z_on_t (z_on_t (z_on_t (z_on_t (z_on_t (z_on_t (z_on_t (z_on_t (z_on_t (z_on_t (z_on_t (z_on_h rfl (by omega) (by omega))))))))))))))).upo (by (try unfold c_LH); (try unfold c_LHo); (try unfold r_LH); first | exact z_on_h rfl (by omega) (by omega) | exact z_on_t (z_on_h rfl (by omega) (by omega)) | exact z_on_t (z_on_t (z_on_h rfl (by omega) (by omega))) | exact z_on_t (z_on_t (z_on_t (z_on_h rfl (by omega) (by omega)))) | exact z_on_t (z_on_t (z_on_t (z_on_t (z_on_h rfl (by omega) (by omega))))) | exact z_on_t (z_on_t (z_on_t (z_on_t (z_on_t (z_on_h rfl (by omega) (by omega)))))) | exact z_on_t (z_on_t (z_on_t (z_on_t (z_on_t (z_on_t (z_on_h rfl (by omega) (by omega))))))) | exact z_on_t (z_on_t (z_on_t (z_on_t (z_on_t (z_on_t (z_on_t (z_on_h rfl (by omega) (by omega)))))))) | exact z_on_t (z_on_t (z_on_t (z_on_t (z_on_t (z_on_t (z_on_t (z_on_t (z_on_h rfl (by omega) (by omega))))))))) | exact z_on_t (z_on_t (z_on_t (z_on_t (z_on_t (z_on_t (z_on_t (z_on_t (z_on_t (z_on_h rfl (by omega) (by omega)))))))))) | exact z_on_t (z_on_t (z_on_t (z_on_t (z_on_t (z_on_t (z_on_t (z_on_t (z_on_t (z_on_t (z_on_h rfl (by omega) (by omega))))))))))) | exact z_on_t (z_on_t (z_on_t (z_on_t (z_on_t (z_on_t (z_on_t (z_on_t (z_on_t (z_on_t (z_on_t (z_on_h rfl (by omega) (by omega)))))))))))) | exact z_on_t (z_on_t (z_on_t (z_on_t (z_on_t (z_on_t (z_on_t (z_on_t (z_on_t (z_on_t (z_on_t (z_on_t (z_on_h rfl (by omega) (by omega))))))))))))))).upo (by (try unfold c_LH); (try unfold c_LHo); (try unfold r_LH); first | exact z_on_h rfl (by omega) (by omega) | exact z_on_t (z_on_h rfl (by omega) (by omega)) | exact z_on_t (z_on_t (z_on_h rfl (by omega) (by omega))) | exact z_on_t (z_on_t (z_on_t (z_on_h rfl (by omega) (by omega)))) | exact z_on_t (z_on_t (z_on_t (z_on_t (z_on_h rfl (by omega) (by omega))))) | exact z_on_t (z_on_t (z_on_t (z_on_t (z_on_t (z_on_h rfl (by omega) (by omega)))))) | exact z_on_t (z_on_t (z_on_t (z_on_t (z_on_t (z_on_t (z_on_h rfl (by omega) (by omega))))))) | exact z_on_t (z_on_t (z_on_t (z_on_t (z_on_t (z_on_t (z_on_t (z_on_h rfl (by omega) (by omega)))))))) | exact z_on_t (z_on_t (z_on_t (z_on_t (z_on_t (z_on_t (z_on_t (z_on_t (z_on_h rfl (by omega) (by omega))))))))) | exact z_on_t (z_on_t (z_on_t (z_on_t (z_on_t (z_on_t (z_on_t (z_on_t (z_on_t (z_on_h rfl (by omega) (by omega)))))))))) | exact z_on_t (z_on_t (z_on_t (z_on_t (z_on_t (z_on_t (z_on_t (z_on_t (z_on_t (z_on_t (z_on_h rfl (by omega) (by omega))))))))))) | exact z_on_t (z_on_t (z_on_t (z_on_t (z_on_t (z_on_t (z_on_t (z_on_t (z_on_t (z_on_t (z_on_t (z_on_h rfl (by omega) (by omega)))))))))))) | exact z_on_t (z_on_t (z_on_t (z_on_t (z_on_t (z_on_t (z_on_t (z_on_t (z_on_t (z_on_t (z_on_t (z_on_t (z_on_h rfl (by omega) (by omega))))))))))))))
  have q0 : z_same [(251, 28, 31)] m (z_up (z_up (z_up (z_up m 251 28 0) 251 29 0) 251 30 0) 251 31 0) := (((z_same.rf.upo (by (try unfold c_LH); (try unfold c_LHo); (try unfold r_LH); first | exact z_on_h rfl (by omega) (by omega) | exact z_on_t (z_on_h rfl (by omega) (by omega)) | exact z_on_t (z_on_t (z_on_h rfl (by omega) (by omega))) | exact z_on_t (z_on_t (z_on_t (z_on_h rfl (by omega) (by omega)))) | exact z_on_t (z_on_t (z_on_t (z_on_t (z_on_h rfl (by omega) (by omega))))) | exact z_on_t (z_on_t (z_on_t (z_on_t (z_on_t (z_on_h rfl (by omega) (by omega)))))) | exact z_on_t (z_on_t (z_on_t (z_on_t (z_on_t (z_on_t (z_on_h rfl (by omega) (by omega))))))) | exact z_on_t (z_on_t (z_on_t (z_on_t (z_on_t (z_on_t (z_on_t (z_on_h rfl (by omega) (by omega)))))))) | exact z_on_t (z_on_t (z_on_t (z_on_t (z_on_t (z_on_t (z_on_t (z_on_t (z_on_h rfl (by omega) (by omega))))))))) | exact z_on_t (z_on_t (z_on_t (z_on_t (z_on_t (z_on_t (z_on_t (z_on_t (z_on_t (z_on_h rfl (by omega) (by omega)))))))))) | exact z_on_t (z_on_t (z_on_t (z_on_t (z_on_t (z_on_t (z_on_t (z_on_t (z_on_t (z_on_t (z_on_h rfl (by omega) (by omega))))))))))) | exact z_on_t (z_on_t (z_on_t (z_on_t (z_on_t (z_on_t (z_on_t (z_on_t (z_on_t (z_on_t (z_on_t (z_on_h rfl (by omega) (by omega)))))))))))) | exact z_on_t (z_on_t (z_on_t (z_on_t (z_on_t (z_on_t (z_on_t (z_on_t (z_on_t (z_on_t (z_on_t (z_on_t (z_on_h rfl (by omega) (by omega))))))))))))))).upo (by (try unfold c_LH); (try unfold c_LHo); (try unfold r_LH); first | exact z_on_h rfl (by omega) (by omega) | exact z_on_t (z_on_h rfl (by omega) (by omega)) | exact z_on_t (z_on_t (z_on_h rfl (by omega) (by omega))) | exact z_on_t (z_on_t (z_on_t (z_on_h rfl (by omega) (by omega)))) | exact z_on_t (z_on_t (z_on_t (z_on_t (z_on_h rfl (by omega) (by omega))))) | exact z_on_t (z_on_t (z_on_t (z_on_t (z_on_t (z_on_h rfl (by omega) (by omega)))))) | exact z_on_t (z_on_t (z_on_t (z_on_t (z_on_t (z_on_t (z_on_h rfl (by omega) (by omega))))))) | exact z_on_t (z_on_t (z_on_t (z_on_t (z_on_t (z_on_t (z_on_t (z_on_h rfl (by omega) (by omega)))))))) | exact z_on_t (z_on_t (z_on_t (z_on_t (z_on_t (z_on_t (z_on_t (z_on_t (z_on_h rfl (by omega) (by omega))))))))) | exact z_on_t (z_on_t (z_on_t (z_on_t (z_on_t (z_on_t (z_on_t (z_on_t (z_on_t (z_on_h rfl (by omega) (by omega)))))))))) | exact z_on_t (z_on_t (z_on_t (z_on_t (z_on_t (z_on_t (z_on_t (z_on_t (z_on_t (z_on_t (z_on_h rfl (by omega) (by omega))))))))))) | exact z_on_t (z_on_t (z_on_t (z_on_t (z_on_t (z_on_t (z_on_t (z_on_t (z_on_t (z_on_t (z_on_t (z_on_h rfl (by omega) (by omega)))))))))))) | exact z_on_t (z_on_t (z_on_t (z_on_t (z_on_t (z_on_t (z_on_t (z_on_t (z_on_t (z_on_t (z_on_t (z_on_t (z_on_h rfl (by omega) (by omega))))))))))))))).upo (by (try unfold c_LH); (try unfold c_LHo); (try unfold r_LH); first | exact z_on_h rfl (by omega) (by omega) | exact z_on_t (z_on_h rfl (by omega) (by omega)) | exact z_on_t (z_on_t (z_on_h rfl (by omega) (by omega))) | exact z_on_t (z_on_t (z_on_t (z_on_h rfl (by omega) (by omega)))) | exact z_on_t (z_on_t (z_on_t (z_on_t (z_on_h rfl (by omega) (by omega))))) | exact z_on_t (z_on_t (z_on_t (z_on_t (z_on_t (z_on_h rfl (by omega) (by omega)))))) | exact z_on_t (z_on_t (z_on_t (z_on_t (z_on_t (z_on_t (z_on_h rfl (by omega) (by omega))))))) | exact z_on_t (z_on_t (z_on_t (z_on_t (z_on_t (z_on_t (z_on_t (z_on_h rfl (by omega) (by omega)))))))) | exact z_on_t (z_on_t (z_on_t (z_on_t (z_on_t (z_on_t (z_on_t (z_on_t (z_on_h rfl (by omega) (by omega))))))))) | exact z_on_t (z_on_t (z_on_t (z_on_t (z_on_t (z_on_t (z_on_t (z_on_t (z_on_t (z_on_h rfl (by omega) (by omega)))))))))) | exact z_on_t (z_on_t (z_on_t (z_on_t (z_on_t (z_on_t (z_on_t (z_on_t (z_on_t (z_on_t (z_on_h rfl (by omega) (by omega))))))))))) | exact z_on_t (z_on_t (z_on_t (z_on_t (z_on_t (z_on_t (z_on_t (z_on_t (z_on_t (z_on_t (z_on_t (z_on_h rfl (by omega) (by omega)))))))))))) | exact z_on_t (z_on_t (z_on_t (z_on_t (z_on_t (z_on_t (z_on_t (z_on_t (z_on_t (z_on_t (z_on_t (z_on_t (z_on_h rfl (by omega) (by omega))))))))))))))).upo (by (try unfold c_LH); (try unfold c_LHo); (try unfold r_LH); first | exact z_on_h rfl (by omega) (by omega) | exact z_on_t (z_on_h rfl (by omega) (by omega)) | exact z_on_t (z_on_t (z_on_h rfl (by omega) (by omega))) | exact z_on_t (z_on_t (z_on_t (z_on_h rfl (by omega) (by omega)))) | exact z_on_t (z_on_t (z_on_t (z_on_t (z_on_h rfl (by omega) (by omega))))) | exact z_on_t (z_on_t (z_on_t (z_on_t (z_on_t (z_on_h rfl (by omega) (by omega)))))) | exact z_on_t (z_on_t (z_on_t (z_on_t (z_on_t (z_on_t (z_on_h rfl (by omega) (by omega))))))) | exact z_on_t (z_on_t (z_on_t (z_on_t (z_on_t (z_on_t (z_on_t (z_on_h rfl (by omega) (by omega)))))))) | exact z_on_t (z_on_t (z_on_t (z_on_t (z_on_t (z_on_t (z_on_t (z_on_t (z_on_h rfl (by omega) (by omega))))))))) | exact z_on_t (z_on_t (z_on_t (z_on_t (z_on_t (z_on_t (z_on_t (z_on_t (z_on_t (z_on_h rfl (by omega) (by omega)))))))))) | exact z_on_t (z_on_t (z_on_t (z_on_t (z_on_t (z_on_t (z_on_t (z_on_t (z_on_t (z_on_t (z_on_h rfl (by omega) (by omega))))))))))) | exact z_on_t (z_on_t (z_on_t (z_on_t (z_on_t (z_on_t (z_on_t (z_on_t (z_on_t (z_on_t (z_on_t (z_on_h rfl (by omega) (by omega)))))))))))) | exact z_on_t (z_on_t (z_on_t (z_on_t (z_on_t (z_on_t (z_on_t (z_on_t (z_on_t (z_on_t (z_on_t (z_on_t (z_on_h rfl (by omega) (by omega))))))))))))))
  generalize hm0 : z_up (z_up (z_up (z_up m 251 28 0) 251 29 0) 251 30 0) 251 31 0 = m0 at s0 q0 ⊢
  have g28 : m0 251 28 = 0 := by rw [← hm0, zu_k (by decide), zu_k (by decide), zu_k (by decide), zu_self]
  have g29 : m0 251 29 = 0 := by rw [← hm0, zu_k (by decide), zu_k (by decide), zu_self]
  have g30 : m0 251 30 = 0 := by rw [← hm0, zu_k (by decide), zu_self]
  have g31 : m0 251 31 = 0 := by rw [← hm0, zu_self]
  have ga : m0 a = m a := q0.ofr (by (try unfold c_LH); (try unfold c_LHo); (try unfold r_LH); (repeat' (first | exact trivial | refine z_ofr_c ?_ ?_)) <;> omega)
  obtain ⟨c1, c2, c3, c4, c5, c6, c7⟩ := r_cfg_sm hc q0 (by (try unfold c_LH); (try unfold c_LHo); (try unfold r_LH); (repeat' (first | exact trivial | refine z_of_c ?_ ?_)) <;> omega) (by (try unfold c_LH); (try unfold c_LHo); (try unfold r_LH); (repeat' (first | exact trivial | refine z_of_c ?_ ?_)) <;> omega) (by (try unfold c_LH); (try unfold c_LHo); (try unfold r_LH); (repeat' (first | exact trivial | refine z_of_c ?_ ?_)) <;> omega) (by (try unfold c_LH); (try unfold c_LHo); (try unfold r_LH); (repeat' (first | exact trivial | refine z_of_c ?_ ?_)) <;> omega) (by (try unfold c_LH); (try unfold c_LHo); (try unfold r_LH); (repeat' (first | exact trivial | refine z_of_c ?_ ?_)) <;> omega) (by (try unfold c_LH); (try unfold c_LHo); (try unfold r_LH); (repeat' (first | exact trivial | refine z_of_c ?_ ?_)) <;> omega) (by (try unfold c_LH); (try unfold c_LHo); (try unfold r_LH); (repeat' (first | exact trivial | refine z_ofr_c ?_ ?_)) <;> omega) (by (try unfold c_LH); (try unfold c_LHo); (try unfold r_LH); (repeat' (first | exact trivial | refine z_ofr_c ?_ ?_)) <;> omega) (by (try unfold c_LH); (try unfold c_LHo); (try unfold r_LH); (repeat' (first | exact trivial | refine z_of_c ?_ ?_)) <;> omega)
  obtain ⟨m1, a1, a2, a3, a4, a5⟩ := r_h1 ha ha2 n5 (ml := ml) (w := (w : Int)) (h := (h : Int)) (heat := heat) (wm := wmt t) (A := A) ht ht2 hWP 9 0 m0 (by decide) c1 c2 c3 c4 (by rw [ga]; exact e35) (c6 t ht) c7 (by unfold r_rg; rw [ga]; exact e0) ((rS_row ga).trans hA)
  have s1 : z_same (r_LH a) m m1 := s0.tr (a5.subo (by (try unfold c_LH); (try unfold c_LHo); (try unfold r_LH); (repeat' (first | exact trivial | refine z_sbo_c ?_ ?_)) <;> (intro k h1 h2; first | exact z_on_h rfl (by omega) (by omega) | exact z_on_t (z_on_h rfl (by omega) (by omega)) | exact z_on_t (z_on_t (z_on_h rfl (by omega) (by omega))) | exact z_on_t (z_on_t (z_on_t (z_on_h rfl (by omega) (by omega)))) | exact z_on_t (z_on_t (z_on_t (z_on_t (z_on_h rfl (by omega) (by omega))))) | exact z_on_t (z_on_t (z_on_t (z_on_t (z_on_t (z_on_h rfl (by omega) (by omega)))))) | exact z_on_t (z_on_t (z_on_t (z_on_t (z_on_t (z_on_t (z_on_h rfl (by omega) (by omega))))))) | exact z_on_t (z_on_t (z_on_t (z_on_t (z_on_t (z_on_t (z_on_t (z_on_h rfl (by omega) (by omega)))))))) | exact z_on_t (z_on_t (z_on_t (z_on_t (z_on_t (z_on_t (z_on_t (z_on_t (z_on_h rfl (by omega) (by omega))))))))) | exact z_on_t (z_on_t (z_on_t (z_on_t (z_on_t (z_on_t (z_on_t (z_on_t (z_on_t (z_on_h rfl (by omega) (by omega)))))))))) | exact z_on_t (z_on_t (z_on_t (z_on_t (z_on_t (z_on_t (z_on_t (z_on_t (z_on_t (z_on_t (z_on_h rfl (by omega) (by omega))))))))))) | exact z_on_t (z_on_t (z_on_t (z_on_t (z_on_t (z_on_t (z_on_t (z_on_t (z_on_t (z_on_t (z_on_t (z_on_h rfl (by omega) (by omega)))))))))))) | exact z_on_t (z_on_t (z_on_t (z_on_t (z_on_t (z_on_t (z_on_t (z_on_t (z_on_t (z_on_t (z_on_t (z_on_t (z_on_h rfl (by omega) (by omega))))))))))))))))
  have ga1 : m1 a = m a := (a5.ofr (by (try unfold c_LH); (try unfold c_LHo); (try unfold r_LH); (repeat' (first | exact trivial | refine z_ofr_c ?_ ?_)) <;> omega)).trans ga
  obtain ⟨m2, b1, b2, b3⟩ := r_h2 ha ha2 n5 (price := price) (wm := wmt t) ht ht2 (h := (h : Int)) ⟨by omega, by omega⟩ n 0 m1 (by omega) ((a5.of (by (try unfold c_LH); (try unfold c_LHo); (try unfold r_LH); (repeat' (first | exact trivial | refine z_of_c ?_ ?_)) <;> omega)).trans c2) ((a5.of (by (try unfold c_LH); (try unfold c_LHo); (try unfold r_LH); (repeat' (first | exact trivial | refine z_of_c ?_ ?_)) <;> omega)).trans c3) ((a5.of (by (try unfold c_LH); (try unfold c_LHo); (try unfold r_LH); (repeat' (first | exact trivial | refine z_of_c ?_ ?_)) <;> omega)).trans c5) (by rw [ga1]; exact e35) (fun p hp => (rwm_sm (a5.of (by (try unfold c_LH); (try unfold c_LHo); (try unfold r_LH); (repeat' (first | exact trivial | refine z_of_c ?_ ?_)) <;> omega)) (a5.ofr (by (try unfold c_LH); (try unfold c_LHo); (try unfold r_LH); (repeat' (first | exact trivial | refine z_ofr_c ?_ ?_)) <;> omega))).trans (c6 t ht p hp))
  have s2 : z_same (r_LH a) m m2 := s1.tr (b3.subo (by (try unfold c_LH); (try unfold c_LHo); (try unfold r_LH); (repeat' (first | exact trivial | refine z_sbo_c ?_ ?_)) <;> (intro k h1 h2; first | exact z_on_h rfl (by omega) (by omega) | exact z_on_t (z_on_h rfl (by omega) (by omega)) | exact z_on_t (z_on_t (z_on_h rfl (by omega) (by omega))) | exact z_on_t (z_on_t (z_on_t (z_on_h rfl (by omega) (by omega)))) | exact z_on_t (z_on_t (z_on_t (z_on_t (z_on_h rfl (by omega) (by omega))))) | exact z_on_t (z_on_t (z_on_t (z_on_t (z_on_t (z_on_h rfl (by omega) (by omega)))))) | exact z_on_t (z_on_t (z_on_t (z_on_t (z_on_t (z_on_t (z_on_h rfl (by omega) (by omega))))))) | exact z_on_t (z_on_t (z_on_t (z_on_t (z_on_t (z_on_t (z_on_t (z_on_h rfl (by omega) (by omega)))))))) | exact z_on_t (z_on_t (z_on_t (z_on_t (z_on_t (z_on_t (z_on_t (z_on_t (z_on_h rfl (by omega) (by omega))))))))) | exact z_on_t (z_on_t (z_on_t (z_on_t (z_on_t (z_on_t (z_on_t (z_on_t (z_on_t (z_on_h rfl (by omega) (by omega)))))))))) | exact z_on_t (z_on_t (z_on_t (z_on_t (z_on_t (z_on_t (z_on_t (z_on_t (z_on_t (z_on_t (z_on_h rfl (by omega) (by omega))))))))))) | exact z_on_t (z_on_t (z_on_t (z_on_t (z_on_t (z_on_t (z_on_t (z_on_t (z_on_t (z_on_t (z_on_t (z_on_h rfl (by omega) (by omega)))))))))))) | exact z_on_t (z_on_t (z_on_t (z_on_t (z_on_t (z_on_t (z_on_t (z_on_t (z_on_t (z_on_t (z_on_t (z_on_t (z_on_h rfl (by omega) (by omega))))))))))))))))
  have eS1 : rS m1 a n = A := (rS_row ga1).trans hA
  rw [eS1] at b2
  obtain ⟨m3, v3, v4, d1, d2, d3⟩ := r_h3 ha ha2 (n := n) hw hh (e := hr_me (w : Int) (h : Int) heat ml (wmt t) n A) h (9, 0) (9, 0) m2 (Nat.le_refl _) (((b3.of (by (try unfold c_LH); (try unfold c_LHo); (try unfold r_LH); (repeat' (first | exact trivial | refine z_of_c ?_ ?_)) <;> omega)).trans (a5.of (by (try unfold c_LH); (try unfold c_LHo); (try unfold r_LH); (repeat' (first | exact trivial | refine z_of_c ?_ ?_)) <;> omega))).trans c1) (((b3.of (by (try unfold c_LH); (try unfold c_LHo); (try unfold r_LH); (repeat' (first | exact trivial | refine z_of_c ?_ ?_)) <;> omega)).trans (a5.of (by (try unfold c_LH); (try unfold c_LHo); (try unfold r_LH); (repeat' (first | exact trivial | refine z_of_c ?_ ?_)) <;> omega))).trans c2) (fun k hk => (b3.of (by (try unfold c_LH); (try unfold c_LHo); (try unfold r_LH); (repeat' (first | exact trivial | refine z_of_c ?_ ?_)) <;> omega)).trans (a2 k (by omega) hk))
  have s3 : z_same (r_LH a) m m3 := s2.tr (d3.subo (by (try unfold c_LH); (try unfold c_LHo); (try unfold r_LH); (repeat' (first | exact trivial | refine z_sbo_c ?_ ?_)) <;> (intro k h1 h2; first | exact z_on_h rfl (by omega) (by omega) | exact z_on_t (z_on_h rfl (by omega) (by omega)) | exact z_on_t (z_on_t (z_on_h rfl (by omega) (by omega))) | exact z_on_t (z_on_t (z_on_t (z_on_h rfl (by omega) (by omega)))) | exact z_on_t (z_on_t (z_on_t (z_on_t (z_on_h rfl (by omega) (by omega))))) | exact z_on_t (z_on_t (z_on_t (z_on_t (z_on_t (z_on_h rfl (by omega) (by omega)))))) | exact z_on_t (z_on_t (z_on_t (z_on_t (z_on_t (z_on_t (z_on_h rfl (by omega) (by omega))))))) | exact z_on_t (z_on_t (z_on_t (z_on_t (z_on_t (z_on_t (z_on_t (z_on_h rfl (by omega) (by omega)))))))) | exact z_on_t (z_on_t (z_on_t (z_on_t (z_on_t (z_on_t (z_on_t (z_on_t (z_on_h rfl (by omega) (by omega))))))))) | exact z_on_t (z_on_t (z_on_t (z_on_t (z_on_t (z_on_t (z_on_t (z_on_t (z_on_t (z_on_h rfl (by omega) (by omega)))))))))) | exact z_on_t (z_on_t (z_on_t (z_on_t (z_on_t (z_on_t (z_on_t (z_on_t (z_on_t (z_on_t (z_on_h rfl (by omega) (by omega))))))))))) | exact z_on_t (z_on_t (z_on_t (z_on_t (z_on_t (z_on_t (z_on_t (z_on_t (z_on_t (z_on_t (z_on_t (z_on_h rfl (by omega) (by omega)))))))))))) | exact z_on_t (z_on_t (z_on_t (z_on_t (z_on_t (z_on_t (z_on_t (z_on_t (z_on_t (z_on_t (z_on_t (z_on_t (z_on_h rfl (by omega) (by omega))))))))))))))))
  rw [b2] at d2
  have w3 : m3 251 1 = (w : Int) := (s3.of (by (try unfold c_LH); (try unfold c_LHo); (try unfold r_LH); (repeat' (first | exact trivial | refine z_of_c ?_ ?_)) <;> omega)).trans hc.1
  have h3 : m3 251 2 = (h : Int) := (s3.of (by (try unfold c_LH); (try unfold c_LHo); (try unfold r_LH); (repeat' (first | exact trivial | refine z_of_c ?_ ?_)) <;> omega)).trans hc.2.1
  obtain ⟨m4, v3', v4', f1, f2, f3⟩ := r_h4 ha ha2 (n := n) (w := (w : Int)) (h := (h : Int)) 9 0 v3 v4 m3 (by decide) w3 h3
  have s4 : z_same (r_LH a) m m4 := s3.tr (f3.subo (by (try unfold c_LH); (try unfold c_LHo); (try unfold r_LH); (repeat' (first | exact trivial | refine z_sbo_c ?_ ?_)) <;> (intro k h1 h2; first | exact z_on_h rfl (by omega) (by omega) | exact z_on_t (z_on_h rfl (by omega) (by omega)) | exact z_on_t (z_on_t (z_on_h rfl (by omega) (by omega))) | exact z_on_t (z_on_t (z_on_t (z_on_h rfl (by omega) (by omega)))) | exact z_on_t (z_on_t (z_on_t (z_on_t (z_on_h rfl (by omega) (by omega))))) | exact z_on_t (z_on_t (z_on_t (z_on_t (z_on_t (z_on_h rfl (by omega) (by omega)))))) | exact z_on_t (z_on_t (z_on_t (z_on_t (z_on_t (z_on_t (z_on_h rfl (by omega) (by omega))))))) | exact z_on_t (z_on_t (z_on_t (z_on_t (z_on_t (z_on_t (z_on_t (z_on_h rfl (by omega) (by omega)))))))) | exact z_on_t (z_on_t (z_on_t (z_on_t (z_on_t (z_on_t (z_on_t (z_on_t (z_on_h rfl (by omega) (by omega))))))))) | exact z_on_t (z_on_t (z_on_t (z_on_t (z_on_t (z_on_t (z_on_t (z_on_t (z_on_t (z_on_h rfl (by omega) (by omega)))))))))) | exact z_on_t (z_on_t (z_on_t (z_on_t (z_on_t (z_on_t (z_on_t (z_on_t (z_on_t (z_on_t (z_on_h rfl (by omega) (by omega))))))))))) | exact z_on_t (z_on_t (z_on_t (z_on_t (z_on_t (z_on_t (z_on_t (z_on_t (z_on_t (z_on_t (z_on_t (z_on_h rfl (by omega) (by omega)))))))))))) | exact z_on_t (z_on_t (z_on_t (z_on_t (z_on_t (z_on_t (z_on_t (z_on_t (z_on_t (z_on_t (z_on_t (z_on_t (z_on_h rfl (by omega) (by omega))))))))))))))))
  rw [d2] at f2
  obtain ⟨m5, k1, k2, k3⟩ := r_h5 ha ha2 n5 (w := (w : Int)) (h := (h : Int)) 9 0 v3' v4' m4 (by decide) ((s4.of (by (try unfold c_LH); (try unfold c_LHo); (try unfold r_LH); (repeat' (first | exact trivial | refine z_of_c ?_ ?_)) <;> omega)).trans hc.1) ((s4.of (by (try unfold c_LH); (try unfold c_LHo); (try unfold r_LH); (repeat' (first | exact trivial | refine z_of_c ?_ ?_)) <;> omega)).trans hc.2.1) ((s4.of (by (try unfold c_LH); (try unfold c_LHo); (try unfold r_LH); (repeat' (first | exact trivial | refine z_of_c ?_ ?_)) <;> omega)).trans hc.2.2.1)
  have r29 : m4 251 29 = 0 := by rw [f3.of (by (try unfold c_LH); (try unfold c_LHo); (try unfold r_LH); (repeat' (first | exact trivial | refine z_of_c ?_ ?_)) <;> omega), d3.of (by (try unfold c_LH); (try unfold c_LHo); (try unfold r_LH); (repeat' (first | exact trivial | refine z_of_c ?_ ?_)) <;> omega), b3.of (by (try unfold c_LH); (try unfold c_LHo); (try unfold r_LH); (repeat' (first | exact trivial | refine z_of_c ?_ ?_)) <;> omega), a5.of (by (try unfold c_LH); (try unfold c_LHo); (try unfold r_LH); (repeat' (first | exact trivial | refine z_of_c ?_ ?_)) <;> omega), g29]
  have r30 : m4 251 30 = 0 := by rw [f3.of (by (try unfold c_LH); (try unfold c_LHo); (try unfold r_LH); (repeat' (first | exact trivial | refine z_of_c ?_ ?_)) <;> omega), d3.of (by (try unfold c_LH); (try unfold c_LHo); (try unfold r_LH); (repeat' (first | exact trivial | refine z_of_c ?_ ?_)) <;> omega), b3.of (by (try unfold c_LH); (try unfold c_LHo); (try unfold r_LH); (repeat' (first | exact trivial | refine z_of_c ?_ ?_)) <;> omega), a5.of (by (try unfold c_LH); (try unfold c_LHo); (try unfold r_LH); (repeat' (first | exact trivial | refine z_of_c ?_ ?_)) <;> omega), g30]
  have r31 : m4 251 31 = 0 := by rw [f3.of (by (try unfold c_LH); (try unfold c_LHo); (try unfold r_LH); (repeat' (first | exact trivial | refine z_of_c ?_ ?_)) <;> omega), d3.of (by (try unfold c_LH); (try unfold c_LHo); (try unfold r_LH); (repeat' (first | exact trivial | refine z_of_c ?_ ?_)) <;> omega), b3.of (by (try unfold c_LH); (try unfold c_LHo); (try unfold r_LH); (repeat' (first | exact trivial | refine z_of_c ?_ ?_)) <;> omega), a5.of (by (try unfold c_LH); (try unfold c_LHo); (try unfold r_LH); (repeat' (first | exact trivial | refine z_of_c ?_ ?_)) <;> omega), g31]
  rw [f2, r29, r30, r31] at k2
  have k2 : (rS m5 a n, m5 251 29, m5 251 30, m5 251 31) = hr_K w h heat price ml (wmt t) n A := k2
  have e28 : m5 251 28 = hr_m w h heat ml (wmt t) n A := by
    rw [k3.of (by (try unfold c_LH); (try unfold c_LHo); (try unfold r_LH); (repeat' (first | exact trivial | refine z_of_c ?_ ?_)) <;> omega), f3.of (by (try unfold c_LH); (try unfold c_LHo); (try unfold r_LH); (repeat' (first | exact trivial | refine z_of_c ?_ ?_)) <;> omega), d3.of (by (try unfold c_LH); (try unfold c_LHo); (try unfold r_LH); (repeat' (first | exact trivial | refine z_of_c ?_ ?_)) <;> omega), b3.of (by (try unfold c_LH); (try unfold c_LHo); (try unfold r_LH); (repeat' (first | exact trivial | refine z_of_c ?_ ?_)) <;> omega), a4, g28]
    rfl
  refine ⟨z_up m5 a 35 (z_add (m5 a 35) 1), ?_, ?_, ?_, ?_, ?_, ?_, (s4.tr (k3.subo (by (try unfold c_LH); (try unfold c_LHo); (try unfold r_LH); (repeat' (first | exact trivial | refine z_sbo_c ?_ ?_)) <;> (intro k h1 h2; first | exact z_on_h rfl (by omega) (by omega) | exact z_on_t (z_on_h rfl (by omega) (by omega)) | exact z_on_t (z_on_t (z_on_h rfl (by omega) (by omega))) | exact z_on_t (z_on_t (z_on_t (z_on_h rfl (by omega) (by omega)))) | exact z_on_t (z_on_t (z_on_t (z_on_t (z_on_h rfl (by omega) (by omega))))) | exact z_on_t (z_on_t (z_on_t (z_on_t (z_on_t (z_on_h rfl (by omega) (by omega)))))) | exact z_on_t (z_on_t (z_on_t (z_on_t (z_on_t (z_on_t (z_on_h rfl (by omega) (by omega))))))) | exact z_on_t (z_on_t (z_on_t (z_on_t (z_on_t (z_on_t (z_on_t (z_on_h rfl (by omega) (by omega)))))))) | exact z_on_t (z_on_t (z_on_t (z_on_t (z_on_t (z_on_t (z_on_t (z_on_t (z_on_h rfl (by omega) (by omega))))))))) | exact z_on_t (z_on_t (z_on_t (z_on_t (z_on_t (z_on_t (z_on_t (z_on_t (z_on_t (z_on_h rfl (by omega) (by omega)))))))))) | exact z_on_t (z_on_t (z_on_t (z_on_t (z_on_t (z_on_t (z_on_t (z_on_t (z_on_t (z_on_t (z_on_h rfl (by omega) (by omega))))))))))) | exact z_on_t (z_on_t (z_on_t (z_on_t (z_on_t (z_on_t (z_on_t (z_on_t (z_on_t (z_on_t (z_on_t (z_on_h rfl (by omega) (by omega)))))))))))) | exact z_on_t (z_on_t (z_on_t (z_on_t (z_on_t (z_on_t (z_on_t (z_on_t (z_on_t (z_on_t (z_on_t (z_on_t (z_on_h rfl (by omega) (by omega))))))))))))))))).upo (by (try unfold c_LH); (try unfold c_LHo); (try unfold r_LH); first | exact z_on_h rfl (by omega) (by omega) | exact z_on_t (z_on_h rfl (by omega) (by omega)) | exact z_on_t (z_on_t (z_on_h rfl (by omega) (by omega))) | exact z_on_t (z_on_t (z_on_t (z_on_h rfl (by omega) (by omega)))) | exact z_on_t (z_on_t (z_on_t (z_on_t (z_on_h rfl (by omega) (by omega))))) | exact z_on_t (z_on_t (z_on_t (z_on_t (z_on_t (z_on_h rfl (by omega) (by omega)))))) | exact z_on_t (z_on_t (z_on_t (z_on_t (z_on_t (z_on_t (z_on_h rfl (by omega) (by omega))))))) | exact z_on_t (z_on_t (z_on_t (z_on_t (z_on_t (z_on_t (z_on_t (z_on_h rfl (by omega) (by omega)))))))) | exact z_on_t (z_on_t (z_on_t (z_on_t (z_on_t (z_on_t (z_on_t (z_on_t (z_on_h rfl (by omega) (by omega))))))))) | exact z_on_t (z_on_t (z_on_t (z_on_t (z_on_t (z_on_t (z_on_t (z_on_t (z_on_t (z_on_h rfl (by omega) (by omega)))))))))) | exact z_on_t (z_on_t (z_on_t (z_on_t (z_on_t (z_on_t (z_on_t (z_on_t (z_on_t (z_on_t (z_on_h rfl (by omega) (by omega))))))))))) | exact z_on_t (z_on_t (z_on_t (z_on_t (z_on_t (z_on_t (z_on_t (z_on_t (z_on_t (z_on_t (z_on_t (z_on_h rfl (by omega) (by omega)))))))))))) | exact z_on_t (z_on_t (z_on_t (z_on_t (z_on_t (z_on_t (z_on_t (z_on_t (z_on_t (z_on_t (z_on_t (z_on_t (z_on_h rfl (by omega) (by omega))))))))))))))⟩
  · rw [show ((0 : Nat) : Int) = 0 from rfl] at a1 b1 f1 k1
    rw [a1, b1, d1, f1, k1]
  · rw [rS_up (by decide) (a_vis_hi (by decide))]
    unfold hr_A
    rw [← k2]
    try simp only
    rw [rS_at (k := 35) (by decide) (a_vis_hi (by decide))]
  · rw [zu_p (by omega)]; exact e28
  · rw [zu_p (by omega), ← k2]
  · rw [zu_p (by omega), ← k2]
  · rw [zu_p (by omega), ← k2]
end
