section
/-! WINTER: acts done one behind the other, by both -/
theorem hr_k_34 {w h : Int} {n : Nat} (hn : n ≤ 5) : ∀ (f x : Nat) (A : Nat → Int) (g fb fm : Int), -1 ≤ A 34 → -1 ≤ (hr_k w h n f x A g fb fm).1 34 := by
  intro f
  induction f with
  | zero => intro x A g fb fm hA; exact hA
  | succ f ih =>
    intro x A g fb fm hA
    unfold hr_k
    by_cases c : u_hs w h (x : Int) = 0
    · rw [if_pos c]; exact ih _ _ _ _ _ hA
    rw [if_neg c]
    by_cases c2 : A x = 0
    · rw [if_pos c2]
      refine ih _ _ _ _ _ ?_
      rw [hr_p_hi (by omega) n 0 _ _ _ (by omega)]
      unfold hr_st
      by_cases c3 : A 34 = (x : Int)
      · rw [if_pos c3, u_up_self]
        exact (hr_to_b w h x).1
      · rw [if_neg c3]; exact hA
    · rw [if_neg c2]; exact ih _ _ _ _ _ hA
theorem hr_A_34 {w h : Nat} (hw : w ≤ 3) (hh : h ≤ 3) {heat price : Int} {ml : hr_M} {wm : Nat → Int} {n : Nat} (hn : n ≤ 5) {A : Nat → Int} (hA : -1 ≤ A 34) : -1 ≤ hr_A w h heat price ml wm n A 34 := by
  unfold hr_A
  rw [u_up_ne (by omega)]
  unfold hr_K
  refine hr_k_34 hn 9 0 _ 0 0 0 ?_
  rw [hr_F_hi (by omega) 9 0 _ (by decide), ← hr_dq_y hw hh, hr_dq_ne (by omega) (by omega) 9 _ (by decide), hr_o_ne n 0 A 34 (by omega) (by omega)]
  exact hA
section
variable {w h n : Nat} {heat price : Int} {ml : hr_M} {wmt : Int → Nat → Int}
theorem hr_H_1 : ∀ (N : Nat) (A : Nat → Int) (M G F T : Int), (hr_H w h heat price ml wmt n N A M G F T).1 = (hr_H w h heat price ml wmt n N A 0 0 0 0).1 := by
  intro N
  induction N with
  | zero => intro A M G F T; rfl
  | succ N ih =>
    intro A M G F T
    show (hr_H w h heat price ml wmt n N (hr_A w h heat price ml (wmt (A 35)) n A) _ _ _ _).1 = (hr_H w h heat price ml wmt n N (hr_A w h heat price ml (wmt (A 35)) n A) _ _ _ _).1
    exact (ih _ _ _ _ _).trans (ih _ _ _ _ _).symm
theorem hr_H_w : ∀ (N : Nat) (A : Nat → Int) (M G F T : Int), z_w M = M → z_w T = T → z_w (hr_H w h heat price ml wmt n N A M G F T).2.1 = (hr_H w h heat price ml wmt n N A M G F T).2.1 ∧ z_w (hr_H w h heat price ml wmt n N A M G F T).2.2.2.2 = (hr_H w h heat price ml wmt n N A M G F T).2.2.2.2 := by
  intro N
  induction N with
  | zero => intro A M G F T h1 h2; exact ⟨h1, h2⟩
  | succ N ih =>
    intro A M G F T h1 h2
    exact ih _ _ _ _ _ (by rw [z_add_w]; exact z_w_w) (by rw [z_add_w]; exact z_w_w)
theorem hr_H_ok (hw : w ≤ 3) (hh : h ≤ 3) (hN : hr_nums n heat ml wmt) : ∀ (N : Nat) (A : Nat → Int) (M G F T : Int), hr_ok n A → -1 ≤ A 34 → 0 ≤ A 35 → A 35 + (N : Int) ≤ 2147483647 → (hr_ok n (hr_H w h heat price ml wmt n N A M G F T).1 ∧ -1 ≤ (hr_H w h heat price ml wmt n N A M G F T).1 34) ∧ (hr_H w h heat price ml wmt n N A M G F T).1 35 = A 35 + (N : Int) := by
  intro N
  induction N with
  | zero =>
    intro A M G F T hok h34 ht ht2
    exact ⟨⟨hok, h34⟩, show A 35 = A 35 + ((0 : Nat) : Int) by omega⟩
  | succ N ih =>
    intro A M G F T hok h34 ht ht2
    have e35 : hr_A w h heat price ml (wmt (A 35)) n A 35 = A 35 + 1 := by rw [hr_A_35 hw hh hN.1, z_add_eq (by omega) (by omega)]
    obtain ⟨q1, q2⟩ := ih (hr_A w h heat price ml (wmt (A 35)) n A) (z_add M (hr_m w h heat ml (wmt (A 35)) n A)) (z_or G (hr_K w h heat price ml (wmt (A 35)) n A).2.1) (z_or F (hr_K w h heat price ml (wmt (A 35)) n A).2.2.1) (z_add T (hr_K w h heat price ml (wmt (A 35)) n A).2.2.2) (hr_A_ok (price := price) hw hh hN.1 hN.2.1 hN.2.2.1 (hN.2.2.2 (A 35) ht) hok) (hr_A_34 hw hh hN.1 h34) (by omega) (by omega)
    exact ⟨q1, q2.trans (by rw [e35]; omega)⟩
end
theorem hr_ok_up {n : Nat} {A : Nat → Int} {j : Nat} {v : Int} (hok : hr_ok n A) (hj : 18 ≤ j) (h36 : j = 36 → 0 ≤ v ∧ v ≤ 9) (hp : ∀ p, p < n → p + 18 = j → -1 ≤ v ∧ v ≤ 8) : hr_ok n (u_up A j v) := by
  obtain ⟨o1, o2, o3, o4⟩ := hok
  refine ⟨fun k hk => ?_, fun k hk => ?_, fun p h => ?_, ?_⟩
  · rw [u_up_ne (by omega)]; exact o1 k hk
  · rw [u_up_ne (by omega)]; exact o2 k hk
  · by_cases e : p + 18 = j
    · rw [e, u_up_self]; exact hp p h e
    · rw [u_up_ne e]; exact o3 p h
  · by_cases e : 36 = j
    · rw [← e, u_up_self]; exact h36 e.symm
    · rw [u_up_ne e]; exact o4
/-- an act done: whether it can be, and the State then -/
def w_do (w h n : Nat) (heat price : Int) (cs : List Int) (D : Nat → Int) (a : Int × Int × Int) (A : Nat → Int) : Bool × (Nat → Int) := if a.1 = 104 then (true, (hr_R w h heat price cs D n a.2.2.toNat A).1) else if a.1 = 102 then (true, u_up A 36 a.2.2) else if a.1 = 109 then (if (a.2.1 < (n : Int) ∧ ¬ u_hs (w : Int) (h : Int) a.2.2 = 0) ∧ ¬ A (a.2.1.toNat + 18) = a.2.2 then (true, u_up A (a.2.1.toNat + 18) a.2.2) else (false, A)) else if (a.2.2 = -1 ∨ ¬ u_hs (w : Int) (h : Int) a.2.2 = 0) ∧ ¬ A 34 = a.2.2 then (true, u_up A 34 a.2.2) else (false, A)
abbrev w_N (w h n : Nat) (heat : Int) (D : Nat → Int) : Prop := (w ≤ 3 ∧ h ≤ 3 ∧ n ≤ 5) ∧ (0 ≤ heat ∧ heat ≤ 9) ∧ ∀ t : Int, 0 ≤ t → ∀ p, p < 5 → 0 ≤ wmD D t p ∧ wmD D t p ≤ 9
section
variable {w h n : Nat} {heat price : Int} {D A : Nat → Int} {c : Nat} {U : Nat → Nat → Int} {kn : Nat → Int} {KS : Nat → Nat → Int} {cs : List Int} {m : z_M} {p v : Int}
theorem w_do_h {X : Nat} : w_do w h n heat price cs D (104, p, (X : Int)) A = (true, (hr_R w h heat price cs D n X A).1) := by
  unfold w_do
  exact if_pos rfl
theorem w_do_f : w_do w h n heat price cs D (102, p, v) A = (true, u_up A 36 v) := by
  unfold w_do
  exact (if_neg (show ¬ (102 : Int) = 104 by decide)).trans (if_pos rfl)
theorem w_do_m1 {q : Nat} (hc : ((q : Int) < (n : Int) ∧ ¬ u_hs (w : Int) (h : Int) v = 0) ∧ ¬ A (q + 18) = v) : w_do w h n heat price cs D (109, (q : Int), v) A = (true, u_up A (q + 18) v) := by
  unfold w_do
  exact (if_neg (show ¬ (109 : Int) = 104 by decide)).trans ((if_neg (show ¬ (109 : Int) = 102 by decide)).trans ((if_pos rfl).trans (if_pos hc)))
theorem w_do_m0 {q : Nat} (hc : ¬ (((q : Int) < (n : Int) ∧ ¬ u_hs (w : Int) (h : Int) v = 0) ∧ ¬ A (q + 18) = v)) : w_do w h n heat price cs D (109, (q : Int), v) A = (false, A) := by
  unfold w_do
  exact (if_neg (show ¬ (109 : Int) = 104 by decide)).trans ((if_neg (show ¬ (109 : Int) = 102 by decide)).trans ((if_pos rfl).trans (if_neg hc)))
theorem w_do_s1 (hc : (v = -1 ∨ ¬ u_hs (w : Int) (h : Int) v = 0) ∧ ¬ A 34 = v) : w_do w h n heat price cs D (115, p, v) A = (true, u_up A 34 v) := by
  unfold w_do
  exact (if_neg (show ¬ (115 : Int) = 104 by decide)).trans ((if_neg (show ¬ (115 : Int) = 102 by decide)).trans ((if_neg (show ¬ (115 : Int) = 109 by decide)).trans (if_pos hc)))
theorem w_do_s0 (hc : ¬ ((v = -1 ∨ ¬ u_hs (w : Int) (h : Int) v = 0) ∧ ¬ A 34 = v)) : w_do w h n heat price cs D (115, p, v) A = (false, A) := by
  unfold w_do
  exact (if_neg (show ¬ (115 : Int) = 104 by decide)).trans ((if_neg (show ¬ (115 : Int) = 102 by decide)).trans ((if_neg (show ¬ (115 : Int) = 109 by decide)).trans (if_neg hc)))
/-- what holds of a State between acts -/
def w_inv (n : Nat) (A : Nat → Int) (e : Int) : Prop := hr_ok n A ∧ -1 ≤ A 34 ∧ 0 ≤ A 35 ∧ A 35 ≤ e
theorem w_do_ok {e : Int} (hN : w_N w h n heat D) (he : e + 9 ≤ 2147483647) {a : Int × Int × Int} (hv : w_av a) (hI : w_inv n A e) : w_inv n (w_do w h n heat price cs D a A).2 (e + 9) := by
  obtain ⟨hok, h34, ht, ht2⟩ := hI
  obtain ⟨t, p, v⟩ := a
  rcases hv with ⟨z0, hv⟩ | ⟨z0, hv⟩ | ⟨z0, hv⟩ | z0
  · have q : t = 104 := z0
    have hv : 1 ≤ v ∧ v ≤ 9 := hv
    subst q
    obtain ⟨X, rfl⟩ : ∃ X : Nat, v = (X : Int) := ⟨v.toNat, by omega⟩
    obtain ⟨⟨q1, q2⟩, q3⟩ := hr_H_ok (price := price) hN.1.1 hN.1.2.1 (ml := c_ml cs) (wmt := wmD D) ⟨hN.1.2.2, hN.2.1, c_ml_ok cs, hN.2.2⟩ X A 0 0 0 0 hok h34 ht (by omega)
    have q3 : (hr_R w h heat price cs D n X A).1 35 = A 35 + (X : Int) := q3
    rw [w_do_h]
    refine ⟨q1, q2, ?_, ?_⟩
    · show 0 ≤ (hr_R w h heat price cs D n X A).1 35
      omega
    · show (hr_R w h heat price cs D n X A).1 35 ≤ e + 9
      omega
  · have q : t = 102 := z0
    have hv : 0 ≤ v ∧ v ≤ 9 := hv
    subst q
    rw [w_do_f]
    refine ⟨hr_ok_up hok (by omega) (fun _ => hv) (fun p h1 h2 => by have := hN.1.2.2; omega), ?_, ?_, ?_⟩
    · show -1 ≤ u_up A 36 v 34
      rw [u_up_ne (by omega)]; exact h34
    · show 0 ≤ u_up A 36 v 35
      rw [u_up_ne (by omega)]; exact ht
    · show u_up A 36 v 35 ≤ e + 9
      rw [u_up_ne (by omega)]; omega
  · have q : t = 109 := z0
    have hv : 0 ≤ p ∧ p ≤ 9 := hv
    subst q
    obtain ⟨q, rfl⟩ : ∃ q : Nat, p = (q : Int) := ⟨p.toNat, by omega⟩
    by_cases hc : ((q : Int) < (n : Int) ∧ ¬ u_hs (w : Int) (h : Int) v = 0) ∧ ¬ A (q + 18) = v
    · have hr := u_hs_rng hc.1.2
      have h5 := hN.1.2.2
      have hq := hc.1.1
      rw [w_do_m1 hc]
      refine ⟨hr_ok_up hok (by omega) (fun z => by omega) (fun p h1 h2 => by omega), ?_, ?_, ?_⟩
      · show -1 ≤ u_up A (q + 18) v 34
        rw [u_up_ne (by omega)]; exact h34
      · show 0 ≤ u_up A (q + 18) v 35
        rw [u_up_ne (by omega)]; exact ht
      · show u_up A (q + 18) v 35 ≤ e + 9
        rw [u_up_ne (by omega)]; omega
    · rw [w_do_m0 hc]
      exact ⟨hok, h34, ht, show A 35 ≤ e + 9 by omega⟩
  · have q : t = 115 := z0
    subst q
    by_cases hc : (v = -1 ∨ ¬ u_hs (w : Int) (h : Int) v = 0) ∧ ¬ A 34 = v
    · have hr : -1 ≤ v := by
        rcases hc.1 with z | z
        · omega
        · have := u_hs_rng z
          omega
      rw [w_do_s1 hc]
      refine ⟨hr_ok_up hok (by omega) (fun z => by omega) (fun p h1 h2 => by have := hN.1.2.2; omega), ?_, ?_, ?_⟩
      · show -1 ≤ u_up A 34 v 34
        rw [u_up_self]; exact hr
      · show 0 ≤ u_up A 34 v 35
        rw [u_up_ne (by omega)]; exact ht
      · show u_up A 34 v 35 ≤ e + 9
        rw [u_up_ne (by omega)]; omega
    · rw [w_do_s0 hc]
      exact ⟨hok, h34, ht, show A 35 ≤ e + 9 by omega⟩
/-! the class does an act -/
abbrev w_LW : List (Nat × Nat × Nat) := [(6, 0, 39), (7, 0, 6), (25, 0, 8), (26, 0, 8), (24, 6, 11), (13, 0, 8), (14, 0, 8), (15, 0, 4), (16, 0, 4), (17, 0, 4), (12, 5, 8)]
theorem C_wper {e : Int} (hN : w_N w h n heat D) (he : e + 9 ≤ 2147483647) (hi : C_is w h n heat price D A c U kn KS cs m) (hI : w_inv n A e) {k : Nat} (hk : k ≤ 29) {a : Int × Int × Int} (ha : w_c1 m k a) (hv : w_av a) (k6 : z_w (m 24 6) = m 24 6) (k9 : z_w (m 24 9) = m 24 9) : ∃ m1, z_R 86 (m, 0, [(2, 0), (0, (k : Int)), (9, 0), (9, 0)], []) = some (m1, some (0, w_b (w_do w h n heat price cs D a A).1)) ∧ C_is w h n heat price D (w_do w h n heat price cs D a A).2 c U kn KS cs m1 ∧ z_same w_LW m m1 ∧ z_w (m1 24 6) = m1 24 6 ∧ z_w (m1 24 9) = m1 24 9 := by
  obtain ⟨hok, h34, ht, ht2⟩ := hI
  have b := hN.1
  obtain ⟨t, p, v⟩ := a
  obtain ⟨e1, e2, e3⟩ := ha
  have e1 : m 119 k = t := e1
  have e2 : t = 109 → m 120 k = p := e2
  have e3 : m 121 k = v := e3
  rw [w_per_0 m k ⟨by omega, by omega⟩, Int.toNat_natCast, e1, e3]
  rcases hv with ⟨z0, hv⟩ | ⟨z0, hv⟩ | ⟨z0, hv⟩ | z0
  · have q : t = 104 := z0
    have hv : 1 ≤ v ∧ v ≤ 9 := hv
    subst q
    obtain ⟨X, rfl⟩ : ∃ X : Nat, v = (X : Int) := ⟨v.toNat, by omega⟩
    obtain ⟨m1, b1, b2, b3⟩ := c_goOn z_st_12 b.1 b.2.1 (price := price) ⟨b.2.2, hN.2.1, c_ml_ok cs, hN.2.2⟩ (N := X) (by omega) m (C_cfg hi) hi.2.2.1 hok ht (by omega) k6 k9
    have b1 : z_R 67 (m, 0, [(2, 24), (2, 12), (0, (X : Int)), (9, 0)], []) = some (m1, none) := b1
    have hw := hr_H_w (w := w) (h := h) (n := n) (heat := heat) (price := price) (ml := c_ml cs) (wmt := wmD D) X A (m 24 6) (m 24 7) (m 24 8) (m 24 9) k6 k9
    rw [← b2] at hw
    have hA : cS m1 12 n = (hr_R w h heat price cs D n X A).1 := (congrArg Prod.fst b2).trans (hr_H_1 X A _ _ _ _)
    rw [if_neg (show ¬ (102 : Int) = 104 by decide), if_pos (show (104 : Int) = 104 from rfl), b1, zb_n, w_per_76, w_do_h]
    exact ⟨m1, rfl, C_LH12 hi b3 hA, b3.subo (by (try unfold w_LW); (try unfold w_LV); (repeat' (first | exact trivial | refine z_sbo_c ?_ ?_)) <;> (intro k h1 h2; first | exact z_on_h rfl (by omega) (by omega) | exact z_on_t (z_on_h rfl (by omega) (by omega)) | exact z_on_t (z_on_t (z_on_h rfl (by omega) (by omega))) | exact z_on_t (z_on_t (z_on_t (z_on_h rfl (by omega) (by omega)))) | exact z_on_t (z_on_t (z_on_t (z_on_t (z_on_h rfl (by omega) (by omega))))) | exact z_on_t (z_on_t (z_on_t (z_on_t (z_on_t (z_on_h rfl (by omega) (by omega)))))) | exact z_on_t (z_on_t (z_on_t (z_on_t (z_on_t (z_on_t (z_on_h rfl (by omega) (by omega))))))) | exact z_on_t (z_on_t (z_on_t (z_on_t (z_on_t (z_on_t (z_on_t (z_on_h rfl (by omega) (by omega)))))))) | exact z_on_t (z_on_t (z_on_t (z_on_t (z_on_t (z_on_t (z_on_t (z_on_t (z_on_h rfl (by omega) (by omega))))))))) | exact z_on_t (z_on_t (z_on_t (z_on_t (z_on_t (z_on_t (z_on_t (z_on_t (z_on_t (z_on_h rfl (by omega) (by omega)))))))))) | exact z_on_t (z_on_t (z_on_t (z_on_t (z_on_t (z_on_t (z_on_t (z_on_t (z_on_t (z_on_t (z_on_h rfl (by omega) (by omega))))))))))) | exact z_on_t (z_on_t (z_on_t (z_on_t (z_on_t (z_on_t (z_on_t (z_on_t (z_on_t (z_on_t (z_on_t (z_on_h rfl (by omega) (by omega)))))))))))) | exact z_on_t (z_on_t (z_on_t (z_on_t (z_on_t (z_on_t (z_on_t (z_on_t (z_on_t (z_on_t (z_on_t (z_on_t (z_on_h rfl (by omega) (by omega))))))))))))))), hw.1, hw.2⟩
  · have q : t = 102 := z0
    subst q
    rw [if_pos (show (102 : Int) = 102 from rfl), w_do_f]
    refine ⟨_, rfl, C_mkA hi (fun p' k' _ h1 => zu_p (by omega)) ?_, z_same.rf.upo (by (try unfold w_LW); (try unfold w_LV); first | exact z_on_h rfl (by omega) (by omega) | exact z_on_t (z_on_h rfl (by omega) (by omega)) | exact z_on_t (z_on_t (z_on_h rfl (by omega) (by omega))) | exact z_on_t (z_on_t (z_on_t (z_on_h rfl (by omega) (by omega)))) | exact z_on_t (z_on_t (z_on_t (z_on_t (z_on_h rfl (by omega) (by omega))))) | exact z_on_t (z_on_t (z_on_t (z_on_t (z_on_t (z_on_h rfl (by omega) (by omega)))))) | exact z_on_t (z_on_t (z_on_t (z_on_t (z_on_t (z_on_t (z_on_h rfl (by omega) (by omega))))))) | exact z_on_t (z_on_t (z_on_t (z_on_t (z_on_t (z_on_t (z_on_t (z_on_h rfl (by omega) (by omega)))))))) | exact z_on_t (z_on_t (z_on_t (z_on_t (z_on_t (z_on_t (z_on_t (z_on_t (z_on_h rfl (by omega) (by omega))))))))) | exact z_on_t (z_on_t (z_on_t (z_on_t (z_on_t (z_on_t (z_on_t (z_on_t (z_on_t (z_on_h rfl (by omega) (by omega)))))))))) | exact z_on_t (z_on_t (z_on_t (z_on_t (z_on_t (z_on_t (z_on_t (z_on_t (z_on_t (z_on_t (z_on_h rfl (by omega) (by omega))))))))))) | exact z_on_t (z_on_t (z_on_t (z_on_t (z_on_t (z_on_t (z_on_t (z_on_t (z_on_t (z_on_t (z_on_t (z_on_h rfl (by omega) (by omega)))))))))))) | exact z_on_t (z_on_t (z_on_t (z_on_t (z_on_t (z_on_t (z_on_t (z_on_t (z_on_t (z_on_t (z_on_t (z_on_t (z_on_h rfl (by omega) (by omega)))))))))))))), ?_, ?_⟩
    · have e := cS_frost (m := m) (s := 12) (v := v) (n := (n : Int))
      rw [hi.2.2.1] at e
      exact e
    · rw [zu_p (by decide)]; exact k6
    · rw [zu_p (by decide)]; exact k9
  · have q : t = 109 := z0
    have hv : 0 ≤ p ∧ p ≤ 9 := hv
    subst q
    obtain ⟨q, rfl⟩ : ∃ q : Nat, p = (q : Int) := ⟨p.toNat, by omega⟩
    rw [if_neg (show ¬ (102 : Int) = 109 by decide), if_neg (show ¬ (104 : Int) = 109 by decide), if_pos (show (109 : Int) = 109 from rfl), e2 rfl]
    by_cases hc : (q : Int) < (n : Int) ∧ ¬ u_hs (w : Int) (h : Int) v = 0
    · have hqn : q < n := by have := hc.1; omega
      have h5 := b.2.2
      rw [C_mva hi b.2.2 hqn v hc.2, zb_v, w_per_94]
      by_cases c2 : A (q + 18) = v
      · rw [if_pos c2, if_neg (show ¬ (0 : Int) ≤ -2 by decide), w_do_m0 (fun z => z.2 c2)]
        exact ⟨m, rfl, hi, z_same.rf, k6, k9⟩
      · have hw := u_was_nn (v := A (q + 18)) (hok.2.2.1 q hqn).1
        rw [if_neg c2, if_pos (show 0 ≤ u_was (A (q + 18)) by omega), if_pos (show 0 ≤ (q : Int) ∧ (q : Int) < 5 by omega), Int.toNat_natCast, w_do_m1 ⟨hc, c2⟩]
        refine ⟨_, rfl, C_mkA hi (fun p' k' _ h1 => zu_p (by omega)) ?_, z_same.rf.upo (by (try unfold w_LW); (try unfold w_LV); first | exact z_on_h rfl (by omega) (by omega) | exact z_on_t (z_on_h rfl (by omega) (by omega)) | exact z_on_t (z_on_t (z_on_h rfl (by omega) (by omega))) | exact z_on_t (z_on_t (z_on_t (z_on_h rfl (by omega) (by omega)))) | exact z_on_t (z_on_t (z_on_t (z_on_t (z_on_h rfl (by omega) (by omega))))) | exact z_on_t (z_on_t (z_on_t (z_on_t (z_on_t (z_on_h rfl (by omega) (by omega)))))) | exact z_on_t (z_on_t (z_on_t (z_on_t (z_on_t (z_on_t (z_on_h rfl (by omega) (by omega))))))) | exact z_on_t (z_on_t (z_on_t (z_on_t (z_on_t (z_on_t (z_on_t (z_on_h rfl (by omega) (by omega)))))))) | exact z_on_t (z_on_t (z_on_t (z_on_t (z_on_t (z_on_t (z_on_t (z_on_t (z_on_h rfl (by omega) (by omega))))))))) | exact z_on_t (z_on_t (z_on_t (z_on_t (z_on_t (z_on_t (z_on_t (z_on_t (z_on_t (z_on_h rfl (by omega) (by omega)))))))))) | exact z_on_t (z_on_t (z_on_t (z_on_t (z_on_t (z_on_t (z_on_t (z_on_t (z_on_t (z_on_t (z_on_h rfl (by omega) (by omega))))))))))) | exact z_on_t (z_on_t (z_on_t (z_on_t (z_on_t (z_on_t (z_on_t (z_on_t (z_on_t (z_on_t (z_on_t (z_on_h rfl (by omega) (by omega)))))))))))) | exact z_on_t (z_on_t (z_on_t (z_on_t (z_on_t (z_on_t (z_on_t (z_on_t (z_on_t (z_on_t (z_on_t (z_on_t (z_on_h rfl (by omega) (by omega)))))))))))))), ?_, ?_⟩
        · have e := cS_up3 (m := m) (s := 12) (j := q) (v := v) (n := (n : Int)) (by omega) (by omega)
          rw [hi.2.2.1] at e
          exact e
        · rw [zu_p (by decide)]; exact k6
        · rw [zu_p (by decide)]; exact k9
    · rw [C_mva_no hi b.2.2 _ v (fun z => hc ⟨z.1.2, z.2⟩), zb_v, w_per_94, if_neg (show ¬ (0 : Int) ≤ -1 by decide), w_do_m0 (fun z => hc z.1)]
      exact ⟨m, rfl, hi, z_same.rf, k6, k9⟩
  · have q : t = 115 := z0
    subst q
    rw [if_neg (show ¬ (102 : Int) = 115 by decide), if_neg (show ¬ (104 : Int) = 115 by decide), if_neg (show ¬ (109 : Int) = 115 by decide), C_sta hi, zb_v, w_per_116]
    by_cases c1 : v = -1 ∨ ¬ u_hs (w : Int) (h : Int) v = 0
    · rw [if_pos c1]
      by_cases c2 : A 34 = v
      · rw [if_pos c2, if_neg (show ¬ (0 : Int) ≤ -2 by decide), w_do_s0 (fun z => z.2 c2)]
        exact ⟨m, rfl, hi, z_same.rf, k6, k9⟩
      · have hw := u_was_nn h34
        rw [if_neg c2, if_pos (show 0 ≤ u_was (A 34) by omega), w_do_s1 ⟨c1, c2⟩]
        refine ⟨_, rfl, C_mkA hi (fun p' k' _ h1 => zu_p (by omega)) ?_, z_same.rf.upo (by (try unfold w_LW); (try unfold w_LV); first | exact z_on_h rfl (by omega) (by omega) | exact z_on_t (z_on_h rfl (by omega) (by omega)) | exact z_on_t (z_on_t (z_on_h rfl (by omega) (by omega))) | exact z_on_t (z_on_t (z_on_t (z_on_h rfl (by omega) (by omega)))) | exact z_on_t (z_on_t (z_on_t (z_on_t (z_on_h rfl (by omega) (by omega))))) | exact z_on_t (z_on_t (z_on_t (z_on_t (z_on_t (z_on_h rfl (by omega) (by omega)))))) | exact z_on_t (z_on_t (z_on_t (z_on_t (z_on_t (z_on_t (z_on_h rfl (by omega) (by omega))))))) | exact z_on_t (z_on_t (z_on_t (z_on_t (z_on_t (z_on_t (z_on_t (z_on_h rfl (by omega) (by omega)))))))) | exact z_on_t (z_on_t (z_on_t (z_on_t (z_on_t (z_on_t (z_on_t (z_on_t (z_on_h rfl (by omega) (by omega))))))))) | exact z_on_t (z_on_t (z_on_t (z_on_t (z_on_t (z_on_t (z_on_t (z_on_t (z_on_t (z_on_h rfl (by omega) (by omega)))))))))) | exact z_on_t (z_on_t (z_on_t (z_on_t (z_on_t (z_on_t (z_on_t (z_on_t (z_on_t (z_on_t (z_on_h rfl (by omega) (by omega))))))))))) | exact z_on_t (z_on_t (z_on_t (z_on_t (z_on_t (z_on_t (z_on_t (z_on_t (z_on_t (z_on_t (z_on_t (z_on_h rfl (by omega) (by omega)))))))))))) | exact z_on_t (z_on_t (z_on_t (z_on_t (z_on_t (z_on_t (z_on_t (z_on_t (z_on_t (z_on_t (z_on_t (z_on_t (z_on_h rfl (by omega) (by omega)))))))))))))), ?_, ?_⟩
        · have e := cS_stove (m := m) (s := 12) (v := v) (n := (n : Int))
          rw [hi.2.2.1] at e
          exact e
        · rw [zu_p (by decide)]; exact k6
        · rw [zu_p (by decide)]; exact k9
    · rw [if_neg c1, if_neg (show ¬ (0 : Int) ≤ -1 by decide), w_do_s0 (fun z => c1 z.1)]
      exact ⟨m, rfl, hi, z_same.rf, k6, k9⟩
/-- acts done as far as they can be: how many, and the State then -/
def w_go (w h n : Nat) (heat price : Int) (cs : List Int) (D : Nat → Int) : List (Int × Int × Int) → (Nat → Int) → Nat × (Nat → Int)
  | [], A => (0, A)
  | a :: l, A => if (w_do w h n heat price cs D a A).1 = true then ((w_go w h n heat price cs D l (w_do w h n heat price cs D a A).2).1 + 1, (w_go w h n heat price cs D l (w_do w h n heat price cs D a A).2).2) else (0, (w_do w h n heat price cs D a A).2)
theorem w_go_1 {a : Int × Int × Int} {l : List (Int × Int × Int)} {B : Nat → Int} (e : w_do w h n heat price cs D a A = (true, B)) : w_go w h n heat price cs D (a :: l) A = ((w_go w h n heat price cs D l B).1 + 1, (w_go w h n heat price cs D l B).2) := by
  show (if (w_do w h n heat price cs D a A).1 = true then ((w_go w h n heat price cs D l (w_do w h n heat price cs D a A).2).1 + 1, (w_go w h n heat price cs D l (w_do w h n heat price cs D a A).2).2) else (0, (w_do w h n heat price cs D a A).2)) = _
  rw [e]
  exact if_pos rfl
theorem w_go_0 {a : Int × Int × Int} {l : List (Int × Int × Int)} {B : Nat → Int} (e : w_do w h n heat price cs D a A = (false, B)) : w_go w h n heat price cs D (a :: l) A = (0, B) := by
  show (if (w_do w h n heat price cs D a A).1 = true then ((w_go w h n heat price cs D l (w_do w h n heat price cs D a A).2).1 + 1, (w_go w h n heat price cs D l (w_do w h n heat price cs D a A).2).2) else (0, (w_do w h n heat price cs D a A).2)) = _
  rw [e]
  exact if_neg (fun z => w_ft z)
theorem w_cl_fr {m' : z_M} : ∀ (l : List (Int × Int × Int)) (k : Nat), w_cl m k l → (∀ j, m' 119 j = m 119 j ∧ m' 120 j = m 120 j ∧ m' 121 j = m 121 j) → w_cl m' k l := by
  intro l
  induction l with
  | nil => intro k _ _; trivial
  | cons a l ih => intro k hc hf; exact ⟨w_c1_fr hc.1 (hf k).1 (hf k).2.1 (hf k).2.2, ih (k + 1) hc.2 hf⟩
theorem C_wgo (hN : w_N w h n heat D) : ∀ (l : List (Int × Int × Int)) (k : Nat) (A : Nat → Int) (e : Int) (m : z_M), k + l.length ≤ 30 → e + 9 * (l.length : Int) ≤ 2147483600 → m 118 4 = ((k + l.length : Nat) : Int) → w_cl m k l → (∀ a ∈ l, w_av a) → C_is w h n heat price D A c U kn KS cs m → w_inv n A e → z_w (m 24 6) = m 24 6 → z_w (m 24 9) = m 24 9 → ∃ m1, z_R 82 (m, 49, [(2, 0), (0, 1), (0, (k : Int))], []) = z_R 82 (m1, 74, [(2, 0), (0, 1), (0, ((k + (w_go w h n heat price cs D l A).1 : Nat) : Int))], []) ∧ C_is w h n heat price D (w_go w h n heat price cs D l A).2 c U kn KS cs m1 ∧ z_same w_LW m m1 := by
  intro l
  induction l with
  | nil =>
    intro k A e m hk he h4 hl hv hi hI k6 k9
    have h4 : m 118 4 = (k : Int) := h4
    have hk : k ≤ 30 := hk
    rw [w_win_49 m 1 k ⟨by omega, by omega⟩, if_pos (by omega)]
    exact ⟨m, rfl, hi, z_same.rf⟩
  | cons a l ih =>
    intro k A e m hk he h4 hl hv hi hI k6 k9
    have hk : k + (l.length + 1) ≤ 30 := hk
    have he : e + 9 * ((l.length + 1 : Nat) : Int) ≤ 2147483600 := he
    have h4 : m 118 4 = ((k + (l.length + 1) : Nat) : Int) := h4
    obtain ⟨m1, a1, a2, a3, a4, a5⟩ := C_wper hN (by omega) hi hI (k := k) (by omega) hl.1 (hv a List.mem_cons_self) k6 k9
    have hI' := w_do_ok (price := price) (cs := cs) hN (by omega) (hv a List.mem_cons_self) hI
    rw [w_win_49 m 1 k ⟨by omega, by omega⟩, if_neg (by omega), a1, zb_v, w_win_65 m1 1 k _ ⟨by omega, by omega⟩]
    rcases hd : w_do w h n heat price cs D a A with ⟨x, B⟩
    rw [hd] at a2 hI'
    cases x with
    | false =>
      rw [w_go_0 hd]
      refine ⟨m1, ?_, a2, a3⟩
      exact if_pos rfl
    | true =>
      rw [w_go_1 hd]
      obtain ⟨m2, d1, d2, d3⟩ := ih (k + 1) B (e + 9) m1 (by omega) (by omega) (by rw [a3.of (p := 118) (k := 4) (by (try unfold w_LW); (try unfold w_LV); (repeat' (first | exact trivial | refine z_of_c ?_ ?_)) <;> omega), h4]; omega) (w_cl_fr l (k + 1) hl.2 (fun j => ⟨a3.of (by (try unfold w_LW); (try unfold w_LV); (repeat' (first | exact trivial | refine z_of_c ?_ ?_)) <;> omega), a3.of (by (try unfold w_LW); (try unfold w_LV); (repeat' (first | exact trivial | refine z_of_c ?_ ?_)) <;> omega), a3.of (by (try unfold w_LW); (try unfold w_LV); (repeat' (first | exact trivial | refine z_of_c ?_ ?_)) <;> omega)⟩)) (fun x hx => hv x (List.mem_cons_of_mem _ hx)) a2 hI' a4 a5
      refine ⟨m2, ?_, d2, a3.tr d3⟩
      refine (if_neg (show ¬ (1 : Int) = 0 by decide)).trans ?_
      rw [tc1, d1]
      show z_R 82 (m2, 74, [(2, 0), (0, 1), (0, ((k + 1 + (w_go w h n heat price cs D l B).1 : Nat) : Int))], []) = z_R 82 (m2, 74, [(2, 0), (0, 1), (0, ((k + ((w_go w h n heat price cs D l B).1 + 1) : Nat) : Int))], [])
      rw [show k + 1 + (w_go w h n heat price cs D l B).1 = k + ((w_go w h n heat price cs D l B).1 + 1) by omega]
/-! the reference does an act -/
abbrev w_LV : List (Nat × Nat × Nat) := [(259, 0, 6), (251, 12, 16), (251, 21, 21), (262, 0, 8), (251, 28, 35), (252, 0, 36)]
theorem R_rmv_no (hi : R_is w h n heat price D A c U kn KS cs m) (h5 : n ≤ 5) (p r : Int) (ok : ¬ ((0 ≤ p ∧ p < (n : Int)) ∧ ¬ u_hs (w : Int) (h : Int) r = 0)) : z_R 196 (m, 0, [(2, 251), (0, p), (0, r)], []) = some (m, some (0, -1)) := by
  obtain ⟨e1, e2, e3, -⟩ := hi.1
  rw [t_rmv_0 m p r (by omega), e1, e2, e3]
  by_cases h1 : 0 ≤ p ∧ p < (n : Int)
  · rw [if_pos h1, if_neg (fun z => ok ⟨h1, z⟩)]
  · rw [if_neg h1]
theorem R_wact {e : Int} (hN : w_N w h n heat D) (he : e + 9 ≤ 2147483647) (hi : R_is w h n heat price D A c U kn KS cs m) (hI : w_inv n A e) {k : Nat} {a : Int × Int × Int} (ha : w_r1 m k a) (hv : w_av a) : ∃ m1, z_R 215 (m, 0, [(2, 251), (0, m 263 (3 * k)), (0, m 263 (3 * k + 1)), (0, m 263 (3 * k + 2))], []) = some (m1, some (0, w_b (w_do w h n heat price cs D a A).1)) ∧ R_is w h n heat price D (w_do w h n heat price cs D a A).2 c U kn KS cs m1 ∧ z_same w_LV m m1 := by
  obtain ⟨hok, h34, ht, ht2⟩ := hI
  have b := hN.1
  have h5 := b.2.2
  obtain ⟨t, p, v⟩ := a
  obtain ⟨e1, e2⟩ := ha
  have e1 : m 263 (3 * k) = t := e1
  have e2 : (t = 109 ∧ m 263 (3 * k + 1) = p ∧ m 263 (3 * k + 2) = v) ∨ (¬ t = 109 ∧ m 263 (3 * k + 1) = v) := e2
  rw [v_act_0, e1]
  rcases hv with ⟨z0, hv⟩ | ⟨z0, hv⟩ | ⟨z0, hv⟩ | z0
  · have q : t = 104 := z0
    have hv : 1 ≤ v ∧ v ≤ 9 := hv
    subst q
    have e3 : m 263 (3 * k + 1) = v := by omega
    obtain ⟨X, rfl⟩ : ∃ X : Nat, v = (X : Int) := ⟨v.toNat, by omega⟩
    obtain ⟨m1, b1, b2, b3⟩ := r_goHours z_A_252 (Or.inl rfl) b.1 b.2.1 (price := price) ⟨b.2.2, hN.2.1, c_ml_ok cs, hN.2.2⟩ (N := X) (by omega) m (R_cfg hi) hi.2.2.1 hok ht (by omega)
    have b1 : z_R 207 (m, 0, [(2, 251), (2, 252), (0, (X : Int)), (9, 0)], []) = some (m1, none) := b1
    have hA : rS m1 252 n = (hr_R w h heat price cs D n X A).1 := (congrArg Prod.fst b2).trans (hr_H_1 X A _ _ _ _)
    rw [if_pos (show (104 : Int) = 104 from rfl), e3, b1, zb_n, v_act_45, w_do_h]
    exact ⟨m1, rfl, R_LH252 hi b3 hA, b3.subo (by (try unfold w_LW); (try unfold w_LV); (repeat' (first | exact trivial | refine z_sbo_c ?_ ?_)) <;> (intro k h1 h2; first | exact z_on_h rfl (by omega) (by omega) | exact z_on_t (z_on_h rfl (by omega) (by omega)) | exact z_on_t (z_on_t (z_on_h rfl (by omega) (by omega))) | exact z_on_t (z_on_t (z_on_t (z_on_h rfl (by omega) (by omega)))) | exact z_on_t (z_on_t (z_on_t (z_on_t (z_on_h rfl (by omega) (by omega))))) | exact z_on_t (z_on_t (z_on_t (z_on_t (z_on_t (z_on_h rfl (by omega) (by omega)))))) | exact z_on_t (z_on_t (z_on_t (z_on_t (z_on_t (z_on_t (z_on_h rfl (by omega) (by omega))))))) | exact z_on_t (z_on_t (z_on_t (z_on_t (z_on_t (z_on_t (z_on_t (z_on_h rfl (by omega) (by omega)))))))) | exact z_on_t (z_on_t (z_on_t (z_on_t (z_on_t (z_on_t (z_on_t (z_on_t (z_on_h rfl (by omega) (by omega))))))))) | exact z_on_t (z_on_t (z_on_t (z_on_t (z_on_t (z_on_t (z_on_t (z_on_t (z_on_t (z_on_h rfl (by omega) (by omega)))))))))) | exact z_on_t (z_on_t (z_on_t (z_on_t (z_on_t (z_on_t (z_on_t (z_on_t (z_on_t (z_on_t (z_on_h rfl (by omega) (by omega))))))))))) | exact z_on_t (z_on_t (z_on_t (z_on_t (z_on_t (z_on_t (z_on_t (z_on_t (z_on_t (z_on_t (z_on_t (z_on_h rfl (by omega) (by omega)))))))))))) | exact z_on_t (z_on_t (z_on_t (z_on_t (z_on_t (z_on_t (z_on_t (z_on_t (z_on_t (z_on_t (z_on_t (z_on_t (z_on_h rfl (by omega) (by omega)))))))))))))))⟩
  · have q : t = 102 := z0
    subst q
    have e3 : m 263 (3 * k + 1) = v := by omega
    rw [if_neg (show ¬ (104 : Int) = 102 by decide), if_neg (show ¬ (109 : Int) = 102 by decide), if_neg (show ¬ (115 : Int) = 102 by decide), e3, w_do_f]
    refine ⟨_, rfl, R_mkA hi (fun p' k' _ h1 => zu_p h1) ?_, z_same.rf.upo (by (try unfold w_LW); (try unfold w_LV); first | exact z_on_h rfl (by omega) (by omega) | exact z_on_t (z_on_h rfl (by omega) (by omega)) | exact z_on_t (z_on_t (z_on_h rfl (by omega) (by omega))) | exact z_on_t (z_on_t (z_on_t (z_on_h rfl (by omega) (by omega)))) | exact z_on_t (z_on_t (z_on_t (z_on_t (z_on_h rfl (by omega) (by omega))))) | exact z_on_t (z_on_t (z_on_t (z_on_t (z_on_t (z_on_h rfl (by omega) (by omega)))))) | exact z_on_t (z_on_t (z_on_t (z_on_t (z_on_t (z_on_t (z_on_h rfl (by omega) (by omega))))))) | exact z_on_t (z_on_t (z_on_t (z_on_t (z_on_t (z_on_t (z_on_t (z_on_h rfl (by omega) (by omega)))))))) | exact z_on_t (z_on_t (z_on_t (z_on_t (z_on_t (z_on_t (z_on_t (z_on_t (z_on_h rfl (by omega) (by omega))))))))) | exact z_on_t (z_on_t (z_on_t (z_on_t (z_on_t (z_on_t (z_on_t (z_on_t (z_on_t (z_on_h rfl (by omega) (by omega)))))))))) | exact z_on_t (z_on_t (z_on_t (z_on_t (z_on_t (z_on_t (z_on_t (z_on_t (z_on_t (z_on_t (z_on_h rfl (by omega) (by omega))))))))))) | exact z_on_t (z_on_t (z_on_t (z_on_t (z_on_t (z_on_t (z_on_t (z_on_t (z_on_t (z_on_t (z_on_t (z_on_h rfl (by omega) (by omega)))))))))))) | exact z_on_t (z_on_t (z_on_t (z_on_t (z_on_t (z_on_t (z_on_t (z_on_t (z_on_t (z_on_t (z_on_t (z_on_t (z_on_h rfl (by omega) (by omega))))))))))))))⟩
    show rS (z_up m 252 36 v) 252 n = u_up A 36 v
    rw [rS_up (by decide) (a_vis_hi (by decide)), hi.2.2.1]
  · have q : t = 109 := z0
    have hv : 0 ≤ p ∧ p ≤ 9 := hv
    subst q
    obtain ⟨e3, e4⟩ : m 263 (3 * k + 1) = p ∧ m 263 (3 * k + 2) = v := by
      rcases e2 with z | z
      · exact z.2
      · exact absurd rfl z.1
    obtain ⟨q, rfl⟩ : ∃ q : Nat, p = (q : Int) := ⟨p.toNat, by omega⟩
    rw [if_neg (show ¬ (104 : Int) = 109 by decide), if_pos (show (109 : Int) = 109 from rfl), e3, e4]
    by_cases hc : (q : Int) < (n : Int) ∧ ¬ u_hs (w : Int) (h : Int) v = 0
    · have hqn : q < n := by have := hc.1; omega
      rw [R_rmv hi b.2.2 hqn v hc.2, zb_v, v_act_53]
      by_cases c2 : A (q + 18) = v
      · rw [if_pos c2, if_neg (show ¬ (0 : Int) ≤ -2 by decide), w_do_m0 (fun z => z.2 c2)]
        exact ⟨m, rfl, hi, z_same.rf⟩
      · obtain ⟨m1, d1, d2, d3⟩ : ∃ m1, z_R 199 (m, 0, [(2, 251), (0, (q : Int)), (0, v), (9, 0)], []) = some (m1, some (0, u_was (A (q + 18)))) ∧ R_is w h n heat price D (u_up A (q + 18) v) c U kn KS cs m1 ∧ z_same w_LV m m1 := by
          have hvq : a_vis (n : Int) (q + 18) = true := a_vis_p (b := 18) (p := q) (by omega) (by omega) (by omega) (by omega)
          have hm : R_is w h n heat price D (u_up A (q + 18) v) c U kn KS cs (z_up m 252 (q + 18) v) := R_mkA hi (fun p' k' _ h1 => zu_p h1) (by rw [rS_up (by omega) hvq, hi.2.2.1])
          refine ⟨_, ?_, hm, z_same.rf.upo (by (try unfold w_LW); (try unfold w_LV); first | exact z_on_h rfl (by omega) (by omega) | exact z_on_t (z_on_h rfl (by omega) (by omega)) | exact z_on_t (z_on_t (z_on_h rfl (by omega) (by omega))) | exact z_on_t (z_on_t (z_on_t (z_on_h rfl (by omega) (by omega)))) | exact z_on_t (z_on_t (z_on_t (z_on_t (z_on_h rfl (by omega) (by omega))))) | exact z_on_t (z_on_t (z_on_t (z_on_t (z_on_t (z_on_h rfl (by omega) (by omega)))))) | exact z_on_t (z_on_t (z_on_t (z_on_t (z_on_t (z_on_t (z_on_h rfl (by omega) (by omega))))))) | exact z_on_t (z_on_t (z_on_t (z_on_t (z_on_t (z_on_t (z_on_t (z_on_h rfl (by omega) (by omega)))))))) | exact z_on_t (z_on_t (z_on_t (z_on_t (z_on_t (z_on_t (z_on_t (z_on_t (z_on_h rfl (by omega) (by omega))))))))) | exact z_on_t (z_on_t (z_on_t (z_on_t (z_on_t (z_on_t (z_on_t (z_on_t (z_on_t (z_on_h rfl (by omega) (by omega)))))))))) | exact z_on_t (z_on_t (z_on_t (z_on_t (z_on_t (z_on_t (z_on_t (z_on_t (z_on_t (z_on_t (z_on_h rfl (by omega) (by omega))))))))))) | exact z_on_t (z_on_t (z_on_t (z_on_t (z_on_t (z_on_t (z_on_t (z_on_t (z_on_t (z_on_t (z_on_t (z_on_h rfl (by omega) (by omega)))))))))))) | exact z_on_t (z_on_t (z_on_t (z_on_t (z_on_t (z_on_t (z_on_t (z_on_t (z_on_t (z_on_t (z_on_t (z_on_t (z_on_h rfl (by omega) (by omega))))))))))))))⟩
          rw [t_gmv_0 m q v (by omega), tn18, R_A hi (k := q + 18) (by omega) hvq]
          unfold u_was
          by_cases c3 : A (q + 18) = -1
          · rw [if_pos c3, if_pos c3]
          · rw [if_neg c3, if_neg c3]
        rw [if_neg c2, if_pos (show (0 : Int) ≤ 0 by decide), d1, zb_v, v_act_64, w_do_m1 ⟨hc, c2⟩]
        exact ⟨m1, rfl, d2, d3⟩
    · rw [R_rmv_no hi b.2.2 _ v (fun z => hc ⟨z.1.2, z.2⟩), zb_v, v_act_53, if_neg (show ¬ (0 : Int) ≤ -1 by decide), w_do_m0 (fun z => hc z.1)]
      exact ⟨m, rfl, hi, z_same.rf⟩
  · have q : t = 115 := z0
    subst q
    have e3 : m 263 (3 * k + 1) = v := by omega
    rw [if_neg (show ¬ (104 : Int) = 115 by decide), if_neg (show ¬ (109 : Int) = 115 by decide), if_pos (show (115 : Int) = 115 from rfl), e3, R_rst hi, zb_v, v_act_72]
    by_cases c1 : v = -1 ∨ ¬ u_hs (w : Int) (h : Int) v = 0
    · rw [if_pos c1]
      by_cases c2 : A 34 = v
      · rw [if_pos c2, if_neg (show ¬ (0 : Int) ≤ -2 by decide), w_do_s0 (fun z => z.2 c2)]
        exact ⟨m, rfl, hi, z_same.rf⟩
      · have hm : R_is w h n heat price D (u_up A 34 v) c U kn KS cs (z_up m 252 34 v) := R_mkA hi (fun q k _ h1 => zu_p h1) (by rw [rS_up (by decide) (a_vis_hi (by decide)), hi.2.2.1])
        have d1 : z_R 203 (m, 0, [(2, 251), (0, v), (9, 0)], []) = some (z_up m 252 34 v, some (0, u_was (A 34))) := by
          rw [t_gst_0, R_A hi (k := 34) (by decide) (a_vis_hi (by decide))]
          unfold u_was
          by_cases c3 : A 34 = -1
          · rw [if_pos c3, if_pos c3]
          · rw [if_neg c3, if_neg c3]
        rw [if_neg c2, if_pos (show (0 : Int) ≤ 0 by decide), d1, zb_v, v_act_82, w_do_s1 ⟨c1, c2⟩]
        exact ⟨_, rfl, hm, z_same.rf.upo (by (try unfold w_LW); (try unfold w_LV); first | exact z_on_h rfl (by omega) (by omega) | exact z_on_t (z_on_h rfl (by omega) (by omega)) | exact z_on_t (z_on_t (z_on_h rfl (by omega) (by omega))) | exact z_on_t (z_on_t (z_on_t (z_on_h rfl (by omega) (by omega)))) | exact z_on_t (z_on_t (z_on_t (z_on_t (z_on_h rfl (by omega) (by omega))))) | exact z_on_t (z_on_t (z_on_t (z_on_t (z_on_t (z_on_h rfl (by omega) (by omega)))))) | exact z_on_t (z_on_t (z_on_t (z_on_t (z_on_t (z_on_t (z_on_h rfl (by omega) (by omega))))))) | exact z_on_t (z_on_t (z_on_t (z_on_t (z_on_t (z_on_t (z_on_t (z_on_h rfl (by omega) (by omega)))))))) | exact z_on_t (z_on_t (z_on_t (z_on_t (z_on_t (z_on_t (z_on_t (z_on_t (z_on_h rfl (by omega) (by omega))))))))) | exact z_on_t (z_on_t (z_on_t (z_on_t (z_on_t (z_on_t (z_on_t (z_on_t (z_on_t (z_on_h rfl (by omega) (by omega)))))))))) | exact z_on_t (z_on_t (z_on_t (z_on_t (z_on_t (z_on_t (z_on_t (z_on_t (z_on_t (z_on_t (z_on_h rfl (by omega) (by omega))))))))))) | exact z_on_t (z_on_t (z_on_t (z_on_t (z_on_t (z_on_t (z_on_t (z_on_t (z_on_t (z_on_t (z_on_t (z_on_h rfl (by omega) (by omega)))))))))))) | exact z_on_t (z_on_t (z_on_t (z_on_t (z_on_t (z_on_t (z_on_t (z_on_t (z_on_t (z_on_t (z_on_t (z_on_t (z_on_h rfl (by omega) (by omega))))))))))))))⟩
    · rw [if_neg c1, if_neg (show ¬ (0 : Int) ≤ -1 by decide), w_do_s0 (fun z => c1 z.1)]
      exact ⟨m, rfl, hi, z_same.rf⟩
theorem w_rl_fr {m' : z_M} : ∀ (l : List (Int × Int × Int)) (k : Nat), w_rl m k l → (∀ j, m' 263 j = m 263 j) → w_rl m' k l := by
  intro l
  induction l with
  | nil => intro k _ _; trivial
  | cons a l ih => intro k hc hf; exact ⟨w_r1_fr hc.1 (fun j _ _ => hf j), ih (k + 1) hc.2 hf⟩
theorem R_wgo {x1 : Int} (hN : w_N w h n heat D) : ∀ (l : List (Int × Int × Int)) (k : Nat) (A : Nat → Int) (e : Int) (m : z_M), k + l.length ≤ 30 → e + 9 * (l.length : Int) ≤ 2147483600 → x1 = ((k + l.length : Nat) : Int) → w_rl m k l → (∀ a ∈ l, w_av a) → R_is w h n heat price D A c U kn KS cs m → w_inv n A e → ∃ m1, z_R 212 (m, 121, [(2, 251), (0, x1), (0, 0), (0, (k : Int))], []) = z_R 212 (m1, 167, [(2, 251), (0, x1), (0, 0), (0, ((k + (w_go w h n heat price cs D l A).1 : Nat) : Int))], []) ∧ R_is w h n heat price D (w_go w h n heat price cs D l A).2 c U kn KS cs m1 ∧ z_same w_LV m m1 := by
  intro l
  induction l with
  | nil =>
    intro k A e m hk he h4 hl hv hi hI
    have h4 : x1 = (k : Int) := h4
    have hk : k ≤ 30 := hk
    rw [v_win_121 m x1 0 k ⟨by omega, by omega⟩, if_pos (by omega)]
    exact ⟨m, rfl, hi, z_same.rf⟩
  | cons a l ih =>
    intro k A e m hk he h4 hl hv hi hI
    have hk : k + (l.length + 1) ≤ 30 := hk
    have he : e + 9 * ((l.length + 1 : Nat) : Int) ≤ 2147483600 := he
    have h4 : x1 = ((k + (l.length + 1) : Nat) : Int) := h4
    have k0 : (3 * (k : Int)).toNat = 3 * k := by omega
    have k1 : (3 * (k : Int) + 1).toNat = 3 * k + 1 := by omega
    have k2 : (3 * (k : Int) + 2).toNat = 3 * k + 2 := by omega
    obtain ⟨m1, a1, a2, a3⟩ := R_wact hN (by omega) hi hI hl.1 (hv a List.mem_cons_self)
    have hI' := w_do_ok (price := price) (cs := cs) hN (by omega) (hv a List.mem_cons_self) hI
    rw [v_win_121 m x1 0 k ⟨by omega, by omega⟩, if_neg (by omega), k0, k1, k2, a1, zb_v, v_win_158 m1 x1 0 k _ ⟨by omega, by omega⟩]
    rcases hd : w_do w h n heat price cs D a A with ⟨x, B⟩
    rw [hd] at a2 hI'
    cases x with
    | false =>
      rw [w_go_0 hd]
      refine ⟨m1, ?_, a2, a3⟩
      exact if_pos rfl
    | true =>
      rw [w_go_1 hd]
      obtain ⟨m2, d1, d2, d3⟩ := ih (k + 1) B (e + 9) m1 (by omega) (by omega) (by omega) (w_rl_fr l (k + 1) hl.2 (fun j => a3.of (by (try unfold w_LW); (try unfold w_LV); (repeat' (first | exact trivial | refine z_of_c ?_ ?_)) <;> omega))) (fun x hx => hv x (List.mem_cons_of_mem _ hx)) a2 hI'
      refine ⟨m2, ?_, d2, a3.tr d3⟩
      refine (if_neg (show ¬ (1 : Int) = 0 by decide)).trans ?_
      rw [tc1, d1]
      show z_R 212 (m2, 167, [(2, 251), (0, x1), (0, 0), (0, ((k + 1 + (w_go w h n heat price cs D l B).1 : Nat) : Int))], []) = z_R 212 (m2, 167, [(2, 251), (0, x1), (0, 0), (0, ((k + ((w_go w h n heat price cs D l B).1 + 1) : Nat) : Int))], [])
      rw [show k + 1 + (w_go w h n heat price cs D l B).1 = k + ((w_go w h n heat price cs D l B).1 + 1) by omega]
end
end
section
/-! WINTER: both, and the case -/
theorem rS_cp {m m' : z_M} {a b : Nat} {n : Int} (h : ∀ k, k < 37 → m' b k = m a k) : rS m' b n = rS m a n := by
  unfold rS
  congr 1
  funext k
  unfold rR
  exact z_ifc (fun hk => h k hk) (fun _ => rfl)
section
variable {w h n : Nat} {heat price : Int} {D A : Nat → Int} {c : Nat} {U : Nat → Nat → Int} {kn : Nat → Int} {KS : Nat → Nat → Int} {cs : List Int} {m : z_M}
theorem C_wtail (hi : C_is w h n heat price D A c U kn KS cs m) (x2 : Int) : ∃ m', z_R 82 (m, 89, [(2, 0), (0, 1), (0, x2)], []) = some (m', some (0, x2)) ∧ C_is w h n heat price D A c U kn KS cs m' := by
  rw [w_win_89]
  by_cases z : m 118 4 ≤ x2
  · rw [if_pos z, c_tell3, zb_n, w_win_125]
    exact ⟨_, rfl, C_tell3 hi _ _ _⟩
  · rw [if_neg z, c_tell3, zb_n, w_win_125]
    exact ⟨_, rfl, C_tell3 hi _ _ _⟩
theorem C_wtext (hi : C_is w h n heat price D A c U kn KS cs m) {m1 : z_M} (h1 : z_same w_L0 m m1) : C_is w h n heat price D A c U kn KS cs (z_up m1 1 1 0) := C_fr hi fun p k hk => by
  have hk' := hk
  unfold C_hit at hk'
  have hk' := of_decide_eq_true hk'
  rw [X_up (by omega)]
  exact h1.of (by (try unfold w_L0); (try unfold w_LQ); (repeat' (first | exact trivial | refine z_of_c ?_ ?_)) <;> omega)
theorem C_win_no (hi : C_is w h n heat price D A c U kn KS cs m) (h1 : m 1 1 ≤ 80) {G : Int → Int} (hr : u_gr G) (hG : u_nx (m 2) (m 1 1) 60 = G) {j : Int} {l : List (Int × Int × Int)} (hS : w_rd G (m 1 1) = (false, j, l)) (hj : 0 ≤ j ∧ j ≤ 80) : ∃ m1, z_R 82 (m, 0, [(2, 0), (9, 0), (9, 0)], []) = some (m1, some (0, -1 - j)) ∧ C_is w h n heat price D A c U kn KS cs m1 := by
  obtain ⟨m1, a1, a2, -, a4⟩ := w_readc m h1 hr hG
  rw [hS] at a1 a2
  have a1 : z_R 83 (m, 0, [(2, 118), (9, 0)], []) = some (m1, some (0, 0)) := a1
  have k12 : (z_up m1 1 1 0) 1 2 = j := (zu_k (by decide)).trans a2.2.1
  rw [w_win_0, a1, zb_v, w_win_7, s_empty_0, zb_n, w_win_15, if_pos (show (0 : Int) = 0 from rfl), k12, z_sub_eq (by omega) (by omega)]
  exact ⟨_, rfl, C_wtext hi a4⟩
theorem C_win {e : Int} (hi : C_is w h n heat price D A c U kn KS cs m) (hN : w_N w h n heat D) (hI : w_inv n A e) (he : e + 270 ≤ 2147483600) (h1 : m 1 1 ≤ 80) {G : Int → Int} (hr : u_gr G) (hG : u_nx (m 2) (m 1 1) 60 = G) {j : Int} {l : List (Int × Int × Int)} (hS : w_rd G (m 1 1) = (true, j, l)) (hl : (∀ a ∈ l, w_av a) ∧ l.length ≤ 30) {d : Nat} {B : Nat → Int} (hd : w_go w h n heat price cs D l A = (d, B)) : ∃ m1, z_R 82 (m, 0, [(2, 0), (9, 0), (9, 0)], []) = some (m1, some (0, (d : Int))) ∧ C_is w h n heat price D B (if d = 0 then c else c_inc c) (if d = 0 then U else u_cons A U) kn KS cs m1 := by
  obtain ⟨m1, a1, a2, a3, a4⟩ := w_readc m h1 hr hG
  rw [hS] at a1 a3
  have a1 : z_R 83 (m, 0, [(2, 118), (9, 0)], []) = some (m1, some (0, 1)) := a1
  obtain ⟨a5, a6⟩ := a3 rfl
  have a5 : m1 118 4 = (l.length : Int) := a5
  have a6 : w_cl m1 0 l := a6
  have hC0 := C_wtext hi a4
  have f0 : ∀ p k, ¬ p = 1 → (z_up m1 1 1 0) p k = m1 p k := fun p k hp => zu_p hp
  rw [w_win_0, a1, zb_v, w_win_7, s_empty_0, zb_n, w_win_15, if_neg (show ¬ (1 : Int) = 0 by decide)]
  generalize z_up m1 1 1 0 = m0 at hC0 f0 ⊢
  obtain ⟨m2, b1, b2, b3⟩ := c_become z_st_12 z_st_18 (by decide) m0
  have b1 : z_R 61 (m0, 0, [(2, 18), (2, 12)], []) = some (m2, none) := b1
  have hC2 : C_is w h n heat price D A c U kn KS cs m2 := C_fr hC0 fun p k hk => by
    have hk' := hk
    unfold C_hit at hk'
    have hk' := of_decide_eq_true hk'
    exact b3.of (by (try unfold w_L0); (try unfold w_LQ); (repeat' (first | exact trivial | refine z_of_c ?_ ?_)) <;> omega)
  have hA2 : cS m2 18 n = A := (cS_cR b2).trans hC0.2.2.1
  have hC3 : C_is w h n heat price D A c U kn KS cs (z_up (z_up (z_up (z_up m2 24 6 0) 24 7 0) 24 8 0) 24 9 0) := C_upn (C_upn (C_upn (C_upn hC2 (by decide)) (by decide)) (by decide)) (by decide)
  have k6 : (z_up (z_up (z_up (z_up m2 24 6 0) 24 7 0) 24 8 0) 24 9 0) 24 6 = 0 := by rw [zu_k (by decide), zu_k (by decide), zu_k (by decide), zu_self]
  have k9 : (z_up (z_up (z_up (z_up m2 24 6 0) 24 7 0) 24 8 0) 24 9 0) 24 9 = 0 := zu_self
  have f3 : ∀ p k, ¬ p = 24 → (z_up (z_up (z_up (z_up m2 24 6 0) 24 7 0) 24 8 0) 24 9 0) p k = m2 p k := fun p k hp => by rw [zu_p hp, zu_p hp, zu_p hp, zu_p hp]
  rw [b1, zb_n, w_win_40, s_cb_0, zb_n, w_win_47]
  generalize z_up (z_up (z_up (z_up m2 24 6 0) 24 7 0) 24 8 0) 24 9 0 = m3 at hC3 k6 k9 f3 ⊢
  have fr : ∀ p k, (118 ≤ p ∧ p ≤ 121) → m3 p k = m1 p k := fun p k hp => by
    rw [f3 p k (by omega), b3.of (p := p) (k := k) (by (try unfold w_L0); (try unfold w_LQ); (repeat' (first | exact trivial | refine z_of_c ?_ ?_)) <;> omega)]
    exact f0 p k (by omega)
  have hA3 : cS m3 18 n = A := by
    rw [cS_fr (fun j k hj _ => f3 (18 + j) k (by omega))]
    exact hA2
  obtain ⟨m4, c1, c2, c3⟩ := C_wgo hN l 0 A e m3 (by omega) (by omega) (by rw [fr 118 4 (by decide), a5, Nat.zero_add]) (w_cl_fr l 0 a6 (fun j => ⟨fr 119 j (by decide), fr 120 j (by decide), fr 121 j (by decide)⟩)) hl.1 hC3 hI (by rw [k6]; decide +kernel) (by rw [k9]; decide +kernel)
  rw [hd, Nat.zero_add] at c1
  rw [hd] at c2
  have c1 : z_R 82 (m3, 49, [(2, 0), (0, 1), (0, 0)], []) = z_R 82 (m4, 74, [(2, 0), (0, 1), (0, (d : Int))], []) := c1
  have c2 : C_is w h n heat price D B c U kn KS cs m4 := c2
  rw [c1, w_win_74]
  by_cases z : d = 0
  · rw [if_pos (show (d : Int) ≤ 0 by omega), ← w_win_89 m4 1 (d : Int), if_pos z, if_pos z]
    exact C_wtail c2 _
  · obtain ⟨m5, d1, d2, -⟩ := C_rem c2 (s := 18) (Or.inr rfl)
    have d1 : z_R 60 (m4, 0, [(2, 28), (2, 18)], []) = some (m5, none) := d1
    have hA4 : cS m4 18 n = A := by
      rw [cS_fr (fun j k hj _ => c3.of (p := 18 + j) (k := k) (by (try unfold w_L0); (try unfold w_LQ); (repeat' (first | exact trivial | refine z_of_c ?_ ?_)) <;> omega))]
      exact hA3
    rw [hA4] at d2
    rw [if_neg (show ¬ (d : Int) ≤ 0 by omega), d1, zb_n, if_neg z, if_neg z]
    exact C_wtail d2 _
/-! the reference -/
theorem R_wtail (hi : R_is w h n heat price D A c U kn KS cs m) (x1 x2 x3 : Int) : ∃ m', z_R 212 (m, 179, [(2, 251), (0, x1), (0, x2), (0, x3)], []) = some (m', some (0, x3)) ∧ R_is w h n heat price D A c U kn KS cs m' := by
  rw [v_win_179]
  by_cases z : x1 ≤ x3
  · rw [if_pos z, t_tell0, zb_n, v_win_198, t_tell1, zb_n, v_win_207, t_tell2, zb_n, v_win_216]
    exact ⟨_, rfl, R_upn (R_upn (R_upn (R_upn (R_upn (R_upn (R_upn hi (by decide)) (by decide)) (by decide)) (by decide)) (by decide)) (by decide)) (by decide)⟩
  · rw [if_neg z, t_tell0, zb_n, v_win_198, t_tell1, zb_n, v_win_207, t_tell2, zb_n, v_win_216]
    exact ⟨_, rfl, R_upn (R_upn (R_upn (R_upn (R_upn (R_upn (R_upn hi (by decide)) (by decide)) (by decide)) (by decide)) (by decide)) (by decide)) (by decide)⟩
theorem R_wtext (hi : R_is w h n heat price D A c U kn KS cs m) {m1 : z_M} (h1 : z_same w_LQ m m1) : R_is w h n heat price D A c U kn KS cs m1 := R_fr hi fun p k hk => by
  have hk' := hk
  unfold R_hit at hk'
  have hk' := of_decide_eq_true hk'
  exact h1.of (by (try unfold w_L0); (try unfold w_LQ); (repeat' (first | exact trivial | refine z_of_c ?_ ?_)) <;> omega)
theorem R_win {e : Int} (hi : R_is w h n heat price D A c U kn KS cs m) (hN : w_N w h n heat D) (hI : w_inv n A e) (he : e + 270 ≤ 2147483600) (h0 : 0 ≤ m 251 8) (h1 : m 251 8 ≤ 80) (hb : ∀ k, k < 80 → -128 ≤ m 254 k ∧ m 254 k ≤ 127) {G : Int → Int} (hG : u_nx (u_t m) (m 251 8) 60 = G) {j : Int} {l : List (Int × Int × Int)} (hS : w_rd G (m 251 8) = (true, j, l)) (hl : (∀ a ∈ l, w_av a) ∧ l.length ≤ 30) {d : Nat} {B : Nat → Int} (hd : w_go w h n heat price cs D l A = (d, B)) : ∃ m1, z_R 212 (m, 0, [(2, 251), (9, 0), (9, 0), (9, 0)], []) = some (m1, some (0, (d : Int))) ∧ R_is w h n heat price D B (if d = 0 then c else c_inc c) (if d = 0 then U else u_cons A U) kn KS cs m1 := by
  obtain ⟨m1, a1, a2, -⟩ := w_readq m h0 h1 hb hG
  rw [hS] at a2
  obtain ⟨a3, a4⟩ := a2 rfl
  have a3 : z_R 212 (m, 0, [(2, 251), (9, 0), (9, 0), (9, 0)], []) = z_R 212 (m1, 93, [(2, 251), (0, (l.length : Int)), (0, 0), (9, 0)], [(0, 1)]) := a3
  have a4 : w_rl m1 0 l := a4
  have hR1 := R_wtext hi a1
  obtain ⟨m2, b1, b2, b3⟩ := t_layd (a := 252) (q := 261) (B := 0) t_lay261_0 t_lay261_2 (by decide) (b := 0) (by decide) m1
  have b1 : z_R 198 (m1, 0, [(2, 252), (2, 261), (0, 0), (9, 0)], []) = some (m2, none) := b1
  have b2 : ∀ k, k < 37 → m2 261 k = m1 252 k := fun k hk => by
    have := b2 k hk
    rw [Nat.zero_add] at this
    exact this
  have hR2 : R_is w h n heat price D A c U kn KS cs m2 := R_fr hR1 fun p k hk => by
    have hk' := hk
    unfold R_hit at hk'
    have hk' := of_decide_eq_true hk'
    exact b3 p k (by omega)
  have hA2 : rS m2 261 n = A := (rS_cp b2).trans hR1.2.2.1
  have hR3 : R_is w h n heat price D A c U kn KS cs (z_up (z_up (z_up (z_up m2 251 32 0) 251 33 0) 251 34 0) 251 35 0) := R_upn (R_upn (R_upn (R_upn hR2 (by decide)) (by decide)) (by decide)) (by decide)
  have f3 : ∀ p k, ¬ p = 251 → (z_up (z_up (z_up (z_up m2 251 32 0) 251 33 0) 251 34 0) 251 35 0) p k = m2 p k := fun p k hp => by rw [zu_p hp, zu_p hp, zu_p hp, zu_p hp]
  rw [a3, v_win_93, if_neg (show ¬ (1 : Int) = 0 by decide), b1, zb_n, v_win_115, t_bh_0, zb_n, v_win_119]
  generalize z_up (z_up (z_up (z_up m2 251 32 0) 251 33 0) 251 34 0) 251 35 0 = m3 at hR3 f3 ⊢
  have hA3 : rS m3 261 n = A := by
    rw [rS_row (funext fun k => f3 261 k (by decide))]
    exact hA2
  obtain ⟨m4, c1, c2, c3⟩ := R_wgo (x1 := (l.length : Int)) hN l 0 A e m3 (by omega) (by omega) (by rw [Nat.zero_add]) (w_rl_fr l 0 a4 (fun j => (f3 263 j (by decide)).trans (b3 263 j (by omega)))) hl.1 hR3 hI
  rw [hd, Nat.zero_add] at c1
  rw [hd] at c2
  have c1 : z_R 212 (m3, 121, [(2, 251), (0, (l.length : Int)), (0, 0), (0, 0)], []) = z_R 212 (m4, 167, [(2, 251), (0, (l.length : Int)), (0, 0), (0, (d : Int))], []) := c1
  have c2 : R_is w h n heat price D B c U kn KS cs m4 := c2
  rw [c1, v_win_167]
  by_cases z : d = 0
  · rw [if_pos (show (d : Int) ≤ 0 by omega), ← v_win_179 m4 (l.length : Int) 0 (d : Int), if_pos z, if_pos z]
    exact R_wtail c2 _ _ _
  · obtain ⟨m5, d1, d2, -⟩ := R_rem c2 (a := 261) (Or.inr rfl)
    have d1 : z_R 197 (m4, 0, [(2, 251), (2, 261), (9, 0)], []) = some (m5, none) := d1
    have hA4 : rS m4 261 n = A := by
      rw [rS_row (c3.ofr (by (try unfold w_L0); (try unfold w_LQ); (repeat' (first | exact trivial | refine z_ofr_c ?_ ?_)) <;> omega))]
      exact hA3
    rw [hA4] at d2
    rw [if_neg (show ¬ (d : Int) ≤ 0 by omega), d1, zb_n, if_neg z, if_neg z]
    exact R_wtail d2 _ _ _
end
theorem w_rd_b {G : Int → Int} (hg : u_gb G) (N : Int) : (0 ≤ (w_rd G N).2.1 ∧ (w_rd G N).2.1 ≤ 80) ∧ (∀ a ∈ (w_rd G N).2.2, w_av a) ∧ (w_rd G N).2.2.length ≤ 30 := by
  unfold w_rd
  by_cases z : N ≤ 0
  · rw [if_pos z]
    exact ⟨⟨by decide, by decide⟩, fun a ha => absurd ha List.not_mem_nil, Nat.zero_le _⟩
  · rw [if_neg z]
    exact w_ls_b hg 30 0 (by decide) (by decide)
theorem wi_wdo {w h n : Nat} {heat price : Int} {cs : List Int} {D A : Nat → Int} (hN : w_N w h n heat D) (hi : wi w h n A) (a : Int × Int × Int) : wi w h n (w_do w h n heat price cs D a A).2 := by
  have n5 := hN.1.2.2
  unfold w_do
  by_cases c1 : a.1 = 104
  · rw [if_pos c1]
    exact wi_H hN.1.1 hN.1.2.1 n5 _ A 0 0 0 0 hi
  rw [if_neg c1]
  by_cases c2 : a.1 = 102
  · rw [if_pos c2]
    exact wi_off n5 hi (by decide) (by decide)
  rw [if_neg c2]
  by_cases c3 : a.1 = 109
  · rw [if_pos c3]
    by_cases c4 : (a.2.1 < (n : Int) ∧ ¬ u_hs (w : Int) (h : Int) a.2.2 = 0) ∧ ¬ A (a.2.1.toNat + 18) = a.2.2
    · rw [if_pos c4]
      exact wi_go n5 hi (Or.inr c4.1.2) (by omega)
    · rw [if_neg c4]
      exact hi
  rw [if_neg c3]
  by_cases c4 : (a.2.2 = -1 ∨ ¬ u_hs (w : Int) (h : Int) a.2.2 = 0) ∧ ¬ A 34 = a.2.2
  · rw [if_pos c4]
    exact wi_st hi n5 c4.1
  · rw [if_neg c4]
    exact hi
theorem wi_wgo {w h n : Nat} {heat price : Int} {cs : List Int} {D : Nat → Int} (hN : w_N w h n heat D) : ∀ (l : List (Int × Int × Int)) (A : Nat → Int), wi w h n A → wi w h n (w_go w h n heat price cs D l A).2 := by
  intro l
  induction l with
  | nil => intro A hi; exact hi
  | cons a l ih =>
    intro A hi
    have h1 := wi_wdo (price := price) (cs := cs) hN hi a
    unfold w_go
    by_cases c : (w_do w h n heat price cs D a A).1 = true
    · rw [if_pos c]
      exact ih _ h1
    · rw [if_neg c]
      exact h1
theorem core_winter : l_rel2 Rel_C (666, 92, 82, 0, false, 671, 95, 212) := by
  intro M1 M2 M3 σ σ1 σ2 as v1 v2 C1 C2 ρ1 ρ2 ha hR hh hM1 hC1 hp1 hE1 hC2 hp2 hE2
  obtain rfl := as_nil ha
  have hE1 : z_R 82 (z_m σ, 0, [(2, 0), (9, 0), (9, 0)], []) = some (z_m σ1, some (0, v1.toInt)) := z_R_iff.mpr hE1
  have hE2 : z_R 212 (z_m σ1, 0, [(2, 251), (9, 0), (9, 0), (9, 0)], []) = some (z_m σ2, some (0, v2.toInt)) := z_R_iff.mpr hE2
  have hz : Rel_T σ2 := u_R_zero ((md_off_ok (y := 212) (by decide +kernel) hC2 hp2).trans (md_zero_ok (y := 82) (by decide +kernel) hC1 hp1)) (md_zero_ok (y := 212) (by decide +kernel) hC2 hp2)
  have hT : u_R (z_m σ) := hR.1
  obtain ⟨r1, r2⟩ := z_rng hh (p := 1) (k := 1) (lo := 0) (hi := 80) (by decide) (by decide +kernel) (by decide +kernel)
  have rb : ∀ k, k < 80 → -128 ≤ z_m σ 254 k ∧ z_m σ 254 k ≤ 127 := fun k hk => z_rng hh (p := 254) (k := k) (lo := -128) (hi := 127) (by decide) (by rw [show h_ln 254 = 80 by decide +kernel]; exact hk) (h_ty_254 k)
  have o8 : z_m σ1 251 8 = z_m σ 251 8 := md_off_ok (y := 82) (by decide +kernel) hC1 hp1
  have o4 : z_m σ1 254 = z_m σ 254 := md_offr_ok (y := 82) (by decide +kernel) hC1 hp1
  have e8 : z_m σ1 251 8 = z_m σ 1 1 := o8.trans hT.1.symm
  have eG : u_nx (u_t (z_m σ1)) (z_m σ1 251 8) 60 = u_nx (z_m σ 2) (z_m σ 1 1) 60 := by
    rw [u_nx_R hT]
    unfold u_t
    rw [o8, o4]
  obtain ⟨w, h, n, heat, price, D, A, c, U, kn, KS, cs, cC, cR, cW⟩ := hR.2
  obtain ⟨b1, b2, -, -, hok, b35, b34, b7⟩ := core_b hh hM1 cR
  have f1 := R_off2_ok (y := 82) (by decide +kernel) hC1 hp1
  have f2 := C_off_ok (y := 212) (by decide +kernel) hC2 hp2
  have cR1 := R_fr cR f1
  have rb1 : ∀ k, k < 80 → -128 ≤ z_m σ1 254 k ∧ z_m σ1 254 k ≤ 127 := fun k hk => by rw [o4]; exact rb k hk
  have hN : w_N w h n heat D := ⟨b1, b2, b7⟩
  have hI : w_inv n A 1073741824 := ⟨hok, b34.1, b35.1, b35.2⟩
  have hS := w_rd_b (G := u_nx (z_m σ 2) (z_m σ 1 1) 60) (u_nx_b r2) (z_m σ 1 1)
  rcases hW : w_rd (u_nx (z_m σ 2) (z_m σ 1 1) 60) (z_m σ 1 1) with ⟨x, j, l⟩
  rw [hW] at hS
  cases x with
  | true =>
    rcases hd : w_go w h n heat price cs D l A with ⟨d, B⟩
    have hBw : wi w h n B := by
      have := wi_wgo (price := price) (cs := cs) hN l A cW.2.1
      rw [hd] at this
      exact this
    have z := core_do cR1 (fun q => C_fr q f2) (C_win cC hN hI (by decide) r2 (u_gr_Rc hT) rfl hW hS.2 hd) (fun q => R_win q hN hI (by decide) (by rw [e8]; exact r1) (by rw [e8]; exact r2) rb1 eG (by rw [e8]; exact hW) hS.2 hd) hE1 hE2
    exact ⟨⟨hz, Core_mk z.1.1 z.1.2 (w_W_if cW hBw)⟩, fun _ => z.2⟩
  | false =>
    have z := core_do cR1 (fun q => C_fr q f2) (C_win_no cC r2 (u_gr_Rc hT) rfl hW hS.1) (fun q => by
      obtain ⟨m2, d1, -, d3⟩ := w_readq (z_m σ1) (by rw [e8]; exact r1) (by rw [e8]; exact r2) rb1 eG
      rw [e8, hW] at d3
      exact ⟨m2, d3 rfl, R_wtext q d1⟩) hE1 hE2
    exact ⟨⟨hz, Core_mk z.1.1 z.1.2 cW⟩, fun _ => z.2⟩
end
section
/-! STRETCHES of quiet and season, with bounds done -/
theorem q_bc_0  (m : z_M) (a : Int) : z_R 101 (m, 0, [(0, a)], []) = some (m, some (0, z_and (z_add (z_add (z_and (z_add (z_add (z_and (z_sub a (z_and (z_ush a 1) 1431655765)) 858993459) (z_and (z_ush (z_sub a (z_and (z_ush a 1) 1431655765)) 2) 858993459)) (z_ush (z_add (z_and (z_sub a (z_and (z_ush a 1) 1431655765)) 858993459) (z_and (z_ush (z_sub a (z_and (z_ush a 1) 1431655765)) 2) 858993459)) 4)) 252645135) (z_ush (z_and (z_add (z_add (z_and (z_sub a (z_and (z_ush a 1) 1431655765)) 858993459) (z_and (z_ush (z_sub a (z_and (z_ush a 1) 1431655765)) 2) 858993459)) (z_ush (z_add (z_and (z_sub a (z_and (z_ush a 1) 1431655765)) 858993459) (z_and (z_ush (z_sub a (z_and (z_ush a 1) 1431655765)) 2) 858993459)) 4)) 252645135) 8)) (z_ush (z_add (z_and (z_add (z_add (z_and (z_sub a (z_and (z_ush a 1) 1431655765)) 858993459) (z_and (z_ush (z_sub a (z_and (z_ush a 1) 1431655765)) 2) 858993459)) (z_ush (z_add (z_and (z_sub a (z_and (z_ush a 1) 1431655765)) 858993459) (z_and (z_ush (z_sub a (z_and (z_ush a 1) 1431655765)) 2) 858993459)) 4)) 252645135) (z_ush (z_and (z_add (z_add (z_and (z_sub a (z_and (z_ush a 1) 1431655765)) 858993459) (z_and (z_ush (z_sub a (z_and (z_ush a 1) 1431655765)) 2) 858993459)) (z_ush (z_add (z_and (z_sub a (z_and (z_ush a 1) 1431655765)) 858993459) (z_and (z_ush (z_sub a (z_and (z_ush a 1) 1431655765)) 2) 858993459)) 4)) 252645135) 8)) 16)) 63)) :=
  have hK : kt_at 101 = kt_101 := rfl
  (z_R_run hK (n := 12) (g' := (m, 16, [(0, z_sub a (z_and (z_ush a 1) 1431655765))], [(0, z_sub a (z_and (z_ush a 1) 1431655765)), (0, z_and (z_sub a (z_and (z_ush a 1) 1431655765)) 858993459)])) rfl).trans ((z_R_run hK (n := 12) (g' := (m, 32, [(0, z_add (z_and (z_sub a (z_and (z_ush a 1) 1431655765)) 858993459) (z_and (z_ush (z_sub a (z_and (z_ush a 1) 1431655765)) 2) 858993459))], [(0, 252645135), (0, z_add (z_add (z_and (z_sub a (z_and (z_ush a 1) 1431655765)) 858993459) (z_and (z_ush (z_sub a (z_and (z_ush a 1) 1431655765)) 2) 858993459)) (z_ush (z_add (z_and (z_sub a (z_and (z_ush a 1) 1431655765)) 858993459) (z_and (z_ush (z_sub a (z_and (z_ush a 1) 1431655765)) 2) 858993459)) 4))])) rfl).trans ((z_R_run hK (n := 12) (g' := (m, 46, [(0, z_add (z_and (z_add (z_add (z_and (z_sub a (z_and (z_ush a 1) 1431655765)) 858993459) (z_and (z_ush (z_sub a (z_and (z_ush a 1) 1431655765)) 2) 858993459)) (z_ush (z_add (z_and (z_sub a (z_and (z_ush a 1) 1431655765)) 858993459) (z_and (z_ush (z_sub a (z_and (z_ush a 1) 1431655765)) 2) 858993459)) 4)) 252645135) (z_ush (z_and (z_add (z_add (z_and (z_sub a (z_and (z_ush a 1) 1431655765)) 858993459) (z_and (z_ush (z_sub a (z_and (z_ush a 1) 1431655765)) 2) 858993459)) (z_ush (z_add (z_and (z_sub a (z_and (z_ush a 1) 1431655765)) 858993459) (z_and (z_ush (z_sub a (z_and (z_ush a 1) 1431655765)) 2) 858993459)) 4)) 252645135) 8))], [(0, z_ush (z_add (z_and (z_add (z_add (z_and (z_sub a (z_and (z_ush a 1) 1431655765)) 858993459) (z_and (z_ush (z_sub a (z_and (z_ush a 1) 1431655765)) 2) 858993459)) (z_ush (z_add (z_and (z_sub a (z_and (z_ush a 1) 1431655765)) 858993459) (z_and (z_ush (z_sub a (z_and (z_ush a 1) 1431655765)) 2) 858993459)) 4)) 252645135) (z_ush (z_and (z_add (z_add (z_and (z_sub a (z_and (z_ush a 1) 1431655765)) 858993459) (z_and (z_ush (z_sub a (z_and (z_ush a 1) 1431655765)) 2) 858993459)) (z_ush (z_add (z_and (z_sub a (z_and (z_ush a 1) 1431655765)) 858993459) (z_and (z_ush (z_sub a (z_and (z_ush a 1) 1431655765)) 2) 858993459)) 4)) 252645135) 8)) 16), (0, z_add (z_and (z_add (z_add (z_and (z_sub a (z_and (z_ush a 1) 1431655765)) 858993459) (z_and (z_ush (z_sub a (z_and (z_ush a 1) 1431655765)) 2) 858993459)) (z_ush (z_add (z_and (z_sub a (z_and (z_ush a 1) 1431655765)) 858993459) (z_and (z_ush (z_sub a (z_and (z_ush a 1) 1431655765)) 2) 858993459)) 4)) 252645135) (z_ush (z_and (z_add (z_add (z_and (z_sub a (z_and (z_ush a 1) 1431655765)) 858993459) (z_and (z_ush (z_sub a (z_and (z_ush a 1) 1431655765)) 2) 858993459)) (z_ush (z_add (z_and (z_sub a (z_and (z_ush a 1) 1431655765)) 858993459) (z_and (z_ush (z_sub a (z_and (z_ush a 1) 1431655765)) 2) 858993459)) 4)) 252645135) 8))])) rfl).trans ((z_R_run hK (n := 5) (g' := (m, 52, [(0, z_add (z_add (z_and (z_add (z_add (z_and (z_sub a (z_and (z_ush a 1) 1431655765)) 858993459) (z_and (z_ush (z_sub a (z_and (z_ush a 1) 1431655765)) 2) 858993459)) (z_ush (z_add (z_and (z_sub a (z_and (z_ush a 1) 1431655765)) 858993459) (z_and (z_ush (z_sub a (z_and (z_ush a 1) 1431655765)) 2) 858993459)) 4)) 252645135) (z_ush (z_and (z_add (z_add (z_and (z_sub a (z_and (z_ush a 1) 1431655765)) 858993459) (z_and (z_ush (z_sub a (z_and (z_ush a 1) 1431655765)) 2) 858993459)) (z_ush (z_add (z_and (z_sub a (z_and (z_ush a 1) 1431655765)) 858993459) (z_and (z_ush (z_sub a (z_and (z_ush a 1) 1431655765)) 2) 858993459)) 4)) 252645135) 8)) (z_ush (z_add (z_and (z_add (z_add (z_and (z_sub a (z_and (z_ush a 1) 1431655765)) 858993459) (z_and (z_ush (z_sub a (z_and (z_ush a 1) 1431655765)) 2) 858993459)) (z_ush (z_add (z_and (z_sub a (z_and (z_ush a 1) 1431655765)) 858993459) (z_and (z_ush (z_sub a (z_and (z_ush a 1) 1431655765)) 2) 858993459)) 4)) 252645135) (z_ush (z_and (z_add (z_add (z_and (z_sub a (z_and (z_ush a 1) 1431655765)) 858993459) (z_and (z_ush (z_sub a (z_and (z_ush a 1) 1431655765)) 2) 858993459)) (z_ush (z_add (z_and (z_sub a (z_and (z_ush a 1) 1431655765)) 858993459) (z_and (z_ush (z_sub a (z_and (z_ush a 1) 1431655765)) 2) 858993459)) 4)) 252645135) 8)) 16))], [(0, z_and (z_add (z_add (z_and (z_add (z_add (z_and (z_sub a (z_and (z_ush a 1) 1431655765)) 858993459) (z_and (z_ush (z_sub a (z_and (z_ush a 1) 1431655765)) 2) 858993459)) (z_ush (z_add (z_and (z_sub a (z_and (z_ush a 1) 1431655765)) 858993459) (z_and (z_ush (z_sub a (z_and (z_ush a 1) 1431655765)) 2) 858993459)) 4)) 252645135) (z_ush (z_and (z_add (z_add (z_and (z_sub a (z_and (z_ush a 1) 1431655765)) 858993459) (z_and (z_ush (z_sub a (z_and (z_ush a 1) 1431655765)) 2) 858993459)) (z_ush (z_add (z_and (z_sub a (z_and (z_ush a 1) 1431655765)) 858993459) (z_and (z_ush (z_sub a (z_and (z_ush a 1) 1431655765)) 2) 858993459)) 4)) 252645135) 8)) (z_ush (z_add (z_and (z_add (z_add (z_and (z_sub a (z_and (z_ush a 1) 1431655765)) 858993459) (z_and (z_ush (z_sub a (z_and (z_ush a 1) 1431655765)) 2) 858993459)) (z_ush (z_add (z_and (z_sub a (z_and (z_ush a 1) 1431655765)) 858993459) (z_and (z_ush (z_sub a (z_and (z_ush a 1) 1431655765)) 2) 858993459)) 4)) 252645135) (z_ush (z_and (z_add (z_add (z_and (z_sub a (z_and (z_ush a 1) 1431655765)) 858993459) (z_and (z_ush (z_sub a (z_and (z_ush a 1) 1431655765)) 2) 858993459)) (z_ush (z_add (z_and (z_sub a (z_and (z_ush a 1) 1431655765)) 858993459) (z_and (z_ush (z_sub a (z_and (z_ush a 1) 1431655765)) 2) 858993459)) 4)) 252645135) 8)) 16)) 63)])) rfl).trans (z_R_ret hK rfl rfl rfl))))
theorem q_qui_0  (m : z_M) (n : Int) : z_R 110 (m, 0, [(2, 0), (0, n), (9, 0)], []) = if n < 1 then some (m, some (0, (-1))) else if n ≤ 40 then (z_R 111 (m, 0, [(2, 140), (2, 12), (0, n), (9, 0), (9, 0), (9, 0), (9, 0)], [])).bind fun qq => z_R 110 (qq.1, 25, [(2, 0), (0, n), (9, 0)], qq.2.toList ++ []) else some (m, some (0, (-1))) :=
  have hK : kt_at 110 = kt_110 := rfl
  (z_R_run hK (n := 2) (g' := (m, 2, [(2, 0), (0, n), (9, 0)], [(0, 1), (0, n)])) rfl).trans (z_R_ifd hK (c := n < 1) (p1 := 11) (p2 := 5) rfl rfl rfl (fun h1 => (z_R_run hK (n := 1) (g' := (m, 12, [(2, 0), (0, n), (9, 0)], [(0, (-1))])) rfl).trans (z_R_ret hK rfl rfl rfl)) (fun h1 => (z_R_run hK (n := 2) (g' := (m, 8, [(2, 0), (0, n), (9, 0)], [(0, 40), (0, n)])) rfl).trans (z_R_ifd hK (c := n ≤ 40) (p1 := 13) (p2 := 11) rfl rfl rfl (fun h2 => (z_R_run hK (n := 2) (g' := (m, 17, [(2, 0), (0, n), (9, 0)], [(2, 140)])) rfl).trans ((z_R_run hK (n := 2) (g' := (m, 21, [(2, 0), (0, n), (9, 0)], [(2, 12), (2, 140)])) rfl).trans ((z_R_run hK (n := 1) (g' := (m, 22, [(2, 0), (0, n), (9, 0)], [(0, n), (2, 12), (2, 140)])) rfl).trans (z_R_call hK rfl rfl rfl rfl rfl)))) (fun h2 => (z_R_run hK (n := 1) (g' := (m, 12, [(2, 0), (0, n), (9, 0)], [(0, (-1))])) rfl).trans (z_R_ret hK rfl rfl rfl)))))
theorem q_qui_25  (m : z_M) (x1 : Int) (u : Int) : z_R 110 (m, 25, [(2, 0), (0, x1), (9, 0)], [(0, u)]) = if u = 0 then some (m, some (0, (-2))) else (z_R 78 (m, 0, [(2, 0)], [])).bind fun qq => z_R 110 (qq.1, 35, [(2, 0), (0, x1), (9, 0)], qq.2.toList ++ []) :=
  have hK : kt_at 110 = kt_110 := rfl
  z_R_ifnd hK (c := u = 0) (p1 := 31) (p2 := 28) rfl rfl rfl (fun h1 => (z_R_run hK (n := 1) (g' := (m, 32, [(2, 0), (0, x1), (9, 0)], [(2, 0)])) rfl).trans (z_R_call hK rfl rfl rfl rfl rfl)) (fun h1 => (z_R_run hK (n := 1) (g' := (m, 30, [(2, 0), (0, x1), (9, 0)], [(0, (-2))])) rfl).trans (z_R_ret hK rfl rfl rfl))
theorem q_qui_35  (m : z_M) (x1 : Int) : z_R 110 (m, 35, [(2, 0), (0, x1), (9, 0)], []) = z_R 110 (m, 37, [(2, 0), (0, x1), (0, 0)], []) :=
  have hK : kt_at 110 = kt_110 := rfl
  (z_R_run hK (n := 2) (g' := (m, 37, [(2, 0), (0, x1), (0, 0)], [])) rfl).trans (rfl)
theorem q_qui_37  (m : z_M) (x1 : Int) (x2 : Int) : z_R 110 (m, 37, [(2, 0), (0, x1), (0, x2)], []) = if 30 ≤ x2 then (z_R 101 (m, 0, [(0, m 140 5)], [])).bind fun qq => z_R 110 (qq.1, 79, [(2, 0), (0, x1), (0, x2)], qq.2.toList ++ []) else if z_and (z_shr (m 140 5) x2) 1 = 0 then z_R 110 (m, 37, [(2, 0), (0, x1), (0, z_add x2 1)], []) else (z_R 79 (m, 0, [(2, 0), (1, z_i2l x2), (9, 0)], [])).bind fun qq => z_R 110 (qq.1, 63, [(2, 0), (0, x1), (0, x2)], qq.2.toList ++ []) :=
  have hK : kt_at 110 = kt_110 := rfl
  (z_R_run hK (n := 2) (g' := (m, 40, [(2, 0), (0, x1), (0, x2)], [(0, 30), (0, x2)])) rfl).trans (z_R_ifd hK (c := 30 ≤ x2) (p1 := 69) (p2 := 43) rfl rfl rfl (fun h1 => (z_R_run hK (n := 2) (g' := (m, 73, [(2, 0), (0, x1), (0, x2)], [(2, 140)])) rfl).trans ((z_R_run hK (n := 1) (g' := (m, 76, [(2, 0), (0, x1), (0, x2)], [(0, m 140 5)])) rfl).trans (z_R_call hK rfl rfl rfl rfl rfl))) (fun h1 => (z_R_run hK (n := 2) (g' := (m, 47, [(2, 0), (0, x1), (0, x2)], [(2, 140)])) rfl).trans ((z_R_run hK (n := 5) (g' := (m, 54, [(2, 0), (0, x1), (0, x2)], [(0, z_and (z_shr (m 140 5) x2) 1)])) rfl).trans (z_R_ifd hK (c := z_and (z_shr (m 140 5) x2) 1 = 0) (p1 := 63) (p2 := 57) rfl rfl rfl (fun h2 => (z_R_run hK (n := 2) (g' := (m, 37, [(2, 0), (0, x1), (0, z_add x2 1)], [])) rfl).trans (rfl)) (fun h2 => (z_R_run hK (n := 3) (g' := (m, 60, [(2, 0), (0, x1), (0, x2)], [(1, z_i2l x2), (2, 0)])) rfl).trans (z_R_call hK rfl rfl rfl rfl rfl))))))
theorem q_qui_63  (m : z_M) (x1 : Int) (x2 : Int) : z_R 110 (m, 63, [(2, 0), (0, x1), (0, x2)], []) = z_R 110 (m, 37, [(2, 0), (0, x1), (0, z_add x2 1)], []) :=
  have hK : kt_at 110 = kt_110 := rfl
  (z_R_run hK (n := 2) (g' := (m, 37, [(2, 0), (0, x1), (0, z_add x2 1)], [])) rfl).trans (rfl)
theorem q_qui_79  (m : z_M) (x1 : Int) (x2 : Int) (u : Int) : z_R 110 (m, 79, [(2, 0), (0, x1), (0, x2)], [(0, u)]) = some (m, some (0, u)) :=
  have hK : kt_at 110 = kt_110 := rfl
  z_R_ret hK rfl rfl rfl
theorem q_add_0  (m : z_M) (u : Int) : z_R 79 (m, 0, [(2, 0), (1, u), (9, 0)], []) = if 9 ≤ m 0 13 then some (m, none) else if 0 ≤ m 0 13 ∧ m 0 13 < 9 then some (z_up (z_up m 250 (m 0 13).toNat u) 0 13 (m 0 13 + 1), none) else none :=
  have hK : kt_at 79 = kt_79 := rfl
  (z_R_run hK (n := 4) (g' := (m, 8, [(2, 0), (1, u), (9, 0)], [(2, 250), (0, m 0 13)])) rfl).trans ((z_R_run hK (n := 1) (g' := (m, 9, [(2, 0), (1, u), (9, 0)], [(0, 9), (0, m 0 13)])) rfl).trans (z_R_ifd hK (c := 9 ≤ m 0 13) (p1 := 32) (p2 := 12) rfl rfl rfl (fun h1 => z_R_ret hK rfl rfl rfl) (fun h1 => (z_R_run hK (n := 2) (g' := (m, 16, [(2, 0), (1, u), (9, 0)], [(2, 250)])) rfl).trans ((z_R_run hK (n := 3) (g' := (m, 21, [(2, 0), (1, u), (9, 0)], [(1, u), (0, m 0 13), (2, 250)])) rfl).trans (z_R_ixD hK (n := 9) (g' := (z_up m 250 (m 0 13).toNat u, 22, [(2, 0), (1, u), (9, 0)], [])) rfl rfl rfl (fun h2 => (z_R_run hK (n := 3) (g' := (z_up m 250 (m 0 13).toNat u, 27, [(2, 0), (1, u), (9, 0)], [(0, (z_up m 250 (m 0 13).toNat u) 0 13), (2, 0)])) rfl).trans ((congrArg (fun vv => z_R 79 (z_up m 250 (m 0 13).toNat u, 27, [(2, 0), (1, u), (9, 0)], [(0, vv), (2, 0)])) (zu_p (by decide))).trans ((z_R_run hK (n := 2) (g' := (z_up m 250 (m 0 13).toNat u, 29, [(2, 0), (1, u), (9, 0)], [(0, z_add (m 0 13) 1), (2, 0)])) rfl).trans ((congrArg (fun vv => z_R 79 (z_up m 250 (m 0 13).toNat u, 29, [(2, 0), (1, u), (9, 0)], [(0, vv), (2, 0)])) (z_add_eq (by omega) (by omega))).trans ((z_R_run hK (n := 1) (g' := (z_up (z_up m 250 (m 0 13).toNat u) 0 13 (m 0 13 + 1), 32, [(2, 0), (1, u), (9, 0)], [])) rfl).trans (z_R_ret hK rfl rfl rfl)))))))))))
theorem q_sea_0  (m : z_M) (s : Int) (n : Int) : z_R 144 (m, 0, [(2, 0), (0, s), (0, n), (9, 0), (9, 0)], []) = if n < 1 then some (m, some (0, (-1))) else if n ≤ 60 then (z_R 61 (m, 0, [(2, 18), (2, 12)], [])).bind fun qq => z_R 144 (qq.1, 24, [(2, 0), (0, s), (0, n), (9, 0), (9, 0)], qq.2.toList ++ []) else some (m, some (0, (-1))) :=
  have hK : kt_at 144 = kt_144 := rfl
  (z_R_run hK (n := 2) (g' := (m, 2, [(2, 0), (0, s), (0, n), (9, 0), (9, 0)], [(0, 1), (0, n)])) rfl).trans (z_R_ifd hK (c := n < 1) (p1 := 11) (p2 := 5) rfl rfl rfl (fun h1 => (z_R_run hK (n := 1) (g' := (m, 12, [(2, 0), (0, s), (0, n), (9, 0), (9, 0)], [(0, (-1))])) rfl).trans (z_R_ret hK rfl rfl rfl)) (fun h1 => (z_R_run hK (n := 2) (g' := (m, 8, [(2, 0), (0, s), (0, n), (9, 0), (9, 0)], [(0, 60), (0, n)])) rfl).trans (z_R_ifd hK (c := n ≤ 60) (p1 := 13) (p2 := 11) rfl rfl rfl (fun h2 => (z_R_run hK (n := 2) (g' := (m, 17, [(2, 0), (0, s), (0, n), (9, 0), (9, 0)], [(2, 18)])) rfl).trans ((z_R_run hK (n := 2) (g' := (m, 21, [(2, 0), (0, s), (0, n), (9, 0), (9, 0)], [(2, 12), (2, 18)])) rfl).trans (z_R_call hK rfl rfl rfl rfl rfl))) (fun h2 => (z_R_run hK (n := 1) (g' := (m, 12, [(2, 0), (0, s), (0, n), (9, 0), (9, 0)], [(0, (-1))])) rfl).trans (z_R_ret hK rfl rfl rfl)))))
theorem q_sea_24  (m : z_M) (x1 : Int) (x2 : Int) : z_R 144 (m, 24, [(2, 0), (0, x1), (0, x2), (9, 0), (9, 0)], []) = (z_R 66 (m, 0, [(2, 24)], [])).bind fun qq => z_R 144 (qq.1, 31, [(2, 0), (0, x1), (0, x2), (9, 0), (9, 0)], qq.2.toList ++ []) :=
  have hK : kt_at 144 = kt_144 := rfl
  (z_R_run hK (n := 2) (g' := (m, 28, [(2, 0), (0, x1), (0, x2), (9, 0), (9, 0)], [(2, 24)])) rfl).trans (z_R_call hK rfl rfl rfl rfl rfl)
theorem q_sea_31  (m : z_M) (x1 : Int) (x2 : Int) : z_R 144 (m, 31, [(2, 0), (0, x1), (0, x2), (9, 0), (9, 0)], []) = (z_R 145 (m, 0, [(2, 24), (9, 0)], [])).bind fun qq => z_R 144 (qq.1, 38, [(2, 0), (0, x1), (0, x2), (9, 0), (9, 0)], qq.2.toList ++ []) :=
  have hK : kt_at 144 = kt_144 := rfl
  (z_R_run hK (n := 2) (g' := (m, 35, [(2, 0), (0, x1), (0, x2), (9, 0), (9, 0)], [(2, 24)])) rfl).trans (z_R_call hK rfl rfl rfl rfl rfl)
theorem q_sea_38  (m : z_M) (x1 : Int) (x2 : Int) : z_R 144 (m, 38, [(2, 0), (0, x1), (0, x2), (9, 0), (9, 0)], []) = z_R 144 (m, 43, [(2, 0), (0, x1), (0, x2), (0, x1), (0, 0)], []) :=
  have hK : kt_at 144 = kt_144 := rfl
  (z_R_run hK (n := 4) (g' := (m, 43, [(2, 0), (0, x1), (0, x2), (0, x1), (0, 0)], [])) rfl).trans (rfl)
theorem q_sea_43  (m : z_M) (x1 : Int) (x2 : Int) (x3 : Int) (x4 : Int) : z_R 144 (m, 43, [(2, 0), (0, x1), (0, x2), (0, x3), (0, x4)], []) = if x2 ≤ x4 then (z_R 149 (z_up m 24 4 (-1), 0, [(2, 24), (9, 0), (9, 0)], [])).bind fun qq => z_R 144 (qq.1, 132, [(2, 0), (0, x1), (0, x2), (0, x3), (0, x4)], qq.2.toList ++ []) else (z_R 146 (m, 0, [(0, x3)], [])).bind fun qq => z_R 144 (qq.1, 53, [(2, 0), (0, x1), (0, x2), (0, x3), (0, x4)], qq.2.toList ++ []) :=
  have hK : kt_at 144 = kt_144 := rfl
  (z_R_run hK (n := 2) (g' := (m, 46, [(2, 0), (0, x1), (0, x2), (0, x3), (0, x4)], [(0, x2), (0, x4)])) rfl).trans (z_R_ifd hK (c := x2 ≤ x4) (p1 := 117) (p2 := 49) rfl rfl rfl (fun h1 => (z_R_run hK (n := 2) (g' := (m, 121, [(2, 0), (0, x1), (0, x2), (0, x3), (0, x4)], [(2, 24)])) rfl).trans ((z_R_run hK (n := 4) (g' := (z_up m 24 4 (-1), 129, [(2, 0), (0, x1), (0, x2), (0, x3), (0, x4)], [(2, 24)])) rfl).trans (z_R_call hK rfl rfl rfl rfl rfl))) (fun h1 => (z_R_run hK (n := 1) (g' := (m, 50, [(2, 0), (0, x1), (0, x2), (0, x3), (0, x4)], [(0, x3)])) rfl).trans (z_R_call hK rfl rfl rfl rfl rfl)))
theorem q_sea_53  (m : z_M) (x1 : Int) (x2 : Int) (x3 : Int) (x4 : Int) (u : Int) : z_R 144 (m, 53, [(2, 0), (0, x1), (0, x2), (0, x3), (0, x4)], [(0, u)]) = (z_R 147 (m, 0, [(0, u), (0, 10)], [])).bind fun qq => z_R 144 (qq.1, 64, [(2, 0), (0, x1), (0, x2), (0, u), (0, x4)], qq.2.toList ++ [(2, 18)]) :=
  have hK : kt_at 144 = kt_144 := rfl
  (z_R_run hK (n := 3) (g' := (m, 58, [(2, 0), (0, x1), (0, x2), (0, u), (0, x4)], [(2, 18)])) rfl).trans ((z_R_run hK (n := 2) (g' := (m, 61, [(2, 0), (0, x1), (0, x2), (0, u), (0, x4)], [(0, 10), (0, u), (2, 18)])) rfl).trans (z_R_call hK rfl rfl rfl rfl rfl))
theorem q_sea_64  (m : z_M) (x1 : Int) (x2 : Int) (x3 : Int) (x4 : Int) (u : Int) : z_R 144 (m, 64, [(2, 0), (0, x1), (0, x2), (0, x3), (0, x4)], [(0, u), (2, 18)]) = (z_R 146 (z_up m 18 8 u, 0, [(0, x3)], [])).bind fun qq => z_R 144 (qq.1, 71, [(2, 0), (0, x1), (0, x2), (0, x3), (0, x4)], qq.2.toList ++ []) :=
  have hK : kt_at 144 = kt_144 := rfl
  (z_R_run hK (n := 2) (g' := (z_up m 18 8 u, 68, [(2, 0), (0, x1), (0, x2), (0, x3), (0, x4)], [(0, x3)])) rfl).trans (z_R_call hK rfl rfl rfl rfl rfl)
theorem q_sea_71  (m : z_M) (x1 : Int) (x2 : Int) (x3 : Int) (x4 : Int) (u : Int) : z_R 144 (m, 71, [(2, 0), (0, x1), (0, x2), (0, x3), (0, x4)], [(0, u)]) = (z_R 147 (m, 0, [(0, u), (0, z_add (m 3 11) 3)], [])).bind fun qq => z_R 144 (qq.1, 89, [(2, 0), (0, x1), (0, x2), (0, u), (0, x4)], qq.2.toList ++ [(2, 24)]) :=
  have hK : kt_at 144 = kt_144 := rfl
  (z_R_run hK (n := 3) (g' := (m, 76, [(2, 0), (0, x1), (0, x2), (0, u), (0, x4)], [(2, 24)])) rfl).trans ((z_R_run hK (n := 3) (g' := (m, 81, [(2, 0), (0, x1), (0, x2), (0, u), (0, x4)], [(2, 3), (0, u), (2, 24)])) rfl).trans ((z_R_run hK (n := 3) (g' := (m, 86, [(2, 0), (0, x1), (0, x2), (0, u), (0, x4)], [(0, z_add (m 3 11) 3), (0, u), (2, 24)])) rfl).trans (z_R_call hK rfl rfl rfl rfl rfl)))
theorem q_sea_89  (m : z_M) (x1 : Int) (x2 : Int) (x3 : Int) (x4 : Int) (u : Int) : z_R 144 (m, 89, [(2, 0), (0, x1), (0, x2), (0, x3), (0, x4)], [(0, u), (2, 24)]) = (z_R 67 (z_up m 24 4 u, 0, [(2, 24), (2, 18), (0, 1), (9, 0)], [])).bind fun qq => z_R 144 (qq.1, 104, [(2, 0), (0, x1), (0, x2), (0, x3), (0, x4)], qq.2.toList ++ []) :=
  have hK : kt_at 144 = kt_144 := rfl
  (z_R_run hK (n := 3) (g' := (z_up m 24 4 u, 96, [(2, 0), (0, x1), (0, x2), (0, x3), (0, x4)], [(2, 24)])) rfl).trans ((z_R_run hK (n := 2) (g' := (z_up m 24 4 u, 100, [(2, 0), (0, x1), (0, x2), (0, x3), (0, x4)], [(2, 18), (2, 24)])) rfl).trans ((z_R_run hK (n := 1) (g' := (z_up m 24 4 u, 101, [(2, 0), (0, x1), (0, x2), (0, x3), (0, x4)], [(0, 1), (2, 18), (2, 24)])) rfl).trans (z_R_call hK rfl rfl rfl rfl rfl)))
theorem q_sea_104  (m : z_M) (x1 : Int) (x2 : Int) (x3 : Int) (x4 : Int) : z_R 144 (m, 104, [(2, 0), (0, x1), (0, x2), (0, x3), (0, x4)], []) = (z_R 148 (m, 0, [(2, 24), (9, 0)], [])).bind fun qq => z_R 144 (qq.1, 111, [(2, 0), (0, x1), (0, x2), (0, x3), (0, x4)], qq.2.toList ++ []) :=
  have hK : kt_at 144 = kt_144 := rfl
  (z_R_run hK (n := 2) (g' := (m, 108, [(2, 0), (0, x1), (0, x2), (0, x3), (0, x4)], [(2, 24)])) rfl).trans (z_R_call hK rfl rfl rfl rfl rfl)
theorem q_sea_111  (m : z_M) (x1 : Int) (x2 : Int) (x3 : Int) (x4 : Int) : z_R 144 (m, 111, [(2, 0), (0, x1), (0, x2), (0, x3), (0, x4)], []) = z_R 144 (m, 43, [(2, 0), (0, x1), (0, x2), (0, x3), (0, z_add x4 1)], []) :=
  have hK : kt_at 144 = kt_144 := rfl
  (z_R_run hK (n := 2) (g' := (m, 43, [(2, 0), (0, x1), (0, x2), (0, x3), (0, z_add x4 1)], [])) rfl).trans (rfl)
theorem q_sea_132  (m : z_M) (x1 : Int) (x2 : Int) (x3 : Int) (x4 : Int) (u : Int) : z_R 144 (m, 132, [(2, 0), (0, x1), (0, x2), (0, x3), (0, x4)], [(0, u)]) = if u = (-1) then (z_R 76 (m, 0, [(2, 0), (1, z_i2l (m 24 6)), (9, 0), (1, z_i2l u), (9, 0), (1, 0), (9, 0)], [])).bind fun qq => z_R 144 (qq.1, 170, [(2, 0), (0, x1), (0, x2), (0, x3), (0, u)], qq.2.toList ++ []) else if 0 ≤ u ∧ u < 9 then (z_R 76 (m, 0, [(2, 0), (1, z_i2l (m 24 6)), (9, 0), (1, z_i2l u), (9, 0), (1, z_i2l (m 27 (u).toNat)), (9, 0)], [])).bind fun qq => z_R 144 (qq.1, 170, [(2, 0), (0, x1), (0, x2), (0, x3), (0, u)], qq.2.toList ++ []) else none :=
  have hK : kt_at 144 = kt_144 := rfl
  (z_R_run hK (n := 4) (g' := (m, 139, [(2, 0), (0, x1), (0, x2), (0, x3), (0, u)], [(2, 24), (2, 0)])) rfl).trans ((z_R_run hK (n := 6) (g' := (m, 149, [(2, 0), (0, x1), (0, x2), (0, x3), (0, u)], [(0, (-1)), (0, u), (1, z_i2l u), (1, z_i2l (m 24 6)), (2, 0)])) rfl).trans (z_R_ifnd hK (c := u = (-1)) (p1 := 156) (p2 := 152) rfl rfl rfl (fun h1 => (z_R_run hK (n := 2) (g' := (m, 160, [(2, 0), (0, x1), (0, x2), (0, x3), (0, u)], [(2, 24), (1, z_i2l u), (1, z_i2l (m 24 6)), (2, 0)])) rfl).trans ((z_R_run hK (n := 1) (g' := (m, 163, [(2, 0), (0, x1), (0, x2), (0, x3), (0, u)], [(2, 27), (1, z_i2l u), (1, z_i2l (m 24 6)), (2, 0)])) rfl).trans ((z_R_run hK (n := 1) (g' := (m, 165, [(2, 0), (0, x1), (0, x2), (0, x3), (0, u)], [(0, u), (2, 27), (1, z_i2l u), (1, z_i2l (m 24 6)), (2, 0)])) rfl).trans (z_R_ixD hK (n := 9) (g' := (m, 166, [(2, 0), (0, x1), (0, x2), (0, x3), (0, u)], [(0, m 27 (u).toNat), (1, z_i2l u), (1, z_i2l (m 24 6)), (2, 0)])) rfl rfl rfl  (fun h2 => (z_R_run hK (n := 1) (g' := (m, 167, [(2, 0), (0, x1), (0, x2), (0, x3), (0, u)], [(1, z_i2l (m 27 (u).toNat)), (1, z_i2l u), (1, z_i2l (m 24 6)), (2, 0)])) rfl).trans (z_R_call hK rfl rfl rfl rfl rfl)))))) (fun h1 => (z_R_run hK (n := 2) (g' := (m, 167, [(2, 0), (0, x1), (0, x2), (0, x3), (0, u)], [(1, 0), (1, z_i2l u), (1, z_i2l (m 24 6)), (2, 0)])) rfl).trans (z_R_call hK rfl rfl rfl rfl rfl))))
theorem q_sea_170  (m : z_M) (x1 : Int) (x2 : Int) (x3 : Int) (x4 : Int) : z_R 144 (m, 170, [(2, 0), (0, x1), (0, x2), (0, x3), (0, x4)], []) = some (m, some (0, m 24 9)) :=
  have hK : kt_at 144 = kt_144 := rfl
  (z_R_run hK (n := 2) (g' := (m, 174, [(2, 0), (0, x1), (0, x2), (0, x3), (0, x4)], [(2, 24)])) rfl).trans ((z_R_run hK (n := 1) (g' := (m, 177, [(2, 0), (0, x1), (0, x2), (0, x3), (0, x4)], [(0, m 24 9)])) rfl).trans (z_R_ret hK rfl rfl rfl))
theorem q_next_0  (m : z_M) (r : Int) : z_R 146 (m, 0, [(0, r)], []) = some (m, some (0, z_add (z_mul r 1103515245) 12345)) :=
  have hK : kt_at 146 = kt_146 := rfl
  (z_R_run hK (n := 5) (g' := (m, 9, [(0, r)], [(0, z_add (z_mul r 1103515245) 12345)])) rfl).trans (z_R_ret hK rfl rfl rfl)
theorem q_draw_0  (m : z_M) (r : Int) (n : Int) : z_R 147 (m, 0, [(0, r), (0, n)], []) = if 1 ≤ n then some (m, some (0, z_rem (z_ush r 16) n)) else some (m, some (0, 0)) :=
  have hK : kt_at 147 = kt_147 := rfl
  (z_R_run hK (n := 2) (g' := (m, 2, [(0, r), (0, n)], [(0, 1), (0, n)])) rfl).trans (z_R_ifd hK (c := 1 ≤ n) (p1 := 9) (p2 := 5) rfl rfl rfl (fun h1 => (z_R_run hK (n := 4) (g' := (m, 14, [(0, r), (0, n)], [(0, n), (0, z_ush r 16)])) rfl).trans (z_R_dvT hK (d := n) rfl rfl rfl (show ¬ n = 0 by omega) (z_R_ret hK rfl rfl rfl))) (fun h1 => (z_R_run hK (n := 2) (g' := (m, 15, [(0, r), (0, n)], [(0, 0)])) rfl).trans (z_R_ret hK rfl rfl rfl)))
theorem q_fg_0  (m : z_M) : z_R 145 (m, 0, [(2, 24), (9, 0)], []) = z_R 145 (m, 2, [(2, 24), (0, 0)], []) :=
  have hK : kt_at 145 = kt_145 := rfl
  (z_R_run hK (n := 2) (g' := (m, 2, [(2, 24), (0, 0)], [])) rfl).trans (rfl)
theorem q_fg_2  (m : z_M) (x1 : Int) : z_R 145 (m, 2, [(2, 24), (0, x1)], []) = if 9 ≤ x1 then some (m, none) else if 0 ≤ x1 ∧ x1 < 9 then z_R 145 (z_up m 27 (x1).toNat 0, 2, [(2, 24), (0, x1 + 1)], []) else none :=
  have hK : kt_at 145 = kt_145 := rfl
  (z_R_run hK (n := 2) (g' := (m, 5, [(2, 24), (0, x1)], [(0, 9), (0, x1)])) rfl).trans (z_R_ifd hK (c := 9 ≤ x1) (p1 := 21) (p2 := 8) rfl rfl rfl (fun h1 => z_R_ret hK rfl rfl rfl) (fun h1 => (z_R_run hK (n := 2) (g' := (m, 12, [(2, 24), (0, x1)], [(2, 27)])) rfl).trans ((z_R_run hK (n := 2) (g' := (m, 14, [(2, 24), (0, x1)], [(0, 0), (0, x1), (2, 27)])) rfl).trans (z_R_ixD hK (n := 9) (g' := (z_up m 27 (x1).toNat 0, 15, [(2, 24), (0, x1)], [])) rfl rfl rfl (fun h2 => (z_R_run hK (n := 1) (g' := (z_up m 27 (x1).toNat 0, 18, [(2, 24), (0, z_add x1 1)], [])) rfl).trans ((congrArg (fun vv => z_R 145 (z_up m 27 (x1).toNat 0, 18, [(2, 24), (0, vv)], [])) (z_add_eq (by omega) (by omega))).trans ((z_R_run hK (n := 1) (g' := (z_up m 27 (x1).toNat 0, 2, [(2, 24), (0, x1 + 1)], [])) rfl).trans (rfl))))))))
theorem q_cg_0  (m : z_M) : z_R 148 (m, 0, [(2, 24), (9, 0)], []) = z_R 148 (m, 2, [(2, 24), (0, 0)], []) :=
  have hK : kt_at 148 = kt_148 := rfl
  (z_R_run hK (n := 2) (g' := (m, 2, [(2, 24), (0, 0)], [])) rfl).trans (rfl)
theorem q_cg_2  (m : z_M) (x1 : Int) : z_R 148 (m, 2, [(2, 24), (0, x1)], []) = if 9 ≤ x1 then some (m, none) else if 0 ≤ x1 ∧ x1 < 9 then z_R 148 (z_up m 27 (x1).toNat (z_add (m 27 (x1).toNat) (z_and (z_shr (m 24 10) x1) 1)), 2, [(2, 24), (0, x1 + 1)], []) else none :=
  have hK : kt_at 148 = kt_148 := rfl
  (z_R_run hK (n := 2) (g' := (m, 5, [(2, 24), (0, x1)], [(0, 9), (0, x1)])) rfl).trans (z_R_ifd hK (c := 9 ≤ x1) (p1 := 31) (p2 := 8) rfl rfl rfl (fun h1 => z_R_ret hK rfl rfl rfl) (fun h1 => (z_R_run hK (n := 2) (g' := (m, 12, [(2, 24), (0, x1)], [(2, 27)])) rfl).trans ((z_R_run hK (n := 2) (g' := (m, 14, [(2, 24), (0, x1)], [(0, x1), (2, 27), (0, x1), (2, 27)])) rfl).trans (z_R_ixD hK (n := 9) (g' := (m, 15, [(2, 24), (0, x1)], [(0, m 27 (x1).toNat), (0, x1), (2, 27)])) rfl rfl rfl  (fun h2 => (z_R_run hK (n := 7) (g' := (m, 24, [(2, 24), (0, x1)], [(0, z_add (m 27 (x1).toNat) (z_and (z_shr (m 24 10) x1) 1)), (0, x1), (2, 27)])) rfl).trans (z_R_ixT hK (n := 9) (g' := (z_up m 27 (x1).toNat (z_add (m 27 (x1).toNat) (z_and (z_shr (m 24 10) x1) 1)), 25, [(2, 24), (0, x1)], [])) rfl rfl rfl (show 0 ≤ x1 ∧ x1 < 9 by omega) ((z_R_run hK (n := 1) (g' := (z_up m 27 (x1).toNat (z_add (m 27 (x1).toNat) (z_and (z_shr (m 24 10) x1) 1)), 28, [(2, 24), (0, z_add x1 1)], [])) rfl).trans ((congrArg (fun vv => z_R 148 (z_up m 27 (x1).toNat (z_add (m 27 (x1).toNat) (z_and (z_shr (m 24 10) x1) 1)), 28, [(2, 24), (0, vv)], [])) (z_add_eq (by omega) (by omega))).trans ((z_R_run hK (n := 1) (g' := (z_up m 27 (x1).toNat (z_add (m 27 (x1).toNat) (z_and (z_shr (m 24 10) x1) 1)), 2, [(2, 24), (0, x1 + 1)], [])) rfl).trans (rfl))))))))))
theorem q_og_0  (m : z_M) : z_R 149 (m, 0, [(2, 24), (9, 0), (9, 0)], []) = z_R 149 (m, 4, [(2, 24), (0, (-1)), (0, 0)], []) :=
  have hK : kt_at 149 = kt_149 := rfl
  (z_R_run hK (n := 4) (g' := (m, 4, [(2, 24), (0, (-1)), (0, 0)], [])) rfl).trans (rfl)
theorem q_og_4  (m : z_M) (x1 : Int) (x2 : Int) : z_R 149 (m, 4, [(2, 24), (0, x1), (0, x2)], []) = if 9 ≤ x2 then some (m, some (0, x1)) else if 0 ≤ x2 ∧ x2 < 9 then if x1 = (-1) then if m 27 (x2).toNat ≤ 0 then z_R 149 (m, 4, [(2, 24), (0, x1), (0, x2 + 1)], []) else z_R 149 (m, 4, [(2, 24), (0, x2), (0, x2 + 1)], []) else if 0 ≤ x1 ∧ x1 < 9 then if m 27 (x2).toNat ≤ m 27 (x1).toNat then z_R 149 (m, 4, [(2, 24), (0, x1), (0, x2 + 1)], []) else z_R 149 (m, 4, [(2, 24), (0, x2), (0, x2 + 1)], []) else none else none :=
  have hK : kt_at 149 = kt_149 := rfl
  (z_R_run hK (n := 2) (g' := (m, 7, [(2, 24), (0, x1), (0, x2)], [(0, 9), (0, x2)])) rfl).trans (z_R_ifd hK (c := 9 ≤ x2) (p1 := 42) (p2 := 10) rfl rfl rfl (fun h1 => (z_R_run hK (n := 1) (g' := (m, 43, [(2, 24), (0, x1), (0, x2)], [(0, x1)])) rfl).trans (z_R_ret hK rfl rfl rfl)) (fun h1 => (z_R_run hK (n := 2) (g' := (m, 14, [(2, 24), (0, x1), (0, x2)], [(2, 27)])) rfl).trans ((z_R_run hK (n := 1) (g' := (m, 15, [(2, 24), (0, x1), (0, x2)], [(0, x2), (2, 27)])) rfl).trans (z_R_ixD hK (n := 9) (g' := (m, 16, [(2, 24), (0, x1), (0, x2)], [(0, m 27 (x2).toNat)])) rfl rfl rfl  (fun h2 => (z_R_run hK (n := 2) (g' := (m, 18, [(2, 24), (0, x1), (0, x2)], [(0, (-1)), (0, x1), (0, m 27 (x2).toNat)])) rfl).trans (z_R_ifnd hK (c := x1 = (-1)) (p1 := 25) (p2 := 21) rfl rfl rfl (fun h3 => (z_R_run hK (n := 2) (g' := (m, 29, [(2, 24), (0, x1), (0, x2)], [(2, 27), (0, m 27 (x2).toNat)])) rfl).trans ((z_R_run hK (n := 1) (g' := (m, 30, [(2, 24), (0, x1), (0, x2)], [(0, x1), (2, 27), (0, m 27 (x2).toNat)])) rfl).trans (z_R_ixD hK (n := 9) (g' := (m, 31, [(2, 24), (0, x1), (0, x2)], [(0, m 27 (x1).toNat), (0, m 27 (x2).toNat)])) rfl rfl rfl  (fun h4 => z_R_ifd hK (c := m 27 (x2).toNat ≤ m 27 (x1).toNat) (p1 := 36) (p2 := 34) rfl rfl rfl (fun h5 => (z_R_run hK (n := 1) (g' := (m, 39, [(2, 24), (0, x1), (0, z_add x2 1)], [])) rfl).trans ((congrArg (fun vv => z_R 149 (m, 39, [(2, 24), (0, x1), (0, vv)], [])) (z_add_eq (by omega) (by omega))).trans ((z_R_run hK (n := 1) (g' := (m, 4, [(2, 24), (0, x1), (0, x2 + 1)], [])) rfl).trans (rfl)))) (fun h5 => (z_R_run hK (n := 3) (g' := (m, 39, [(2, 24), (0, x2), (0, z_add x2 1)], [])) rfl).trans ((congrArg (fun vv => z_R 149 (m, 39, [(2, 24), (0, x2), (0, vv)], [])) (z_add_eq (by omega) (by omega))).trans ((z_R_run hK (n := 1) (g' := (m, 4, [(2, 24), (0, x2), (0, x2 + 1)], [])) rfl).trans (rfl)))))))) (fun h3 => (z_R_run hK (n := 2) (g' := (m, 31, [(2, 24), (0, x1), (0, x2)], [(0, 0), (0, m 27 (x2).toNat)])) rfl).trans (z_R_ifd hK (c := m 27 (x2).toNat ≤ 0) (p1 := 36) (p2 := 34) rfl rfl rfl (fun h6 => (z_R_run hK (n := 1) (g' := (m, 39, [(2, 24), (0, x1), (0, z_add x2 1)], [])) rfl).trans ((congrArg (fun vv => z_R 149 (m, 39, [(2, 24), (0, x1), (0, vv)], [])) (z_add_eq (by omega) (by omega))).trans ((z_R_run hK (n := 1) (g' := (m, 4, [(2, 24), (0, x1), (0, x2 + 1)], [])) rfl).trans (rfl)))) (fun h6 => (z_R_run hK (n := 3) (g' := (m, 39, [(2, 24), (0, x2), (0, z_add x2 1)], [])) rfl).trans ((congrArg (fun vv => z_R 149 (m, 39, [(2, 24), (0, x2), (0, vv)], [])) (z_add_eq (by omega) (by omega))).trans ((z_R_run hK (n := 1) (g' := (m, 4, [(2, 24), (0, x2), (0, x2 + 1)], [])) rfl).trans (rfl))))))))))))
theorem q_lt_0  (m : z_M) : z_R 219 (m, 0, [(2, 251)], []) = (z_R 198 (m, 0, [(2, 252), (2, 264), (0, 0), (9, 0)], [])).bind fun qq => z_R 219 (qq.1, 12, [(2, 251)], qq.2.toList ++ []) :=
  have hK : kt_at 219 = kt_219 := rfl
  (z_R_run hK (n := 2) (g' := (m, 4, [(2, 251)], [(2, 252)])) rfl).trans ((z_R_run hK (n := 2) (g' := (m, 8, [(2, 251)], [(2, 264), (2, 252)])) rfl).trans ((z_R_run hK (n := 1) (g' := (m, 9, [(2, 251)], [(0, 0), (2, 264), (2, 252)])) rfl).trans (z_R_call hK rfl rfl rfl rfl rfl)))
theorem q_lt_12  (m : z_M) : z_R 219 (m, 12, [(2, 251)], []) = some (m, none) :=
  have hK : kt_at 219 = kt_219 := rfl
  z_R_ret hK rfl rfl rfl
theorem q_sta_0  (m : z_M) (n : Int) : z_R 221 (m, 0, [(2, 251), (0, n), (9, 0), (9, 0)], []) = (z_R 222 (m, 0, [(2, 251), (9, 0), (9, 0)], [])).bind fun qq => z_R 221 (qq.1, 4, [(2, 251), (0, n), (9, 0), (9, 0)], qq.2.toList ++ []) :=
  have hK : kt_at 221 = kt_221 := rfl
  (z_R_run hK (n := 1) (g' := (m, 1, [(2, 251), (0, n), (9, 0), (9, 0)], [(2, 251)])) rfl).trans (z_R_call hK rfl rfl rfl rfl rfl)
theorem q_sta_4  (m : z_M) (x1 : Int) (u : Int) : z_R 221 (m, 4, [(2, 251), (0, x1), (9, 0), (9, 0)], [(0, u)]) = z_R 221 (m, 7, [(2, 251), (0, x1), (0, u), (0, 0)], []) :=
  have hK : kt_at 221 = kt_221 := rfl
  (z_R_run hK (n := 3) (g' := (m, 7, [(2, 251), (0, x1), (0, u), (0, 0)], [])) rfl).trans (rfl)
theorem q_sta_7  (m : z_M) (x1 : Int) (x2 : Int) (x3 : Int) : z_R 221 (m, 7, [(2, 251), (0, x1), (0, x2), (0, x3)], []) = if x1 ≤ x3 then some (m, some (0, x1)) else (z_R 208 (m, 0, [(2, 251), (2, 264), (9, 0), (9, 0), (9, 0)], [])).bind fun qq => z_R 221 (qq.1, 20, [(2, 251), (0, x1), (0, x2), (0, x3)], qq.2.toList ++ []) :=
  have hK : kt_at 221 = kt_221 := rfl
  (z_R_run hK (n := 2) (g' := (m, 9, [(2, 251), (0, x1), (0, x2), (0, x3)], [(0, x1), (0, x3)])) rfl).trans (z_R_ifd hK (c := x1 ≤ x3) (p1 := 41) (p2 := 12) rfl rfl rfl (fun h1 => (z_R_run hK (n := 1) (g' := (m, 42, [(2, 251), (0, x1), (0, x2), (0, x3)], [(0, x1)])) rfl).trans (z_R_ret hK rfl rfl rfl)) (fun h1 => (z_R_run hK (n := 3) (g' := (m, 17, [(2, 251), (0, x1), (0, x2), (0, x3)], [(2, 264), (2, 251)])) rfl).trans (z_R_call hK rfl rfl rfl rfl rfl)))
theorem q_sta_20  (m : z_M) (x1 : Int) (x2 : Int) (x3 : Int) : z_R 221 (m, 20, [(2, 251), (0, x1), (0, x2), (0, x3)], []) = (z_R 223 (m, 0, [(2, 251), (2, 264), (9, 0), (9, 0)], [])).bind fun qq => z_R 221 (qq.1, 28, [(2, 251), (0, x1), (0, x2), (0, x3)], qq.2.toList ++ []) :=
  have hK : kt_at 221 = kt_221 := rfl
  (z_R_run hK (n := 3) (g' := (m, 25, [(2, 251), (0, x1), (0, x2), (0, x3)], [(2, 264), (2, 251)])) rfl).trans (z_R_call hK rfl rfl rfl rfl rfl)
theorem q_sta_28  (m : z_M) (x1 : Int) (x2 : Int) (x3 : Int) (u : Int) : z_R 221 (m, 28, [(2, 251), (0, x1), (0, x2), (0, x3)], [(0, u)]) = if z_and u x2 = 0 then z_R 221 (m, 7, [(2, 251), (0, x1), (0, x2), (0, z_add x3 1)], []) else some (m, some (0, x3)) :=
  have hK : kt_at 221 = kt_221 := rfl
  (z_R_run hK (n := 2) (g' := (m, 30, [(2, 251), (0, x1), (0, x2), (0, x3)], [(0, z_and u x2)])) rfl).trans (z_R_ifd hK (c := z_and u x2 = 0) (p1 := 35) (p2 := 33) rfl rfl rfl (fun h1 => (z_R_run hK (n := 2) (g' := (m, 7, [(2, 251), (0, x1), (0, x2), (0, z_add x3 1)], [])) rfl).trans (rfl)) (fun h1 => (z_R_run hK (n := 1) (g' := (m, 34, [(2, 251), (0, x1), (0, x2), (0, x3)], [(0, x3)])) rfl).trans (z_R_ret hK rfl rfl rfl)))
theorem q_ice_0  (m : z_M) : z_R 222 (m, 0, [(2, 251), (9, 0), (9, 0)], []) = z_R 222 (m, 4, [(2, 251), (0, 0), (0, 0)], []) :=
  have hK : kt_at 222 = kt_222 := rfl
  (z_R_run hK (n := 4) (g' := (m, 4, [(2, 251), (0, 0), (0, 0)], [])) rfl).trans (rfl)
theorem q_ice_4  (m : z_M) (x1 : Int) (x2 : Int) : z_R 222 (m, 4, [(2, 251), (0, x1), (0, x2)], []) = if 9 ≤ x2 then some (m, some (0, x1)) else if ¬ u_hs (m 251 1) (m 251 2) x2 = 0 then if m 252 (x2).toNat ≤ 0 then z_R 222 (m, 4, [(2, 251), (0, z_or x1 0), (0, x2 + 1)], []) else z_R 222 (m, 4, [(2, 251), (0, z_or x1 (z_shl 1 x2)), (0, x2 + 1)], []) else z_R 222 (m, 4, [(2, 251), (0, z_or x1 0), (0, z_add x2 1)], []) :=
  have hK : kt_at 222 = kt_222 := rfl
  (z_R_run hK (n := 2) (g' := (m, 7, [(2, 251), (0, x1), (0, x2)], [(0, 9), (0, x2)])) rfl).trans (z_R_ifd hK (c := 9 ≤ x2) (p1 := 43) (p2 := 10) rfl rfl rfl (fun h1 => (z_R_run hK (n := 1) (g' := (m, 44, [(2, 251), (0, x1), (0, x2)], [(0, x1)])) rfl).trans (z_R_ret hK rfl rfl rfl)) (fun h1 => (z_R_run hK (n := 3) (g' := (m, 13, [(2, 251), (0, x1), (0, x2)], [(0, x2), (2, 251), (0, x1)])) rfl).trans (z_R_cif hK rfl rfl rfl rfl rfl (t_ifroom _ _ rfl rfl) (fun h2 => have h4 := u_hs_rng h2; (z_R_run hK (n := 3) (g' := (m, 23, [(2, 251), (0, x1), (0, x2)], [(2, 252), (0, x1)])) rfl).trans ((z_R_run hK (n := 1) (g' := (m, 24, [(2, 251), (0, x1), (0, x2)], [(0, x2), (2, 252), (0, x1)])) rfl).trans (z_R_ixT hK (n := 37) (g' := (m, 25, [(2, 251), (0, x1), (0, x2)], [(0, m 252 (x2).toNat), (0, x1)])) rfl rfl rfl  (show 0 ≤ x2 ∧ x2 < 37 by omega) (z_R_ifd hK (c := m 252 (x2).toNat ≤ 0) (p1 := 34) (p2 := 28) rfl rfl rfl (fun h3 => (z_R_run hK (n := 4) (g' := (m, 40, [(2, 251), (0, z_or x1 0), (0, z_add x2 1)], [])) rfl).trans ((congrArg (fun vv => z_R 222 (m, 40, [(2, 251), (0, z_or x1 0), (0, vv)], [])) (z_add_eq (by omega) (by omega))).trans ((z_R_run hK (n := 1) (g' := (m, 4, [(2, 251), (0, z_or x1 0), (0, x2 + 1)], [])) rfl).trans (rfl)))) (fun h3 => (z_R_run hK (n := 7) (g' := (m, 40, [(2, 251), (0, z_or x1 (z_shl 1 x2)), (0, z_add x2 1)], [])) rfl).trans ((congrArg (fun vv => z_R 222 (m, 40, [(2, 251), (0, z_or x1 (z_shl 1 x2)), (0, vv)], [])) (z_add_eq (by omega) (by omega))).trans ((z_R_run hK (n := 1) (g' := (m, 4, [(2, 251), (0, z_or x1 (z_shl 1 x2)), (0, x2 + 1)], [])) rfl).trans (rfl)))))))) (fun h2 => (z_R_run hK (n := 6) (g' := (m, 4, [(2, 251), (0, z_or x1 0), (0, z_add x2 1)], [])) rfl).trans (rfl)))))
theorem q_tha_0  (m : z_M) : z_R 223 (m, 0, [(2, 251), (2, 264), (9, 0), (9, 0)], []) = z_R 223 (m, 4, [(2, 251), (2, 264), (0, 0), (0, 0)], []) :=
  have hK : kt_at 223 = kt_223 := rfl
  (z_R_run hK (n := 4) (g' := (m, 4, [(2, 251), (2, 264), (0, 0), (0, 0)], [])) rfl).trans (rfl)
theorem q_tha_4  (m : z_M) (x2 : Int) (x3 : Int) : z_R 223 (m, 4, [(2, 251), (2, 264), (0, x2), (0, x3)], []) = if 9 ≤ x3 then some (m, some (0, x2)) else if ¬ u_hs (m 251 1) (m 251 2) x3 = 0 then if m 264 (x3).toNat = 0 then z_R 223 (m, 4, [(2, 251), (2, 264), (0, z_or x2 (z_shl 1 x3)), (0, x3 + 1)], []) else z_R 223 (m, 4, [(2, 251), (2, 264), (0, z_or x2 0), (0, x3 + 1)], []) else z_R 223 (m, 4, [(2, 251), (2, 264), (0, z_or x2 0), (0, z_add x3 1)], []) :=
  have hK : kt_at 223 = kt_223 := rfl
  (z_R_run hK (n := 2) (g' := (m, 7, [(2, 251), (2, 264), (0, x2), (0, x3)], [(0, 9), (0, x3)])) rfl).trans (z_R_ifd hK (c := 9 ≤ x3) (p1 := 40) (p2 := 10) rfl rfl rfl (fun h1 => (z_R_run hK (n := 1) (g' := (m, 41, [(2, 251), (2, 264), (0, x2), (0, x3)], [(0, x2)])) rfl).trans (z_R_ret hK rfl rfl rfl)) (fun h1 => (z_R_run hK (n := 3) (g' := (m, 13, [(2, 251), (2, 264), (0, x2), (0, x3)], [(0, x3), (2, 251), (0, x2)])) rfl).trans (z_R_cif hK rfl rfl rfl rfl rfl (t_ifroom _ _ rfl rfl) (fun h2 => have h4 := u_hs_rng h2; (z_R_run hK (n := 3) (g' := (m, 21, [(2, 251), (2, 264), (0, x2), (0, x3)], [(0, x3), (2, 264), (0, x2)])) rfl).trans (z_R_ixT hK (n := 37) (g' := (m, 22, [(2, 251), (2, 264), (0, x2), (0, x3)], [(0, m 264 (x3).toNat), (0, x2)])) rfl rfl rfl  (show 0 ≤ x3 ∧ x3 < 37 by omega) (z_R_ifnd hK (c := m 264 (x3).toNat = 0) (p1 := 31) (p2 := 25) rfl rfl rfl (fun h3 => (z_R_run hK (n := 4) (g' := (m, 37, [(2, 251), (2, 264), (0, z_or x2 0), (0, z_add x3 1)], [])) rfl).trans ((congrArg (fun vv => z_R 223 (m, 37, [(2, 251), (2, 264), (0, z_or x2 0), (0, vv)], [])) (z_add_eq (by omega) (by omega))).trans ((z_R_run hK (n := 1) (g' := (m, 4, [(2, 251), (2, 264), (0, z_or x2 0), (0, x3 + 1)], [])) rfl).trans (rfl)))) (fun h3 => (z_R_run hK (n := 7) (g' := (m, 37, [(2, 251), (2, 264), (0, z_or x2 (z_shl 1 x3)), (0, z_add x3 1)], [])) rfl).trans ((congrArg (fun vv => z_R 223 (m, 37, [(2, 251), (2, 264), (0, z_or x2 (z_shl 1 x3)), (0, vv)], [])) (z_add_eq (by omega) (by omega))).trans ((z_R_run hK (n := 1) (g' := (m, 4, [(2, 251), (2, 264), (0, z_or x2 (z_shl 1 x3)), (0, x3 + 1)], [])) rfl).trans (rfl))))))) (fun h2 => (z_R_run hK (n := 6) (g' := (m, 4, [(2, 251), (2, 264), (0, z_or x2 0), (0, z_add x3 1)], [])) rfl).trans (rfl)))))
theorem q_tqu_0  (m : z_M) (n : Int) : z_R 233 (m, 0, [(2, 251), (0, n), (9, 0), (9, 0), (9, 0), (9, 0)], []) = if 1 ≤ n ∧ n ≤ 40 then (z_R 234 (z_up m 251 11 0, 0, [(2, 251), (0, n), (0, (-1)), (0, (-1)), (0, (-1)), (9, 0), (9, 0), (9, 0), (9, 0)], [])).bind fun qq => z_R 233 (qq.1, 33, [(2, 251), (0, n), (0, z_mul 6 (m 251 3)), (9, 0), (9, 0), (9, 0)], qq.2.toList ++ []) else some (z_up m 251 11 0, some (0, (-1))) :=
  have hK : kt_at 233 = kt_233 := rfl
  (z_R_run hK (n := 6) (g' := (z_up m 251 11 0, 9, [(2, 251), (0, n), (9, 0), (9, 0), (9, 0), (9, 0)], [(0, 40), (0, 1), (0, n)])) rfl).trans (z_R_cif hK rfl rfl rfl rfl rfl (t_ifin _ _ _ _) (fun h1 => (z_R_run hK (n := 4) (g' := (z_up m 251 11 0, 23, [(2, 251), (0, n), (9, 0), (9, 0), (9, 0), (9, 0)], [(0, (z_up m 251 11 0) 251 3), (0, 6)])) rfl).trans ((congrArg (fun vv => z_R 233 (z_up m 251 11 0, 23, [(2, 251), (0, n), (9, 0), (9, 0), (9, 0), (9, 0)], [(0, vv), (0, 6)])) (zu_k (by decide))).trans ((z_R_run hK (n := 7) (g' := (z_up m 251 11 0, 30, [(2, 251), (0, n), (0, z_mul 6 (m 251 3)), (9, 0), (9, 0), (9, 0)], [(0, (-1)), (0, (-1)), (0, (-1)), (0, n), (2, 251)])) rfl).trans (z_R_call hK rfl rfl rfl rfl rfl)))) (fun h1 => (z_R_run hK (n := 2) (g' := (z_up m 251 11 0, 16, [(2, 251), (0, n), (9, 0), (9, 0), (9, 0), (9, 0)], [(0, (-1))])) rfl).trans (z_R_ret hK rfl rfl rfl)))
theorem q_tqu_33  (m : z_M) (x1 : Int) (x2 : Int) (u : Int) : z_R 233 (m, 33, [(2, 251), (0, x1), (0, x2), (9, 0), (9, 0), (9, 0)], [(0, u)]) = if u = 0 then z_R 233 (m, 47, [(2, 251), (0, x1), (0, x2), (0, 0), (9, 0), (9, 0)], []) else (z_R 237 (m, 0, [(2, 251), (0, 0), (0, 0), (0, 0), (0, 0)], [])).bind fun qq => z_R 233 (qq.1, 44, [(2, 251), (0, x1), (0, x2), (9, 0), (9, 0), (9, 0)], qq.2.toList ++ []) :=
  have hK : kt_at 233 = kt_233 := rfl
  z_R_ifd hK (c := u = 0) (p1 := 45) (p2 := 36) rfl rfl rfl (fun h1 => (z_R_run hK (n := 2) (g' := (m, 47, [(2, 251), (0, x1), (0, x2), (0, 0), (9, 0), (9, 0)], [])) rfl).trans (rfl)) (fun h1 => (z_R_run hK (n := 5) (g' := (m, 41, [(2, 251), (0, x1), (0, x2), (9, 0), (9, 0), (9, 0)], [(0, 0), (0, 0), (0, 0), (0, 0), (2, 251)])) rfl).trans (z_R_call hK rfl rfl rfl rfl rfl))
theorem q_tqu_44  (m : z_M) (x1 : Int) (x2 : Int) (u : Int) : z_R 233 (m, 44, [(2, 251), (0, x1), (0, x2), (9, 0), (9, 0), (9, 0)], [(0, u)]) = some (m, some (0, u)) :=
  have hK : kt_at 233 = kt_233 := rfl
  z_R_ret hK rfl rfl rfl
theorem q_tqu_47  (m : z_M) (x1 : Int) (x2 : Int) (x3 : Int) : z_R 233 (m, 47, [(2, 251), (0, x1), (0, x2), (0, x3), (9, 0), (9, 0)], []) = if x2 ≤ x3 then z_R 233 (m, 80, [(2, 251), (0, x1), (0, x2), (0, 0), (9, 0), (9, 0)], []) else (z_R 234 (m, 0, [(2, 251), (0, x1), (0, x3), (0, (-1)), (0, (-1)), (9, 0), (9, 0), (9, 0), (9, 0)], [])).bind fun qq => z_R 233 (qq.1, 60, [(2, 251), (0, x1), (0, x2), (0, x3), (9, 0), (9, 0)], qq.2.toList ++ []) :=
  have hK : kt_at 233 = kt_233 := rfl
  (z_R_run hK (n := 2) (g' := (m, 49, [(2, 251), (0, x1), (0, x2), (0, x3), (9, 0), (9, 0)], [(0, x2), (0, x3)])) rfl).trans (z_R_ifd hK (c := x2 ≤ x3) (p1 := 78) (p2 := 52) rfl rfl rfl (fun h1 => (z_R_run hK (n := 2) (g' := (m, 80, [(2, 251), (0, x1), (0, x2), (0, 0), (9, 0), (9, 0)], [])) rfl).trans (rfl)) (fun h1 => (z_R_run hK (n := 5) (g' := (m, 57, [(2, 251), (0, x1), (0, x2), (0, x3), (9, 0), (9, 0)], [(0, (-1)), (0, (-1)), (0, x3), (0, x1), (2, 251)])) rfl).trans (z_R_call hK rfl rfl rfl rfl rfl)))
theorem q_tqu_60  (m : z_M) (x1 : Int) (x2 : Int) (x3 : Int) (u : Int) : z_R 233 (m, 60, [(2, 251), (0, x1), (0, x2), (0, x3), (9, 0), (9, 0)], [(0, u)]) = if u = 0 then z_R 233 (m, 47, [(2, 251), (0, x1), (0, x2), (0, z_add x3 1), (9, 0), (9, 0)], []) else (z_R 237 (m, 0, [(2, 251), (0, 1), (0, x3), (0, 0), (0, 0)], [])).bind fun qq => z_R 233 (qq.1, 71, [(2, 251), (0, x1), (0, x2), (0, x3), (9, 0), (9, 0)], qq.2.toList ++ []) :=
  have hK : kt_at 233 = kt_233 := rfl
  z_R_ifd hK (c := u = 0) (p1 := 72) (p2 := 63) rfl rfl rfl (fun h1 => (z_R_run hK (n := 2) (g' := (m, 47, [(2, 251), (0, x1), (0, x2), (0, z_add x3 1), (9, 0), (9, 0)], [])) rfl).trans (rfl)) (fun h1 => (z_R_run hK (n := 5) (g' := (m, 68, [(2, 251), (0, x1), (0, x2), (0, x3), (9, 0), (9, 0)], [(0, 0), (0, 0), (0, x3), (0, 1), (2, 251)])) rfl).trans (z_R_call hK rfl rfl rfl rfl rfl))
theorem q_tqu_71  (m : z_M) (x1 : Int) (x2 : Int) (x3 : Int) (u : Int) : z_R 233 (m, 71, [(2, 251), (0, x1), (0, x2), (0, x3), (9, 0), (9, 0)], [(0, u)]) = some (m, some (0, u)) :=
  have hK : kt_at 233 = kt_233 := rfl
  z_R_ret hK rfl rfl rfl
theorem q_tqu_80  (m : z_M) (x1 : Int) (x2 : Int) (x3 : Int) (v4 : z_V) : z_R 233 (m, 80, [(2, 251), (0, x1), (0, x2), (0, x3), v4, (9, 0)], []) = if x2 ≤ x3 then z_R 233 (m, 132, [(2, 251), (0, x1), (0, x2), (0, 0), v4, (9, 0)], []) else z_R 233 (m, 90, [(2, 251), (0, x1), (0, x2), (0, x3), (0, z_add x3 1), (9, 0)], []) :=
  have hK : kt_at 233 = kt_233 := rfl
  (z_R_run hK (n := 2) (g' := (m, 82, [(2, 251), (0, x1), (0, x2), (0, x3), v4, (9, 0)], [(0, x2), (0, x3)])) rfl).trans (z_R_ifd hK (c := x2 ≤ x3) (p1 := 130) (p2 := 85) rfl rfl rfl (fun h1 => (z_R_run hK (n := 2) (g' := (m, 132, [(2, 251), (0, x1), (0, x2), (0, 0), v4, (9, 0)], [])) rfl).trans (rfl)) (fun h1 => (z_R_run hK (n := 4) (g' := (m, 90, [(2, 251), (0, x1), (0, x2), (0, x3), (0, z_add x3 1), (9, 0)], [])) rfl).trans (rfl)))
theorem q_tqu_90  (m : z_M) (x1 : Int) (x2 : Int) (x3 : Int) (x4 : Int) : z_R 233 (m, 90, [(2, 251), (0, x1), (0, x2), (0, x3), (0, x4), (9, 0)], []) = if x2 ≤ x4 then z_R 233 (m, 80, [(2, 251), (0, x1), (0, x2), (0, z_add x3 1), (0, x4), (9, 0)], []) else (z_R 234 (m, 0, [(2, 251), (0, x1), (0, x3), (0, x4), (0, (-1)), (9, 0), (9, 0), (9, 0), (9, 0)], [])).bind fun qq => z_R 233 (qq.1, 105, [(2, 251), (0, x1), (0, x2), (0, x3), (0, x4), (9, 0)], qq.2.toList ++ []) :=
  have hK : kt_at 233 = kt_233 := rfl
  (z_R_run hK (n := 2) (g' := (m, 93, [(2, 251), (0, x1), (0, x2), (0, x3), (0, x4), (9, 0)], [(0, x2), (0, x4)])) rfl).trans (z_R_ifd hK (c := x2 ≤ x4) (p1 := 124) (p2 := 96) rfl rfl rfl (fun h1 => (z_R_run hK (n := 2) (g' := (m, 80, [(2, 251), (0, x1), (0, x2), (0, z_add x3 1), (0, x4), (9, 0)], [])) rfl).trans (rfl)) (fun h1 => (z_R_run hK (n := 5) (g' := (m, 102, [(2, 251), (0, x1), (0, x2), (0, x3), (0, x4), (9, 0)], [(0, (-1)), (0, x4), (0, x3), (0, x1), (2, 251)])) rfl).trans (z_R_call hK rfl rfl rfl rfl rfl)))
theorem q_tqu_105  (m : z_M) (x1 : Int) (x2 : Int) (x3 : Int) (x4 : Int) (u : Int) : z_R 233 (m, 105, [(2, 251), (0, x1), (0, x2), (0, x3), (0, x4), (9, 0)], [(0, u)]) = if u = 0 then z_R 233 (m, 90, [(2, 251), (0, x1), (0, x2), (0, x3), (0, z_add x4 1), (9, 0)], []) else (z_R 237 (m, 0, [(2, 251), (0, 2), (0, x3), (0, x4), (0, 0)], [])).bind fun qq => z_R 233 (qq.1, 117, [(2, 251), (0, x1), (0, x2), (0, x3), (0, x4), (9, 0)], qq.2.toList ++ []) :=
  have hK : kt_at 233 = kt_233 := rfl
  z_R_ifd hK (c := u = 0) (p1 := 118) (p2 := 108) rfl rfl rfl (fun h1 => (z_R_run hK (n := 2) (g' := (m, 90, [(2, 251), (0, x1), (0, x2), (0, x3), (0, z_add x4 1), (9, 0)], [])) rfl).trans (rfl)) (fun h1 => (z_R_run hK (n := 5) (g' := (m, 114, [(2, 251), (0, x1), (0, x2), (0, x3), (0, x4), (9, 0)], [(0, 0), (0, x4), (0, x3), (0, 2), (2, 251)])) rfl).trans (z_R_call hK rfl rfl rfl rfl rfl))
theorem q_tqu_117  (m : z_M) (x1 : Int) (x2 : Int) (x3 : Int) (x4 : Int) (u : Int) : z_R 233 (m, 117, [(2, 251), (0, x1), (0, x2), (0, x3), (0, x4), (9, 0)], [(0, u)]) = some (m, some (0, u)) :=
  have hK : kt_at 233 = kt_233 := rfl
  z_R_ret hK rfl rfl rfl
theorem q_tqu_132  (m : z_M) (x1 : Int) (x2 : Int) (x3 : Int) (v4 : z_V) (v5 : z_V) : z_R 233 (m, 132, [(2, 251), (0, x1), (0, x2), (0, x3), v4, v5], []) = if x2 ≤ x3 then some (m, some (0, (-2))) else z_R 233 (m, 142, [(2, 251), (0, x1), (0, x2), (0, x3), (0, z_add x3 1), v5], []) :=
  have hK : kt_at 233 = kt_233 := rfl
  (z_R_run hK (n := 2) (g' := (m, 134, [(2, 251), (0, x1), (0, x2), (0, x3), v4, v5], [(0, x2), (0, x3)])) rfl).trans (z_R_ifd hK (c := x2 ≤ x3) (p1 := 202) (p2 := 137) rfl rfl rfl (fun h1 => (z_R_run hK (n := 1) (g' := (m, 204, [(2, 251), (0, x1), (0, x2), (0, x3), v4, v5], [(0, (-2))])) rfl).trans (z_R_ret hK rfl rfl rfl)) (fun h1 => (z_R_run hK (n := 4) (g' := (m, 142, [(2, 251), (0, x1), (0, x2), (0, x3), (0, z_add x3 1), v5], [])) rfl).trans (rfl)))
theorem q_tqu_142  (m : z_M) (x1 : Int) (x2 : Int) (x3 : Int) (x4 : Int) (v5 : z_V) : z_R 233 (m, 142, [(2, 251), (0, x1), (0, x2), (0, x3), (0, x4), v5], []) = if x2 ≤ x4 then z_R 233 (m, 132, [(2, 251), (0, x1), (0, x2), (0, z_add x3 1), (0, x4), v5], []) else z_R 233 (m, 154, [(2, 251), (0, x1), (0, x2), (0, x3), (0, x4), (0, z_add x4 1)], []) :=
  have hK : kt_at 233 = kt_233 := rfl
  (z_R_run hK (n := 2) (g' := (m, 145, [(2, 251), (0, x1), (0, x2), (0, x3), (0, x4), v5], [(0, x2), (0, x4)])) rfl).trans (z_R_ifd hK (c := x2 ≤ x4) (p1 := 196) (p2 := 148) rfl rfl rfl (fun h1 => (z_R_run hK (n := 2) (g' := (m, 132, [(2, 251), (0, x1), (0, x2), (0, z_add x3 1), (0, x4), v5], [])) rfl).trans (rfl)) (fun h1 => (z_R_run hK (n := 4) (g' := (m, 154, [(2, 251), (0, x1), (0, x2), (0, x3), (0, x4), (0, z_add x4 1)], [])) rfl).trans (rfl)))
theorem q_tqu_154  (m : z_M) (x1 : Int) (x2 : Int) (x3 : Int) (x4 : Int) (x5 : Int) : z_R 233 (m, 154, [(2, 251), (0, x1), (0, x2), (0, x3), (0, x4), (0, x5)], []) = if x2 ≤ x5 then z_R 233 (m, 142, [(2, 251), (0, x1), (0, x2), (0, x3), (0, z_add x4 1), (0, x5)], []) else (z_R 234 (m, 0, [(2, 251), (0, x1), (0, x3), (0, x4), (0, x5), (9, 0), (9, 0), (9, 0), (9, 0)], [])).bind fun qq => z_R 233 (qq.1, 170, [(2, 251), (0, x1), (0, x2), (0, x3), (0, x4), (0, x5)], qq.2.toList ++ []) :=
  have hK : kt_at 233 = kt_233 := rfl
  (z_R_run hK (n := 2) (g' := (m, 157, [(2, 251), (0, x1), (0, x2), (0, x3), (0, x4), (0, x5)], [(0, x2), (0, x5)])) rfl).trans (z_R_ifd hK (c := x2 ≤ x5) (p1 := 190) (p2 := 160) rfl rfl rfl (fun h1 => (z_R_run hK (n := 2) (g' := (m, 142, [(2, 251), (0, x1), (0, x2), (0, x3), (0, z_add x4 1), (0, x5)], [])) rfl).trans (rfl)) (fun h1 => (z_R_run hK (n := 5) (g' := (m, 167, [(2, 251), (0, x1), (0, x2), (0, x3), (0, x4), (0, x5)], [(0, x5), (0, x4), (0, x3), (0, x1), (2, 251)])) rfl).trans (z_R_call hK rfl rfl rfl rfl rfl)))
theorem q_tqu_170  (m : z_M) (x1 : Int) (x2 : Int) (x3 : Int) (x4 : Int) (x5 : Int) (u : Int) : z_R 233 (m, 170, [(2, 251), (0, x1), (0, x2), (0, x3), (0, x4), (0, x5)], [(0, u)]) = if u = 0 then z_R 233 (m, 154, [(2, 251), (0, x1), (0, x2), (0, x3), (0, x4), (0, z_add x5 1)], []) else (z_R 237 (m, 0, [(2, 251), (0, 3), (0, x3), (0, x4), (0, x5)], [])).bind fun qq => z_R 233 (qq.1, 183, [(2, 251), (0, x1), (0, x2), (0, x3), (0, x4), (0, x5)], qq.2.toList ++ []) :=
  have hK : kt_at 233 = kt_233 := rfl
  z_R_ifd hK (c := u = 0) (p1 := 184) (p2 := 173) rfl rfl rfl (fun h1 => (z_R_run hK (n := 2) (g' := (m, 154, [(2, 251), (0, x1), (0, x2), (0, x3), (0, x4), (0, z_add x5 1)], [])) rfl).trans (rfl)) (fun h1 => (z_R_run hK (n := 5) (g' := (m, 180, [(2, 251), (0, x1), (0, x2), (0, x3), (0, x4), (0, x5)], [(0, x5), (0, x4), (0, x3), (0, 3), (2, 251)])) rfl).trans (z_R_call hK rfl rfl rfl rfl rfl))
theorem q_tqu_183  (m : z_M) (x1 : Int) (x2 : Int) (x3 : Int) (x4 : Int) (x5 : Int) (u : Int) : z_R 233 (m, 183, [(2, 251), (0, x1), (0, x2), (0, x3), (0, x4), (0, x5)], [(0, u)]) = some (m, some (0, u)) :=
  have hK : kt_at 233 = kt_233 := rfl
  z_R_ret hK rfl rfl rfl
theorem q_isq_0  (m : z_M) (n : Int) (a : Int) (b : Int) (d : Int) : z_R 234 (m, 0, [(2, 251), (0, n), (0, a), (0, b), (0, d), (9, 0), (9, 0), (9, 0), (9, 0)], []) = (z_R 235 (m, 0, [(2, 251), (0, a), (9, 0)], [])).bind fun qq => z_R 234 (qq.1, 5, [(2, 251), (0, n), (0, a), (0, b), (0, d), (9, 0), (9, 0), (9, 0), (9, 0)], qq.2.toList ++ []) :=
  have hK : kt_at 234 = kt_234 := rfl
  (z_R_run hK (n := 2) (g' := (m, 2, [(2, 251), (0, n), (0, a), (0, b), (0, d), (9, 0), (9, 0), (9, 0), (9, 0)], [(0, a), (2, 251)])) rfl).trans (z_R_call hK rfl rfl rfl rfl rfl)
theorem q_isq_5  (m : z_M) (x1 : Int) (x2 : Int) (x3 : Int) (x4 : Int) (u : Int) : z_R 234 (m, 5, [(2, 251), (0, x1), (0, x2), (0, x3), (0, x4), (9, 0), (9, 0), (9, 0), (9, 0)], [(0, u)]) = (z_R 235 (m, 0, [(2, 251), (0, x3), (9, 0)], [])).bind fun qq => z_R 234 (qq.1, 12, [(2, 251), (0, x1), (0, x2), (0, x3), (0, x4), (0, u), (9, 0), (9, 0), (9, 0)], qq.2.toList ++ []) :=
  have hK : kt_at 234 = kt_234 := rfl
  (z_R_run hK (n := 3) (g' := (m, 9, [(2, 251), (0, x1), (0, x2), (0, x3), (0, x4), (0, u), (9, 0), (9, 0), (9, 0)], [(0, x3), (2, 251)])) rfl).trans (z_R_call hK rfl rfl rfl rfl rfl)
theorem q_isq_12  (m : z_M) (x1 : Int) (x2 : Int) (x3 : Int) (x4 : Int) (x5 : Int) (u : Int) : z_R 234 (m, 12, [(2, 251), (0, x1), (0, x2), (0, x3), (0, x4), (0, x5), (9, 0), (9, 0), (9, 0)], [(0, u)]) = (z_R 235 (m, 0, [(2, 251), (0, x4), (9, 0)], [])).bind fun qq => z_R 234 (qq.1, 20, [(2, 251), (0, x1), (0, x2), (0, x3), (0, x4), (0, x5), (0, u), (9, 0), (9, 0)], qq.2.toList ++ []) :=
  have hK : kt_at 234 = kt_234 := rfl
  (z_R_run hK (n := 3) (g' := (m, 17, [(2, 251), (0, x1), (0, x2), (0, x3), (0, x4), (0, x5), (0, u), (9, 0), (9, 0)], [(0, x4), (2, 251)])) rfl).trans (z_R_call hK rfl rfl rfl rfl rfl)
theorem q_isq_20  (m : z_M) (x1 : Int) (x2 : Int) (x3 : Int) (x4 : Int) (x5 : Int) (x6 : Int) (u : Int) : z_R 234 (m, 20, [(2, 251), (0, x1), (0, x2), (0, x3), (0, x4), (0, x5), (0, x6), (9, 0), (9, 0)], [(0, u)]) = (z_R 219 (m, 0, [(2, 251)], [])).bind fun qq => z_R 234 (qq.1, 26, [(2, 251), (0, x1), (0, x2), (0, x3), (0, x4), (0, x5), (0, x6), (0, u), (9, 0)], qq.2.toList ++ []) :=
  have hK : kt_at 234 = kt_234 := rfl
  (z_R_run hK (n := 2) (g' := (m, 23, [(2, 251), (0, x1), (0, x2), (0, x3), (0, x4), (0, x5), (0, x6), (0, u), (9, 0)], [(2, 251)])) rfl).trans (z_R_call hK rfl rfl rfl rfl rfl)
theorem q_isq_26  (m : z_M) (x1 : Int) (x2 : Int) (x3 : Int) (x4 : Int) (x5 : Int) (x6 : Int) (x7 : Int) : z_R 234 (m, 26, [(2, 251), (0, x1), (0, x2), (0, x3), (0, x4), (0, x5), (0, x6), (0, x7), (9, 0)], []) = (z_R 221 (m, 0, [(2, 251), (0, x1), (9, 0), (9, 0)], [])).bind fun qq => z_R 234 (qq.1, 31, [(2, 251), (0, x1), (0, x2), (0, x3), (0, x4), (0, x5), (0, x6), (0, x7), (9, 0)], qq.2.toList ++ []) :=
  have hK : kt_at 234 = kt_234 := rfl
  (z_R_run hK (n := 2) (g' := (m, 28, [(2, 251), (0, x1), (0, x2), (0, x3), (0, x4), (0, x5), (0, x6), (0, x7), (9, 0)], [(0, x1), (2, 251)])) rfl).trans (z_R_call hK rfl rfl rfl rfl rfl)
theorem q_isq_31  (m : z_M) (x1 : Int) (x2 : Int) (x3 : Int) (x4 : Int) (x5 : Int) (x6 : Int) (x7 : Int) (u : Int) : z_R 234 (m, 31, [(2, 251), (0, x1), (0, x2), (0, x3), (0, x4), (0, x5), (0, x6), (0, x7), (9, 0)], [(0, u)]) = if u = x1 then (z_R 236 (m, 0, [(2, 251), (0, x4), (0, x7)], [])).bind fun qq => z_R 234 (qq.1, 50, [(2, 251), (0, x1), (0, x2), (0, x3), (0, x4), (0, x5), (0, x6), (0, x7), (0, 1)], qq.2.toList ++ []) else (z_R 236 (m, 0, [(2, 251), (0, x4), (0, x7)], [])).bind fun qq => z_R 234 (qq.1, 50, [(2, 251), (0, x1), (0, x2), (0, x3), (0, x4), (0, x5), (0, x6), (0, x7), (0, 0)], qq.2.toList ++ []) :=
  have hK : kt_at 234 = kt_234 := rfl
  (z_R_run hK (n := 1) (g' := (m, 32, [(2, 251), (0, x1), (0, x2), (0, x3), (0, x4), (0, x5), (0, x6), (0, x7), (9, 0)], [(0, x1), (0, u)])) rfl).trans (z_R_ifnd hK (c := u = x1) (p1 := 39) (p2 := 35) rfl rfl rfl (fun h1 => (z_R_run hK (n := 5) (g' := (m, 47, [(2, 251), (0, x1), (0, x2), (0, x3), (0, x4), (0, x5), (0, x6), (0, x7), (0, 0)], [(0, x7), (0, x4), (2, 251)])) rfl).trans (z_R_call hK rfl rfl rfl rfl rfl)) (fun h1 => (z_R_run hK (n := 6) (g' := (m, 47, [(2, 251), (0, x1), (0, x2), (0, x3), (0, x4), (0, x5), (0, x6), (0, x7), (0, 1)], [(0, x7), (0, x4), (2, 251)])) rfl).trans (z_R_call hK rfl rfl rfl rfl rfl)))
theorem q_isq_50  (m : z_M) (x1 : Int) (x2 : Int) (x3 : Int) (x4 : Int) (x5 : Int) (x6 : Int) (x7 : Int) (x8 : Int) : z_R 234 (m, 50, [(2, 251), (0, x1), (0, x2), (0, x3), (0, x4), (0, x5), (0, x6), (0, x7), (0, x8)], []) = (z_R 236 (m, 0, [(2, 251), (0, x3), (0, x6)], [])).bind fun qq => z_R 234 (qq.1, 57, [(2, 251), (0, x1), (0, x2), (0, x3), (0, x4), (0, x5), (0, x6), (0, x7), (0, x8)], qq.2.toList ++ []) :=
  have hK : kt_at 234 = kt_234 := rfl
  (z_R_run hK (n := 3) (g' := (m, 54, [(2, 251), (0, x1), (0, x2), (0, x3), (0, x4), (0, x5), (0, x6), (0, x7), (0, x8)], [(0, x6), (0, x3), (2, 251)])) rfl).trans (z_R_call hK rfl rfl rfl rfl rfl)
theorem q_isq_57  (m : z_M) (x1 : Int) (x2 : Int) (x3 : Int) (x4 : Int) (x5 : Int) (x6 : Int) (x7 : Int) (x8 : Int) : z_R 234 (m, 57, [(2, 251), (0, x1), (0, x2), (0, x3), (0, x4), (0, x5), (0, x6), (0, x7), (0, x8)], []) = (z_R 236 (m, 0, [(2, 251), (0, x2), (0, x5)], [])).bind fun qq => z_R 234 (qq.1, 64, [(2, 251), (0, x1), (0, x2), (0, x3), (0, x4), (0, x5), (0, x6), (0, x7), (0, x8)], qq.2.toList ++ []) :=
  have hK : kt_at 234 = kt_234 := rfl
  (z_R_run hK (n := 3) (g' := (m, 61, [(2, 251), (0, x1), (0, x2), (0, x3), (0, x4), (0, x5), (0, x6), (0, x7), (0, x8)], [(0, x5), (0, x2), (2, 251)])) rfl).trans (z_R_call hK rfl rfl rfl rfl rfl)
theorem q_isq_64  (m : z_M) (x1 : Int) (x2 : Int) (x3 : Int) (x4 : Int) (x5 : Int) (x6 : Int) (x7 : Int) (x8 : Int) : z_R 234 (m, 64, [(2, 251), (0, x1), (0, x2), (0, x3), (0, x4), (0, x5), (0, x6), (0, x7), (0, x8)], []) = some (m, some (0, x8)) :=
  have hK : kt_at 234 = kt_234 := rfl
  (z_R_run hK (n := 1) (g' := (m, 66, [(2, 251), (0, x1), (0, x2), (0, x3), (0, x4), (0, x5), (0, x6), (0, x7), (0, x8)], [(0, x8)])) rfl).trans (z_R_ret hK rfl rfl rfl)
theorem q_lo_0  (m : z_M) (a : Int) : z_R 235 (m, 0, [(2, 251), (0, a), (9, 0)], []) = if a = (-1) then some (m, some (0, 0)) else if 0 ≤ a ∧ a < 30 then some (z_up m 253 (a).toNat 0, some (0, m 253 (a).toNat)) else none :=
  have hK : kt_at 235 = kt_235 := rfl
  (z_R_run hK (n := 2) (g' := (m, 2, [(2, 251), (0, a), (9, 0)], [(0, (-1)), (0, a)])) rfl).trans (z_R_ifnd hK (c := a = (-1)) (p1 := 7) (p2 := 5) rfl rfl rfl (fun h1 => (z_R_run hK (n := 2) (g' := (m, 11, [(2, 251), (0, a), (9, 0)], [(2, 253)])) rfl).trans ((z_R_run hK (n := 1) (g' := (m, 12, [(2, 251), (0, a), (9, 0)], [(0, a), (2, 253)])) rfl).trans (z_R_ixD hK (n := 30) (g' := (m, 13, [(2, 251), (0, a), (9, 0)], [(0, m 253 (a).toNat)])) rfl rfl rfl  (fun h2 => (z_R_run hK (n := 3) (g' := (m, 18, [(2, 251), (0, a), (0, m 253 (a).toNat)], [(2, 253)])) rfl).trans ((z_R_run hK (n := 2) (g' := (m, 20, [(2, 251), (0, a), (0, m 253 (a).toNat)], [(0, 0), (0, a), (2, 253)])) rfl).trans (z_R_ixT hK (n := 30) (g' := (z_up m 253 (a).toNat 0, 21, [(2, 251), (0, a), (0, m 253 (a).toNat)], [])) rfl rfl rfl (show 0 ≤ a ∧ a < 30 by omega) ((z_R_run hK (n := 1) (g' := (z_up m 253 (a).toNat 0, 22, [(2, 251), (0, a), (0, m 253 (a).toNat)], [(0, m 253 (a).toNat)])) rfl).trans (z_R_ret hK rfl rfl rfl)))))))) (fun h1 => (z_R_run hK (n := 1) (g' := (m, 6, [(2, 251), (0, a), (9, 0)], [(0, 0)])) rfl).trans (z_R_ret hK rfl rfl rfl)))
theorem q_tu_0  (m : z_M) (a : Int) (b : Int) : z_R 236 (m, 0, [(2, 251), (0, a), (0, b)], []) = if a = (-1) then some (m, none) else if 0 ≤ a ∧ a < 30 then some (z_up m 253 (a).toNat b, none) else none :=
  have hK : kt_at 236 = kt_236 := rfl
  (z_R_run hK (n := 2) (g' := (m, 2, [(2, 251), (0, a), (0, b)], [(0, (-1)), (0, a)])) rfl).trans (z_R_ifd hK (c := a = (-1)) (p1 := 12) (p2 := 5) rfl rfl rfl (fun h1 => z_R_ret hK rfl rfl rfl) (fun h1 => (z_R_run hK (n := 2) (g' := (m, 9, [(2, 251), (0, a), (0, b)], [(2, 253)])) rfl).trans ((z_R_run hK (n := 2) (g' := (m, 11, [(2, 251), (0, a), (0, b)], [(0, b), (0, a), (2, 253)])) rfl).trans (z_R_ixD hK (n := 30) (g' := (z_up m 253 (a).toNat b, 12, [(2, 251), (0, a), (0, b)], [])) rfl rfl rfl (fun h2 => z_R_ret hK rfl rfl rfl)))))
theorem q_tq_0  (m : z_M) (n : Int) (a : Int) (b : Int) (d : Int) (h_n : 0 ≤ n ∧ n ≤ 3) : z_R 237 (m, 0, [(2, 251), (0, n), (0, a), (0, b), (0, d)], []) = if n ≤ 0 then some (z_up m 251 10 0, some (0, n)) else (z_R 210 (z_up m 251 10 0, 0, [(2, 251), (1, z_i2l a), (9, 0)], [])).bind fun qq => z_R 237 (qq.1, 15, [(2, 251), (0, n), (0, a), (0, b), (0, d)], qq.2.toList ++ []) :=
  have hK : kt_at 237 = kt_237 := rfl
  (z_R_run hK (n := 4) (g' := (z_up m 251 10 0, 6, [(2, 251), (0, n), (0, a), (0, b), (0, d)], [(0, n)])) rfl).trans (z_R_ifd hK (c := n ≤ 0) (p1 := 15) (p2 := 9) rfl rfl rfl (fun h1 => (z_R_run hK (n := 2) (g' := (z_up m 251 10 0, 17, [(2, 251), (0, n), (0, a), (0, b), (0, d)], [(0, 1), (0, n)])) rfl).trans (z_R_if1 hK (c := n ≤ 1) (p1 := 26) (p2 := 20) rfl rfl rfl (show n ≤ 1 by omega) ((z_R_run hK (n := 2) (g' := (z_up m 251 10 0, 28, [(2, 251), (0, n), (0, a), (0, b), (0, d)], [(0, 2), (0, n)])) rfl).trans (z_R_if1 hK (c := n ≤ 2) (p1 := 38) (p2 := 31) rfl rfl rfl (show n ≤ 2 by omega) ((z_R_run hK (n := 1) (g' := (z_up m 251 10 0, 39, [(2, 251), (0, n), (0, a), (0, b), (0, d)], [(0, n)])) rfl).trans (z_R_ret hK rfl rfl rfl)))))) (fun h1 => (z_R_run hK (n := 3) (g' := (z_up m 251 10 0, 12, [(2, 251), (0, n), (0, a), (0, b), (0, d)], [(1, z_i2l a), (2, 251)])) rfl).trans (z_R_call hK rfl rfl rfl rfl rfl)))
theorem q_tq_15  (m : z_M) (x1 : Int) (x2 : Int) (x3 : Int) (x4 : Int) : z_R 237 (m, 15, [(2, 251), (0, x1), (0, x2), (0, x3), (0, x4)], []) = if x1 ≤ 1 then some (m, some (0, x1)) else (z_R 210 (m, 0, [(2, 251), (1, z_i2l x3), (9, 0)], [])).bind fun qq => z_R 237 (qq.1, 26, [(2, 251), (0, x1), (0, x2), (0, x3), (0, x4)], qq.2.toList ++ []) :=
  have hK : kt_at 237 = kt_237 := rfl
  (z_R_run hK (n := 2) (g' := (m, 17, [(2, 251), (0, x1), (0, x2), (0, x3), (0, x4)], [(0, 1), (0, x1)])) rfl).trans (z_R_ifd hK (c := x1 ≤ 1) (p1 := 26) (p2 := 20) rfl rfl rfl (fun h1 => (z_R_run hK (n := 2) (g' := (m, 28, [(2, 251), (0, x1), (0, x2), (0, x3), (0, x4)], [(0, 2), (0, x1)])) rfl).trans (z_R_if1 hK (c := x1 ≤ 2) (p1 := 38) (p2 := 31) rfl rfl rfl (show x1 ≤ 2 by omega) ((z_R_run hK (n := 1) (g' := (m, 39, [(2, 251), (0, x1), (0, x2), (0, x3), (0, x4)], [(0, x1)])) rfl).trans (z_R_ret hK rfl rfl rfl)))) (fun h1 => (z_R_run hK (n := 3) (g' := (m, 23, [(2, 251), (0, x1), (0, x2), (0, x3), (0, x4)], [(1, z_i2l x3), (2, 251)])) rfl).trans (z_R_call hK rfl rfl rfl rfl rfl)))
theorem q_tq_26  (m : z_M) (x1 : Int) (x2 : Int) (x3 : Int) (x4 : Int) : z_R 237 (m, 26, [(2, 251), (0, x1), (0, x2), (0, x3), (0, x4)], []) = if x1 ≤ 2 then some (m, some (0, x1)) else (z_R 210 (m, 0, [(2, 251), (1, z_i2l x4), (9, 0)], [])).bind fun qq => z_R 237 (qq.1, 38, [(2, 251), (0, x1), (0, x2), (0, x3), (0, x4)], qq.2.toList ++ []) :=
  have hK : kt_at 237 = kt_237 := rfl
  (z_R_run hK (n := 2) (g' := (m, 28, [(2, 251), (0, x1), (0, x2), (0, x3), (0, x4)], [(0, 2), (0, x1)])) rfl).trans (z_R_ifd hK (c := x1 ≤ 2) (p1 := 38) (p2 := 31) rfl rfl rfl (fun h1 => (z_R_run hK (n := 1) (g' := (m, 39, [(2, 251), (0, x1), (0, x2), (0, x3), (0, x4)], [(0, x1)])) rfl).trans (z_R_ret hK rfl rfl rfl)) (fun h1 => (z_R_run hK (n := 3) (g' := (m, 35, [(2, 251), (0, x1), (0, x2), (0, x3), (0, x4)], [(1, z_i2l x4), (2, 251)])) rfl).trans (z_R_call hK rfl rfl rfl rfl rfl)))
theorem q_tq_38  (m : z_M) (x1 : Int) (x2 : Int) (x3 : Int) (x4 : Int) : z_R 237 (m, 38, [(2, 251), (0, x1), (0, x2), (0, x3), (0, x4)], []) = some (m, some (0, x1)) :=
  have hK : kt_at 237 = kt_237 := rfl
  (z_R_run hK (n := 1) (g' := (m, 39, [(2, 251), (0, x1), (0, x2), (0, x3), (0, x4)], [(0, x1)])) rfl).trans (z_R_ret hK rfl rfl rfl)
theorem q_has_0  (m : z_M) (a : Int) (b : Int) : z_R 185 (m, 0, [(0, a), (0, b)], []) = if z_and (z_shr a b) 1 = 1 then some (m, some (0, 1)) else some (m, some (0, 0)) :=
  have hK : kt_at 185 = kt_185 := rfl
  (z_R_run hK (n := 6) (g' := (m, 6, [(0, a), (0, b)], [(0, 1), (0, z_and (z_shr a b) 1)])) rfl).trans (z_R_ifnd hK (c := z_and (z_shr a b) 1 = 1) (p1 := 13) (p2 := 9) rfl rfl rfl (fun h1 => (z_R_run hK (n := 1) (g' := (m, 14, [(0, a), (0, b)], [(0, 0)])) rfl).trans (z_R_ret hK rfl rfl rfl)) (fun h1 => (z_R_run hK (n := 2) (g' := (m, 14, [(0, a), (0, b)], [(0, 1)])) rfl).trans (z_R_ret hK rfl rfl rfl)))
theorem q_tse_0  (m : z_M) (s : Int) (n : Int) : z_R 257 (m, 0, [(2, 251), (0, s), (0, n), (9, 0), (9, 0), (9, 0), (9, 0)], []) = if 1 ≤ n ∧ n ≤ 60 then (z_R 219 (z_up m 251 11 0, 0, [(2, 251)], [])).bind fun qq => z_R 257 (qq.1, 23, [(2, 251), (0, s), (0, n), (0, s), (9, 0), (9, 0), (9, 0)], qq.2.toList ++ []) else some (z_up m 251 11 0, some (0, (-1))) :=
  have hK : kt_at 257 = kt_257 := rfl
  (z_R_run hK (n := 6) (g' := (z_up m 251 11 0, 9, [(2, 251), (0, s), (0, n), (9, 0), (9, 0), (9, 0), (9, 0)], [(0, 60), (0, 1), (0, n)])) rfl).trans (z_R_cif hK rfl rfl rfl rfl rfl (t_ifin _ _ _ _) (fun h1 => (z_R_run hK (n := 4) (g' := (z_up m 251 11 0, 20, [(2, 251), (0, s), (0, n), (0, s), (9, 0), (9, 0), (9, 0)], [(2, 251)])) rfl).trans (z_R_call hK rfl rfl rfl rfl rfl)) (fun h1 => (z_R_run hK (n := 2) (g' := (z_up m 251 11 0, 16, [(2, 251), (0, s), (0, n), (9, 0), (9, 0), (9, 0), (9, 0)], [(0, (-1))])) rfl).trans (z_R_ret hK rfl rfl rfl)))
theorem q_tse_23  (m : z_M) (x1 : Int) (x2 : Int) (x3 : Int) : z_R 257 (m, 23, [(2, 251), (0, x1), (0, x2), (0, x3), (9, 0), (9, 0), (9, 0)], []) = z_R 257 (z_up (z_up (z_up (z_up m 251 32 0) 251 33 0) 251 34 0) 251 35 0, 30, [(2, 251), (0, x1), (0, x2), (0, x3), (0, 0), (9, 0), (9, 0)], []) :=
  have hK : kt_at 257 = kt_257 := rfl
  (z_R_run hK (n := 1) (g' := (m, 24, [(2, 251), (0, x1), (0, x2), (0, x3), (9, 0), (9, 0), (9, 0)], [(2, 251)])) rfl).trans (z_R_cs hK rfl rfl rfl rfl rfl (t_bh_0 _) ((z_R_run hK (n := 2) (g' := (z_up (z_up (z_up (z_up m 251 32 0) 251 33 0) 251 34 0) 251 35 0, 30, [(2, 251), (0, x1), (0, x2), (0, x3), (0, 0), (9, 0), (9, 0)], [])) rfl).trans (rfl)))
theorem q_tse_30  (m : z_M) (x1 : Int) (x2 : Int) (x3 : Int) (x4 : Int) : z_R 257 (m, 30, [(2, 251), (0, x1), (0, x2), (0, x3), (0, x4), (9, 0), (9, 0)], []) = if 9 ≤ x4 then z_R 257 (m, 54, [(2, 251), (0, x1), (0, x2), (0, x3), (0, 0), (9, 0), (9, 0)], []) else if 0 ≤ x4 ∧ x4 < 9 then z_R 257 (z_up m 274 (x4).toNat 0, 30, [(2, 251), (0, x1), (0, x2), (0, x3), (0, x4 + 1), (9, 0), (9, 0)], []) else none :=
  have hK : kt_at 257 = kt_257 := rfl
  (z_R_run hK (n := 2) (g' := (m, 34, [(2, 251), (0, x1), (0, x2), (0, x3), (0, x4), (9, 0), (9, 0)], [(0, 9), (0, x4)])) rfl).trans (z_R_ifd hK (c := 9 ≤ x4) (p1 := 51) (p2 := 37) rfl rfl rfl (fun h1 => (z_R_run hK (n := 2) (g' := (m, 54, [(2, 251), (0, x1), (0, x2), (0, x3), (0, 0), (9, 0), (9, 0)], [])) rfl).trans (rfl)) (fun h1 => (z_R_run hK (n := 2) (g' := (m, 41, [(2, 251), (0, x1), (0, x2), (0, x3), (0, x4), (9, 0), (9, 0)], [(2, 274)])) rfl).trans ((z_R_run hK (n := 2) (g' := (m, 44, [(2, 251), (0, x1), (0, x2), (0, x3), (0, x4), (9, 0), (9, 0)], [(0, 0), (0, x4), (2, 274)])) rfl).trans (z_R_ixD hK (n := 9) (g' := (z_up m 274 (x4).toNat 0, 45, [(2, 251), (0, x1), (0, x2), (0, x3), (0, x4), (9, 0), (9, 0)], [])) rfl rfl rfl (fun h2 => (z_R_run hK (n := 1) (g' := (z_up m 274 (x4).toNat 0, 48, [(2, 251), (0, x1), (0, x2), (0, x3), (0, z_add x4 1), (9, 0), (9, 0)], [])) rfl).trans ((congrArg (fun vv => z_R 257 (z_up m 274 (x4).toNat 0, 48, [(2, 251), (0, x1), (0, x2), (0, x3), (0, vv), (9, 0), (9, 0)], [])) (z_add_eq (by omega) (by omega))).trans ((z_R_run hK (n := 1) (g' := (z_up m 274 (x4).toNat 0, 30, [(2, 251), (0, x1), (0, x2), (0, x3), (0, x4 + 1), (9, 0), (9, 0)], [])) rfl).trans (rfl))))))))
theorem q_tse_54  (m : z_M) (x1 : Int) (x2 : Int) (x3 : Int) (x4 : Int) (v5 : z_V) (v6 : z_V) : z_R 257 (m, 54, [(2, 251), (0, x1), (0, x2), (0, x3), (0, x4), v5, v6], []) = if x2 ≤ x4 then z_R 257 (z_up m 251 23 (-1), 195, [(2, 251), (0, x1), (0, x2), (0, x3), (0, 0), (0, 1), v6], []) else if z_add (m 251 3) 3 = 0 then none else if m 251 3 ≤ z_rem (z_ush (z_add (z_mul (z_add (z_mul x3 1103515245) 12345) 1103515245) 12345) 16) (z_add (m 251 3) 3) then (z_R 207 (z_up (z_up m 264 36 (z_rem (z_ush (z_add (z_mul x3 1103515245) 12345) 16) 10)) 251 23 (-1), 0, [(2, 251), (2, 264), (0, 1), (9, 0)], [])).bind fun qq => z_R 257 (qq.1, 135, [(2, 251), (0, x1), (0, x2), (0, z_add (z_mul (z_add (z_mul x3 1103515245) 12345) 1103515245) 12345), (0, x4), (0, z_rem (z_ush (z_add (z_mul (z_add (z_mul x3 1103515245) 12345) 1103515245) 12345) 16) (z_add (m 251 3) 3)), v6], qq.2.toList ++ []) else (z_R 207 (z_up (z_up m 264 36 (z_rem (z_ush (z_add (z_mul x3 1103515245) 12345) 16) 10)) 251 23 (z_rem (z_ush (z_add (z_mul (z_add (z_mul x3 1103515245) 12345) 1103515245) 12345) 16) (z_add (m 251 3) 3)), 0, [(2, 251), (2, 264), (0, 1), (9, 0)], [])).bind fun qq => z_R 257 (qq.1, 135, [(2, 251), (0, x1), (0, x2), (0, z_add (z_mul (z_add (z_mul x3 1103515245) 12345) 1103515245) 12345), (0, x4), (0, z_rem (z_ush (z_add (z_mul (z_add (z_mul x3 1103515245) 12345) 1103515245) 12345) 16) (z_add (m 251 3) 3)), v6], qq.2.toList ++ []) :=
  have hK : kt_at 257 = kt_257 := rfl
  (z_R_run hK (n := 2) (g' := (m, 57, [(2, 251), (0, x1), (0, x2), (0, x3), (0, x4), v5, v6], [(0, x2), (0, x4)])) rfl).trans (z_R_ifd hK (c := x2 ≤ x4) (p1 := 184) (p2 := 60) rfl rfl rfl (fun h1 => (z_R_run hK (n := 7) (g' := (z_up m 251 23 (-1), 195, [(2, 251), (0, x1), (0, x2), (0, x3), (0, 0), (0, 1), v6], [])) rfl).trans (rfl)) (fun h1 => (z_R_run hK (n := 8) (g' := (m, 74, [(2, 251), (0, x1), (0, x2), (0, z_add (z_mul x3 1103515245) 12345), (0, x4), v5, v6], [(2, 264)])) rfl).trans ((z_R_run hK (n := 12) (g' := (z_up m 264 36 (z_rem (z_ush (z_add (z_mul x3 1103515245) 12345) 16) 10), 93, [(2, 251), (0, x1), (0, x2), (0, z_add (z_mul x3 1103515245) 12345), (0, x4), v5, v6], [(0, z_add (z_mul (z_add (z_mul x3 1103515245) 12345) 1103515245) 12345)])) rfl).trans ((z_R_run hK (n := 6) (g' := (z_up m 264 36 (z_rem (z_ush (z_add (z_mul x3 1103515245) 12345) 16) 10), 102, [(2, 251), (0, x1), (0, x2), (0, z_add (z_mul (z_add (z_mul x3 1103515245) 12345) 1103515245) 12345), (0, x4), v5, v6], [(0, (z_up m 264 36 (z_rem (z_ush (z_add (z_mul x3 1103515245) 12345) 16) 10)) 251 3), (0, z_ush (z_add (z_mul (z_add (z_mul x3 1103515245) 12345) 1103515245) 12345) 16)])) rfl).trans ((congrArg (fun vv => z_R 257 (z_up m 264 36 (z_rem (z_ush (z_add (z_mul x3 1103515245) 12345) 16) 10), 102, [(2, 251), (0, x1), (0, x2), (0, z_add (z_mul (z_add (z_mul x3 1103515245) 12345) 1103515245) 12345), (0, x4), v5, v6], [(0, vv), (0, z_ush (z_add (z_mul (z_add (z_mul x3 1103515245) 12345) 1103515245) 12345) 16)])) (zu_p (by decide))).trans ((z_R_run hK (n := 2) (g' := (z_up m 264 36 (z_rem (z_ush (z_add (z_mul x3 1103515245) 12345) 16) 10), 104, [(2, 251), (0, x1), (0, x2), (0, z_add (z_mul (z_add (z_mul x3 1103515245) 12345) 1103515245) 12345), (0, x4), v5, v6], [(0, z_add (m 251 3) 3), (0, z_ush (z_add (z_mul (z_add (z_mul x3 1103515245) 12345) 1103515245) 12345) 16)])) rfl).trans (z_R_dvD hK (d := z_add (m 251 3) 3) rfl rfl rfl (fun h2 => (z_R_run hK (n := 5) (g' := (z_up m 264 36 (z_rem (z_ush (z_add (z_mul x3 1103515245) 12345) 16) 10), 114, [(2, 251), (0, x1), (0, x2), (0, z_add (z_mul (z_add (z_mul x3 1103515245) 12345) 1103515245) 12345), (0, x4), (0, z_rem (z_ush (z_add (z_mul (z_add (z_mul x3 1103515245) 12345) 1103515245) 12345) 16) (z_add (m 251 3) 3)), v6], [(0, (z_up m 264 36 (z_rem (z_ush (z_add (z_mul x3 1103515245) 12345) 16) 10)) 251 3), (0, z_rem (z_ush (z_add (z_mul (z_add (z_mul x3 1103515245) 12345) 1103515245) 12345) 16) (z_add (m 251 3) 3)), (2, 251)])) rfl).trans ((congrArg (fun vv => z_R 257 (z_up m 264 36 (z_rem (z_ush (z_add (z_mul x3 1103515245) 12345) 16) 10), 114, [(2, 251), (0, x1), (0, x2), (0, z_add (z_mul (z_add (z_mul x3 1103515245) 12345) 1103515245) 12345), (0, x4), (0, z_rem (z_ush (z_add (z_mul (z_add (z_mul x3 1103515245) 12345) 1103515245) 12345) 16) (z_add (m 251 3) 3)), v6], [(0, vv), (0, z_rem (z_ush (z_add (z_mul (z_add (z_mul x3 1103515245) 12345) 1103515245) 12345) 16) (z_add (m 251 3) 3)), (2, 251)])) (zu_p (by decide))).trans (z_R_ifd hK (c := m 251 3 ≤ z_rem (z_ush (z_add (z_mul (z_add (z_mul x3 1103515245) 12345) 1103515245) 12345) 16) (z_add (m 251 3) 3)) (p1 := 122) (p2 := 117) rfl rfl rfl (fun h3 => (z_R_run hK (n := 5) (g' := (z_up (z_up m 264 36 (z_rem (z_ush (z_add (z_mul x3 1103515245) 12345) 16) 10)) 251 23 (-1), 131, [(2, 251), (0, x1), (0, x2), (0, z_add (z_mul (z_add (z_mul x3 1103515245) 12345) 1103515245) 12345), (0, x4), (0, z_rem (z_ush (z_add (z_mul (z_add (z_mul x3 1103515245) 12345) 1103515245) 12345) 16) (z_add (m 251 3) 3)), v6], [(2, 264), (2, 251)])) rfl).trans ((z_R_run hK (n := 1) (g' := (z_up (z_up m 264 36 (z_rem (z_ush (z_add (z_mul x3 1103515245) 12345) 16) 10)) 251 23 (-1), 132, [(2, 251), (0, x1), (0, x2), (0, z_add (z_mul (z_add (z_mul x3 1103515245) 12345) 1103515245) 12345), (0, x4), (0, z_rem (z_ush (z_add (z_mul (z_add (z_mul x3 1103515245) 12345) 1103515245) 12345) 16) (z_add (m 251 3) 3)), v6], [(0, 1), (2, 264), (2, 251)])) rfl).trans (z_R_call hK rfl rfl rfl rfl rfl))) (fun h3 => (z_R_run hK (n := 6) (g' := (z_up (z_up m 264 36 (z_rem (z_ush (z_add (z_mul x3 1103515245) 12345) 16) 10)) 251 23 (z_rem (z_ush (z_add (z_mul (z_add (z_mul x3 1103515245) 12345) 1103515245) 12345) 16) (z_add (m 251 3) 3)), 131, [(2, 251), (0, x1), (0, x2), (0, z_add (z_mul (z_add (z_mul x3 1103515245) 12345) 1103515245) 12345), (0, x4), (0, z_rem (z_ush (z_add (z_mul (z_add (z_mul x3 1103515245) 12345) 1103515245) 12345) 16) (z_add (m 251 3) 3)), v6], [(2, 264), (2, 251)])) rfl).trans ((z_R_run hK (n := 1) (g' := (z_up (z_up m 264 36 (z_rem (z_ush (z_add (z_mul x3 1103515245) 12345) 16) 10)) 251 23 (z_rem (z_ush (z_add (z_mul (z_add (z_mul x3 1103515245) 12345) 1103515245) 12345) 16) (z_add (m 251 3) 3)), 132, [(2, 251), (0, x1), (0, x2), (0, z_add (z_mul (z_add (z_mul x3 1103515245) 12345) 1103515245) 12345), (0, x4), (0, z_rem (z_ush (z_add (z_mul (z_add (z_mul x3 1103515245) 12345) 1103515245) 12345) 16) (z_add (m 251 3) 3)), v6], [(0, 1), (2, 264), (2, 251)])) rfl).trans (z_R_call hK rfl rfl rfl rfl rfl)))))))))))))
theorem q_tse_135  (m : z_M) (x1 : Int) (x2 : Int) (x3 : Int) (x4 : Int) (x5 : Int) (v6 : z_V) : z_R 257 (m, 135, [(2, 251), (0, x1), (0, x2), (0, x3), (0, x4), (0, x5), v6], []) = z_R 257 (m, 138, [(2, 251), (0, x1), (0, x2), (0, x3), (0, x4), (0, x5), (0, 0)], []) :=
  have hK : kt_at 257 = kt_257 := rfl
  (z_R_run hK (n := 2) (g' := (m, 138, [(2, 251), (0, x1), (0, x2), (0, x3), (0, x4), (0, x5), (0, 0)], [])) rfl).trans (rfl)
theorem q_tse_138  (m : z_M) (x1 : Int) (x2 : Int) (x3 : Int) (x4 : Int) (x5 : Int) (x6 : Int) : z_R 257 (m, 138, [(2, 251), (0, x1), (0, x2), (0, x3), (0, x4), (0, x5), (0, x6)], []) = if 9 ≤ x6 then z_R 257 (m, 54, [(2, 251), (0, x1), (0, x2), (0, x3), (0, z_add x4 1), (0, x5), (0, x6)], []) else if 0 ≤ x6 ∧ x6 < 9 then (z_R 185 (m, 0, [(0, m 251 29), (0, x6)], [])).bind fun qq => z_R 257 (qq.1, 162, [(2, 251), (0, x1), (0, x2), (0, x3), (0, x4), (0, x5), (0, x6)], qq.2.toList ++ [(0, m 274 (x6).toNat), (0, x6), (2, 274)]) else none :=
  have hK : kt_at 257 = kt_257 := rfl
  (z_R_run hK (n := 2) (g' := (m, 142, [(2, 251), (0, x1), (0, x2), (0, x3), (0, x4), (0, x5), (0, x6)], [(0, 9), (0, x6)])) rfl).trans (z_R_ifd hK (c := 9 ≤ x6) (p1 := 178) (p2 := 145) rfl rfl rfl (fun h1 => (z_R_run hK (n := 2) (g' := (m, 54, [(2, 251), (0, x1), (0, x2), (0, x3), (0, z_add x4 1), (0, x5), (0, x6)], [])) rfl).trans (rfl)) (fun h1 => (z_R_run hK (n := 2) (g' := (m, 149, [(2, 251), (0, x1), (0, x2), (0, x3), (0, x4), (0, x5), (0, x6)], [(2, 274)])) rfl).trans ((z_R_run hK (n := 2) (g' := (m, 152, [(2, 251), (0, x1), (0, x2), (0, x3), (0, x4), (0, x5), (0, x6)], [(0, x6), (2, 274), (0, x6), (2, 274)])) rfl).trans (z_R_ixD hK (n := 9) (g' := (m, 153, [(2, 251), (0, x1), (0, x2), (0, x3), (0, x4), (0, x5), (0, x6)], [(0, m 274 (x6).toNat), (0, x6), (2, 274)])) rfl rfl rfl  (fun h2 => (z_R_run hK (n := 3) (g' := (m, 159, [(2, 251), (0, x1), (0, x2), (0, x3), (0, x4), (0, x5), (0, x6)], [(0, x6), (0, m 251 29), (0, m 274 (x6).toNat), (0, x6), (2, 274)])) rfl).trans (z_R_call hK rfl rfl rfl rfl rfl))))))
theorem q_tse_162  (m : z_M) (x1 : Int) (x2 : Int) (x3 : Int) (x4 : Int) (x5 : Int) (x6 : Int) (s0 : Int) (s1 : Int) (u : Int) : z_R 257 (m, 162, [(2, 251), (0, x1), (0, x2), (0, x3), (0, x4), (0, x5), (0, x6)], [(0, u), (0, s0), (0, s1), (2, 274)]) = if u = 0 then if 0 ≤ s1 ∧ s1 < 9 then z_R 257 (z_up m 274 (s1).toNat (z_add s0 0), 138, [(2, 251), (0, x1), (0, x2), (0, x3), (0, x4), (0, x5), (0, z_add x6 1)], []) else none else if 0 ≤ s1 ∧ s1 < 9 then z_R 257 (z_up m 274 (s1).toNat (z_add s0 1), 138, [(2, 251), (0, x1), (0, x2), (0, x3), (0, x4), (0, x5), (0, z_add x6 1)], []) else none :=
  have hK : kt_at 257 = kt_257 := rfl
  z_R_ifd hK (c := u = 0) (p1 := 169) (p2 := 165) rfl rfl rfl (fun h1 => (z_R_run hK (n := 2) (g' := (m, 171, [(2, 251), (0, x1), (0, x2), (0, x3), (0, x4), (0, x5), (0, x6)], [(0, z_add s0 0), (0, s1), (2, 274)])) rfl).trans (z_R_ixD hK (n := 9) (g' := (z_up m 274 (s1).toNat (z_add s0 0), 172, [(2, 251), (0, x1), (0, x2), (0, x3), (0, x4), (0, x5), (0, x6)], [])) rfl rfl rfl (fun h2 => (z_R_run hK (n := 2) (g' := (z_up m 274 (s1).toNat (z_add s0 0), 138, [(2, 251), (0, x1), (0, x2), (0, x3), (0, x4), (0, x5), (0, z_add x6 1)], [])) rfl).trans (rfl)))) (fun h1 => (z_R_run hK (n := 3) (g' := (m, 171, [(2, 251), (0, x1), (0, x2), (0, x3), (0, x4), (0, x5), (0, x6)], [(0, z_add s0 1), (0, s1), (2, 274)])) rfl).trans (z_R_ixD hK (n := 9) (g' := (z_up m 274 (s1).toNat (z_add s0 1), 172, [(2, 251), (0, x1), (0, x2), (0, x3), (0, x4), (0, x5), (0, x6)], [])) rfl rfl rfl (fun h3 => (z_R_run hK (n := 2) (g' := (z_up m 274 (s1).toNat (z_add s0 1), 138, [(2, 251), (0, x1), (0, x2), (0, x3), (0, x4), (0, x5), (0, z_add x6 1)], [])) rfl).trans (rfl))))
theorem q_tse_195  (m : z_M) (x1 : Int) (x2 : Int) (x3 : Int) (x4 : Int) (x5 : Int) (v6 : z_V) : z_R 257 (m, 195, [(2, 251), (0, x1), (0, x2), (0, x3), (0, x4), (0, x5), v6], []) = if 9 ≤ x5 then (z_R 210 (z_up m 251 10 0, 0, [(2, 251), (1, z_i2l (m 251 32)), (9, 0)], [])).bind fun qq => z_R 257 (qq.1, 243, [(2, 251), (0, x1), (0, x2), (0, x3), (0, x4), (0, x5), v6], qq.2.toList ++ []) else if 0 ≤ x5 ∧ x5 < 9 then if 0 ≤ x4 ∧ x4 < 9 then if m 274 (x5).toNat ≤ m 274 (x4).toNat then z_R 257 (m, 195, [(2, 251), (0, x1), (0, x2), (0, x3), (0, x4), (0, x5 + 1), v6], []) else z_R 257 (m, 195, [(2, 251), (0, x1), (0, x2), (0, x3), (0, x5), (0, x5 + 1), v6], []) else none else none :=
  have hK : kt_at 257 = kt_257 := rfl
  (z_R_run hK (n := 2) (g' := (m, 199, [(2, 251), (0, x1), (0, x2), (0, x3), (0, x4), (0, x5), v6], [(0, 9), (0, x5)])) rfl).trans (z_R_ifd hK (c := 9 ≤ x5) (p1 := 229) (p2 := 202) rfl rfl rfl (fun h1 => (z_R_run hK (n := 6) (g' := (z_up m 251 10 0, 239, [(2, 251), (0, x1), (0, x2), (0, x3), (0, x4), (0, x5), v6], [(0, (z_up m 251 10 0) 251 32), (2, 251)])) rfl).trans ((congrArg (fun vv => z_R 257 (z_up m 251 10 0, 239, [(2, 251), (0, x1), (0, x2), (0, x3), (0, x4), (0, x5), v6], [(0, vv), (2, 251)])) (zu_k (by decide))).trans ((z_R_run hK (n := 1) (g' := (z_up m 251 10 0, 240, [(2, 251), (0, x1), (0, x2), (0, x3), (0, x4), (0, x5), v6], [(1, z_i2l (m 251 32)), (2, 251)])) rfl).trans (z_R_call hK rfl rfl rfl rfl rfl)))) (fun h1 => (z_R_run hK (n := 2) (g' := (m, 206, [(2, 251), (0, x1), (0, x2), (0, x3), (0, x4), (0, x5), v6], [(2, 274)])) rfl).trans ((z_R_run hK (n := 1) (g' := (m, 208, [(2, 251), (0, x1), (0, x2), (0, x3), (0, x4), (0, x5), v6], [(0, x5), (2, 274)])) rfl).trans (z_R_ixD hK (n := 9) (g' := (m, 209, [(2, 251), (0, x1), (0, x2), (0, x3), (0, x4), (0, x5), v6], [(0, m 274 (x5).toNat)])) rfl rfl rfl  (fun h2 => (z_R_run hK (n := 2) (g' := (m, 213, [(2, 251), (0, x1), (0, x2), (0, x3), (0, x4), (0, x5), v6], [(2, 274), (0, m 274 (x5).toNat)])) rfl).trans ((z_R_run hK (n := 1) (g' := (m, 215, [(2, 251), (0, x1), (0, x2), (0, x3), (0, x4), (0, x5), v6], [(0, x4), (2, 274), (0, m 274 (x5).toNat)])) rfl).trans (z_R_ixD hK (n := 9) (g' := (m, 216, [(2, 251), (0, x1), (0, x2), (0, x3), (0, x4), (0, x5), v6], [(0, m 274 (x4).toNat), (0, m 274 (x5).toNat)])) rfl rfl rfl  (fun h3 => z_R_ifd hK (c := m 274 (x5).toNat ≤ m 274 (x4).toNat) (p1 := 223) (p2 := 219) rfl rfl rfl (fun h4 => (z_R_run hK (n := 1) (g' := (m, 226, [(2, 251), (0, x1), (0, x2), (0, x3), (0, x4), (0, z_add x5 1), v6], [])) rfl).trans ((congrArg (fun vv => z_R 257 (m, 226, [(2, 251), (0, x1), (0, x2), (0, x3), (0, x4), (0, vv), v6], [])) (z_add_eq (by omega) (by omega))).trans ((z_R_run hK (n := 1) (g' := (m, 195, [(2, 251), (0, x1), (0, x2), (0, x3), (0, x4), (0, x5 + 1), v6], [])) rfl).trans (rfl)))) (fun h4 => (z_R_run hK (n := 3) (g' := (m, 226, [(2, 251), (0, x1), (0, x2), (0, x3), (0, x5), (0, z_add x5 1), v6], [])) rfl).trans ((congrArg (fun vv => z_R 257 (m, 226, [(2, 251), (0, x1), (0, x2), (0, x3), (0, x5), (0, vv), v6], [])) (z_add_eq (by omega) (by omega))).trans ((z_R_run hK (n := 1) (g' := (m, 195, [(2, 251), (0, x1), (0, x2), (0, x3), (0, x5), (0, x5 + 1), v6], [])) rfl).trans (rfl))))))))))))
theorem q_tse_243  (m : z_M) (x1 : Int) (x2 : Int) (x3 : Int) (x4 : Int) (x5 : Int) (v6 : z_V) : z_R 257 (m, 243, [(2, 251), (0, x1), (0, x2), (0, x3), (0, x4), (0, x5), v6], []) = if 0 ≤ x4 ∧ x4 < 9 then if m 274 (x4).toNat = 0 then (z_R 210 (m, 0, [(2, 251), (1, (-1)), (9, 0)], [])).bind fun qq => z_R 257 (qq.1, 266, [(2, 251), (0, x1), (0, x2), (0, x3), (0, x4), (0, x5), v6], qq.2.toList ++ []) else (z_R 210 (m, 0, [(2, 251), (1, z_i2l x4), (9, 0)], [])).bind fun qq => z_R 257 (qq.1, 266, [(2, 251), (0, x1), (0, x2), (0, x3), (0, x4), (0, x5), v6], qq.2.toList ++ []) else none :=
  have hK : kt_at 257 = kt_257 := rfl
  (z_R_run hK (n := 3) (g' := (m, 248, [(2, 251), (0, x1), (0, x2), (0, x3), (0, x4), (0, x5), v6], [(2, 274), (2, 251)])) rfl).trans ((z_R_run hK (n := 1) (g' := (m, 250, [(2, 251), (0, x1), (0, x2), (0, x3), (0, x4), (0, x5), v6], [(0, x4), (2, 274), (2, 251)])) rfl).trans (z_R_ixD hK (n := 9) (g' := (m, 251, [(2, 251), (0, x1), (0, x2), (0, x3), (0, x4), (0, x5), v6], [(0, m 274 (x4).toNat), (2, 251)])) rfl rfl rfl  (fun h1 => z_R_ifnd hK (c := m 274 (x4).toNat = 0) (p1 := 260) (p2 := 254) rfl rfl rfl (fun h2 => (z_R_run hK (n := 2) (g' := (m, 263, [(2, 251), (0, x1), (0, x2), (0, x3), (0, x4), (0, x5), v6], [(1, z_i2l x4), (2, 251)])) rfl).trans (z_R_call hK rfl rfl rfl rfl rfl)) (fun h2 => (z_R_run hK (n := 2) (g' := (m, 263, [(2, 251), (0, x1), (0, x2), (0, x3), (0, x4), (0, x5), v6], [(1, (-1)), (2, 251)])) rfl).trans (z_R_call hK rfl rfl rfl rfl rfl)))))
theorem q_tse_266  (m : z_M) (x1 : Int) (x2 : Int) (x3 : Int) (x4 : Int) (x5 : Int) (v6 : z_V) : z_R 257 (m, 266, [(2, 251), (0, x1), (0, x2), (0, x3), (0, x4), (0, x5), v6], []) = if 0 ≤ x4 ∧ x4 < 9 then (z_R 210 (m, 0, [(2, 251), (1, z_i2l (m 274 (x4).toNat)), (9, 0)], [])).bind fun qq => z_R 257 (qq.1, 278, [(2, 251), (0, x1), (0, x2), (0, x3), (0, x4), (0, x5), v6], qq.2.toList ++ []) else none :=
  have hK : kt_at 257 = kt_257 := rfl
  (z_R_run hK (n := 3) (g' := (m, 271, [(2, 251), (0, x1), (0, x2), (0, x3), (0, x4), (0, x5), v6], [(2, 274), (2, 251)])) rfl).trans ((z_R_run hK (n := 1) (g' := (m, 273, [(2, 251), (0, x1), (0, x2), (0, x3), (0, x4), (0, x5), v6], [(0, x4), (2, 274), (2, 251)])) rfl).trans (z_R_ixD hK (n := 9) (g' := (m, 274, [(2, 251), (0, x1), (0, x2), (0, x3), (0, x4), (0, x5), v6], [(0, m 274 (x4).toNat), (2, 251)])) rfl rfl rfl  (fun h1 => (z_R_run hK (n := 1) (g' := (m, 275, [(2, 251), (0, x1), (0, x2), (0, x3), (0, x4), (0, x5), v6], [(1, z_i2l (m 274 (x4).toNat)), (2, 251)])) rfl).trans (z_R_call hK rfl rfl rfl rfl rfl))))
theorem q_tse_278  (m : z_M) (x1 : Int) (x2 : Int) (x3 : Int) (x4 : Int) (x5 : Int) (v6 : z_V) : z_R 257 (m, 278, [(2, 251), (0, x1), (0, x2), (0, x3), (0, x4), (0, x5), v6], []) = some (m, some (0, m 251 35)) :=
  have hK : kt_at 257 = kt_257 := rfl
  (z_R_run hK (n := 2) (g' := (m, 282, [(2, 251), (0, x1), (0, x2), (0, x3), (0, x4), (0, x5), v6], [(0, m 251 35)])) rfl).trans (z_R_ret hK rfl rfl rfl)
end
section
/-! quiet leaves what both are in -/
/-- a cell that each way out says to be v, but where the answer is -1 -/
noncomputable def md_vr (y p k : Nat) (v : Int) : Bool := (cs_at y).all fun C => C.2.2.2.2.2.2.2.1.all fun q => (q.2.2.2.any fun u => Nat.beq u.1.1 p && (Nat.beq u.1.2 k && (Nat.beq u.2.1 0 && i_eq u.2.2.2 v))) || (match q.2.2.1 with
  | some a => Nat.beq a.1 0 && i_eq a.2.2 (-1)
  | none => false)
theorem md_vr_ok {y p k : Nat} {v : Int} (h : md_vr y p k v = true) {C : A_C} (hC : C ∈ cs_at y) {T : Int} {ρ : List Int} {σ σ' : m_H} {x : Int32} (hp : c_post C.2.2.2.2.2.2.2.1 C.2.2.2.2.1 T ρ σ (some (.int x)) σ') : z_m σ' p k = v ∨ x.toInt = -1 := by
  obtain ⟨q, hq, ρ', c1, c2, c3, c4, c5, c6, c7⟩ := hp
  have hb := List.all_eq_true.mp (List.all_eq_true.mp h C hC) q hq
  rcases Bool.or_eq_true _ _ |>.mp hb with hb | hb
  · obtain ⟨u, hu, hb⟩ := List.any_eq_true.mp hb
    obtain ⟨b1, hb⟩ := Bool.and_eq_true _ _ |>.mp hb
    obtain ⟨b2, hb⟩ := Bool.and_eq_true _ _ |>.mp hb
    obtain ⟨b3, b4⟩ := Bool.and_eq_true _ _ |>.mp hb
    have g1 := Nat.eq_of_beq_eq_true b1
    have g2 := Nat.eq_of_beq_eq_true b2
    have g3 := Nat.eq_of_beq_eq_true b3
    have g4 := i_eq_iff.mp b4
    obtain ⟨z, v1, v2⟩ := c6 u hu
    clear b1 b2 b3 b4
    obtain ⟨⟨up, uk⟩, ut, un, uc⟩ := u
    try simp only at g1 g2 g3 g4 v1 v2
    subst g1; subst g2; subst g3; subst g4
    obtain ⟨x', rfl, hx⟩ : ∃ x : Int32, z = .int x ∧ x.toInt = uc := v2
    refine Or.inl ?_
    unfold z_m
    rw [v1]
    exact hx
  · obtain ⟨qe, qf, qa, qo⟩ := q
    cases qa with
    | none => cases hb
    | some a =>
      have hb : (Nat.beq a.1 0 && i_eq a.2.2 (-1)) = true := hb
      obtain ⟨b1, b2⟩ := Bool.and_eq_true _ _ |>.mp hb
      have g1 := Nat.eq_of_beq_eq_true b1
      have g2 := i_eq_iff.mp b2
      obtain ⟨ut, un, uc⟩ := a
      try simp only at g1 g2
      subst g1; subst g2
      obtain ⟨x', e, hx⟩ : ∃ x' : Int32, Value.int x = .int x' ∧ x'.toInt = -1 := c4
      cases e
      exact Or.inr hx
theorem i32_and63 (y : Int32) : (y &&& Int32.ofInt 63).toInt = y.toInt % 64 := by
  have h1 : (y &&& Int32.ofInt 63).toBitVec.toNat = y.toBitVec.toNat % 64 := by
    show (y.toBitVec &&& 63#32).toNat = _
    rw [BitVec.toNat_and]
    exact Nat.and_two_pow_sub_one_eq_mod _ 6
  have h2 := i32_ofNat (x := y &&& Int32.ofInt 63) (by rw [h1]; omega)
  have h3 : y.toInt = y.toBitVec.toInt := rfl
  rw [h2, h1, h3, BitVec.toInt_eq_toNat_cond]
  have := y.toBitVec.isLt
  split <;> omega
theorem z_and63 (a : Int) : 0 ≤ z_and a 63 := by
  have : z_and a 63 = (Int32.ofInt a).toInt % 64 := i32_and63 _
  omega
theorem q_bcn (m : z_M) (a : Int) : ∃ v, z_R 101 (m, 0, [(0, a)], []) = some (m, some (0, v)) ∧ 0 ≤ v := by
  rw [q_bc_0]
  exact ⟨_, rfl, z_and63 _⟩
theorem q_qlp (x1 : Int) : ∀ (f x : Nat) (m m' : z_M) (v : Int), x + f = 30 → z_R 110 (m, 37, [(2, 0), (0, x1), (0, (x : Int))], []) = some (m', some (0, v)) → 0 ≤ v := by
  intro f
  induction f with
  | zero =>
    intro x m m' v hx hz
    obtain ⟨u, hu, h0⟩ := q_bcn m (m 140 5)
    rw [q_qui_37, if_pos (by omega), hu, zb_v, q_qui_79] at hz
    have := congrArg (fun z : z_Q => (z.2.getD (0, 0)).2) (Option.some.inj hz)
    have : u = v := this
    omega
  | succ f ih =>
    intro x m m' v hx hz
    rw [q_qui_37, if_neg (by omega), z_add_eq (by omega) (by omega), tc1] at hz
    by_cases c : z_and (z_shr (m 140 5) (x : Int)) 1 = 0
    · rw [if_pos c] at hz
      exact ih (x + 1) _ _ _ (by omega) hz
    · rw [if_neg c, q_add_0] at hz
      by_cases c1 : 9 ≤ m 0 13
      · rw [if_pos c1, zb_n, q_qui_63, z_add_eq (by omega) (by omega), tc1] at hz
        exact ih (x + 1) _ _ _ (by omega) hz
      rw [if_neg c1] at hz
      by_cases c2 : 0 ≤ m 0 13 ∧ m 0 13 < 9
      · rw [if_pos c2, zb_n, q_qui_63, z_add_eq (by omega) (by omega), tc1] at hz
        exact ih (x + 1) _ _ _ (by omega) hz
      · rw [if_neg c2] at hz
        exact absurd (show (none : Option z_Q) = some (m', some (0, v)) from hz) (fun z => by cases z)
/-- the class: in the hours it can be asked for it never answers -1; else nothing is done -/
theorem q_cq (m m' : z_M) (a v : Int) (hz : z_R 110 (m, 0, [(2, 0), (0, a), (9, 0)], []) = some (m', some (0, v))) : m' = m ∨ ¬ v = -1 := by
  rw [q_qui_0] at hz
  by_cases c1 : a < 1
  · rw [if_pos c1] at hz
    exact Or.inl (congrArg Prod.fst (Option.some.inj hz)).symm
  rw [if_neg c1] at hz
  by_cases c2 : a ≤ 40
  · rw [if_pos c2] at hz
    obtain ⟨r, h1, h2⟩ := Option.bind_eq_some_iff.mp hz
    obtain ⟨u, hu⟩ := z_tag (y := 111) (by decide +kernel) h1
    obtain ⟨mr, vr⟩ := r
    try simp only at hu
    subst hu
    change z_R 110 (mr, 25, [(2, 0), (0, a), (9, 0)], [(0, u)]) = some (m', some (0, v)) at h2
    rw [q_qui_25] at h2
    by_cases c3 : u = 0
    · rw [if_pos c3] at h2
      have : (-2 : Int) = v := congrArg (fun z : z_Q => (z.2.getD (0, 0)).2) (Option.some.inj h2)
      exact Or.inr (by omega)
    · rw [if_neg c3, s_tell0_0, zb_n, q_qui_35] at h2
      have := q_qlp a 30 0 _ _ _ (by decide) h2
      exact Or.inr (by omega)
  · rw [if_neg c2] at hz
    exact Or.inl (congrArg Prod.fst (Option.some.inj hz)).symm
section
variable {w h n : Nat} {heat price : Int} {D A : Nat → Int} {c : Nat} {U : Nat → Nat → Int} {kn : Nat → Int} {KS : Nat → Nat → Int} {cs : List Int} {m : z_M}
/-- the column of doings left off is none again -/
theorem C_frq {m' : z_M} (hi : C_is w h n heat price D A c U kn KS cs m) (h5 : m' 24 5 = 0) (hf : ∀ p k, C_hit p k k = true → ¬ (p = 24 ∧ k = 5) → m' p k = m p k) : C_is w h n heat price D A c U kn KS cs m' := by
  have hi' : C_is w h n heat price D A c U kn KS cs (z_up m' 24 5 (m 24 5)) := C_fr hi fun p k hk => by
    by_cases e : p = 24 ∧ k = 5
    · rw [e.1, e.2, zu_self]
    · rw [X_up e]
      exact hf p k hk e
  have e : z_up m' 24 5 (m 24 5) = m' := by
    rw [hi.1.2.2.2.2.2.2.2, ← h5]
    exact zu_id
  rw [e] at hi'
  exact hi'
/-! the reference -/
theorem R_dz (hi : R_is w h n heat price D A c U kn KS cs m) {a : Nat} (ha : a < 30) (v : Int) : R_is w h n heat price (u_up D a v) A c U kn KS cs (z_up m 253 a v) := by
  refine R_mk0 hi ((zu_p (by decide)).trans hi.1.2.2.2.1) ((zu_p (by decide)).trans hi.1.2.2.2.2.1) (fun j hj => ?_) (fun p k _ _ h1 _ _ => zu_p h1) ?_ (r_un_fr hi.2.2.2.1 (fun p k hp => zu_p (by omega)))
  · rw [zu_at]
    unfold u_up
    exact z_ifc (fun _ => rfl) (fun _ => hi.2.1 j hj)
  · rw [rS_row (zu_rowne (by decide))]
    exact hi.2.2.1
theorem R_Dcg {D' : Nat → Int} (hi : R_is w h n heat price D A c U kn KS cs m) (he : ∀ j, j < 30 → D j = D' j) : R_is w h n heat price D' A c U kn KS cs m := ⟨hi.1, fun j hj => (hi.2.1 j hj).trans (he j hj), hi.2.2⟩
def q_D (D : Nat → Int) : Prop := ∀ j, j < 30 → 0 ≤ D j ∧ D j ≤ 9
theorem q_D_N (hw : w ≤ 3 ∧ h ≤ 3 ∧ n ≤ 5) (hh : 0 ≤ heat ∧ heat ≤ 9) (hD : q_D D) : w_N w h n heat D := ⟨hw, hh, fun t ht p hp => by
  have hm : 0 ≤ t % 6 ∧ t % 6 < 6 := ⟨Int.emod_nonneg _ (by decide), Int.emod_lt_of_pos _ (by decide)⟩
  exact hD _ (by omega)⟩
theorem R_lo (hi : R_is w h n heat price D A c U kn KS cs m) (hD : q_D D) {a : Int} (ha : a = -1 ∨ (0 ≤ a ∧ a < 30)) : ∃ m1 v D1, z_R 235 (m, 0, [(2, 251), (0, a), (9, 0)], []) = some (m1, some (0, v)) ∧ q_D D1 ∧ R_is w h n heat price D1 A c U kn KS cs m1 ∧ ∀ m2, R_is w h n heat price D1 A c U kn KS cs m2 → ∃ m3, z_R 236 (m2, 0, [(2, 251), (0, a), (0, v)], []) = some (m3, none) ∧ R_is w h n heat price D A c U kn KS cs m3 := by
  rw [q_lo_0]
  by_cases c1 : a = -1
  · rw [if_pos c1]
    exact ⟨m, 0, D, rfl, hD, hi, fun m2 h2 => ⟨m2, by rw [q_tu_0, if_pos c1], h2⟩⟩
  · have hb : 0 ≤ a ∧ a < 30 := by omega
    rw [if_neg c1, if_pos hb]
    refine ⟨_, _, u_up D a.toNat 0, rfl, fun j hj => ?_, R_dz hi (by omega) 0, fun m2 h2 => ?_⟩
    · unfold u_up
      by_cases e : j = a.toNat
      · rw [if_pos e]; omega
      · rw [if_neg e]; exact hD j hj
    · rw [q_tu_0, if_neg c1, if_pos hb]
      refine ⟨_, rfl, R_Dcg (R_dz h2 (a := a.toNat) (by omega) (m 253 a.toNat)) fun j hj => ?_⟩
      unfold u_up
      by_cases e : j = a.toNat
      · rw [if_pos e, e]; exact hi.2.1 a.toNat (by omega)
      · rw [if_neg e, if_neg e]
theorem q_iceq : ∀ (f x : Nat) (b : Int) (m : z_M), x + f = 9 → ∃ v, z_R 222 (m, 4, [(2, 251), (0, b), (0, (x : Int))], []) = some (m, some (0, v)) := by
  intro f
  induction f with
  | zero =>
    intro x b m hx
    rw [q_ice_4, if_pos (by omega)]
    exact ⟨_, rfl⟩
  | succ f ih =>
    intro x b m hx
    rw [q_ice_4, if_neg (by omega), z_add_eq (by omega) (by omega), tc1]
    by_cases c1 : ¬ u_hs (m 251 1) (m 251 2) (x : Int) = 0
    · rw [if_pos c1]
      by_cases c2 : m 252 (x : Int).toNat ≤ 0
      · rw [if_pos c2]; exact ih (x + 1) _ m (by omega)
      · rw [if_neg c2]; exact ih (x + 1) _ m (by omega)
    · rw [if_neg c1]; exact ih (x + 1) _ m (by omega)
theorem q_thaq : ∀ (f x : Nat) (b : Int) (m : z_M), x + f = 9 → ∃ v, z_R 223 (m, 4, [(2, 251), (2, 264), (0, b), (0, (x : Int))], []) = some (m, some (0, v)) := by
  intro f
  induction f with
  | zero =>
    intro x b m hx
    rw [q_tha_4, if_pos (by omega)]
    exact ⟨_, rfl⟩
  | succ f ih =>
    intro x b m hx
    rw [q_tha_4, if_neg (by omega), z_add_eq (by omega) (by omega), tc1]
    by_cases c1 : ¬ u_hs (m 251 1) (m 251 2) (x : Int) = 0
    · rw [if_pos c1]
      by_cases c2 : m 264 (x : Int).toNat = 0
      · rw [if_pos c2]; exact ih (x + 1) _ m (by omega)
      · rw [if_neg c2]; exact ih (x + 1) _ m (by omega)
    · rw [if_neg c1]; exact ih (x + 1) _ m (by omega)
theorem R_off264 (hi : R_is w h n heat price D A c U kn KS cs m) {m1 : z_M} (hs : z_same (r_LHs 264) m m1) : R_is w h n heat price D A c U kn KS cs m1 := R_fr hi fun p k hk => by
  have hk' := hk
  unfold R_hit at hk'
  have hk' := of_decide_eq_true hk'
  exact hs.of (by (try unfold r_LHs); (repeat' (first | exact trivial | refine z_of_c ?_ ?_)) <;> omega)
theorem R_stands1 {x2 : Int} {N : Nat} (hN6 : N ≤ 1000) (hN : w_N w h n heat D) : ∀ (f x : Nat) (m : z_M) (B : Nat → Int), x + f = N → R_is w h n heat price D A c U kn KS cs m → rS m 264 n = B → hr_ok n B → 0 ≤ B 35 → B 35 + (f : Int) ≤ 2147483647 → ∃ m1 v, z_R 221 (m, 7, [(2, 251), (0, (N : Int)), (0, x2), (0, (x : Int))], []) = some (m1, some (0, v)) ∧ z_same (r_LHs 264) m m1 := by
  intro f
  induction f with
  | zero =>
    intro x m B hx hi hB hok ht ht2
    rw [q_sta_7, if_pos (by omega)]
    exact ⟨m, _, rfl, z_same.rf⟩
  | succ f ih =>
    intro x m B hx hi hB hok ht ht2
    obtain ⟨m1, a1, a2, a3, a4, a5, a6, a7⟩ := r_hour (a := 264) z_A_264 (Or.inr rfl) hN.1.1 hN.1.2.1 (price := price) ⟨hN.1.2.2, hN.2.1, c_ml_ok cs, hN.2.2⟩ m (R_cfg hi) hB hok ht (by omega)
    have a1 : z_R 208 (m, 0, [(2, 251), (2, 264), (9, 0), (9, 0), (9, 0)], []) = some (m1, none) := a1
    have s1 : z_same (r_LHs 264) m m1 := a7.subo (by (try unfold r_LHs); (repeat' (first | exact trivial | refine z_sbo_c ?_ ?_)) <;> (intro k h1 h2; first | exact z_on_h rfl (by omega) (by omega) | exact z_on_t (z_on_h rfl (by omega) (by omega)) | exact z_on_t (z_on_t (z_on_h rfl (by omega) (by omega))) | exact z_on_t (z_on_t (z_on_t (z_on_h rfl (by omega) (by omega)))) | exact z_on_t (z_on_t (z_on_t (z_on_t (z_on_h rfl (by omega) (by omega))))) | exact z_on_t (z_on_t (z_on_t (z_on_t (z_on_t (z_on_h rfl (by omega) (by omega)))))) | exact z_on_t (z_on_t (z_on_t (z_on_t (z_on_t (z_on_t (z_on_h rfl (by omega) (by omega))))))) | exact z_on_t (z_on_t (z_on_t (z_on_t (z_on_t (z_on_t (z_on_t (z_on_h rfl (by omega) (by omega)))))))) | exact z_on_t (z_on_t (z_on_t (z_on_t (z_on_t (z_on_t (z_on_t (z_on_t (z_on_h rfl (by omega) (by omega))))))))) | exact z_on_t (z_on_t (z_on_t (z_on_t (z_on_t (z_on_t (z_on_t (z_on_t (z_on_t (z_on_h rfl (by omega) (by omega)))))))))) | exact z_on_t (z_on_t (z_on_t (z_on_t (z_on_t (z_on_t (z_on_t (z_on_t (z_on_t (z_on_t (z_on_h rfl (by omega) (by omega))))))))))) | exact z_on_t (z_on_t (z_on_t (z_on_t (z_on_t (z_on_t (z_on_t (z_on_t (z_on_t (z_on_t (z_on_t (z_on_h rfl (by omega) (by omega)))))))))))) | exact z_on_t (z_on_t (z_on_t (z_on_t (z_on_t (z_on_t (z_on_t (z_on_t (z_on_t (z_on_t (z_on_t (z_on_t (z_on_h rfl (by omega) (by omega)))))))))))))))
    obtain ⟨v, hv⟩ := q_thaq 9 0 0 m1 (by decide)
    have hv : z_R 223 (m1, 4, [(2, 251), (2, 264), (0, 0), (0, 0)], []) = some (m1, some (0, v)) := hv
    rw [q_sta_7, if_neg (by omega), a1, zb_n, q_sta_20, q_tha_0, hv, zb_v, q_sta_28, z_add_eq (by omega) (by omega), tc1]
    by_cases c1 : z_and v x2 = 0
    · rw [if_pos c1]
      have hok' := hr_A_ok (price := price) hN.1.1 hN.1.2.1 hN.1.2.2 hN.2.1 (c_ml_ok cs) (hN.2.2 (B 35) ht) hok
      have e35 : hr_A w h heat price (c_ml cs) (wmD D (B 35)) n B 35 = B 35 + 1 := by rw [hr_A_35 hN.1.1 hN.1.2.1 hN.1.2.2, z_add_eq (by omega) (by omega)]
      obtain ⟨m2, u, b1, b2⟩ := ih (x + 1) m1 _ (by omega) (R_off264 hi s1) a2 hok' (by rw [e35]; omega) (by rw [e35]; omega)
      exact ⟨m2, u, b1, s1.tr b2⟩
    · rw [if_neg c1]
      exact ⟨m1, _, rfl, s1⟩
theorem R_lt (hi : R_is w h n heat price D A c U kn KS cs m) : ∃ m1, z_R 219 (m, 0, [(2, 251)], []) = some (m1, none) ∧ R_is w h n heat price D A c U kn KS cs m1 ∧ rS m1 264 n = A := by
  obtain ⟨m1, b1, b2, b3⟩ := t_layd (a := 252) (q := 264) (B := 0) t_lay264_0 t_lay264_2 (by decide) (b := 0) (by decide) m
  have b1 : z_R 198 (m, 0, [(2, 252), (2, 264), (0, 0), (9, 0)], []) = some (m1, none) := b1
  rw [q_lt_0, b1, zb_n, q_lt_12]
  refine ⟨m1, rfl, R_fr hi fun p k hk => ?_, ?_⟩
  · have hk' := hk
    unfold R_hit at hk'
    have hk' := of_decide_eq_true hk'
    exact b3 p k (by omega)
  · rw [← hi.2.2.1]
    refine rS_cp fun k hk => ?_
    have := b2 k hk
    rw [Nat.zero_add] at this
    exact this
theorem R_stands (hN : w_N w h n heat D) (hok : hr_ok n A) (ht : 0 ≤ A 35 ∧ A 35 ≤ 1073741824) (hi : R_is w h n heat price D A c U kn KS cs m) (hB : rS m 264 n = A) {N : Nat} (hN6 : N ≤ 1000) : ∃ m1 v, z_R 221 (m, 0, [(2, 251), (0, (N : Int)), (9, 0), (9, 0)], []) = some (m1, some (0, v)) ∧ R_is w h n heat price D A c U kn KS cs m1 := by
  obtain ⟨v, hv⟩ := q_iceq 9 0 0 m (by decide)
  have hv : z_R 222 (m, 4, [(2, 251), (0, 0), (0, 0)], []) = some (m, some (0, v)) := hv
  obtain ⟨m1, u, a1, a2⟩ := R_stands1 (x2 := v) hN6 hN N 0 m A (by omega) hi hB hok ht.1 (by omega)
  have a1 : z_R 221 (m, 7, [(2, 251), (0, (N : Int)), (0, v), (0, 0)], []) = some (m1, some (0, u)) := a1
  rw [q_sta_0, q_ice_0, hv, zb_v, q_sta_4, a1]
  exact ⟨m1, u, rfl, R_off264 hi a2⟩
theorem R_isq (hw : w ≤ 3 ∧ h ≤ 3 ∧ n ≤ 5) (hh : 0 ≤ heat ∧ heat ≤ 9) (hD : q_D D) (hok : hr_ok n A) (ht : 0 ≤ A 35 ∧ A 35 ≤ 1073741824) (hi : R_is w h n heat price D A c U kn KS cs m) {N : Nat} (hN6 : N ≤ 40) {a b d : Int} (ha : a = -1 ∨ (0 ≤ a ∧ a < 30)) (hb : b = -1 ∨ (0 ≤ b ∧ b < 30)) (hd : d = -1 ∨ (0 ≤ d ∧ d < 30)) : ∃ m1 v, z_R 234 (m, 0, [(2, 251), (0, (N : Int)), (0, a), (0, b), (0, d), (9, 0), (9, 0), (9, 0), (9, 0)], []) = some (m1, some (0, v)) ∧ R_is w h n heat price D A c U kn KS cs m1 := by
  obtain ⟨m1, v1, D1, a1, a2, a3, a4⟩ := R_lo hi hD ha
  obtain ⟨m2, v2, D2, b1, b2, b3, b4⟩ := R_lo a3 a2 hb
  obtain ⟨m3, v3, D3, c1, c2, c3, c4⟩ := R_lo b3 b2 hd
  obtain ⟨m4, d1, d2, d3⟩ := R_lt c3
  obtain ⟨m5, v5, e1, e2⟩ := R_stands (q_D_N hw hh c2) hok ht d2 d3 (N := N) (by omega)
  obtain ⟨m6, f1, f2⟩ := c4 m5 e2
  obtain ⟨m7, g1, g2⟩ := b4 m6 f2
  obtain ⟨m8, k1, k2⟩ := a4 m7 g2
  rw [q_isq_0, a1, zb_v, q_isq_5, b1, zb_v, q_isq_12, c1, zb_v, q_isq_20, d1, zb_n, q_isq_26, e1, zb_v, q_isq_31]
  by_cases z : v5 = (N : Int)
  · rw [if_pos z, f1, zb_n, q_isq_50, g1, zb_n, q_isq_57, k1, zb_n, q_isq_64]
    exact ⟨m8, _, rfl, k2⟩
  · rw [if_neg z, f1, zb_n, q_isq_50, g1, zb_n, q_isq_57, k1, zb_n, q_isq_64]
    exact ⟨m8, _, rfl, k2⟩
theorem R_tq (hi : R_is w h n heat price D A c U kn KS cs m) {q : Int} (hq : 0 ≤ q ∧ q ≤ 3) (a b d : Int) : ∃ m1, z_R 237 (m, 0, [(2, 251), (0, q), (0, a), (0, b), (0, d)], []) = some (m1, some (0, q)) ∧ R_is w h n heat price D A c U kn KS cs m1 := by
  rw [q_tq_0 m q a b d hq]
  by_cases c0 : q ≤ 0
  · rw [if_pos c0]
    exact ⟨_, rfl, R_upn hi (by decide)⟩
  have h1 := R_upn (p0 := 255) (k0 := 0) (v := z_i2l a) (R_upn (p0 := 251) (k0 := 10) (v := 0) hi (by decide)) (by decide)
  rw [if_neg c0, t_tell0, zb_n, q_tq_15]
  by_cases c1 : q ≤ 1
  · rw [if_pos c1]
    exact ⟨_, rfl, R_upn h1 (by decide)⟩
  rw [if_neg c1, t_tell1, zb_n, q_tq_26]
  by_cases c2 : q ≤ 2
  · rw [if_pos c2]
    exact ⟨_, rfl, R_upn (R_upn (R_upn h1 (by decide)) (by decide)) (by decide)⟩
  rw [if_neg c2, t_tell2, zb_n, q_tq_38]
  exact ⟨_, rfl, R_upn (R_upn (R_upn (R_upn (R_upn h1 (by decide)) (by decide)) (by decide)) (by decide)) (by decide)⟩
/-- what the loops of quiet come to -/
def q_qE (w h n : Nat) (heat price : Int) (D A : Nat → Int) (c : Nat) (U : Nat → Nat → Int) (kn : Nat → Int) (KS : Nat → Nat → Int) (cs : List Int) (X : Option z_Q) : Prop := ∃ m1 v, X = some (m1, some (0, v)) ∧ R_is w h n heat price D A c U kn KS cs m1
theorem R_quiet (hw : w ≤ 3 ∧ h ≤ 3 ∧ n ≤ 5) (hh : 0 ≤ heat ∧ heat ≤ 9) (hD : q_D D) (hok : hr_ok n A) (ht : 0 ≤ A 35 ∧ A 35 ≤ 1073741824) (hi : R_is w h n heat price D A c U kn KS cs m) (a : Int) : q_qE w h n heat price D A c U kn KS cs (z_R 233 (m, 0, [(2, 251), (0, a), (9, 0), (9, 0), (9, 0), (9, 0)], [])) := by
  rw [q_tqu_0]
  have hu := R_upn (p0 := 251) (k0 := 11) (v := 0) hi (by decide)
  by_cases ok : ¬ (1 ≤ a ∧ a ≤ 40)
  · rw [if_neg ok]
    exact ⟨_, _, rfl, hu⟩
  have ok : 1 ≤ a ∧ a ≤ 40 := Decidable.not_not.mp ok
  obtain ⟨N, rfl⟩ : ∃ N : Nat, a = (N : Int) := ⟨a.toNat, by omega⟩
  have hN6 : N ≤ 40 := by omega
  have e3 : m 251 3 = (n : Int) := hi.1.2.2.1
  obtain ⟨L, hL, hL30⟩ : ∃ L : Nat, z_mul 6 (m 251 3) = (L : Int) ∧ L ≤ 30 := ⟨6 * n, by rw [e3, z_mul_eq (by omega) (by omega)]; omega, by omega⟩
  rw [if_pos ok, hL]
  generalize z_up m 251 11 0 = m0 at hu ⊢
  -- the innermost loop of three, given the two about it
  have l154 : ∀ (x y : Nat), x < L → y < L → (∀ m x5, R_is w h n heat price D A c U kn KS cs m → q_qE w h n heat price D A c U kn KS cs (z_R 233 (m, 142, [(2, 251), (0, (N : Int)), (0, (L : Int)), (0, (x : Int)), (0, ((y + 1 : Nat) : Int)), (0, x5)], []))) → ∀ (f z : Nat) (m : z_M), z + f = L → R_is w h n heat price D A c U kn KS cs m → q_qE w h n heat price D A c U kn KS cs (z_R 233 (m, 154, [(2, 251), (0, (N : Int)), (0, (L : Int)), (0, (x : Int)), (0, (y : Int)), (0, (z : Int))], [])) := by
    intro x y hx hy nx f
    induction f with
    | zero =>
      intro z m hz hi
      rw [q_tqu_154, if_pos (by omega), z_add_eq (by omega) (by omega), tc1]
      exact nx m _ hi
    | succ f ih =>
      intro z m hz hi
      obtain ⟨m1, v, a1, a2⟩ := R_isq hw hh hD hok ht hi hN6 (a := (x : Int)) (b := (y : Int)) (d := (z : Int)) (Or.inr (by omega)) (Or.inr (by omega)) (Or.inr (by omega))
      rw [q_tqu_154, if_neg (by omega), a1, zb_v, q_tqu_170]
      by_cases c1 : v = 0
      · rw [if_pos c1, z_add_eq (by omega) (by omega), tc1]
        exact ih (z + 1) m1 (by omega) a2
      · obtain ⟨m2, b1, b2⟩ := R_tq a2 (q := 3) (by decide) (x : Int) (y : Int) (z : Int)
        rw [if_neg c1, b1, zb_v, q_tqu_183]
        exact ⟨m2, _, rfl, b2⟩
  have l142 : ∀ (x : Nat), x < L → (∀ m v4 v5, R_is w h n heat price D A c U kn KS cs m → q_qE w h n heat price D A c U kn KS cs (z_R 233 (m, 132, [(2, 251), (0, (N : Int)), (0, (L : Int)), (0, ((x + 1 : Nat) : Int)), v4, v5], []))) → ∀ (f y : Nat) (v5 : z_V) (m : z_M), y + f = L → R_is w h n heat price D A c U kn KS cs m → q_qE w h n heat price D A c U kn KS cs (z_R 233 (m, 142, [(2, 251), (0, (N : Int)), (0, (L : Int)), (0, (x : Int)), (0, (y : Int)), v5], [])) := by
    intro x hx nx f
    induction f with
    | zero =>
      intro y v5 m hy hi
      rw [q_tqu_142, if_pos (by omega), z_add_eq (by omega) (by omega), tc1]
      exact nx m _ _ hi
    | succ f ih =>
      intro y v5 m hy hi
      rw [q_tqu_142, if_neg (by omega), z_add_eq (x := (y : Int)) (by omega) (by omega), tc1]
      exact l154 x y hx (by omega) (fun m x5 hm => ih (y + 1) _ m (by omega) hm) (L - (y + 1)) (y + 1) m (by omega) hi
  have l132 : ∀ (f x : Nat) (v4 v5 : z_V) (m : z_M), x + f = L → R_is w h n heat price D A c U kn KS cs m → q_qE w h n heat price D A c U kn KS cs (z_R 233 (m, 132, [(2, 251), (0, (N : Int)), (0, (L : Int)), (0, (x : Int)), v4, v5], [])) := by
    intro f
    induction f with
    | zero =>
      intro x v4 v5 m hx hi
      rw [q_tqu_132, if_pos (by omega)]
      exact ⟨m, _, rfl, hi⟩
    | succ f ih =>
      intro x v4 v5 m hx hi
      rw [q_tqu_132, if_neg (by omega), z_add_eq (by omega) (by omega), tc1]
      exact l142 x (by omega) (fun m v4 v5 hm => ih (x + 1) v4 v5 m (by omega) hm) (L - (x + 1)) (x + 1) _ m (by omega) hi
  have l90 : ∀ (x : Nat), x < L → (∀ m v4, R_is w h n heat price D A c U kn KS cs m → q_qE w h n heat price D A c U kn KS cs (z_R 233 (m, 80, [(2, 251), (0, (N : Int)), (0, (L : Int)), (0, ((x + 1 : Nat) : Int)), v4, (9, 0)], []))) → ∀ (f y : Nat) (m : z_M), y + f = L → R_is w h n heat price D A c U kn KS cs m → q_qE w h n heat price D A c U kn KS cs (z_R 233 (m, 90, [(2, 251), (0, (N : Int)), (0, (L : Int)), (0, (x : Int)), (0, (y : Int)), (9, 0)], [])) := by
    intro x hx nx f
    induction f with
    | zero =>
      intro y m hy hi
      rw [q_tqu_90, if_pos (by omega), z_add_eq (by omega) (by omega), tc1]
      exact nx m _ hi
    | succ f ih =>
      intro y m hy hi
      obtain ⟨m1, v, a1, a2⟩ := R_isq hw hh hD hok ht hi hN6 (a := (x : Int)) (b := (y : Int)) (d := -1) (Or.inr (by omega)) (Or.inr (by omega)) (Or.inl rfl)
      rw [q_tqu_90, if_neg (by omega), a1, zb_v, q_tqu_105]
      by_cases c1 : v = 0
      · rw [if_pos c1, z_add_eq (by omega) (by omega), tc1]
        exact ih (y + 1) m1 (by omega) a2
      · obtain ⟨m2, b1, b2⟩ := R_tq a2 (q := 2) (by decide) (x : Int) (y : Int) 0
        rw [if_neg c1, b1, zb_v, q_tqu_117]
        exact ⟨m2, _, rfl, b2⟩
  have l80 : ∀ (f x : Nat) (v4 : z_V) (m : z_M), x + f = L → R_is w h n heat price D A c U kn KS cs m → q_qE w h n heat price D A c U kn KS cs (z_R 233 (m, 80, [(2, 251), (0, (N : Int)), (0, (L : Int)), (0, (x : Int)), v4, (9, 0)], [])) := by
    intro f
    induction f with
    | zero =>
      intro x v4 m hx hi
      rw [q_tqu_80, if_pos (by omega)]
      exact l132 L 0 v4 (9, 0) m (by omega) hi
    | succ f ih =>
      intro x v4 m hx hi
      rw [q_tqu_80, if_neg (by omega), z_add_eq (by omega) (by omega), tc1]
      exact l90 x (by omega) (fun m v4 hm => ih (x + 1) v4 m (by omega) hm) (L - (x + 1)) (x + 1) m (by omega) hi
  have l47 : ∀ (f x : Nat) (m : z_M), x + f = L → R_is w h n heat price D A c U kn KS cs m → q_qE w h n heat price D A c U kn KS cs (z_R 233 (m, 47, [(2, 251), (0, (N : Int)), (0, (L : Int)), (0, (x : Int)), (9, 0), (9, 0)], [])) := by
    intro f
    induction f with
    | zero =>
      intro x m hx hi
      rw [q_tqu_47, if_pos (by omega)]
      exact l80 L 0 (9, 0) m (by omega) hi
    | succ f ih =>
      intro x m hx hi
      obtain ⟨m1, v, a1, a2⟩ := R_isq hw hh hD hok ht hi hN6 (a := (x : Int)) (b := -1) (d := -1) (Or.inr (by omega)) (Or.inl rfl) (Or.inl rfl)
      rw [q_tqu_47, if_neg (by omega), a1, zb_v, q_tqu_60]
      by_cases c1 : v = 0
      · rw [if_pos c1, z_add_eq (by omega) (by omega), tc1]
        exact ih (x + 1) m1 (by omega) a2
      · obtain ⟨m2, b1, b2⟩ := R_tq a2 (q := 1) (by decide) (x : Int) 0 0
        rw [if_neg c1, b1, zb_v, q_tqu_71]
        exact ⟨m2, _, rfl, b2⟩
  obtain ⟨m1, v, a1, a2⟩ := R_isq hw hh hD hok ht hu hN6 (a := -1) (b := -1) (d := -1) (Or.inl rfl) (Or.inl rfl) (Or.inl rfl)
  rw [a1, zb_v, q_tqu_33]
  by_cases c1 : v = 0
  · rw [if_pos c1]
    exact l47 L 0 m1 (by omega) a2
  · obtain ⟨m2, b1, b2⟩ := R_tq a2 (q := 0) (by decide) 0 0 0
    rw [if_neg c1, b1, zb_v, q_tqu_44]
    exact ⟨m2, _, rfl, b2⟩
end
end
section
/-! season leaves what both are in -/
theorem z_ush16 (a : Int) : 0 ≤ z_ush a 16 ∧ z_ush a 16 ≤ 65535 := by
  have h1 : (j_ushr (Int32.ofInt a) (Int32.ofInt 16)).toBitVec.toNat = (Int32.ofInt a).toBitVec.toNat / 65536 := i32_ushn (Int32.ofInt a) 16 (by decide)
  have hl := (Int32.ofInt a).toBitVec.isLt
  have h2 := i32_ofNat (x := j_ushr (Int32.ofInt a) (Int32.ofInt 16)) (by rw [h1]; omega)
  have e : z_ush a 16 = (j_ushr (Int32.ofInt a) (Int32.ofInt 16)).toInt := rfl
  rw [e, h2, h1]
  omega
theorem z_draw (a : Int) {y : Int} (h1 : 1 ≤ y) (h2 : y ≤ 100) : 0 ≤ z_rem (z_ush a 16) y ∧ z_rem (z_ush a 16) y < y := by
  have := z_ush16 a
  rw [z_rem_nn (by omega) (by omega) (by omega) (by omega)]
  exact ⟨Int.emod_nonneg _ (by omega), Int.emod_lt_of_pos _ (by omega)⟩
/-! what an hour comes to, by what those do who are there -/
theorem hr_o_cg {wm wm' : Nat → Int} {price : Int} : ∀ (f x : Nat) (A : Nat → Int), (∀ y, x ≤ y → y < x + f → wm y = wm' y) → hr_o wm price f x A = hr_o wm' price f x A := by
  intro f
  induction f with
  | zero => intro x A hw; rfl
  | succ f ih =>
    intro x A hw
    unfold hr_o
    rw [hw x (Nat.le_refl _) (by omega)]
    exact ih (x + 1) _ (fun y h1 h2 => hw y (by omega) (by omega))
theorem hr_s_cg {wm wm' : Nat → Int} {b : Int} : ∀ (f x : Nat) (s : Int), (∀ y, x ≤ y → y < x + f → wm y = wm' y) → hr_s wm b f x s = hr_s wm' b f x s := by
  intro f
  induction f with
  | zero => intro x s hw; rfl
  | succ f ih =>
    intro x s hw
    unfold hr_s
    rw [hw x (Nat.le_refl _) (by omega)]
    exact ih (x + 1) _ (fun y h1 h2 => hw y (by omega) (by omega))
theorem hr_K_cg {w h n : Nat} {heat price : Int} {ml : hr_M} {wm wm' : Nat → Int} {A : Nat → Int} (hw : ∀ y, y < n → wm y = wm' y) : hr_K w h heat price ml wm n A = hr_K w h heat price ml wm' n A := by
  have e1 : hr_o wm price n 0 A = hr_o wm' price n 0 A := hr_o_cg n 0 A (fun y _ h2 => hw y (by omega))
  have e2 : hr_me (w : Int) (h : Int) heat ml wm n A = hr_me (w : Int) (h : Int) heat ml wm' n A := by
    funext k
    unfold hr_me hr_mN hr_mB hr_wb
    rw [hr_s_cg n 0 _ (fun y _ h2 => hw y (by omega))]
  unfold hr_K
  rw [e1, e2]
theorem hr_H1_cg {w h n : Nat} {heat price : Int} {ml : hr_M} {wmt wmt' : Int → Nat → Int} {A : Nat → Int} (hw : ∀ y, y < n → wmt (A 35) y = wmt' (A 35) y) {M M' G G' F F' T : Int} : (hr_H w h heat price ml wmt n 1 A M G F T).1 = (hr_H w h heat price ml wmt' n 1 A M' G' F' T).1 ∧ (hr_H w h heat price ml wmt n 1 A M G F T).2.2.2.2 = (hr_H w h heat price ml wmt' n 1 A M' G' F' T).2.2.2.2 := by
  show hr_A w h heat price ml (wmt (A 35)) n A = hr_A w h heat price ml (wmt' (A 35)) n A ∧ z_add T (hr_K w h heat price ml (wmt (A 35)) n A).2.2.2 = z_add T (hr_K w h heat price ml (wmt' (A 35)) n A).2.2.2
  unfold hr_A
  rw [hr_K_cg hw]
  exact ⟨rfl, rfl⟩
def se_n (r : Int) : Int := z_add (z_mul r 1103515245) 12345
def se_w (D : Nat → Int) (f : Int) : Int → Nat → Int := fun t p => if (p : Int) = f then 9 else wmD D t p
/-- a drawn winter: so many more hours; how often one fell -/
def se_H (w h n : Nat) (heat price : Int) (cs : List Int) (D : Nat → Int) : Nat → Int → (Nat → Int) → Int → Int
  | 0, _, _, T => T
  | f + 1, r, B, T => se_H w h n heat price cs D f (se_n (se_n r)) (hr_H w h heat price (c_ml cs) (se_w D (z_rem (z_ush (se_n (se_n r)) 16) ((n : Int) + 3))) n 1 (u_up B 36 (z_rem (z_ush (se_n r) 16) 10)) 0 0 0 T).1 (hr_H w h heat price (c_ml cs) (se_w D (z_rem (z_ush (se_n (se_n r)) 16) ((n : Int) + 3))) n 1 (u_up B 36 (z_rem (z_ush (se_n r) 16) 10)) 0 0 0 T).2.2.2.2
def se_A (w h n : Nat) (heat price : Int) (cs : List Int) (D A : Nat → Int) (s a : Int) : Int := if 1 ≤ a ∧ a ≤ 60 then se_H w h n heat price cs D a.toNat s A 0 else -1
theorem wmf_b {D : Nat → Int} {f : Int} (h : ∀ t : Int, 0 ≤ t → ∀ p, p < 5 → 0 ≤ wmD D t p ∧ wmD D t p ≤ 9) : ∀ t : Int, 0 ≤ t → ∀ p, p < 5 → 0 ≤ se_w D f t p ∧ se_w D f t p ≤ 9 := fun t ht p hp => by
  show 0 ≤ (if (p : Int) = f then 9 else wmD D t p) ∧ (if (p : Int) = f then 9 else wmD D t p) ≤ 9
  by_cases e : (p : Int) = f
  · rw [if_pos e]; decide
  · rw [if_neg e]; exact h t ht p hp
section
variable {w h n : Nat} {heat price : Int} {D A : Nat → Int} {c : Nat} {U : Nat → Nat → Int} {kn : Nat → Int} {KS : Nat → Nat → Int} {cs : List Int} {m : z_M}
theorem C_cfgf {f : Int} (hi : C_is w h n heat price D A c U kn KS cs (z_up m 24 4 (-1))) (hf : m 24 4 = f) : c_cfg w h n heat price (c_ml cs) (se_w D f) m := by
  obtain ⟨c1, c2, c3, c4, c5, -, c7, c8⟩ := C_cfg hi
  have fp : ∀ p k, ¬ p = 24 → (z_up m 24 4 (-1)) p k = m p k := fun p k hp => zu_p hp
  rw [fp 3 8 (by decide)] at c1
  rw [fp 3 9 (by decide)] at c2
  rw [fp 3 11 (by decide)] at c3
  rw [fp 3 12 (by decide)] at c4
  rw [fp 3 13 (by decide)] at c5
  rw [fp 3 10 (by decide)] at c8
  refine ⟨c1, c2, c3, c4, c5, fun t ht p hp => ?_, fun m2 e5 e4 => c7 m2 (e5.trans (zu_rowne (by decide)).symm) (e4.trans (fp 4 3 (by decide)).symm), c8⟩
  have h5 : m 24 5 = 0 := by
    have := hi.1.2.2.2.2.2.2.2
    rw [zu_k (by decide)] at this
    exact this
  have h8 : ∀ j, j < 30 → m 8 j = D j := fun j hj => (fp 8 j (by decide)).symm.trans (hi.2.1 j hj)
  have hm : 0 ≤ t % 6 ∧ t % 6 < 6 := ⟨Int.emod_nonneg _ (by decide), Int.emod_lt_of_pos _ (by decide)⟩
  have ej : (6 * (p : Int) + t % 6).toNat = 6 * p + (t % 6).toNat := by omega
  have e0 : z_and (z_shr 0 (6 * (p : Int) + t % 6)) 1 = 0 := by
    have e : ∀ j, j < 30 → z_and (z_shr 0 ((j : Nat) : Int)) 1 = 0 := by decide +kernel
    have := e (6 * p + (t % 6).toNat) (by omega)
    rw [show ((6 * p + (t % 6).toNat : Nat) : Int) = 6 * (p : Int) + t % 6 by omega] at this
    exact this
  show cw m p t = if (p : Int) = f then 9 else wmD D t p
  unfold cw wmD
  rw [h5, if_pos e0, hf, ej]
  exact z_ifc (fun _ => rfl) (fun _ => h8 _ (by omega))
/-- but for the one that is warm -/
theorem C_f4 {m' : z_M} (hi : C_is w h n heat price D A c U kn KS cs (z_up m 24 4 (-1))) (hf : ∀ p k, C_hit p k k = true → ¬ (p = 24 ∧ k = 4) → m' p k = m p k) : C_is w h n heat price D A c U kn KS cs (z_up m' 24 4 (-1)) := C_fr hi fun p k hk => by
  by_cases e : p = 24 ∧ k = 4
  · rw [e.1, e.2, zu_self, zu_self]
  · rw [X_up e, X_up e]
    exact hf p k hk e
theorem q_fgn : ∀ (f x : Nat) (m : z_M), x + f = 9 → ∃ m', z_R 145 (m, 2, [(2, 24), (0, (x : Int))], []) = some (m', none) ∧ z_same [(27, 0, 8)] m m' := by
  intro f
  induction f with
  | zero =>
    intro x m hx
    rw [q_fg_2, if_pos (by omega)]
    exact ⟨m, rfl, z_same.rf⟩
  | succ f ih =>
    intro x m hx
    rw [q_fg_2, if_neg (by omega), if_pos (show 0 ≤ (x : Int) ∧ (x : Int) < 9 by omega), Int.toNat_natCast, tc1]
    obtain ⟨m', a1, a2⟩ := ih (x + 1) (z_up m 27 x 0) (by omega)
    exact ⟨m', a1, (z_same.rf.upo (by first | exact z_on_h rfl (by omega) (by omega) | exact z_on_t (z_on_h rfl (by omega) (by omega)) | exact z_on_t (z_on_t (z_on_h rfl (by omega) (by omega))) | exact z_on_t (z_on_t (z_on_t (z_on_h rfl (by omega) (by omega)))) | exact z_on_t (z_on_t (z_on_t (z_on_t (z_on_h rfl (by omega) (by omega))))) | exact z_on_t (z_on_t (z_on_t (z_on_t (z_on_t (z_on_h rfl (by omega) (by omega)))))) | exact z_on_t (z_on_t (z_on_t (z_on_t (z_on_t (z_on_t (z_on_h rfl (by omega) (by omega))))))) | exact z_on_t (z_on_t (z_on_t (z_on_t (z_on_t (z_on_t (z_on_t (z_on_h rfl (by omega) (by omega)))))))) | exact z_on_t (z_on_t (z_on_t (z_on_t (z_on_t (z_on_t (z_on_t (z_on_t (z_on_h rfl (by omega) (by omega))))))))) | exact z_on_t (z_on_t (z_on_t (z_on_t (z_on_t (z_on_t (z_on_t (z_on_t (z_on_t (z_on_h rfl (by omega) (by omega)))))))))) | exact z_on_t (z_on_t (z_on_t (z_on_t (z_on_t (z_on_t (z_on_t (z_on_t (z_on_t (z_on_t (z_on_h rfl (by omega) (by omega))))))))))) | exact z_on_t (z_on_t (z_on_t (z_on_t (z_on_t (z_on_t (z_on_t (z_on_t (z_on_t (z_on_t (z_on_t (z_on_h rfl (by omega) (by omega)))))))))))) | exact z_on_t (z_on_t (z_on_t (z_on_t (z_on_t (z_on_t (z_on_t (z_on_t (z_on_t (z_on_t (z_on_t (z_on_t (z_on_h rfl (by omega) (by omega))))))))))))))).tr a2⟩
theorem q_cgn : ∀ (f x : Nat) (m : z_M), x + f = 9 → ∃ m', z_R 148 (m, 2, [(2, 24), (0, (x : Int))], []) = some (m', none) ∧ z_same [(27, 0, 8)] m m' := by
  intro f
  induction f with
  | zero =>
    intro x m hx
    rw [q_cg_2, if_pos (by omega)]
    exact ⟨m, rfl, z_same.rf⟩
  | succ f ih =>
    intro x m hx
    rw [q_cg_2, if_neg (by omega), if_pos (show 0 ≤ (x : Int) ∧ (x : Int) < 9 by omega), Int.toNat_natCast, tc1]
    obtain ⟨m', a1, a2⟩ := ih (x + 1) (z_up m 27 x (z_add (m 27 x) (z_and (z_shr (m 24 10) (x : Int)) 1))) (by omega)
    exact ⟨m', a1, (z_same.rf.upo (by first | exact z_on_h rfl (by omega) (by omega) | exact z_on_t (z_on_h rfl (by omega) (by omega)) | exact z_on_t (z_on_t (z_on_h rfl (by omega) (by omega))) | exact z_on_t (z_on_t (z_on_t (z_on_h rfl (by omega) (by omega)))) | exact z_on_t (z_on_t (z_on_t (z_on_t (z_on_h rfl (by omega) (by omega))))) | exact z_on_t (z_on_t (z_on_t (z_on_t (z_on_t (z_on_h rfl (by omega) (by omega)))))) | exact z_on_t (z_on_t (z_on_t (z_on_t (z_on_t (z_on_t (z_on_h rfl (by omega) (by omega))))))) | exact z_on_t (z_on_t (z_on_t (z_on_t (z_on_t (z_on_t (z_on_t (z_on_h rfl (by omega) (by omega)))))))) | exact z_on_t (z_on_t (z_on_t (z_on_t (z_on_t (z_on_t (z_on_t (z_on_t (z_on_h rfl (by omega) (by omega))))))))) | exact z_on_t (z_on_t (z_on_t (z_on_t (z_on_t (z_on_t (z_on_t (z_on_t (z_on_t (z_on_h rfl (by omega) (by omega)))))))))) | exact z_on_t (z_on_t (z_on_t (z_on_t (z_on_t (z_on_t (z_on_t (z_on_t (z_on_t (z_on_t (z_on_h rfl (by omega) (by omega))))))))))) | exact z_on_t (z_on_t (z_on_t (z_on_t (z_on_t (z_on_t (z_on_t (z_on_t (z_on_t (z_on_t (z_on_t (z_on_h rfl (by omega) (by omega)))))))))))) | exact z_on_t (z_on_t (z_on_t (z_on_t (z_on_t (z_on_t (z_on_t (z_on_t (z_on_t (z_on_t (z_on_t (z_on_t (z_on_h rfl (by omega) (by omega))))))))))))))).tr a2⟩
theorem q_ogn : ∀ (f x : Nat) (b : Int) (m : z_M), x + f = 9 → (b = -1 ∨ (0 ≤ b ∧ b < 9)) → ∃ v, z_R 149 (m, 4, [(2, 24), (0, b), (0, (x : Int))], []) = some (m, some (0, v)) ∧ (v = -1 ∨ (0 ≤ v ∧ v < 9)) := by
  intro f
  induction f with
  | zero =>
    intro x b m hx hb
    rw [q_og_4, if_pos (by omega)]
    exact ⟨b, rfl, hb⟩
  | succ f ih =>
    intro x b m hx hb
    rw [q_og_4, if_neg (by omega), if_pos (show 0 ≤ (x : Int) ∧ (x : Int) < 9 by omega), tc1]
    by_cases c1 : b = -1
    · rw [if_pos c1]
      by_cases c2 : m 27 (x : Int).toNat ≤ 0
      · rw [if_pos c2]; exact ih (x + 1) b m (by omega) hb
      · rw [if_neg c2]; exact ih (x + 1) x m (by omega) (Or.inr (by omega))
    · rw [if_neg c1, if_pos (show 0 ≤ b ∧ b < 9 by omega)]
      by_cases c2 : m 27 (x : Int).toNat ≤ m 27 b.toNat
      · rw [if_pos c2]; exact ih (x + 1) b m (by omega) hb
      · rw [if_neg c2]; exact ih (x + 1) x m (by omega) (Or.inr (by omega))
theorem C_sea1 (hN : w_N w h n heat D) {x1 : Int} {N : Nat} (hN6 : N ≤ 60) : ∀ (f k : Nat) (r : Int) (m : z_M) (B : Nat → Int), k + f = N → C_is w h n heat price D A c U kn KS cs (z_up m 24 4 (-1)) → cS m 18 n = B → hr_ok n B → -1 ≤ B 34 → 0 ≤ B 35 → B 35 + (f : Int) ≤ 2147483647 → z_w (m 24 6) = m 24 6 → z_w (m 24 9) = m 24 9 → ∃ m', z_R 144 (m, 43, [(2, 0), (0, x1), (0, (N : Int)), (0, r), (0, (k : Int))], []) = some (m', some (0, se_H w h n heat price cs D f r B (m 24 9))) ∧ C_is w h n heat price D A c U kn KS cs m' := by
  intro f
  induction f with
  | zero =>
    intro k r m B hk hi hB hok h34 ht ht2 k6 k9
    obtain ⟨v, a1, a2⟩ := q_ogn 9 0 (-1) (z_up m 24 4 (-1)) (by decide) (Or.inl rfl)
    have a1 : z_R 149 (z_up m 24 4 (-1), 4, [(2, 24), (0, -1), (0, 0)], []) = some (z_up m 24 4 (-1), some (0, v)) := a1
    rw [q_sea_43, if_pos (by omega), q_og_0, a1, zb_v, q_sea_132]
    by_cases c1 : v = -1
    · rw [if_pos c1, c_tell3, zb_n, q_sea_170]
      rw [c_told3 (by decide) (by decide), show (z_up m 24 4 (-1)) 24 9 = m 24 9 from zu_k (by decide)]
      exact ⟨_, rfl, C_tell3 hi _ _ _⟩
    · rw [if_neg c1, if_pos (show 0 ≤ v ∧ v < 9 by omega), c_tell3, zb_n, q_sea_170]
      rw [c_told3 (by decide) (by decide), show (z_up m 24 4 (-1)) 24 9 = m 24 9 from zu_k (by decide)]
      exact ⟨_, rfl, C_tell3 hi _ _ _⟩
  | succ f ih =>
    intro k r m B hk hi hB hok h34 ht ht2 k6 k9
    rw [q_sea_43, if_neg (by omega), q_next_0, zb_v, q_sea_53, q_draw_0, if_pos (show (1 : Int) ≤ 10 by decide), zb_v, q_sea_64, q_next_0, zb_v, q_sea_71]
    obtain ⟨r1, hr1⟩ : ∃ r1, se_n r = r1 := ⟨_, rfl⟩
    obtain ⟨r2, hr2⟩ : ∃ r2, se_n r1 = r2 := ⟨_, rfl⟩
    have es : se_H w h n heat price cs D (f + 1) r B (m 24 9) = se_H w h n heat price cs D f r2 (hr_H w h heat price (c_ml cs) (se_w D (z_rem (z_ush r2 16) ((n : Int) + 3))) n 1 (u_up B 36 (z_rem (z_ush r1 16) 10)) 0 0 0 (m 24 9)).1 (hr_H w h heat price (c_ml cs) (se_w D (z_rem (z_ush r2 16) ((n : Int) + 3))) n 1 (u_up B 36 (z_rem (z_ush r1 16) 10)) 0 0 0 (m 24 9)).2.2.2.2 := by
      rw [← hr2, ← hr1]
      rfl
    rw [es, show z_add (z_mul r 1103515245) 12345 = r1 from hr1, show z_add (z_mul r1 1103515245) 12345 = r2 from hr2]
    clear es
    have hF := z_draw r1 (y := 10) (by decide) (by decide)
    generalize z_rem (z_ush r1 16) 10 = F at hF ⊢
    have hi1 : C_is w h n heat price D A c U kn KS cs (z_up (z_up m 18 8 F) 24 4 (-1)) := C_f4 hi fun p k hk _ => X_up fun z => by
      unfold C_hit at hk
      have := of_decide_eq_true hk
      omega
    have hB1 : cS (z_up m 18 8 F) 18 n = u_up B 36 F := by
      rw [cS_frost, hB]
    have j6 : (z_up m 18 8 F) 24 6 = m 24 6 := zu_p (by decide)
    have j9 : (z_up m 18 8 F) 24 9 = m 24 9 := zu_p (by decide)
    generalize z_up m 18 8 F = m1 at hi1 hB1 j6 j9 ⊢
    have e11 : m1 3 11 = (n : Int) := by
      have := hi1.1.2.2.1
      rw [zu_p (by decide)] at this
      exact this
    have h5 := hN.1.2.2
    rw [q_draw_0, e11, z_add_eq (x := (n : Int)) (by omega) (by omega), if_pos (show 1 ≤ (n : Int) + 3 by omega), zb_v, q_sea_89]
    generalize z_rem (z_ush r2 16) ((n : Int) + 3) = V
    have hi2 : C_is w h n heat price D A c U kn KS cs (z_up (z_up m1 24 4 V) 24 4 (-1)) := C_f4 hi1 fun p k _ hn => X_up hn
    have hB2 : cS (z_up m1 24 4 V) 18 n = u_up B 36 F := by
      rw [cS_off (by omega)]
      exact hB1
    have l6 : z_w ((z_up m1 24 4 V) 24 6) = (z_up m1 24 4 V) 24 6 := by rw [zu_k (by decide), j6]; exact k6
    have l9 : z_w ((z_up m1 24 4 V) 24 9) = (z_up m1 24 4 V) 24 9 := by rw [zu_k (by decide), j9]; exact k9
    have lf : (z_up m1 24 4 V) 24 4 = V := zu_self
    have l99 : (z_up m1 24 4 V) 24 9 = m 24 9 := (zu_k (by decide)).trans j9
    generalize z_up m1 24 4 V = m2 at hi2 hB2 l6 l9 lf l99 ⊢
    have hok2 : hr_ok n (u_up B 36 F) := hr_ok_up hok (by decide) (fun _ => by omega) (fun p h1 h2 => by omega)
    have h342 : -1 ≤ u_up B 36 F 34 := by rw [u_up_ne (by decide)]; exact h34
    have h352 : u_up B 36 F 35 = B 35 := u_up_ne (by decide)
    have hnum : hr_nums n heat (c_ml cs) (se_w D V) := ⟨h5, hN.2.1, c_ml_ok cs, wmf_b hN.2.2⟩
    obtain ⟨m3, b1, b2, b3⟩ := c_goOn z_st_18 hN.1.1 hN.1.2.1 (price := price) hnum (N := 1) (by decide) m2 (C_cfgf hi2 lf) hB2 hok2 (by rw [h352]; exact ht) (by rw [h352]; omega) l6 l9
    have b1 : z_R 67 (m2, 0, [(2, 24), (2, 18), (0, 1), (9, 0)], []) = some (m3, none) := b1
    obtain ⟨⟨o1, o2⟩, o3⟩ := hr_H_ok (price := price) hN.1.1 hN.1.2.1 hnum 1 (u_up B 36 F) (m2 24 6) (m2 24 7) (m2 24 8) (m2 24 9) hok2 h342 (by rw [h352]; exact ht) (by rw [h352]; omega)
    have ow := hr_H_w (w := w) (h := h) (n := n) (heat := heat) (price := price) (ml := c_ml cs) (wmt := se_w D V) 1 (u_up B 36 F) (m2 24 6) (m2 24 7) (m2 24 8) (m2 24 9) l6 l9
    rw [← b2] at o1 o2 o3 ow
    have o1 : hr_ok n (cS m3 18 n) := o1
    have o2 : -1 ≤ cS m3 18 n 34 := o2
    have o3 : cS m3 18 n 35 = B 35 + 1 := by
      have o3 : cS m3 18 n 35 = u_up B 36 F 35 + ((1 : Nat) : Int) := o3
      omega
    have ow6 : z_w (m3 24 6) = m3 24 6 := ow.1
    have ow9 : z_w (m3 24 9) = m3 24 9 := ow.2
    obtain ⟨m4, c1, c2⟩ := q_cgn 9 0 m3 (by decide)
    have c1 : z_R 148 (m3, 2, [(2, 24), (0, 0)], []) = some (m4, none) := c1
    have hi4 : C_is w h n heat price D A c U kn KS cs (z_up m4 24 4 (-1)) := C_f4 hi2 fun p k hk hn => by
      have hk' := hk
      unfold C_hit at hk'
      have hk' := of_decide_eq_true hk'
      rw [c2.of (p := p) (k := k) (by (repeat' (first | exact trivial | refine z_of_c ?_ ?_)) <;> omega)]
      exact b3.of (by (repeat' (first | exact trivial | refine z_of_c ?_ ?_)) <;> omega)
    have e18 : cS m4 18 n = cS m3 18 n := cS_fr (fun j k hj _ => c2.of (by (repeat' (first | exact trivial | refine z_of_c ?_ ?_)) <;> omega))
    have e6 : m4 24 6 = m3 24 6 := c2.of (by (repeat' (first | exact trivial | refine z_of_c ?_ ?_)) <;> omega)
    have e9 : m4 24 9 = m3 24 9 := c2.of (by (repeat' (first | exact trivial | refine z_of_c ?_ ?_)) <;> omega)
    have q1 := hr_H1_cg (w := w) (h := h) (n := n) (heat := heat) (price := price) (ml := c_ml cs) (wmt := se_w D V) (wmt' := se_w D V) (A := u_up B 36 F) (fun _ _ => rfl) (M := m2 24 6) (M' := 0) (G := m2 24 7) (G' := 0) (F := m2 24 8) (F' := 0) (T := m2 24 9)
    rw [← b2] at q1
    have q2 : cS m3 18 n = (hr_H w h heat price (c_ml cs) (se_w D V) n 1 (u_up B 36 F) 0 0 0 (m2 24 9)).1 := q1.1
    have q3 : m3 24 9 = (hr_H w h heat price (c_ml cs) (se_w D V) n 1 (u_up B 36 F) 0 0 0 (m2 24 9)).2.2.2.2 := q1.2
    rw [b1, zb_n, q_sea_104, q_cg_0, c1, zb_n, q_sea_111, z_add_eq (by omega) (by omega), tc1, ← l99, ← q2, ← q3, ← e9]
    exact ih (k + 1) r2 m4 (cS m3 18 n) (by omega) hi4 e18 o1 o2 (by omega) (by omega) (by rw [e6]; exact ow6) (by rw [e9]; exact ow9)
theorem C_season (hi : C_is w h n heat price D A c U kn KS cs m) (hN : w_N w h n heat D) (hok : hr_ok n A) (h34 : -1 ≤ A 34) (ht : 0 ≤ A 35 ∧ A 35 ≤ 1073741824) (s a : Int) : ∃ m', z_R 144 (m, 0, [(2, 0), (0, s), (0, a), (9, 0), (9, 0)], []) = some (m', some (0, se_A w h n heat price cs D A s a)) ∧ C_is w h n heat price D A c U kn KS cs m' := by
  rw [q_sea_0]
  by_cases c1 : a < 1
  · have e : se_A w h n heat price cs D A s a = -1 := if_neg (by omega)
    rw [if_pos c1, e]
    exact ⟨m, rfl, hi⟩
  rw [if_neg c1]
  by_cases c2 : a ≤ 60
  · have e : se_A w h n heat price cs D A s a = se_H w h n heat price cs D a.toNat s A 0 := if_pos (by omega)
    obtain ⟨N, rfl⟩ : ∃ N : Nat, a = (N : Int) := ⟨a.toNat, by omega⟩
    rw [Int.toNat_natCast] at e
    obtain ⟨m2, b1, b2, b3⟩ := c_become z_st_12 z_st_18 (by decide) m
    have b1 : z_R 61 (m, 0, [(2, 18), (2, 12)], []) = some (m2, none) := b1
    have hC2 : C_is w h n heat price D A c U kn KS cs m2 := C_fr hi fun p k hk => by
      have hk' := hk
      unfold C_hit at hk'
      have hk' := of_decide_eq_true hk'
      exact b3.of (by (repeat' (first | exact trivial | refine z_of_c ?_ ?_)) <;> omega)
    have hA2 : cS m2 18 n = A := (cS_cR b2).trans hi.2.2.1
    have hC3 : C_is w h n heat price D A c U kn KS cs (z_up (z_up (z_up (z_up m2 24 6 0) 24 7 0) 24 8 0) 24 9 0) := C_upn (C_upn (C_upn (C_upn hC2 (by decide)) (by decide)) (by decide)) (by decide)
    have k6 : (z_up (z_up (z_up (z_up m2 24 6 0) 24 7 0) 24 8 0) 24 9 0) 24 6 = 0 := by rw [zu_k (by decide), zu_k (by decide), zu_k (by decide), zu_self]
    have k9 : (z_up (z_up (z_up (z_up m2 24 6 0) 24 7 0) 24 8 0) 24 9 0) 24 9 = 0 := zu_self
    have f3 : ∀ p k, ¬ p = 24 → (z_up (z_up (z_up (z_up m2 24 6 0) 24 7 0) 24 8 0) 24 9 0) p k = m2 p k := fun p k hp => by rw [zu_p hp, zu_p hp, zu_p hp, zu_p hp]
    rw [if_pos c2, b1, zb_n, q_sea_24, s_cb_0, zb_n, q_sea_31, q_fg_0]
    generalize z_up (z_up (z_up (z_up m2 24 6 0) 24 7 0) 24 8 0) 24 9 0 = m3 at hC3 k6 k9 f3 ⊢
    have hA3 : cS m3 18 n = A := by
      rw [cS_fr (fun j k hj _ => f3 (18 + j) k (by omega))]
      exact hA2
    obtain ⟨m4, d1, d2⟩ := q_fgn 9 0 m3 (by decide)
    have d1 : z_R 145 (m3, 2, [(2, 24), (0, 0)], []) = some (m4, none) := d1
    have hC4 : C_is w h n heat price D A c U kn KS cs m4 := C_fr hC3 fun p k hk => by
      have hk' := hk
      unfold C_hit at hk'
      have hk' := of_decide_eq_true hk'
      exact d2.of (by (repeat' (first | exact trivial | refine z_of_c ?_ ?_)) <;> omega)
    have hC5 : C_is w h n heat price D A c U kn KS cs (z_up m4 24 4 (-1)) := C_fr hC4 fun p k hk => by
      by_cases e : p = 24 ∧ k = 4
      · rw [e.1, e.2, zu_self]
        exact hC4.1.2.2.2.2.2.2.1.symm
      · exact X_up e
    have e18 : cS m4 18 n = A := by
      rw [cS_fr (fun j k hj _ => d2.of (p := 18 + j) (k := k) (by (repeat' (first | exact trivial | refine z_of_c ?_ ?_)) <;> omega))]
      exact hA3
    have e6 : m4 24 6 = 0 := (d2.of (by (repeat' (first | exact trivial | refine z_of_c ?_ ?_)) <;> omega)).trans k6
    have e9 : m4 24 9 = 0 := (d2.of (by (repeat' (first | exact trivial | refine z_of_c ?_ ?_)) <;> omega)).trans k9
    obtain ⟨m5, g1, g2⟩ := C_sea1 hN (x1 := s) (N := N) (by omega) N 0 s m4 A (by omega) hC5 e18 hok h34 ht.1 (by omega) (by rw [e6]; decide +kernel) (by rw [e9]; decide +kernel)
    have g1 : z_R 144 (m4, 43, [(2, 0), (0, s), (0, (N : Int)), (0, s), (0, 0)], []) = some (m5, some (0, se_H w h n heat price cs D N s A (m4 24 9))) := g1
    rw [d1, zb_n, q_sea_38, g1, e, e9]
    exact ⟨m5, rfl, g2⟩
  · have e : se_A w h n heat price cs D A s a = -1 := if_neg (by omega)
    rw [if_neg c2, e]
    exact ⟨m, rfl, hi⟩
/-! the reference -/
theorem R_cfgf {f : Int} (hi : R_is w h n heat price D A c U kn KS cs (z_up m 251 23 (-1))) (hf : m 251 23 = f) : r_cfg w h n heat price (c_ml cs) (se_w D f) m := by
  obtain ⟨c1, c2, c3, c4, c5, -, c7⟩ := R_cfg hi
  rw [zu_k (by decide)] at c1 c2 c3 c4 c5
  refine ⟨c1, c2, c3, c4, c5, fun t ht p hp => ?_, fun m2 e5 e4 => c7 m2 (e5.trans (zu_rowne (by decide)).symm) (e4.trans (zu_k (by decide)).symm)⟩
  have h8 : ∀ j, j < 30 → m 253 j = D j := fun j hj => by
    have := hi.2.1 j hj
    rw [zu_p (by decide)] at this
    exact this
  have hm : 0 ≤ t % 6 ∧ t % 6 < 6 := ⟨Int.emod_nonneg _ (by decide), Int.emod_lt_of_pos _ (by decide)⟩
  have ej : (6 * (p : Int) + t % 6).toNat = 6 * p + (t % 6).toNat := by omega
  show rwm m p t = if (p : Int) = f then 9 else wmD D t p
  unfold rwm wmD
  rw [hf, ej]
  exact z_ifc (fun _ => rfl) (fun _ => h8 _ (by omega))
theorem R_f23 {m' : z_M} (hi : R_is w h n heat price D A c U kn KS cs (z_up m 251 23 (-1))) (hf : ∀ p k, R_hit p k k = true → ¬ (p = 251 ∧ k = 23) → m' p k = m p k) : R_is w h n heat price D A c U kn KS cs (z_up m' 251 23 (-1)) := R_fr hi fun p k hk => by
  by_cases e : p = 251 ∧ k = 23
  · rw [e.1, e.2, zu_self, zu_self]
  · rw [X_up e, X_up e]
    exact hf p k hk e
theorem q_has01 (m : z_M) (a b : Int) : ∃ v, z_R 185 (m, 0, [(0, a), (0, b)], []) = some (m, some (0, v)) := by
  rw [q_has_0]
  by_cases c1 : z_and (z_shr a b) 1 = 1
  · rw [if_pos c1]; exact ⟨_, rfl⟩
  · rw [if_neg c1]; exact ⟨_, rfl⟩
theorem q_tse30 {x1 x2 x3 : Int} : ∀ (f x : Nat) (m : z_M), x + f = 9 → ∃ m', z_R 257 (m, 30, [(2, 251), (0, x1), (0, x2), (0, x3), (0, (x : Int)), (9, 0), (9, 0)], []) = z_R 257 (m', 54, [(2, 251), (0, x1), (0, x2), (0, x3), (0, 0), (9, 0), (9, 0)], []) ∧ z_same [(274, 0, 8)] m m' := by
  intro f
  induction f with
  | zero =>
    intro x m hx
    rw [q_tse_30, if_pos (by omega)]
    exact ⟨m, rfl, z_same.rf⟩
  | succ f ih =>
    intro x m hx
    rw [q_tse_30, if_neg (by omega), if_pos (show 0 ≤ (x : Int) ∧ (x : Int) < 9 by omega), Int.toNat_natCast, tc1]
    obtain ⟨m', a1, a2⟩ := ih (x + 1) (z_up m 274 x 0) (by omega)
    exact ⟨m', a1, (z_same.rf.upo (by first | exact z_on_h rfl (by omega) (by omega) | exact z_on_t (z_on_h rfl (by omega) (by omega)) | exact z_on_t (z_on_t (z_on_h rfl (by omega) (by omega))) | exact z_on_t (z_on_t (z_on_t (z_on_h rfl (by omega) (by omega)))) | exact z_on_t (z_on_t (z_on_t (z_on_t (z_on_h rfl (by omega) (by omega))))) | exact z_on_t (z_on_t (z_on_t (z_on_t (z_on_t (z_on_h rfl (by omega) (by omega)))))) | exact z_on_t (z_on_t (z_on_t (z_on_t (z_on_t (z_on_t (z_on_h rfl (by omega) (by omega))))))) | exact z_on_t (z_on_t (z_on_t (z_on_t (z_on_t (z_on_t (z_on_t (z_on_h rfl (by omega) (by omega)))))))) | exact z_on_t (z_on_t (z_on_t (z_on_t (z_on_t (z_on_t (z_on_t (z_on_t (z_on_h rfl (by omega) (by omega))))))))) | exact z_on_t (z_on_t (z_on_t (z_on_t (z_on_t (z_on_t (z_on_t (z_on_t (z_on_t (z_on_h rfl (by omega) (by omega)))))))))) | exact z_on_t (z_on_t (z_on_t (z_on_t (z_on_t (z_on_t (z_on_t (z_on_t (z_on_t (z_on_t (z_on_h rfl (by omega) (by omega))))))))))) | exact z_on_t (z_on_t (z_on_t (z_on_t (z_on_t (z_on_t (z_on_t (z_on_t (z_on_t (z_on_t (z_on_t (z_on_h rfl (by omega) (by omega)))))))))))) | exact z_on_t (z_on_t (z_on_t (z_on_t (z_on_t (z_on_t (z_on_t (z_on_t (z_on_t (z_on_t (z_on_t (z_on_t (z_on_h rfl (by omega) (by omega))))))))))))))).tr a2⟩
theorem q_tse138 {x1 x2 x3 x4 x5 : Int} : ∀ (f x : Nat) (m : z_M), x + f = 9 → ∃ m' v6, z_R 257 (m, 138, [(2, 251), (0, x1), (0, x2), (0, x3), (0, x4), (0, x5), (0, (x : Int))], []) = z_R 257 (m', 54, [(2, 251), (0, x1), (0, x2), (0, x3), (0, z_add x4 1), (0, x5), v6], []) ∧ z_same [(274, 0, 8)] m m' := by
  intro f
  induction f with
  | zero =>
    intro x m hx
    rw [q_tse_138, if_pos (by omega)]
    exact ⟨m, _, rfl, z_same.rf⟩
  | succ f ih =>
    intro x m hx
    obtain ⟨v, hv⟩ := q_has01 m (m 251 29) (x : Int)
    rw [q_tse_138, if_neg (by omega), if_pos (show 0 ≤ (x : Int) ∧ (x : Int) < 9 by omega), hv, zb_v, q_tse_162, z_add_eq (x := (x : Int)) (by omega) (by omega), tc1]
    by_cases c1 : v = 0
    · rw [if_pos c1, if_pos (show 0 ≤ (x : Int) ∧ (x : Int) < 9 by omega), Int.toNat_natCast]
      obtain ⟨m', v6, a1, a2⟩ := ih (x + 1) (z_up m 274 x (z_add (m 274 x) 0)) (by omega)
      exact ⟨m', v6, a1, (z_same.rf.upo (by first | exact z_on_h rfl (by omega) (by omega) | exact z_on_t (z_on_h rfl (by omega) (by omega)) | exact z_on_t (z_on_t (z_on_h rfl (by omega) (by omega))) | exact z_on_t (z_on_t (z_on_t (z_on_h rfl (by omega) (by omega)))) | exact z_on_t (z_on_t (z_on_t (z_on_t (z_on_h rfl (by omega) (by omega))))) | exact z_on_t (z_on_t (z_on_t (z_on_t (z_on_t (z_on_h rfl (by omega) (by omega)))))) | exact z_on_t (z_on_t (z_on_t (z_on_t (z_on_t (z_on_t (z_on_h rfl (by omega) (by omega))))))) | exact z_on_t (z_on_t (z_on_t (z_on_t (z_on_t (z_on_t (z_on_t (z_on_h rfl (by omega) (by omega)))))))) | exact z_on_t (z_on_t (z_on_t (z_on_t (z_on_t (z_on_t (z_on_t (z_on_t (z_on_h rfl (by omega) (by omega))))))))) | exact z_on_t (z_on_t (z_on_t (z_on_t (z_on_t (z_on_t (z_on_t (z_on_t (z_on_t (z_on_h rfl (by omega) (by omega)))))))))) | exact z_on_t (z_on_t (z_on_t (z_on_t (z_on_t (z_on_t (z_on_t (z_on_t (z_on_t (z_on_t (z_on_h rfl (by omega) (by omega))))))))))) | exact z_on_t (z_on_t (z_on_t (z_on_t (z_on_t (z_on_t (z_on_t (z_on_t (z_on_t (z_on_t (z_on_t (z_on_h rfl (by omega) (by omega)))))))))))) | exact z_on_t (z_on_t (z_on_t (z_on_t (z_on_t (z_on_t (z_on_t (z_on_t (z_on_t (z_on_t (z_on_t (z_on_t (z_on_h rfl (by omega) (by omega))))))))))))))).tr a2⟩
    · rw [if_neg c1, if_pos (show 0 ≤ (x : Int) ∧ (x : Int) < 9 by omega), Int.toNat_natCast]
      obtain ⟨m', v6, a1, a2⟩ := ih (x + 1) (z_up m 274 x (z_add (m 274 x) 1)) (by omega)
      exact ⟨m', v6, a1, (z_same.rf.upo (by first | exact z_on_h rfl (by omega) (by omega) | exact z_on_t (z_on_h rfl (by omega) (by omega)) | exact z_on_t (z_on_t (z_on_h rfl (by omega) (by omega))) | exact z_on_t (z_on_t (z_on_t (z_on_h rfl (by omega) (by omega)))) | exact z_on_t (z_on_t (z_on_t (z_on_t (z_on_h rfl (by omega) (by omega))))) | exact z_on_t (z_on_t (z_on_t (z_on_t (z_on_t (z_on_h rfl (by omega) (by omega)))))) | exact z_on_t (z_on_t (z_on_t (z_on_t (z_on_t (z_on_t (z_on_h rfl (by omega) (by omega))))))) | exact z_on_t (z_on_t (z_on_t (z_on_t (z_on_t (z_on_t (z_on_t (z_on_h rfl (by omega) (by omega)))))))) | exact z_on_t (z_on_t (z_on_t (z_on_t (z_on_t (z_on_t (z_on_t (z_on_t (z_on_h rfl (by omega) (by omega))))))))) | exact z_on_t (z_on_t (z_on_t (z_on_t (z_on_t (z_on_t (z_on_t (z_on_t (z_on_t (z_on_h rfl (by omega) (by omega)))))))))) | exact z_on_t (z_on_t (z_on_t (z_on_t (z_on_t (z_on_t (z_on_t (z_on_t (z_on_t (z_on_t (z_on_h rfl (by omega) (by omega))))))))))) | exact z_on_t (z_on_t (z_on_t (z_on_t (z_on_t (z_on_t (z_on_t (z_on_t (z_on_t (z_on_t (z_on_t (z_on_h rfl (by omega) (by omega)))))))))))) | exact z_on_t (z_on_t (z_on_t (z_on_t (z_on_t (z_on_t (z_on_t (z_on_t (z_on_t (z_on_t (z_on_t (z_on_t (z_on_h rfl (by omega) (by omega))))))))))))))).tr a2⟩
theorem q_tse195 {x1 x2 x3 : Int} {v6 : z_V} : ∀ (f x : Nat) (b : Int) (m : z_M), x + f = 9 → 0 ≤ b ∧ b < 9 → ∃ b' x', z_R 257 (m, 195, [(2, 251), (0, x1), (0, x2), (0, x3), (0, b), (0, (x : Int)), v6], []) = ((z_R 210 (z_up m 251 10 0, 0, [(2, 251), (1, z_i2l (m 251 32)), (9, 0)], [])).bind fun qq => z_R 257 (qq.1, 243, [(2, 251), (0, x1), (0, x2), (0, x3), (0, b'), (0, x'), v6], qq.2.toList ++ [])) ∧ 0 ≤ b' ∧ b' < 9 := by
  intro f
  induction f with
  | zero =>
    intro x b m hx hb
    rw [q_tse_195, if_pos (by omega)]
    exact ⟨b, _, rfl, hb⟩
  | succ f ih =>
    intro x b m hx hb
    rw [q_tse_195, if_neg (by omega), if_pos (show 0 ≤ (x : Int) ∧ (x : Int) < 9 by omega), if_pos hb, tc1]
    by_cases c1 : m 274 (x : Int).toNat ≤ m 274 b.toNat
    · rw [if_pos c1]; exact ih (x + 1) b m (by omega) hb
    · rw [if_neg c1]; exact ih (x + 1) x m (by omega) (by omega)
theorem R_sea1 (hN : w_N w h n heat D) {x1 : Int} {N : Nat} (hN6 : N ≤ 60) : ∀ (f k : Nat) (r : Int) (v5 v6 : z_V) (m : z_M) (B : Nat → Int), k + f = N → R_is w h n heat price D A c U kn KS cs (z_up m 251 23 (-1)) → rS m 264 n = B → hr_ok n B → -1 ≤ B 34 → 0 ≤ B 35 → B 35 + (f : Int) ≤ 2147483647 → ∃ m', z_R 257 (m, 54, [(2, 251), (0, x1), (0, (N : Int)), (0, r), (0, (k : Int)), v5, v6], []) = some (m', some (0, se_H w h n heat price cs D f r B (m 251 35))) ∧ R_is w h n heat price D A c U kn KS cs m' := by
  intro f
  induction f with
  | zero =>
    intro k r v5 v6 m B hk hi hB hok h34 ht ht2
    obtain ⟨b, x, a1, a2⟩ := q_tse195 (x1 := x1) (x2 := (N : Int)) (x3 := r) (v6 := v6) 8 1 0 (z_up m 251 23 (-1)) (by decide) (by decide)
    have a1 : z_R 257 (z_up m 251 23 (-1), 195, [(2, 251), (0, x1), (0, (N : Int)), (0, r), (0, 0), (0, 1), v6], []) = _ := a1
    have e35 : (z_up m 251 23 (-1)) 251 35 = m 251 35 := zu_k (by decide)
    rw [q_tse_54, if_pos (by omega), a1]
    generalize z_up m 251 23 (-1) = m0 at hi e35 ⊢
    rw [t_tell0, zb_n, q_tse_243, if_pos a2]
    by_cases c1 : (z_up (z_up (z_up m0 251 10 0) 255 0 (z_i2l (m0 251 32))) 251 10 1) 274 b.toNat = 0
    · rw [if_pos c1, t_tell1, zb_n, q_tse_266, if_pos a2, t_tell2, zb_n, q_tse_278]
      rw [t_told3 (by decide) (by decide), e35]
      exact ⟨_, rfl, R_upn (R_upn (R_upn (R_upn (R_upn (R_upn (R_upn hi (by decide)) (by decide)) (by decide)) (by decide)) (by decide)) (by decide)) (by decide)⟩
    · rw [if_neg c1, t_tell1, zb_n, q_tse_266, if_pos a2, t_tell2, zb_n, q_tse_278]
      rw [t_told3 (by decide) (by decide), e35]
      exact ⟨_, rfl, R_upn (R_upn (R_upn (R_upn (R_upn (R_upn (R_upn hi (by decide)) (by decide)) (by decide)) (by decide)) (by decide)) (by decide)) (by decide)⟩
  | succ f ih =>
    intro k r v5 v6 m B hk hi hB hok h34 ht ht2
    have h5 := hN.1.2.2
    have e3 : m 251 3 = (n : Int) := by
      have := hi.1.2.2.1
      rw [zu_k (by decide)] at this
      exact this
    obtain ⟨r1, hr1⟩ : ∃ r1, se_n r = r1 := ⟨_, rfl⟩
    obtain ⟨r2, hr2⟩ : ∃ r2, se_n r1 = r2 := ⟨_, rfl⟩
    have es : se_H w h n heat price cs D (f + 1) r B (m 251 35) = se_H w h n heat price cs D f r2 (hr_H w h heat price (c_ml cs) (se_w D (z_rem (z_ush r2 16) ((n : Int) + 3))) n 1 (u_up B 36 (z_rem (z_ush r1 16) 10)) 0 0 0 (m 251 35)).1 (hr_H w h heat price (c_ml cs) (se_w D (z_rem (z_ush r2 16) ((n : Int) + 3))) n 1 (u_up B 36 (z_rem (z_ush r1 16) 10)) 0 0 0 (m 251 35)).2.2.2.2 := by
      rw [← hr2, ← hr1]
      rfl
    have hF := z_draw r1 (y := 10) (by decide) (by decide)
    -- one hour with the one that is warm
    have key : ∀ (F W V x5 : Int), 0 ≤ F ∧ F ≤ 9 → (∀ y : Nat, y < n → ((y : Int) = V ↔ (y : Int) = W)) → ∃ m', ((z_R 207 (z_up (z_up m 264 36 F) 251 23 V, 0, [(2, 251), (2, 264), (0, 1), (9, 0)], [])).bind fun qq => z_R 257 (qq.1, 135, [(2, 251), (0, x1), (0, (N : Int)), (0, r2), (0, (k : Int)), (0, x5), v6], qq.2.toList ++ [])) = some (m', some (0, se_H w h n heat price cs D f r2 (hr_H w h heat price (c_ml cs) (se_w D W) n 1 (u_up B 36 F) 0 0 0 (m 251 35)).1 (hr_H w h heat price (c_ml cs) (se_w D W) n 1 (u_up B 36 F) 0 0 0 (m 251 35)).2.2.2.2)) ∧ R_is w h n heat price D A c U kn KS cs m' := by
      intro F W V x5 hF hVW
      have hi2 : R_is w h n heat price D A c U kn KS cs (z_up (z_up (z_up m 264 36 F) 251 23 V) 251 23 (-1)) := R_f23 hi fun p k hk hn => by
        rw [X_up hn]
        exact X_up fun z => by
          unfold R_hit at hk
          have := of_decide_eq_true hk
          omega
      have hB2 : rS (z_up (z_up m 264 36 F) 251 23 V) 264 n = u_up B 36 F := by
        rw [rS_row (zu_rowne (by decide)), rS_up (by decide) (a_vis_hi (by decide)), hB]
      have lf : (z_up (z_up m 264 36 F) 251 23 V) 251 23 = V := zu_self
      have l35 : (z_up (z_up m 264 36 F) 251 23 V) 251 35 = m 251 35 := (zu_k (by decide)).trans (zu_p (by decide))
      generalize z_up (z_up m 264 36 F) 251 23 V = m2 at hi2 hB2 lf l35 ⊢
      have hok2 : hr_ok n (u_up B 36 F) := hr_ok_up hok (by decide) (fun _ => hF) (fun p h1 h2 => by omega)
      have h342 : -1 ≤ u_up B 36 F 34 := by rw [u_up_ne (by decide)]; exact h34
      have h352 : u_up B 36 F 35 = B 35 := u_up_ne (by decide)
      have hnum : hr_nums n heat (c_ml cs) (se_w D V) := ⟨h5, hN.2.1, c_ml_ok cs, wmf_b hN.2.2⟩
      obtain ⟨m3, b1, b2, b3⟩ := r_goHours z_A_264 (Or.inr rfl) hN.1.1 hN.1.2.1 (price := price) hnum (N := 1) (by decide) m2 (R_cfgf hi2 lf) hB2 hok2 (by rw [h352]; exact ht) (by rw [h352]; omega)
      have b1 : z_R 207 (m2, 0, [(2, 251), (2, 264), (0, 1), (9, 0)], []) = some (m3, none) := b1
      obtain ⟨⟨o1, o2⟩, o3⟩ := hr_H_ok (price := price) hN.1.1 hN.1.2.1 hnum 1 (u_up B 36 F) (m2 251 32) (m2 251 33) (m2 251 34) (m2 251 35) hok2 h342 (by rw [h352]; exact ht) (by rw [h352]; omega)
      rw [← b2] at o1 o2 o3
      have o1 : hr_ok n (rS m3 264 n) := o1
      have o2 : -1 ≤ rS m3 264 n 34 := o2
      have o3 : rS m3 264 n 35 = B 35 + 1 := by
        have o3 : rS m3 264 n 35 = u_up B 36 F 35 + ((1 : Nat) : Int) := o3
        omega
      obtain ⟨m4, y6, c1, c2⟩ := q_tse138 (x1 := x1) (x2 := (N : Int)) (x3 := r2) (x4 := (k : Int)) (x5 := x5) 9 0 m3 (by decide)
      have c1 : z_R 257 (m3, 138, [(2, 251), (0, x1), (0, (N : Int)), (0, r2), (0, (k : Int)), (0, x5), (0, 0)], []) = z_R 257 (m4, 54, [(2, 251), (0, x1), (0, (N : Int)), (0, r2), (0, z_add (k : Int) 1), (0, x5), y6], []) := c1
      have hi4 : R_is w h n heat price D A c U kn KS cs (z_up m4 251 23 (-1)) := R_f23 hi2 fun p k hk hn => by
        have hk' := hk
        unfold R_hit at hk'
        have hk' := of_decide_eq_true hk'
        rw [c2.of (p := p) (k := k) (by (repeat' (first | exact trivial | refine z_of_c ?_ ?_)) <;> omega)]
        exact b3.of (by (repeat' (first | exact trivial | refine z_of_c ?_ ?_)) <;> omega)
      have e18 : rS m4 264 n = rS m3 264 n := rS_row (c2.ofr (by (repeat' (first | exact trivial | refine z_ofr_c ?_ ?_)) <;> omega))
      have q1 := hr_H1_cg (w := w) (h := h) (n := n) (heat := heat) (price := price) (ml := c_ml cs) (wmt := se_w D V) (wmt' := se_w D W) (A := u_up B 36 F) (fun y hy => by
        show (if (y : Int) = V then 9 else wmD D (u_up B 36 F 35) y) = (if (y : Int) = W then 9 else wmD D (u_up B 36 F 35) y)
        by_cases e : (y : Int) = V
        · rw [if_pos e, if_pos ((hVW y hy).mp e)]
        · rw [if_neg e, if_neg (fun z => e ((hVW y hy).mpr z))]) (M := m2 251 32) (M' := 0) (G := m2 251 33) (G' := 0) (F := m2 251 34) (F' := 0) (T := m2 251 35)
      rw [← b2] at q1
      have q2 : rS m3 264 n = (hr_H w h heat price (c_ml cs) (se_w D W) n 1 (u_up B 36 F) 0 0 0 (m2 251 35)).1 := q1.1
      have q3 : m3 251 35 = (hr_H w h heat price (c_ml cs) (se_w D W) n 1 (u_up B 36 F) 0 0 0 (m2 251 35)).2.2.2.2 := q1.2
      have e35 : m4 251 35 = m3 251 35 := c2.of (by (repeat' (first | exact trivial | refine z_of_c ?_ ?_)) <;> omega)
      rw [b1, zb_n, q_tse_135, c1, z_add_eq (by omega) (by omega), tc1, ← l35, ← q2, ← q3, ← e35]
      exact ih (k + 1) r2 _ _ m4 (rS m3 264 n) (by omega) hi4 e18 o1 o2 (by omega) (by omega)
    rw [q_tse_54, if_neg (by omega), e3, z_add_eq (x := (n : Int)) (y := 3) (by omega) (by omega), if_neg (show ¬ (n : Int) + 3 = 0 by omega), es, show z_add (z_mul r 1103515245) 12345 = r1 from hr1, show z_add (z_mul r1 1103515245) 12345 = r2 from hr2]
    have hV := z_draw r2 (y := (n : Int) + 3) (by omega) (by omega)
    by_cases c1 : (n : Int) ≤ z_rem (z_ush r2 16) ((n : Int) + 3)
    · rw [if_pos c1]
      exact key _ _ _ _ (by omega) (fun y hy => by omega)
    · rw [if_neg c1]
      exact key _ _ _ _ (by omega) (fun y hy => Iff.rfl)
theorem R_season (hi : R_is w h n heat price D A c U kn KS cs m) (hN : w_N w h n heat D) (hok : hr_ok n A) (h34 : -1 ≤ A 34) (ht : 0 ≤ A 35 ∧ A 35 ≤ 1073741824) (s a : Int) : ∃ m', z_R 257 (m, 0, [(2, 251), (0, s), (0, a), (9, 0), (9, 0), (9, 0), (9, 0)], []) = some (m', some (0, se_A w h n heat price cs D A s a)) ∧ R_is w h n heat price D A c U kn KS cs m' := by
  have hu := R_upn (p0 := 251) (k0 := 11) (v := 0) hi (by decide)
  rw [q_tse_0]
  by_cases ok : 1 ≤ a ∧ a ≤ 60
  · have e : se_A w h n heat price cs D A s a = se_H w h n heat price cs D a.toNat s A 0 := if_pos ok
    obtain ⟨N, rfl⟩ : ∃ N : Nat, a = (N : Int) := ⟨a.toNat, by omega⟩
    rw [Int.toNat_natCast] at e
    obtain ⟨m1, b1, b2, b3⟩ := R_lt hu
    have hR3 : R_is w h n heat price D A c U kn KS cs (z_up (z_up (z_up (z_up m1 251 32 0) 251 33 0) 251 34 0) 251 35 0) := R_upn (R_upn (R_upn (R_upn b2 (by decide)) (by decide)) (by decide)) (by decide)
    have f3 : ∀ p k, ¬ p = 251 → (z_up (z_up (z_up (z_up m1 251 32 0) 251 33 0) 251 34 0) 251 35 0) p k = m1 p k := fun p k hp => by rw [zu_p hp, zu_p hp, zu_p hp, zu_p hp]
    have k35 : (z_up (z_up (z_up (z_up m1 251 32 0) 251 33 0) 251 34 0) 251 35 0) 251 35 = 0 := zu_self
    rw [if_pos ok, b1, zb_n, q_tse_23]
    generalize z_up (z_up (z_up (z_up m1 251 32 0) 251 33 0) 251 34 0) 251 35 0 = m2 at hR3 f3 k35 ⊢
    obtain ⟨m3, c1, c2⟩ := q_tse30 (x1 := s) (x2 := (N : Int)) (x3 := s) 9 0 m2 (by decide)
    have c1 : z_R 257 (m2, 30, [(2, 251), (0, s), (0, (N : Int)), (0, s), (0, 0), (9, 0), (9, 0)], []) = z_R 257 (m3, 54, [(2, 251), (0, s), (0, (N : Int)), (0, s), (0, 0), (9, 0), (9, 0)], []) := c1
    have hR4 : R_is w h n heat price D A c U kn KS cs m3 := R_fr hR3 fun p k hk => by
      have hk' := hk
      unfold R_hit at hk'
      have hk' := of_decide_eq_true hk'
      exact c2.of (by (repeat' (first | exact trivial | refine z_of_c ?_ ?_)) <;> omega)
    have hR5 : R_is w h n heat price D A c U kn KS cs (z_up m3 251 23 (-1)) := R_fr hR4 fun p k hk => by
      by_cases e : p = 251 ∧ k = 23
      · rw [e.1, e.2, zu_self]
        exact hR4.1.2.2.2.2.2.symm
      · exact X_up e
    have e264 : rS m3 264 n = A := by
      rw [rS_row (c2.ofr (by (repeat' (first | exact trivial | refine z_ofr_c ?_ ?_)) <;> omega)), rS_row (funext fun k => f3 264 k (by decide))]
      exact b3
    have e35 : m3 251 35 = 0 := (c2.of (by (repeat' (first | exact trivial | refine z_of_c ?_ ?_)) <;> omega)).trans k35
    obtain ⟨m5, g1, g2⟩ := R_sea1 hN (x1 := s) (N := N) (by omega) N 0 s (9, 0) (9, 0) m3 A (by omega) hR5 e264 hok h34 ht.1 (by omega)
    have g1 : z_R 257 (m3, 54, [(2, 251), (0, s), (0, (N : Int)), (0, s), (0, 0), (9, 0), (9, 0)], []) = some (m5, some (0, se_H w h n heat price cs D N s A (m3 251 35))) := g1
    rw [c1, g1, e, e35]
    exact ⟨m5, rfl, g2⟩
  · have e : se_A w h n heat price cs D A s a = -1 := if_neg ok
    rw [if_neg ok, e]
    exact ⟨_, rfl, hu⟩
end
end
section
/-! quiet and season, where they are not compared -/
/-- what a call changes of the class is one cell of the course alone -/
noncomputable def C_off5 (y : Nat) : Bool := (cs_at y).all fun C => C.2.2.2.2.1.all fun q => !(C_hit q.1 q.2.1 q.2.2) || (Nat.beq q.1 24 && Nat.ble 5 q.2.1)
theorem C_off5_ok {y : Nat} (h : C_off5 y = true) {C : A_C} (hC : C ∈ cs_at y) {alts : List A_A} {T : Int} {ρ : List Int} {σ σ' : m_H} {r : Option Value} (hp : c_post alts C.2.2.2.2.1 T ρ σ r σ') : ∀ p k, C_hit p k k = true → ¬ (p = 24 ∧ k = 5) → z_m σ' p k = z_m σ p k := fun p k hk hn => by
  have e := (c_post_h hp).2 p k (fun ⟨q, q1, q2, q3, q4⟩ => by
    have := List.all_eq_true.mp (List.all_eq_true.mp h C hC) q q1
    rw [q2, C_hit_mono hk q3 q4] at this
    rcases Bool.or_eq_true _ _ |>.mp this with b | b
    · cases b
    · obtain ⟨b1, b2⟩ := Bool.and_eq_true _ _ |>.mp b
      have e1 := Nat.eq_of_beq_eq_true b1
      have e2 := Nat.le_of_ble_eq_true b2
      have hk' := hk
      unfold C_hit at hk'
      have hk' := of_decide_eq_true hk'
      omega)
  unfold z_m
  rw [e]
theorem core_quiet (h0 : ((836, 124, 110, 1, false, 847, 127, 233) : l_C).2.2.2.2.1 = false) : l_rel2 Rel_C (836, 124, 110, 1, false, 847, 127, 233) := by
  intro M1 M2 M3 σ σ1 σ2 as v1 v2 C1 C2 ρ1 ρ2 ha hR hh hM1 hC1 hp1 hE1 hC2 hp2 hE2
  obtain ⟨a, rfl⟩ := as_one ha
  have hE1 : z_R 110 (z_m σ, 0, [(2, 0), (0, a.toInt), (9, 0)], []) = some (z_m σ1, some (0, v1.toInt)) := z_R_iff.mpr hE1
  have hE2 : z_R 233 (z_m σ1, 0, [(2, 251), (0, a.toInt), (9, 0), (9, 0), (9, 0), (9, 0)], []) = some (z_m σ2, some (0, v2.toInt)) := z_R_iff.mpr hE2
  have hT := T_two (y1 := 110) (y2 := 233) (by decide +kernel) (by decide +kernel) hC1 hC2 hp1 hp2 hR.1
  obtain ⟨w, h, n, heat, price, D, A, c, U, kn, KS, cs, cC, cR, cW⟩ := hR.2
  obtain ⟨b1, b2, -, b4, hok, b35, -, -⟩ := core_b hh hM1 cR
  have f1 := R_off2_ok (y := 110) (by decide +kernel) hC1 hp1
  have f2 := C_off_ok (y := 233) (by decide +kernel) hC2 hp2
  have f3 := C_off5_ok (y := 110) (by decide +kernel) hC1 hp1
  have f4 := md_vr_ok (y := 110) (p := 24) (k := 5) (v := 0) (by decide +kernel) hC1 hp1
  have cR1 := R_fr cR f1
  have cC1 : C_is w h n heat price D A c U kn KS cs (z_m σ1) := by
    rcases q_cq _ _ _ _ hE1 with e | e
    · rw [e]; exact cC
    · exact C_frq cC (f4.resolve_right e) f3
  obtain ⟨m2, v, d1, d2⟩ := R_quiet b1 b2 b4 hok b35 cR1 a.toInt
  obtain ⟨e, -⟩ := R_inj d1 hE2
  subst e
  exact ⟨⟨hT, Core_mk (C_fr cC1 f2) d2 cW⟩, fun z => absurd (h0.symm.trans z) (by decide)⟩
theorem core_season : l_rel2 Rel_C (1166, 172, 144, 2, false, 1183, 175, 257) := by
  intro M1 M2 M3 σ σ1 σ2 as v1 v2 C1 C2 ρ1 ρ2 ha hR hh hM1 hC1 hp1 hE1 hC2 hp2 hE2
  obtain ⟨s, a, rfl⟩ := as_two ha
  have hE1 : z_R 144 (z_m σ, 0, [(2, 0), (0, s.toInt), (0, a.toInt), (9, 0), (9, 0)], []) = some (z_m σ1, some (0, v1.toInt)) := z_R_iff.mpr hE1
  have hE2 : z_R 257 (z_m σ1, 0, [(2, 251), (0, s.toInt), (0, a.toInt), (9, 0), (9, 0), (9, 0), (9, 0)], []) = some (z_m σ2, some (0, v2.toInt)) := z_R_iff.mpr hE2
  have hT := T_two (y1 := 144) (y2 := 257) (by decide +kernel) (by decide +kernel) hC1 hC2 hp1 hp2 hR.1
  obtain ⟨w, h, n, heat, price, D, A, c, U, kn, KS, cs, cC, cR, cW⟩ := hR.2
  obtain ⟨b1, b2, -, -, hok, b35, b34, b7⟩ := core_b hh hM1 cR
  have hN : w_N w h n heat D := ⟨b1, b2, b7⟩
  have f1 := R_off2_ok (y := 144) (by decide +kernel) hC1 hp1
  have f2 := C_off_ok (y := 257) (by decide +kernel) hC2 hp2
  have cR1 := R_fr cR f1
  have z := core_do cR1 (fun q => C_fr q f2) (C_season cC hN hok b34.1 b35 s.toInt a.toInt) (fun q => R_season q hN hok b34.1 b35 s.toInt a.toInt) hE1 hE2
  exact ⟨⟨hT, Core_mk z.1.1 z.1.2 cW⟩, fun _ => z.2⟩
end
section
/-! WHAT IS KEPT: both texts alike, and both are in one and the same -/
def Rel_0 (σ : m_H) : Prop := Rel_C σ
theorem rel_start : ∀ σ, xs_is σ → Rel_0 σ := core_start
theorem rel_off {c : l_C} (h : ((core_offb c.2.2.1 && core_offb c.2.2.2.2.2.2.2) && (rel_offb c.2.2.1 && (rel_offb c.2.2.2.2.2.2.2 && !c.2.2.2.2.1))) = true) : l_rel2 Rel_0 c := by
  obtain ⟨h1, h2⟩ := Bool.and_eq_true _ _ |>.mp h
  exact core_q (R_off h2) h1
theorem rel_sign : l_rel2 Rel_0 (219, 26, 14, 1, false, 230, 30, 160) := core_q R_sign (by decide +kernel)
theorem rel_end : l_rel2 Rel_0 (244, 31, 16, 1, false, 255, 35, 161) := core_q R_end (by decide +kernel)
theorem rel_quiet : l_rel2 Rel_0 (836, 124, 110, 1, false, 847, 127, 233) := core_quiet rfl
theorem rel_cases : ∀ c ∈ law_cs, l_rel2 Rel_0 c := by
  unfold law_cs
  refine List.forall_mem_cons.mpr ⟨rel_sign, ?_⟩
  refine List.forall_mem_cons.mpr ⟨rel_end, ?_⟩
  refine List.forall_mem_cons.mpr ⟨core_house, ?_⟩
  refine List.forall_mem_cons.mpr ⟨core_people, ?_⟩
  refine List.forall_mem_cons.mpr ⟨core_rule, ?_⟩
  refine List.forall_mem_cons.mpr ⟨core_set, ?_⟩
  refine List.forall_mem_cons.mpr ⟨core_doing, ?_⟩
  refine List.forall_mem_cons.mpr ⟨core_sheet, ?_⟩
  refine List.forall_mem_cons.mpr ⟨core_move, ?_⟩
  refine List.forall_mem_cons.mpr ⟨core_stove, ?_⟩
  refine List.forall_mem_cons.mpr ⟨core_hour, ?_⟩
  refine List.forall_mem_cons.mpr ⟨core_hours, ?_⟩
  refine List.forall_mem_cons.mpr ⟨core_pay, ?_⟩
  refine List.forall_mem_cons.mpr ⟨core_winter, ?_⟩
  refine List.forall_mem_cons.mpr ⟨core_undo, ?_⟩
  refine List.forall_mem_cons.mpr ⟨rel_off (by decide +kernel), ?_⟩
  refine List.forall_mem_cons.mpr ⟨rel_off (by decide +kernel), ?_⟩
  refine List.forall_mem_cons.mpr ⟨rel_off (by decide +kernel), ?_⟩
  refine List.forall_mem_cons.mpr ⟨rel_off (by decide +kernel), ?_⟩
  refine List.forall_mem_cons.mpr ⟨rel_off (by decide +kernel), ?_⟩
  refine List.forall_mem_cons.mpr ⟨rel_off (by decide +kernel), ?_⟩
  refine List.forall_mem_cons.mpr ⟨rel_quiet, ?_⟩
  refine List.forall_mem_cons.mpr ⟨rel_off (by decide +kernel), ?_⟩
  refine List.forall_mem_cons.mpr ⟨rel_off (by decide +kernel), ?_⟩
  refine List.forall_mem_cons.mpr ⟨rel_off (by decide +kernel), ?_⟩
  refine List.forall_mem_cons.mpr ⟨rel_off (by decide +kernel), ?_⟩
  refine List.forall_mem_cons.mpr ⟨rel_off (by decide +kernel), ?_⟩
  refine List.forall_mem_cons.mpr ⟨rel_off (by decide +kernel), ?_⟩
  refine List.forall_mem_cons.mpr ⟨rel_off (by decide +kernel), ?_⟩
  refine List.forall_mem_cons.mpr ⟨rel_off (by decide +kernel), ?_⟩
  refine List.forall_mem_cons.mpr ⟨rel_off (by decide +kernel), ?_⟩
  refine List.forall_mem_cons.mpr ⟨rel_off (by decide +kernel), ?_⟩
  refine List.forall_mem_cons.mpr ⟨rel_off (by decide +kernel), ?_⟩
  refine List.forall_mem_cons.mpr ⟨core_season, ?_⟩
  refine List.forall_mem_cons.mpr ⟨core_keep, ?_⟩
  refine List.forall_mem_cons.mpr ⟨core_again, ?_⟩
  refine List.forall_mem_cons.mpr ⟨rel_off (by decide +kernel), ?_⟩
  exact fun _ h => absurd h List.not_mem_nil
theorem rel_5 : l_rel3 Rel_0 181 2 := core_q3 (R3_off (by decide +kernel)) (by decide +kernel)
theorem rel_6 : l_rel3 Rel_0 190 2 := core_q3 (R3_off (by decide +kernel)) (by decide +kernel)
theorem rel_39 : l_rel3 Rel_0 261 1 := core_q3 (R3_off (by decide +kernel)) (by decide +kernel)
end
