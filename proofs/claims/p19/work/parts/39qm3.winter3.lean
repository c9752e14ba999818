/-! WINTER: acts done one behind the other, by both -/
theorem hr_k_34 {w h : Int} {n : Nat} (hn : n ≤ 5) : ∀ (f x : Nat) (A : Nat → Int) (g fb fm : Int), -1 ≤ A 34 → -1 ≤ (hr_k w h n f x A g fb fm).1 34 := by
  intro f
  induction f with
  | zero => intro x A g fb fm hA; exact hA
  | succ f ih =>
    intro x A g fb fm hA
    unfold hr_k
    by_cases c : u_hs w h (x : Int) = 0
    · rw [if_pos c]; exact ih _ _ _ _ _ hA
    rw [if_neg c]
    by_cases c2 : A x = 0
    · rw [if_pos c2]
      refine ih _ _ _ _ _ ?_
      rw [hr_p_hi (by omega) n 0 _ _ _ (by omega)]
      unfold hr_st
      by_cases c3 : A 34 = (x : Int)
      · rw [if_pos c3, u_up_self]
        exact (hr_to_b w h x).1
      · rw [if_neg c3]; exact hA
    · rw [if_neg c2]; exact ih _ _ _ _ _ hA
theorem hr_A_34 {w h : Nat} (hw : w ≤ 3) (hh : h ≤ 3) {heat price : Int} {ml : hr_M} {wm : Nat → Int} {n : Nat} (hn : n ≤ 5) {A : Nat → Int} (hA : -1 ≤ A 34) : -1 ≤ hr_A w h heat price ml wm n A 34 := by
  unfold hr_A
  rw [u_up_ne (by omega)]
  unfold hr_K
  refine hr_k_34 hn 9 0 _ 0 0 0 ?_
  rw [hr_F_hi (by omega) 9 0 _ (by decide), ← hr_dq_y hw hh, hr_dq_ne (by omega) (by omega) 9 _ (by decide), hr_o_ne n 0 A 34 (by omega) (by omega)]
  exact hA
section
variable {w h n : Nat} {heat price : Int} {ml : hr_M} {wmt : Int → Nat → Int}
theorem hr_H_1 : ∀ (N : Nat) (A : Nat → Int) (M G F T : Int), (hr_H w h heat price ml wmt n N A M G F T).1 = (hr_H w h heat price ml wmt n N A 0 0 0 0).1 := by
  intro N
  induction N with
  | zero => intro A M G F T; rfl
  | succ N ih =>
    intro A M G F T
    show (hr_H w h heat price ml wmt n N (hr_A w h heat price ml (wmt (A 35)) n A) _ _ _ _).1 = (hr_H w h heat price ml wmt n N (hr_A w h heat price ml (wmt (A 35)) n A) _ _ _ _).1
    exact (ih _ _ _ _ _).trans (ih _ _ _ _ _).symm
theorem hr_H_w : ∀ (N : Nat) (A : Nat → Int) (M G F T : Int), z_w M = M → z_w T = T → z_w (hr_H w h heat price ml wmt n N A M G F T).2.1 = (hr_H w h heat price ml wmt n N A M G F T).2.1 ∧ z_w (hr_H w h heat price ml wmt n N A M G F T).2.2.2.2 = (hr_H w h heat price ml wmt n N A M G F T).2.2.2.2 := by
  intro N
  induction N with
  | zero => intro A M G F T h1 h2; exact ⟨h1, h2⟩
  | succ N ih =>
    intro A M G F T h1 h2
    exact ih _ _ _ _ _ (by rw [z_add_w]; exact z_w_w) (by rw [z_add_w]; exact z_w_w)
theorem hr_H_ok (hw : w ≤ 3) (hh : h ≤ 3) (hN : hr_nums n heat ml wmt) : ∀ (N : Nat) (A : Nat → Int) (M G F T : Int), hr_ok n A → -1 ≤ A 34 → 0 ≤ A 35 → A 35 + (N : Int) ≤ 2147483647 → (hr_ok n (hr_H w h heat price ml wmt n N A M G F T).1 ∧ -1 ≤ (hr_H w h heat price ml wmt n N A M G F T).1 34) ∧ (hr_H w h heat price ml wmt n N A M G F T).1 35 = A 35 + (N : Int) := by
  intro N
  induction N with
  | zero =>
    intro A M G F T hok h34 ht ht2
    exact ⟨⟨hok, h34⟩, show A 35 = A 35 + ((0 : Nat) : Int) by omega⟩
  | succ N ih =>
    intro A M G F T hok h34 ht ht2
    have e35 : hr_A w h heat price ml (wmt (A 35)) n A 35 = A 35 + 1 := by rw [hr_A_35 hw hh hN.1, z_add_eq (by omega) (by omega)]
    obtain ⟨q1, q2⟩ := ih (hr_A w h heat price ml (wmt (A 35)) n A) (z_add M (hr_m w h heat ml (wmt (A 35)) n A)) (z_or G (hr_K w h heat price ml (wmt (A 35)) n A).2.1) (z_or F (hr_K w h heat price ml (wmt (A 35)) n A).2.2.1) (z_add T (hr_K w h heat price ml (wmt (A 35)) n A).2.2.2) (hr_A_ok (price := price) hw hh hN.1 hN.2.1 hN.2.2.1 (hN.2.2.2 (A 35) ht) hok) (hr_A_34 hw hh hN.1 h34) (by omega) (by omega)
    exact ⟨q1, q2.trans (by rw [e35]; omega)⟩
end
theorem hr_ok_up {n : Nat} {A : Nat → Int} {j : Nat} {v : Int} (hok : hr_ok n A) (hj : 18 ≤ j) (h36 : j = 36 → 0 ≤ v ∧ v ≤ 9) (hp : ∀ p, p < n → p + 18 = j → -1 ≤ v ∧ v ≤ 8) : hr_ok n (u_up A j v) := by
  obtain ⟨o1, o2, o3, o4⟩ := hok
  refine ⟨fun k hk => ?_, fun k hk => ?_, fun p h => ?_, ?_⟩
  · rw [u_up_ne (by omega)]; exact o1 k hk
  · rw [u_up_ne (by omega)]; exact o2 k hk
  · by_cases e : p + 18 = j
    · rw [e, u_up_self]; exact hp p h e
    · rw [u_up_ne e]; exact o3 p h
  · by_cases e : 36 = j
    · rw [← e, u_up_self]; exact h36 e.symm
    · rw [u_up_ne e]; exact o4
/-- an act done: whether it can be, and the State then -/
def w_do (w h n : Nat) (heat price : Int) (cs : List Int) (D : Nat → Int) (a : Int × Int × Int) (A : Nat → Int) : Bool × (Nat → Int) := if a.1 = 104 then (true, (hr_R w h heat price cs D n a.2.2.toNat A).1) else if a.1 = 102 then (true, u_up A 36 a.2.2) else if a.1 = 109 then (if (a.2.1 < (n : Int) ∧ ¬ u_hs (w : Int) (h : Int) a.2.2 = 0) ∧ ¬ A (a.2.1.toNat + 18) = a.2.2 then (true, u_up A (a.2.1.toNat + 18) a.2.2) else (false, A)) else if (a.2.2 = -1 ∨ ¬ u_hs (w : Int) (h : Int) a.2.2 = 0) ∧ ¬ A 34 = a.2.2 then (true, u_up A 34 a.2.2) else (false, A)
abbrev w_N (w h n : Nat) (heat : Int) (D : Nat → Int) : Prop := (w ≤ 3 ∧ h ≤ 3 ∧ n ≤ 5) ∧ (0 ≤ heat ∧ heat ≤ 9) ∧ ∀ t : Int, 0 ≤ t → ∀ p, p < 5 → 0 ≤ wmD D t p ∧ wmD D t p ≤ 9
section
variable {w h n : Nat} {heat price : Int} {D A : Nat → Int} {c : Nat} {U : Nat → Nat → Int} {kn : Nat → Int} {KS : Nat → Nat → Int} {cs : List Int} {m : z_M} {p v : Int}
theorem w_do_h {X : Nat} : w_do w h n heat price cs D (104, p, (X : Int)) A = (true, (hr_R w h heat price cs D n X A).1) := by
  unfold w_do
  exact if_pos rfl
theorem w_do_f : w_do w h n heat price cs D (102, p, v) A = (true, u_up A 36 v) := by
  unfold w_do
  exact (if_neg (show ¬ (102 : Int) = 104 by decide)).trans (if_pos rfl)
theorem w_do_m1 {q : Nat} (hc : ((q : Int) < (n : Int) ∧ ¬ u_hs (w : Int) (h : Int) v = 0) ∧ ¬ A (q + 18) = v) : w_do w h n heat price cs D (109, (q : Int), v) A = (true, u_up A (q + 18) v) := by
  unfold w_do
  exact (if_neg (show ¬ (109 : Int) = 104 by decide)).trans ((if_neg (show ¬ (109 : Int) = 102 by decide)).trans ((if_pos rfl).trans (if_pos hc)))
theorem w_do_m0 {q : Nat} (hc : ¬ (((q : Int) < (n : Int) ∧ ¬ u_hs (w : Int) (h : Int) v = 0) ∧ ¬ A (q + 18) = v)) : w_do w h n heat price cs D (109, (q : Int), v) A = (false, A) := by
  unfold w_do
  exact (if_neg (show ¬ (109 : Int) = 104 by decide)).trans ((if_neg (show ¬ (109 : Int) = 102 by decide)).trans ((if_pos rfl).trans (if_neg hc)))
theorem w_do_s1 (hc : (v = -1 ∨ ¬ u_hs (w : Int) (h : Int) v = 0) ∧ ¬ A 34 = v) : w_do w h n heat price cs D (115, p, v) A = (true, u_up A 34 v) := by
  unfold w_do
  exact (if_neg (show ¬ (115 : Int) = 104 by decide)).trans ((if_neg (show ¬ (115 : Int) = 102 by decide)).trans ((if_neg (show ¬ (115 : Int) = 109 by decide)).trans (if_pos hc)))
theorem w_do_s0 (hc : ¬ ((v = -1 ∨ ¬ u_hs (w : Int) (h : Int) v = 0) ∧ ¬ A 34 = v)) : w_do w h n heat price cs D (115, p, v) A = (false, A) := by
  unfold w_do
  exact (if_neg (show ¬ (115 : Int) = 104 by decide)).trans ((if_neg (show ¬ (115 : Int) = 102 by decide)).trans ((if_neg (show ¬ (115 : Int) = 109 by decide)).trans (if_neg hc)))
/-- what holds of a State between acts -/
def w_inv (n : Nat) (A : Nat → Int) (e : Int) : Prop := hr_ok n A ∧ -1 ≤ A 34 ∧ 0 ≤ A 35 ∧ A 35 ≤ e
theorem w_do_ok {e : Int} (hN : w_N w h n heat D) (he : e + 9 ≤ 2147483647) {a : Int × Int × Int} (hv : w_av a) (hI : w_inv n A e) : w_inv n (w_do w h n heat price cs D a A).2 (e + 9) := by
  obtain ⟨hok, h34, ht, ht2⟩ := hI
  obtain ⟨t, p, v⟩ := a
  rcases hv with ⟨z0, hv⟩ | ⟨z0, hv⟩ | ⟨z0, hv⟩ | z0
  · have q : t = 104 := z0
    have hv : 1 ≤ v ∧ v ≤ 9 := hv
    subst q
    obtain ⟨X, rfl⟩ : ∃ X : Nat, v = (X : Int) := ⟨v.toNat, by omega⟩
    obtain ⟨⟨q1, q2⟩, q3⟩ := hr_H_ok (price := price) hN.1.1 hN.1.2.1 (ml := c_ml cs) (wmt := wmD D) ⟨hN.1.2.2, hN.2.1, c_ml_ok cs, hN.2.2⟩ X A 0 0 0 0 hok h34 ht (by omega)
    have q3 : (hr_R w h heat price cs D n X A).1 35 = A 35 + (X : Int) := q3
    rw [w_do_h]
    refine ⟨q1, q2, ?_, ?_⟩
    · show 0 ≤ (hr_R w h heat price cs D n X A).1 35
      omega
    · show (hr_R w h heat price cs D n X A).1 35 ≤ e + 9
      omega
  · have q : t = 102 := z0
    have hv : 0 ≤ v ∧ v ≤ 9 := hv
    subst q
    rw [w_do_f]
    refine ⟨hr_ok_up hok (by omega) (fun _ => hv) (fun p h1 h2 => by have := hN.1.2.2; omega), ?_, ?_, ?_⟩
    · show -1 ≤ u_up A 36 v 34
      rw [u_up_ne (by omega)]; exact h34
    · show 0 ≤ u_up A 36 v 35
      rw [u_up_ne (by omega)]; exact ht
    · show u_up A 36 v 35 ≤ e + 9
      rw [u_up_ne (by omega)]; omega
  · have q : t = 109 := z0
    have hv : 0 ≤ p ∧ p ≤ 9 := hv
    subst q
    obtain ⟨q, rfl⟩ : ∃ q : Nat, p = (q : Int) := ⟨p.toNat, by omega⟩
    by_cases hc : ((q : Int) < (n : Int) ∧ ¬ u_hs (w : Int) (h : Int) v = 0) ∧ ¬ A (q + 18) = v
    · have hr := u_hs_rng hc.1.2
      have h5 := hN.1.2.2
      have hq := hc.1.1
      rw [w_do_m1 hc]
      refine ⟨hr_ok_up hok (by omega) (fun z => by omega) (fun p h1 h2 => by omega), ?_, ?_, ?_⟩
      · show -1 ≤ u_up A (q + 18) v 34
        rw [u_up_ne (by omega)]; exact h34
      · show 0 ≤ u_up A (q + 18) v 35
        rw [u_up_ne (by omega)]; exact ht
      · show u_up A (q + 18) v 35 ≤ e + 9
        rw [u_up_ne (by omega)]; omega
    · rw [w_do_m0 hc]
      exact ⟨hok, h34, ht, show A 35 ≤ e + 9 by omega⟩
  · have q : t = 115 := z0
    subst q
    by_cases hc : (v = -1 ∨ ¬ u_hs (w : Int) (h : Int) v = 0) ∧ ¬ A 34 = v
    · have hr : -1 ≤ v := by
        rcases hc.1 with z | z
        · omega
        · have := u_hs_rng z
          omega
      rw [w_do_s1 hc]
      refine ⟨hr_ok_up hok (by omega) (fun z => by omega) (fun p h1 h2 => by have := hN.1.2.2; omega), ?_, ?_, ?_⟩
      · show -1 ≤ u_up A 34 v 34
        rw [u_up_self]; exact hr
      · show 0 ≤ u_up A 34 v 35
        rw [u_up_ne (by omega)]; exact ht
      · show u_up A 34 v 35 ≤ e + 9
        rw [u_up_ne (by omega)]; omega
    · rw [w_do_s0 hc]
      exact ⟨hok, h34, ht, show A 35 ≤ e + 9 by omega⟩
/-! the class does an act -/
abbrev w_LW : List (Nat × Nat × Nat) := [(6, 0, 39), (7, 0, 6), (25, 0, 8), (26, 0, 8), (24, 6, 11), (13, 0, 8), (14, 0, 8), (15, 0, 4), (16, 0, 4), (17, 0, 4), (12, 5, 8)]
theorem C_wper {e : Int} (hN : w_N w h n heat D) (he : e + 9 ≤ 2147483647) (hi : C_is w h n heat price D A c U kn KS cs m) (hI : w_inv n A e) {k : Nat} (hk : k ≤ 29) {a : Int × Int × Int} (ha : w_c1 m k a) (hv : w_av a) (k6 : z_w (m 24 6) = m 24 6) (k9 : z_w (m 24 9) = m 24 9) : ∃ m1, z_R 86 (m, 0, [(2, 0), (0, (k : Int)), (9, 0), (9, 0)], []) = some (m1, some (0, w_b (w_do w h n heat price cs D a A).1)) ∧ C_is w h n heat price D (w_do w h n heat price cs D a A).2 c U kn KS cs m1 ∧ z_same w_LW m m1 ∧ z_w (m1 24 6) = m1 24 6 ∧ z_w (m1 24 9) = m1 24 9 := by
  obtain ⟨hok, h34, ht, ht2⟩ := hI
  have b := hN.1
  obtain ⟨t, p, v⟩ := a
  obtain ⟨e1, e2, e3⟩ := ha
  have e1 : m 119 k = t := e1
  have e2 : t = 109 → m 120 k = p := e2
  have e3 : m 121 k = v := e3
  rw [w_per_0 m k ⟨by omega, by omega⟩, Int.toNat_natCast, e1, e3]
  rcases hv with ⟨z0, hv⟩ | ⟨z0, hv⟩ | ⟨z0, hv⟩ | z0
  · have q : t = 104 := z0
    have hv : 1 ≤ v ∧ v ≤ 9 := hv
    subst q
    obtain ⟨X, rfl⟩ : ∃ X : Nat, v = (X : Int) := ⟨v.toNat, by omega⟩
    obtain ⟨m1, b1, b2, b3⟩ := c_goOn z_st_12 b.1 b.2.1 (price := price) ⟨b.2.2, hN.2.1, c_ml_ok cs, hN.2.2⟩ (N := X) (by omega) m (C_cfg hi) hi.2.2.1 hok ht (by omega) k6 k9
    have b1 : z_R 67 (m, 0, [(2, 24), (2, 12), (0, (X : Int)), (9, 0)], []) = some (m1, none) := b1
    have hw := hr_H_w (w := w) (h := h) (n := n) (heat := heat) (price := price) (ml := c_ml cs) (wmt := wmD D) X A (m 24 6) (m 24 7) (m 24 8) (m 24 9) k6 k9
    rw [← b2] at hw
    have hA : cS m1 12 n = (hr_R w h heat price cs D n X A).1 := (congrArg Prod.fst b2).trans (hr_H_1 X A _ _ _ _)
    rw [if_neg (show ¬ (102 : Int) = 104 by decide), if_pos (show (104 : Int) = 104 from rfl), b1, zb_n, w_per_76, w_do_h]
    exact ⟨m1, rfl, C_LH12 hi b3 hA, b3.subo (by (try unfold w_LW); (try unfold w_LV); (repeat' (first | exact trivial | refine z_sbo_c ?_ ?_)) <;> (intro k h1 h2; first | exact z_on_h rfl (by omega) (by omega) | exact z_on_t (z_on_h rfl (by omega) (by omega)) | exact z_on_t (z_on_t (z_on_h rfl (by omega) (by omega))) | exact z_on_t (z_on_t (z_on_t (z_on_h rfl (by omega) (by omega)))) | exact z_on_t (z_on_t (z_on_t (z_on_t (z_on_h rfl (by omega) (by omega))))) | exact z_on_t (z_on_t (z_on_t (z_on_t (z_on_t (z_on_h rfl (by omega) (by omega)))))) | exact z_on_t (z_on_t (z_on_t (z_on_t (z_on_t (z_on_t (z_on_h rfl (by omega) (by omega))))))) | exact z_on_t (z_on_t (z_on_t (z_on_t (z_on_t (z_on_t (z_on_t (z_on_h rfl (by omega) (by omega)))))))) | exact z_on_t (z_on_t (z_on_t (z_on_t (z_on_t (z_on_t (z_on_t (z_on_t (z_on_h rfl (by omega) (by omega))))))))) | exact z_on_t (z_on_t (z_on_t (z_on_t (z_on_t (z_on_t (z_on_t (z_on_t (z_on_t (z_on_h rfl (by omega) (by omega)))))))))) | exact z_on_t (z_on_t (z_on_t (z_on_t (z_on_t (z_on_t (z_on_t (z_on_t (z_on_t (z_on_t (z_on_h rfl (by omega) (by omega))))))))))) | exact z_on_t (z_on_t (z_on_t (z_on_t (z_on_t (z_on_t (z_on_t (z_on_t (z_on_t (z_on_t (z_on_t (z_on_h rfl (by omega) (by omega)))))))))))) | exact z_on_t (z_on_t (z_on_t (z_on_t (z_on_t (z_on_t (z_on_t (z_on_t (z_on_t (z_on_t (z_on_t (z_on_t (z_on_h rfl (by omega) (by omega))))))))))))))), hw.1, hw.2⟩
  · have q : t = 102 := z0
    subst q
    rw [if_pos (show (102 : Int) = 102 from rfl), w_do_f]
    refine ⟨_, rfl, C_mkA hi (fun p' k' _ h1 => zu_p (by omega)) ?_, z_same.rf.upo (by (try unfold w_LW); (try unfold w_LV); first | exact z_on_h rfl (by omega) (by omega) | exact z_on_t (z_on_h rfl (by omega) (by omega)) | exact z_on_t (z_on_t (z_on_h rfl (by omega) (by omega))) | exact z_on_t (z_on_t (z_on_t (z_on_h rfl (by omega) (by omega)))) | exact z_on_t (z_on_t (z_on_t (z_on_t (z_on_h rfl (by omega) (by omega))))) | exact z_on_t (z_on_t (z_on_t (z_on_t (z_on_t (z_on_h rfl (by omega) (by omega)))))) | exact z_on_t (z_on_t (z_on_t (z_on_t (z_on_t (z_on_t (z_on_h rfl (by omega) (by omega))))))) | exact z_on_t (z_on_t (z_on_t (z_on_t (z_on_t (z_on_t (z_on_t (z_on_h rfl (by omega) (by omega)))))))) | exact z_on_t (z_on_t (z_on_t (z_on_t (z_on_t (z_on_t (z_on_t (z_on_t (z_on_h rfl (by omega) (by omega))))))))) | exact z_on_t (z_on_t (z_on_t (z_on_t (z_on_t (z_on_t (z_on_t (z_on_t (z_on_t (z_on_h rfl (by omega) (by omega)))))))))) | exact z_on_t (z_on_t (z_on_t (z_on_t (z_on_t (z_on_t (z_on_t (z_on_t (z_on_t (z_on_t (z_on_h rfl (by omega) (by omega))))))))))) | exact z_on_t (z_on_t (z_on_t (z_on_t (z_on_t (z_on_t (z_on_t (z_on_t (z_on_t (z_on_t (z_on_t (z_on_h rfl (by omega) (by omega)))))))))))) | exact z_on_t (z_on_t (z_on_t (z_on_t (z_on_t (z_on_t (z_on_t (z_on_t (z_on_t (z_on_t (z_on_t (z_on_t (z_on_h rfl (by omega) (by omega)))))))))))))), ?_, ?_⟩
    · have e := cS_frost (m := m) (s := 12) (v := v) (n := (n : Int))
      rw [hi.2.2.1] at e
      exact e
    · rw [zu_p (by decide)]; exact k6
    · rw [zu_p (by decide)]; exact k9
  · have q : t = 109 := z0
    have hv : 0 ≤ p ∧ p ≤ 9 := hv
    subst q
    obtain ⟨q, rfl⟩ : ∃ q : Nat, p = (q : Int) := ⟨p.toNat, by omega⟩
    rw [if_neg (show ¬ (102 : Int) = 109 by decide), if_neg (show ¬ (104 : Int) = 109 by decide), if_pos (show (109 : Int) = 109 from rfl), e2 rfl]
    by_cases hc : (q : Int) < (n : Int) ∧ ¬ u_hs (w : Int) (h : Int) v = 0
    · have hqn : q < n := by have := hc.1; omega
      have h5 := b.2.2
      rw [C_mva hi b.2.2 hqn v hc.2, zb_v, w_per_94]
      by_cases c2 : A (q + 18) = v
      · rw [if_pos c2, if_neg (show ¬ (0 : Int) ≤ -2 by decide), w_do_m0 (fun z => z.2 c2)]
        exact ⟨m, rfl, hi, z_same.rf, k6, k9⟩
      · have hw := u_was_nn (v := A (q + 18)) (hok.2.2.1 q hqn).1
        rw [if_neg c2, if_pos (show 0 ≤ u_was (A (q + 18)) by omega), if_pos (show 0 ≤ (q : Int) ∧ (q : Int) < 5 by omega), Int.toNat_natCast, w_do_m1 ⟨hc, c2⟩]
        refine ⟨_, rfl, C_mkA hi (fun p' k' _ h1 => zu_p (by omega)) ?_, z_same.rf.upo (by (try unfold w_LW); (try unfold w_LV); first | exact z_on_h rfl (by omega) (by omega) | exact z_on_t (z_on_h rfl (by omega) (by omega)) | exact z_on_t (z_on_t (z_on_h rfl (by omega) (by omega))) | exact z_on_t (z_on_t (z_on_t (z_on_h rfl (by omega) (by omega)))) | exact z_on_t (z_on_t (z_on_t (z_on_t (z_on_h rfl (by omega) (by omega))))) | exact z_on_t (z_on_t (z_on_t (z_on_t (z_on_t (z_on_h rfl (by omega) (by omega)))))) | exact z_on_t (z_on_t (z_on_t (z_on_t (z_on_t (z_on_t (z_on_h rfl (by omega) (by omega))))))) | exact z_on_t (z_on_t (z_on_t (z_on_t (z_on_t (z_on_t (z_on_t (z_on_h rfl (by omega) (by omega)))))))) | exact z_on_t (z_on_t (z_on_t (z_on_t (z_on_t (z_on_t (z_on_t (z_on_t (z_on_h rfl (by omega) (by omega))))))))) | exact z_on_t (z_on_t (z_on_t (z_on_t (z_on_t (z_on_t (z_on_t (z_on_t (z_on_t (z_on_h rfl (by omega) (by omega)))))))))) | exact z_on_t (z_on_t (z_on_t (z_on_t (z_on_t (z_on_t (z_on_t (z_on_t (z_on_t (z_on_t (z_on_h rfl (by omega) (by omega))))))))))) | exact z_on_t (z_on_t (z_on_t (z_on_t (z_on_t (z_on_t (z_on_t (z_on_t (z_on_t (z_on_t (z_on_t (z_on_h rfl (by omega) (by omega)))))))))))) | exact z_on_t (z_on_t (z_on_t (z_on_t (z_on_t (z_on_t (z_on_t (z_on_t (z_on_t (z_on_t (z_on_t (z_on_t (z_on_h rfl (by omega) (by omega)))))))))))))), ?_, ?_⟩
        · have e := cS_up3 (m := m) (s := 12) (j := q) (v := v) (n := (n : Int)) (by omega) (by omega)
          rw [hi.2.2.1] at e
          exact e
        · rw [zu_p (by decide)]; exact k6
        · rw [zu_p (by decide)]; exact k9
    · rw [C_mva_no hi b.2.2 _ v (fun z => hc ⟨z.1.2, z.2⟩), zb_v, w_per_94, if_neg (show ¬ (0 : Int) ≤ -1 by decide), w_do_m0 (fun z => hc z.1)]
      exact ⟨m, rfl, hi, z_same.rf, k6, k9⟩
  · have q : t = 115 := z0
    subst q
    rw [if_neg (show ¬ (102 : Int) = 115 by decide), if_neg (show ¬ (104 : Int) = 115 by decide), if_neg (show ¬ (109 : Int) = 115 by decide), C_sta hi, zb_v, w_per_116]
    by_cases c1 : v = -1 ∨ ¬ u_hs (w : Int) (h : Int) v = 0
    · rw [if_pos c1]
      by_cases c2 : A 34 = v
      · rw [if_pos c2, if_neg (show ¬ (0 : Int) ≤ -2 by decide), w_do_s0 (fun z => z.2 c2)]
        exact ⟨m, rfl, hi, z_same.rf, k6, k9⟩
      · have hw := u_was_nn h34
        rw [if_neg c2, if_pos (show 0 ≤ u_was (A 34) by omega), w_do_s1 ⟨c1, c2⟩]
        refine ⟨_, rfl, C_mkA hi (fun p' k' _ h1 => zu_p (by omega)) ?_, z_same.rf.upo (by (try unfold w_LW); (try unfold w_LV); first | exact z_on_h rfl (by omega) (by omega) | exact z_on_t (z_on_h rfl (by omega) (by omega)) | exact z_on_t (z_on_t (z_on_h rfl (by omega) (by omega))) | exact z_on_t (z_on_t (z_on_t (z_on_h rfl (by omega) (by omega)))) | exact z_on_t (z_on_t (z_on_t (z_on_t (z_on_h rfl (by omega) (by omega))))) | exact z_on_t (z_on_t (z_on_t (z_on_t (z_on_t (z_on_h rfl (by omega) (by omega)))))) | exact z_on_t (z_on_t (z_on_t (z_on_t (z_on_t (z_on_t (z_on_h rfl (by omega) (by omega))))))) | exact z_on_t (z_on_t (z_on_t (z_on_t (z_on_t (z_on_t (z_on_t (z_on_h rfl (by omega) (by omega)))))))) | exact z_on_t (z_on_t (z_on_t (z_on_t (z_on_t (z_on_t (z_on_t (z_on_t (z_on_h rfl (by omega) (by omega))))))))) | exact z_on_t (z_on_t (z_on_t (z_on_t (z_on_t (z_on_t (z_on_t (z_on_t (z_on_t (z_on_h rfl (by omega) (by omega)))))))))) | exact z_on_t (z_on_t (z_on_t (z_on_t (z_on_t (z_on_t (z_on_t (z_on_t (z_on_t (z_on_t (z_on_h rfl (by omega) (by omega))))))))))) | exact z_on_t (z_on_t (z_on_t (z_on_t (z_on_t (z_on_t (z_on_t (z_on_t (z_on_t (z_on_t (z_on_t (z_on_h rfl (by omega) (by omega)))))))))))) | exact z_on_t (z_on_t (z_on_t (z_on_t (z_on_t (z_on_t (z_on_t (z_on_t (z_on_t (z_on_t (z_on_t (z_on_t (z_on_h rfl (by omega) (by omega)))))))))))))), ?_, ?_⟩
        · have e := cS_stove (m := m) (s := 12) (v := v) (n := (n : Int))
          rw [hi.2.2.1] at e
          exact e
        · rw [zu_p (by decide)]; exact k6
        · rw [zu_p (by decide)]; exact k9
    · rw [if_neg c1, if_neg (show ¬ (0 : Int) ≤ -1 by decide), w_do_s0 (fun z => c1 z.1)]
      exact ⟨m, rfl, hi, z_same.rf, k6, k9⟩
/-- acts done as far as they can be: how many, and the State then -/
def w_go (w h n : Nat) (heat price : Int) (cs : List Int) (D : Nat → Int) : List (Int × Int × Int) → (Nat → Int) → Nat × (Nat → Int)
  | [], A => (0, A)
  | a :: l, A => if (w_do w h n heat price cs D a A).1 = true then ((w_go w h n heat price cs D l (w_do w h n heat price cs D a A).2).1 + 1, (w_go w h n heat price cs D l (w_do w h n heat price cs D a A).2).2) else (0, (w_do w h n heat price cs D a A).2)
theorem w_go_1 {a : Int × Int × Int} {l : List (Int × Int × Int)} {B : Nat → Int} (e : w_do w h n heat price cs D a A = (true, B)) : w_go w h n heat price cs D (a :: l) A = ((w_go w h n heat price cs D l B).1 + 1, (w_go w h n heat price cs D l B).2) := by
  show (if (w_do w h n heat price cs D a A).1 = true then ((w_go w h n heat price cs D l (w_do w h n heat price cs D a A).2).1 + 1, (w_go w h n heat price cs D l (w_do w h n heat price cs D a A).2).2) else (0, (w_do w h n heat price cs D a A).2)) = _
  rw [e]
  exact if_pos rfl
theorem w_go_0 {a : Int × Int × Int} {l : List (Int × Int × Int)} {B : Nat → Int} (e : w_do w h n heat price cs D a A = (false, B)) : w_go w h n heat price cs D (a :: l) A = (0, B) := by
  show (if (w_do w h n heat price cs D a A).1 = true then ((w_go w h n heat price cs D l (w_do w h n heat price cs D a A).2).1 + 1, (w_go w h n heat price cs D l (w_do w h n heat price cs D a A).2).2) else (0, (w_do w h n heat price cs D a A).2)) = _
  rw [e]
  exact if_neg (fun z => w_ft z)
theorem w_cl_fr {m' : z_M} : ∀ (l : List (Int × Int × Int)) (k : Nat), w_cl m k l → (∀ j, m' 119 j = m 119 j ∧ m' 120 j = m 120 j ∧ m' 121 j = m 121 j) → w_cl m' k l := by
  intro l
  induction l with
  | nil => intro k _ _; trivial
  | cons a l ih => intro k hc hf; exact ⟨w_c1_fr hc.1 (hf k).1 (hf k).2.1 (hf k).2.2, ih (k + 1) hc.2 hf⟩
theorem C_wgo (hN : w_N w h n heat D) : ∀ (l : List (Int × Int × Int)) (k : Nat) (A : Nat → Int) (e : Int) (m : z_M), k + l.length ≤ 30 → e + 9 * (l.length : Int) ≤ 2147483600 → m 118 4 = ((k + l.length : Nat) : Int) → w_cl m k l → (∀ a ∈ l, w_av a) → C_is w h n heat price D A c U kn KS cs m → w_inv n A e → z_w (m 24 6) = m 24 6 → z_w (m 24 9) = m 24 9 → ∃ m1, z_R 82 (m, 49, [(2, 0), (0, 1), (0, (k : Int))], []) = z_R 82 (m1, 74, [(2, 0), (0, 1), (0, ((k + (w_go w h n heat price cs D l A).1 : Nat) : Int))], []) ∧ C_is w h n heat price D (w_go w h n heat price cs D l A).2 c U kn KS cs m1 ∧ z_same w_LW m m1 := by
  intro l
  induction l with
  | nil =>
    intro k A e m hk he h4 hl hv hi hI k6 k9
    have h4 : m 118 4 = (k : Int) := h4
    have hk : k ≤ 30 := hk
    rw [w_win_49 m 1 k ⟨by omega, by omega⟩, if_pos (by omega)]
    exact ⟨m, rfl, hi, z_same.rf⟩
  | cons a l ih =>
    intro k A e m hk he h4 hl hv hi hI k6 k9
    have hk : k + (l.length + 1) ≤ 30 := hk
    have he : e + 9 * ((l.length + 1 : Nat) : Int) ≤ 2147483600 := he
    have h4 : m 118 4 = ((k + (l.length + 1) : Nat) : Int) := h4
    obtain ⟨m1, a1, a2, a3, a4, a5⟩ := C_wper hN (by omega) hi hI (k := k) (by omega) hl.1 (hv a List.mem_cons_self) k6 k9
    have hI' := w_do_ok (price := price) (cs := cs) hN (by omega) (hv a List.mem_cons_self) hI
    rw [w_win_49 m 1 k ⟨by omega, by omega⟩, if_neg (by omega), a1, zb_v, w_win_65 m1 1 k _ ⟨by omega, by omega⟩]
    rcases hd : w_do w h n heat price cs D a A with ⟨x, B⟩
    rw [hd] at a2 hI'
    cases x with
    | false =>
      rw [w_go_0 hd]
      refine ⟨m1, ?_, a2, a3⟩
      exact if_pos rfl
    | true =>
      rw [w_go_1 hd]
      obtain ⟨m2, d1, d2, d3⟩ := ih (k + 1) B (e + 9) m1 (by omega) (by omega) (by rw [a3.of (p := 118) (k := 4) (by (try unfold w_LW); (try unfold w_LV); (repeat' (first | exact trivial | refine z_of_c ?_ ?_)) <;> omega), h4]; omega) (w_cl_fr l (k + 1) hl.2 (fun j => ⟨a3.of (by (try unfold w_LW); (try unfold w_LV); (repeat' (first | exact trivial | refine z_of_c ?_ ?_)) <;> omega), a3.of (by (try unfold w_LW); (try unfold w_LV); (repeat' (first | exact trivial | refine z_of_c ?_ ?_)) <;> omega), a3.of (by (try unfold w_LW); (try unfold w_LV); (repeat' (first | exact trivial | refine z_of_c ?_ ?_)) <;> omega)⟩)) (fun x hx => hv x (List.mem_cons_of_mem _ hx)) a2 hI' a4 a5
      refine ⟨m2, ?_, d2, a3.tr d3⟩
      refine (if_neg (show ¬ (1 : Int) = 0 by decide)).trans ?_
      rw [tc1, d1]
      show z_R 82 (m2, 74, [(2, 0), (0, 1), (0, ((k + 1 + (w_go w h n heat price cs D l B).1 : Nat) : Int))], []) = z_R 82 (m2, 74, [(2, 0), (0, 1), (0, ((k + ((w_go w h n heat price cs D l B).1 + 1) : Nat) : Int))], [])
      rw [show k + 1 + (w_go w h n heat price cs D l B).1 = k + ((w_go w h n heat price cs D l B).1 + 1) by omega]
/-! the reference does an act -/
abbrev w_LV : List (Nat × Nat × Nat) := [(259, 0, 6), (251, 12, 16), (251, 21, 21), (262, 0, 8), (251, 28, 35), (252, 0, 36)]
theorem R_rmv_no (hi : R_is w h n heat price D A c U kn KS cs m) (h5 : n ≤ 5) (p r : Int) (ok : ¬ ((0 ≤ p ∧ p < (n : Int)) ∧ ¬ u_hs (w : Int) (h : Int) r = 0)) : z_R 196 (m, 0, [(2, 251), (0, p), (0, r)], []) = some (m, some (0, -1)) := by
  obtain ⟨e1, e2, e3, -⟩ := hi.1
  rw [t_rmv_0 m p r (by omega), e1, e2, e3]
  by_cases h1 : 0 ≤ p ∧ p < (n : Int)
  · rw [if_pos h1, if_neg (fun z => ok ⟨h1, z⟩)]
  · rw [if_neg h1]
theorem R_wact {e : Int} (hN : w_N w h n heat D) (he : e + 9 ≤ 2147483647) (hi : R_is w h n heat price D A c U kn KS cs m) (hI : w_inv n A e) {k : Nat} {a : Int × Int × Int} (ha : w_r1 m k a) (hv : w_av a) : ∃ m1, z_R 215 (m, 0, [(2, 251), (0, m 263 (3 * k)), (0, m 263 (3 * k + 1)), (0, m 263 (3 * k + 2))], []) = some (m1, some (0, w_b (w_do w h n heat price cs D a A).1)) ∧ R_is w h n heat price D (w_do w h n heat price cs D a A).2 c U kn KS cs m1 ∧ z_same w_LV m m1 := by
  obtain ⟨hok, h34, ht, ht2⟩ := hI
  have b := hN.1
  have h5 := b.2.2
  obtain ⟨t, p, v⟩ := a
  obtain ⟨e1, e2⟩ := ha
  have e1 : m 263 (3 * k) = t := e1
  have e2 : (t = 109 ∧ m 263 (3 * k + 1) = p ∧ m 263 (3 * k + 2) = v) ∨ (¬ t = 109 ∧ m 263 (3 * k + 1) = v) := e2
  rw [v_act_0, e1]
  rcases hv with ⟨z0, hv⟩ | ⟨z0, hv⟩ | ⟨z0, hv⟩ | z0
  · have q : t = 104 := z0
    have hv : 1 ≤ v ∧ v ≤ 9 := hv
    subst q
    have e3 : m 263 (3 * k + 1) = v := by omega
    obtain ⟨X, rfl⟩ : ∃ X : Nat, v = (X : Int) := ⟨v.toNat, by omega⟩
    obtain ⟨m1, b1, b2, b3⟩ := r_goHours z_A_252 (Or.inl rfl) b.1 b.2.1 (price := price) ⟨b.2.2, hN.2.1, c_ml_ok cs, hN.2.2⟩ (N := X) (by omega) m (R_cfg hi) hi.2.2.1 hok ht (by omega)
    have b1 : z_R 207 (m, 0, [(2, 251), (2, 252), (0, (X : Int)), (9, 0)], []) = some (m1, none) := b1
    have hA : rS m1 252 n = (hr_R w h heat price cs D n X A).1 := (congrArg Prod.fst b2).trans (hr_H_1 X A _ _ _ _)
    rw [if_pos (show (104 : Int) = 104 from rfl), e3, b1, zb_n, v_act_45, w_do_h]
    exact ⟨m1, rfl, R_LH252 hi b3 hA, b3.subo (by (try unfold w_LW); (try unfold w_LV); (repeat' (first | exact trivial | refine z_sbo_c ?_ ?_)) <;> (intro k h1 h2; first | exact z_on_h rfl (by omega) (by omega) | exact z_on_t (z_on_h rfl (by omega) (by omega)) | exact z_on_t (z_on_t (z_on_h rfl (by omega) (by omega))) | exact z_on_t (z_on_t (z_on_t (z_on_h rfl (by omega) (by omega)))) | exact z_on_t (z_on_t (z_on_t (z_on_t (z_on_h rfl (by omega) (by omega))))) | exact z_on_t (z_on_t (z_on_t (z_on_t (z_on_t (z_on_h rfl (by omega) (by omega)))))) | exact z_on_t (z_on_t (z_on_t (z_on_t (z_on_t (z_on_t (z_on_h rfl (by omega) (by omega))))))) | exact z_on_t (z_on_t (z_on_t (z_on_t (z_on_t (z_on_t (z_on_t (z_on_h rfl (by omega) (by omega)))))))) | exact z_on_t (z_on_t (z_on_t (z_on_t (z_on_t (z_on_t (z_on_t (z_on_t (z_on_h rfl (by omega) (by omega))))))))) | exact z_on_t (z_on_t (z_on_t (z_on_t (z_on_t (z_on_t (z_on_t (z_on_t (z_on_t (z_on_h rfl (by omega) (by omega)))))))))) | exact z_on_t (z_on_t (z_on_t (z_on_t (z_on_t (z_on_t (z_on_t (z_on_t (z_on_t (z_on_t (z_on_h rfl (by omega) (by omega))))))))))) | exact z_on_t (z_on_t (z_on_t (z_on_t (z_on_t (z_on_t (z_on_t (z_on_t (z_on_t (z_on_t (z_on_t (z_on_h rfl (by omega) (by omega)))))))))))) | exact z_on_t (z_on_t (z_on_t (z_on_t (z_on_t (z_on_t (z_on_t (z_on_t (z_on_t (z_on_t (z_on_t (z_on_t (z_on_h rfl (by omega) (by omega)))))))))))))))⟩
  · have q : t = 102 := z0
    subst q
    have e3 : m 263 (3 * k + 1) = v := by omega
    rw [if_neg (show ¬ (104 : Int) = 102 by decide), if_neg (show ¬ (109 : Int) = 102 by decide), if_neg (show ¬ (115 : Int) = 102 by decide), e3, w_do_f]
    refine ⟨_, rfl, R_mkA hi (fun p' k' _ h1 => zu_p h1) ?_, z_same.rf.upo (by (try unfold w_LW); (try unfold w_LV); first | exact z_on_h rfl (by omega) (by omega) | exact z_on_t (z_on_h rfl (by omega) (by omega)) | exact z_on_t (z_on_t (z_on_h rfl (by omega) (by omega))) | exact z_on_t (z_on_t (z_on_t (z_on_h rfl (by omega) (by omega)))) | exact z_on_t (z_on_t (z_on_t (z_on_t (z_on_h rfl (by omega) (by omega))))) | exact z_on_t (z_on_t (z_on_t (z_on_t (z_on_t (z_on_h rfl (by omega) (by omega)))))) | exact z_on_t (z_on_t (z_on_t (z_on_t (z_on_t (z_on_t (z_on_h rfl (by omega) (by omega))))))) | exact z_on_t (z_on_t (z_on_t (z_on_t (z_on_t (z_on_t (z_on_t (z_on_h rfl (by omega) (by omega)))))))) | exact z_on_t (z_on_t (z_on_t (z_on_t (z_on_t (z_on_t (z_on_t (z_on_t (z_on_h rfl (by omega) (by omega))))))))) | exact z_on_t (z_on_t (z_on_t (z_on_t (z_on_t (z_on_t (z_on_t (z_on_t (z_on_t (z_on_h rfl (by omega) (by omega)))))))))) | exact z_on_t (z_on_t (z_on_t (z_on_t (z_on_t (z_on_t (z_on_t (z_on_t (z_on_t (z_on_t (z_on_h rfl (by omega) (by omega))))))))))) | exact z_on_t (z_on_t (z_on_t (z_on_t (z_on_t (z_on_t (z_on_t (z_on_t (z_on_t (z_on_t (z_on_t (z_on_h rfl (by omega) (by omega)))))))))))) | exact z_on_t (z_on_t (z_on_t (z_on_t (z_on_t (z_on_t (z_on_t (z_on_t (z_on_t (z_on_t (z_on_t (z_on_t (z_on_h rfl (by omega) (by omega))))))))))))))⟩
    show rS (z_up m 252 36 v) 252 n = u_up A 36 v
    rw [rS_up (by decide) (a_vis_hi (by decide)), hi.2.2.1]
  · have q : t = 109 := z0
    have hv : 0 ≤ p ∧ p ≤ 9 := hv
    subst q
    obtain ⟨e3, e4⟩ : m 263 (3 * k + 1) = p ∧ m 263 (3 * k + 2) = v := by
      rcases e2 with z | z
      · exact z.2
      · exact absurd rfl z.1
    obtain ⟨q, rfl⟩ : ∃ q : Nat, p = (q : Int) := ⟨p.toNat, by omega⟩
    rw [if_neg (show ¬ (104 : Int) = 109 by decide), if_pos (show (109 : Int) = 109 from rfl), e3, e4]
    by_cases hc : (q : Int) < (n : Int) ∧ ¬ u_hs (w : Int) (h : Int) v = 0
    · have hqn : q < n := by have := hc.1; omega
      rw [R_rmv hi b.2.2 hqn v hc.2, zb_v, v_act_53]
      by_cases c2 : A (q + 18) = v
      · rw [if_pos c2, if_neg (show ¬ (0 : Int) ≤ -2 by decide), w_do_m0 (fun z => z.2 c2)]
        exact ⟨m, rfl, hi, z_same.rf⟩
      · obtain ⟨m1, d1, d2, d3⟩ : ∃ m1, z_R 199 (m, 0, [(2, 251), (0, (q : Int)), (0, v), (9, 0)], []) = some (m1, some (0, u_was (A (q + 18)))) ∧ R_is w h n heat price D (u_up A (q + 18) v) c U kn KS cs m1 ∧ z_same w_LV m m1 := by
          have hvq : a_vis (n : Int) (q + 18) = true := a_vis_p (b := 18) (p := q) (by omega) (by omega) (by omega) (by omega)
          have hm : R_is w h n heat price D (u_up A (q + 18) v) c U kn KS cs (z_up m 252 (q + 18) v) := R_mkA hi (fun p' k' _ h1 => zu_p h1) (by rw [rS_up (by omega) hvq, hi.2.2.1])
          refine ⟨_, ?_, hm, z_same.rf.upo (by (try unfold w_LW); (try unfold w_LV); first | exact z_on_h rfl (by omega) (by omega) | exact z_on_t (z_on_h rfl (by omega) (by omega)) | exact z_on_t (z_on_t (z_on_h rfl (by omega) (by omega))) | exact z_on_t (z_on_t (z_on_t (z_on_h rfl (by omega) (by omega)))) | exact z_on_t (z_on_t (z_on_t (z_on_t (z_on_h rfl (by omega) (by omega))))) | exact z_on_t (z_on_t (z_on_t (z_on_t (z_on_t (z_on_h rfl (by omega) (by omega)))))) | exact z_on_t (z_on_t (z_on_t (z_on_t (z_on_t (z_on_t (z_on_h rfl (by omega) (by omega))))))) | exact z_on_t (z_on_t (z_on_t (z_on_t (z_on_t (z_on_t (z_on_t (z_on_h rfl (by omega) (by omega)))))))) | exact z_on_t (z_on_t (z_on_t (z_on_t (z_on_t (z_on_t (z_on_t (z_on_t (z_on_h rfl (by omega) (by omega))))))))) | exact z_on_t (z_on_t (z_on_t (z_on_t (z_on_t (z_on_t (z_on_t (z_on_t (z_on_t (z_on_h rfl (by omega) (by omega)))))))))) | exact z_on_t (z_on_t (z_on_t (z_on_t (z_on_t (z_on_t (z_on_t (z_on_t (z_on_t (z_on_t (z_on_h rfl (by omega) (by omega))))))))))) | exact z_on_t (z_on_t (z_on_t (z_on_t (z_on_t (z_on_t (z_on_t (z_on_t (z_on_t (z_on_t (z_on_t (z_on_h rfl (by omega) (by omega)))))))))))) | exact z_on_t (z_on_t (z_on_t (z_on_t (z_on_t (z_on_t (z_on_t (z_on_t (z_on_t (z_on_t (z_on_t (z_on_t (z_on_h rfl (by omega) (by omega))))))))))))))⟩
          rw [t_gmv_0 m q v (by omega), tn18, R_A hi (k := q + 18) (by omega) hvq]
          unfold u_was
          by_cases c3 : A (q + 18) = -1
          · rw [if_pos c3, if_pos c3]
          · rw [if_neg c3, if_neg c3]
        rw [if_neg c2, if_pos (show (0 : Int) ≤ 0 by decide), d1, zb_v, v_act_64, w_do_m1 ⟨hc, c2⟩]
        exact ⟨m1, rfl, d2, d3⟩
    · rw [R_rmv_no hi b.2.2 _ v (fun z => hc ⟨z.1.2, z.2⟩), zb_v, v_act_53, if_neg (show ¬ (0 : Int) ≤ -1 by decide), w_do_m0 (fun z => hc z.1)]
      exact ⟨m, rfl, hi, z_same.rf⟩
  · have q : t = 115 := z0
    subst q
    have e3 : m 263 (3 * k + 1) = v := by omega
    rw [if_neg (show ¬ (104 : Int) = 115 by decide), if_neg (show ¬ (109 : Int) = 115 by decide), if_pos (show (115 : Int) = 115 from rfl), e3, R_rst hi, zb_v, v_act_72]
    by_cases c1 : v = -1 ∨ ¬ u_hs (w : Int) (h : Int) v = 0
    · rw [if_pos c1]
      by_cases c2 : A 34 = v
      · rw [if_pos c2, if_neg (show ¬ (0 : Int) ≤ -2 by decide), w_do_s0 (fun z => z.2 c2)]
        exact ⟨m, rfl, hi, z_same.rf⟩
      · have hm : R_is w h n heat price D (u_up A 34 v) c U kn KS cs (z_up m 252 34 v) := R_mkA hi (fun q k _ h1 => zu_p h1) (by rw [rS_up (by decide) (a_vis_hi (by decide)), hi.2.2.1])
        have d1 : z_R 203 (m, 0, [(2, 251), (0, v), (9, 0)], []) = some (z_up m 252 34 v, some (0, u_was (A 34))) := by
          rw [t_gst_0, R_A hi (k := 34) (by decide) (a_vis_hi (by decide))]
          unfold u_was
          by_cases c3 : A 34 = -1
          · rw [if_pos c3, if_pos c3]
          · rw [if_neg c3, if_neg c3]
        rw [if_neg c2, if_pos (show (0 : Int) ≤ 0 by decide), d1, zb_v, v_act_82, w_do_s1 ⟨c1, c2⟩]
        exact ⟨_, rfl, hm, z_same.rf.upo (by (try unfold w_LW); (try unfold w_LV); first | exact z_on_h rfl (by omega) (by omega) | exact z_on_t (z_on_h rfl (by omega) (by omega)) | exact z_on_t (z_on_t (z_on_h rfl (by omega) (by omega))) | exact z_on_t (z_on_t (z_on_t (z_on_h rfl (by omega) (by omega)))) | exact z_on_t (z_on_t (z_on_t (z_on_t (z_on_h rfl (by omega) (by omega))))) | exact z_on_t (z_on_t (z_on_t (z_on_t (z_on_t (z_on_h rfl (by omega) (by omega)))))) | exact z_on_t (z_on_t (z_on_t (z_on_t (z_on_t (z_on_t (z_on_h rfl (by omega) (by omega))))))) | exact z_on_t (z_on_t (z_on_t (z_on_t (z_on_t (z_on_t (z_on_t (z_on_h rfl (by omega) (by omega)))))))) | exact z_on_t (z_on_t (z_on_t (z_on_t (z_on_t (z_on_t (z_on_t (z_on_t (z_on_h rfl (by omega) (by omega))))))))) | exact z_on_t (z_on_t (z_on_t (z_on_t (z_on_t (z_on_t (z_on_t (z_on_t (z_on_t (z_on_h rfl (by omega) (by omega)))))))))) | exact z_on_t (z_on_t (z_on_t (z_on_t (z_on_t (z_on_t (z_on_t (z_on_t (z_on_t (z_on_t (z_on_h rfl (by omega) (by omega))))))))))) | exact z_on_t (z_on_t (z_on_t (z_on_t (z_on_t (z_on_t (z_on_t (z_on_t (z_on_t (z_on_t (z_on_t (z_on_h rfl (by omega) (by omega)))))))))))) | exact z_on_t (z_on_t (z_on_t (z_on_t (z_on_t (z_on_t (z_on_t (z_on_t (z_on_t (z_on_t (z_on_t (z_on_t (z_on_h rfl (by omega) (by omega))))))))))))))⟩
    · rw [if_neg c1, if_neg (show ¬ (0 : Int) ≤ -1 by decide), w_do_s0 (fun z => c1 z.1)]
      exact ⟨m, rfl, hi, z_same.rf⟩
theorem w_rl_fr {m' : z_M} : ∀ (l : List (Int × Int × Int)) (k : Nat), w_rl m k l → (∀ j, m' 263 j = m 263 j) → w_rl m' k l := by
  intro l
  induction l with
  | nil => intro k _ _; trivial
  | cons a l ih => intro k hc hf; exact ⟨w_r1_fr hc.1 (fun j _ _ => hf j), ih (k + 1) hc.2 hf⟩
theorem R_wgo {x1 : Int} (hN : w_N w h n heat D) : ∀ (l : List (Int × Int × Int)) (k : Nat) (A : Nat → Int) (e : Int) (m : z_M), k + l.length ≤ 30 → e + 9 * (l.length : Int) ≤ 2147483600 → x1 = ((k + l.length : Nat) : Int) → w_rl m k l → (∀ a ∈ l, w_av a) → R_is w h n heat price D A c U kn KS cs m → w_inv n A e → ∃ m1, z_R 212 (m, 121, [(2, 251), (0, x1), (0, 0), (0, (k : Int))], []) = z_R 212 (m1, 167, [(2, 251), (0, x1), (0, 0), (0, ((k + (w_go w h n heat price cs D l A).1 : Nat) : Int))], []) ∧ R_is w h n heat price D (w_go w h n heat price cs D l A).2 c U kn KS cs m1 ∧ z_same w_LV m m1 := by
  intro l
  induction l with
  | nil =>
    intro k A e m hk he h4 hl hv hi hI
    have h4 : x1 = (k : Int) := h4
    have hk : k ≤ 30 := hk
    rw [v_win_121 m x1 0 k ⟨by omega, by omega⟩, if_pos (by omega)]
    exact ⟨m, rfl, hi, z_same.rf⟩
  | cons a l ih =>
    intro k A e m hk he h4 hl hv hi hI
    have hk : k + (l.length + 1) ≤ 30 := hk
    have he : e + 9 * ((l.length + 1 : Nat) : Int) ≤ 2147483600 := he
    have h4 : x1 = ((k + (l.length + 1) : Nat) : Int) := h4
    have k0 : (3 * (k : Int)).toNat = 3 * k := by omega
    have k1 : (3 * (k : Int) + 1).toNat = 3 * k + 1 := by omega
    have k2 : (3 * (k : Int) + 2).toNat = 3 * k + 2 := by omega
    obtain ⟨m1, a1, a2, a3⟩ := R_wact hN (by omega) hi hI hl.1 (hv a List.mem_cons_self)
    have hI' := w_do_ok (price := price) (cs := cs) hN (by omega) (hv a List.mem_cons_self) hI
    rw [v_win_121 m x1 0 k ⟨by omega, by omega⟩, if_neg (by omega), k0, k1, k2, a1, zb_v, v_win_158 m1 x1 0 k _ ⟨by omega, by omega⟩]
    rcases hd : w_do w h n heat price cs D a A with ⟨x, B⟩
    rw [hd] at a2 hI'
    cases x with
    | false =>
      rw [w_go_0 hd]
      refine ⟨m1, ?_, a2, a3⟩
      exact if_pos rfl
    | true =>
      rw [w_go_1 hd]
      obtain ⟨m2, d1, d2, d3⟩ := ih (k + 1) B (e + 9) m1 (by omega) (by omega) (by omega) (w_rl_fr l (k + 1) hl.2 (fun j => a3.of (by (try unfold w_LW); (try unfold w_LV); (repeat' (first | exact trivial | refine z_of_c ?_ ?_)) <;> omega))) (fun x hx => hv x (List.mem_cons_of_mem _ hx)) a2 hI'
      refine ⟨m2, ?_, d2, a3.tr d3⟩
      refine (if_neg (show ¬ (1 : Int) = 0 by decide)).trans ?_
      rw [tc1, d1]
      show z_R 212 (m2, 167, [(2, 251), (0, x1), (0, 0), (0, ((k + 1 + (w_go w h n heat price cs D l B).1 : Nat) : Int))], []) = z_R 212 (m2, 167, [(2, 251), (0, x1), (0, 0), (0, ((k + ((w_go w h n heat price cs D l B).1 + 1) : Nat) : Int))], [])
      rw [show k + 1 + (w_go w h n heat price cs D l B).1 = k + ((w_go w h n heat price cs D l B).1 + 1) by omega]
end
