section
/-! WHAT HOLDS OF A STATE STAYS; HOURS -/
theorem hr_k_hi {w h : Int} {n : Nat} (hn : n ≤ 5) {j : Nat} (hj : j < 18 ∨ 35 ≤ j) : ∀ (f x : Nat) (A : Nat → Int) (g fb fm : Int), (hr_k w h n f x A g fb fm).1 j = A j := by
  intro f
  induction f with
  | zero => intro x A g fb fm; rfl
  | succ f ih =>
    intro x A g fb fm
    unfold hr_k
    by_cases c : u_hs w h (x : Int) = 0
    · rw [if_pos c]; exact ih _ _ _ _ _
    rw [if_neg c]
    by_cases c2 : A x = 0
    · rw [if_pos c2, ih, hr_p_hi (by omega) n 0 _ _ _ (by omega)]
      unfold hr_st
      by_cases c3 : A 34 = (x : Int)
      · rw [if_pos c3, u_up_ne (by omega)]
      · rw [if_neg c3]
    · rw [if_neg c2]; exact ih _ _ _ _ _
theorem hr_p_wh {r to : Int} (ht : -1 ≤ to ∧ to ≤ 8) {n : Nat} (hn : n ≤ 5) : ∀ (f x : Nat) (A : Nat → Int) (fb fm : Int), x + f ≤ 5 → (∀ p, p < n → -1 ≤ A (p + 18) ∧ A (p + 18) ≤ 8) → ∀ p, p < n → -1 ≤ (hr_p r to f x A fb fm).1 (p + 18) ∧ (hr_p r to f x A fb fm).1 (p + 18) ≤ 8 := by
  intro f
  induction f with
  | zero => intro x A fb fm hx hA p hp; exact hA p hp
  | succ f ih =>
    intro x A fb fm hx hA
    unfold hr_p
    by_cases c : A (x + 18) = r
    · rw [if_pos c]
      refine ih (x + 1) _ _ _ (by omega) (fun p hp => ?_)
      rw [u_up_ne (by omega)]
      unfold u_up
      by_cases c2 : p + 18 = x + 18
      · rw [if_pos c2]; exact ht
      · rw [if_neg c2]; exact hA p hp
    · rw [if_neg c]
      exact ih (x + 1) _ _ _ (by omega) hA
theorem hr_to_b (w h : Int) (x : Nat) : -1 ≤ hr_to w h x ∧ hr_to w h x ≤ 8 := by
  unfold hr_to
  by_cases c : u_hs w h ((x : Int) + 3) = 0
  · rw [if_pos c]; omega
  · have := u_hs_rng c
    rw [if_neg c]; omega
theorem hr_st_18 {r to : Int} {A : Nat → Int} {j : Nat} (hj : ¬ j = 34) : hr_st r to A j = A j := by
  unfold hr_st
  by_cases c : A 34 = r
  · rw [if_pos c, u_up_ne hj]
  · rw [if_neg c]
theorem hr_k_wh {w h : Int} {n : Nat} (hn : n ≤ 5) : ∀ (f x : Nat) (A : Nat → Int) (g fb fm : Int), (∀ p, p < n → -1 ≤ A (p + 18) ∧ A (p + 18) ≤ 8) → ∀ p, p < n → -1 ≤ (hr_k w h n f x A g fb fm).1 (p + 18) ∧ (hr_k w h n f x A g fb fm).1 (p + 18) ≤ 8 := by
  intro f
  induction f with
  | zero => intro x A g fb fm hA p hp; exact hA p hp
  | succ f ih =>
    intro x A g fb fm hA
    unfold hr_k
    by_cases c : u_hs w h (x : Int) = 0
    · rw [if_pos c]; exact ih _ _ _ _ _ hA
    rw [if_neg c]
    by_cases c2 : A x = 0
    · rw [if_pos c2]
      refine ih _ _ _ _ _ (hr_p_wh (hr_to_b w h x) hn n 0 _ _ _ (by omega) (fun p hp => ?_))
      rw [hr_st_18 (by omega)]
      exact hA p hp
    · rw [if_neg c2]; exact ih _ _ _ _ _ hA
theorem hr_F_ne {w h : Int} {j : Nat} : ∀ (f x : Nat) (A : Nat → Int), (∀ y, x ≤ y → y < x + f → ¬ j = y ∧ ¬ j = y + 9) → hr_F w h f x A j = A j := by
  intro f
  induction f with
  | zero => intro x A hj; rfl
  | succ f ih =>
    intro x A hj
    have := hj x (by omega) (by omega)
    unfold hr_F
    rw [ih (x + 1) _ (fun y h1 h2 => hj y (by omega) (by omega))]
    by_cases c : u_hs w h (x : Int) = 0
    · rw [if_pos c]
    · rw [if_neg c, hr_f_ne this.1 this.2]
theorem hr_f_0 {k : Nat} {A : Nat → Int} : hr_f k A k = z_add (A k) (hr_v (A 36) (A (k + 9)) (A k)) := by unfold hr_f; rw [u_up_self]
theorem hr_f_9 {k : Nat} {A : Nat → Int} : hr_f k A (k + 9) = z_sub (A (k + 9)) (hr_v (A 36) (A (k + 9)) (A k)) := by unfold hr_f; rw [u_up_ne (by omega), u_up_self]
theorem hr_F_at {w h : Int} : ∀ (f x : Nat) (A : Nat → Int), x + f ≤ 9 → ∀ k, x ≤ k → k < x + f → hr_F w h f x A k = (if u_hs w h (k : Int) = 0 then A k else z_add (A k) (hr_v (A 36) (A (k + 9)) (A k))) ∧ hr_F w h f x A (k + 9) = (if u_hs w h (k : Int) = 0 then A (k + 9) else z_sub (A (k + 9)) (hr_v (A 36) (A (k + 9)) (A k))) := by
  intro f
  induction f with
  | zero => intro x A hx k h1 h2; omega
  | succ f ih =>
    intro x A hx k h1 h2
    unfold hr_F
    by_cases hk : k = x
    · subst hk
      rw [hr_F_ne f (k + 1) _ (fun y h3 h4 => by omega), hr_F_ne f (k + 1) _ (fun y h3 h4 => by omega)]
      by_cases c : u_hs w h (k : Int) = 0
      · rw [if_pos c, if_pos c, if_pos c]; exact ⟨rfl, rfl⟩
      · rw [if_neg c, if_neg c, if_neg c]; exact ⟨hr_f_0, hr_f_9⟩
    · obtain ⟨i1, i2⟩ := ih (x + 1) (if u_hs w h (x : Int) = 0 then A else hr_f x A) (by omega) k (by omega) (by omega)
      have q : ∀ j, ¬ j = x → ¬ j = x + 9 → (if u_hs w h (x : Int) = 0 then A else hr_f x A) j = A j := fun j j1 j2 => by
        by_cases c : u_hs w h (x : Int) = 0
        · rw [if_pos c]
        · rw [if_neg c, hr_f_ne j1 j2]
      rw [q k (by omega) (by omega), q (k + 9) (by omega) (by omega), q 36 (by omega) (by omega)] at i1 i2
      exact ⟨i1, i2⟩
theorem hr_v_b {f w i : Int} (h1 : 0 ≤ f) (h2 : 0 ≤ w) (h3 : 0 ≤ i) (h4 : i ≤ 99) : 0 ≤ hr_v f w i ∧ hr_v f w i ≤ w ∧ hr_v f w i ≤ 99 - i := by
  unfold hr_v
  rw [z_sub_eq (by omega) (by omega)]
  by_cases c1 : w < f
  · rw [if_pos c1]
    by_cases c2 : 99 - i < w
    · rw [if_pos c2]; omega
    · rw [if_neg c2]; omega
  · rw [if_neg c1]
    by_cases c2 : 99 - i < f
    · rw [if_pos c2]; omega
    · rw [if_neg c2]; omega
theorem hr_K_hi {w h : Nat} (hw : w ≤ 3) (hh : h ≤ 3) {heat price : Int} {ml : hr_M} {wm : Nat → Int} {n : Nat} (hn : n ≤ 5) {A : Nat → Int} {j : Nat} (hj : 35 ≤ j) : (hr_K w h heat price ml wm n A).1 j = A j := by
  unfold hr_K
  rw [hr_k_hi hn (Or.inr hj), hr_F_hi (by omega) 9 0 _ (by decide), ← hr_dq_y hw hh, hr_dq_ne (by omega) (by omega) 9 _ (by decide), hr_o_ne n 0 A j (by omega) (by omega)]
theorem hr_A_35 {w h : Nat} (hw : w ≤ 3) (hh : h ≤ 3) {heat price : Int} {ml : hr_M} {wm : Nat → Int} {n : Nat} (hn : n ≤ 5) {A : Nat → Int} : hr_A w h heat price ml wm n A 35 = z_add (A 35) 1 := by
  unfold hr_A
  rw [u_up_self, hr_K_hi hw hh hn (by decide)]
theorem hr_dq_ne18 {w h : Nat} {e : Nat → Int} {j : Nat} (hj : 18 ≤ j) (h33 : ¬ j = 33) : ∀ (f : Nat) (A : Nat → Int), f ≤ 9 → hr_dq w h e f A j = A j := by
  intro f
  induction f with
  | zero => intro A hf; rfl
  | succ f ih =>
    intro A hf
    unfold hr_dq
    cases hq w h f with
    | true =>
      rw [cond_true, ih _ (by omega)]
      cases c : hq w h (f + 3) with
      | true =>
        have := (hq_t.mp c).1
        rw [hr_d1_ne (by omega) (by omega) (by omega) h33]
      | false => rw [cond_false, hr_d1_at0 rfl, if_neg (by omega), if_neg (by omega), if_neg h33]
    | false => rw [cond_false]; exact ih _ (by omega)
theorem hr_A_ok {w h : Nat} (hw : w ≤ 3) (hh : h ≤ 3) {heat price : Int} {ml : hr_M} {wm : Nat → Int} {n : Nat} (hn : n ≤ 5) (hheat : 0 ≤ heat ∧ heat ≤ 9) (hml : hr_mlok ml) (hwm : ∀ p, p < 5 → 0 ≤ wm p ∧ wm p ≤ 9) {A : Nat → Int} (hok : hr_ok n A) : hr_ok n (hr_A w h heat price ml wm n A) := by
  obtain ⟨o1, o2, o3, o4⟩ := hok
  have key : ∀ k, k < 9 → (0 ≤ (hr_K w h heat price ml wm n A).1 k ∧ (hr_K w h heat price ml wm n A).1 k ≤ 99) ∧ 0 ≤ (hr_K w h heat price ml wm n A).1 (k + 9) ∧ (hr_K w h heat price ml wm n A).1 (k + 9) ≤ 99 * ((k / 3 + 1 : Nat) : Int) := by
    intro k hk
    unfold hr_K
    rw [hr_k_hi hn (Or.inl (by omega)), hr_k_hi hn (Or.inl (by omega))]
    obtain ⟨f1, f2⟩ := hr_F_at (w := (w : Int)) (h := (h : Int)) 9 0 (hr_y w h (hr_me (w : Int) (h : Int) heat ml wm n A) h (hr_o wm price n 0 A)) (by decide) k (by omega) (by omega)
    rw [f1, f2]
    obtain ⟨d1, d2⟩ := hr_cl hw hh (hr_me (w : Int) (h : Int) heat ml wm n A) (hr_o wm price n 0 A) k hk
    rw [hr_dq_y hw hh, hr_o_ne n 0 A k (by omega) (by omega)] at d1
    rw [hr_dq_y hw hh, hr_o_ne n 0 A (k + 9) (by omega) (by omega), hr_o_ne n 0 A (k + 6) (by omega) (by omega)] at d2
    have d36 : hr_y w h (hr_me (w : Int) (h : Int) heat ml wm n A) h (hr_o wm price n 0 A) 36 = A 36 := by
      rw [← hr_dq_y hw hh, hr_dq_ne (by omega) (by omega) 9 _ (by decide), hr_o_ne n 0 A 36 (by omega) (by omega)]
    rw [d36, d1, d2]
    have p1 := o1 k hk
    have p2 := o2 k hk
    have hu := u_hs_q hw hh (r := k) (by omega)
    cases hc : hq w h k with
    | false =>
      rw [hc, cond_false] at hu
      rw [cond_false, cond_false, if_pos hu, if_pos hu]
      exact ⟨p1, p2⟩
    | true =>
      rw [hc, cond_true] at hu
      rw [cond_true, cond_true, if_neg (by omega), if_neg (by omega)]
      have em : hr_me (w : Int) (h : Int) heat ml wm n A k = ml (hr_W heat wm n A k) (A k) (A (k + 9)) (A 36) ((k : Int) / 3) (hr_C n A k) (A 35) := by
        unfold hr_me
        rw [if_neg (by omega)]
        exact hr_mN_eq hn hwm hheat A k
      have bm := hml (hr_W heat wm n A k) (A k) (A (k + 9)) (A 36) ((k : Int) / 3) (hr_C n A k) (A 35) p1.1
      rw [← em] at bm
      generalize hr_me (w : Int) (h : Int) heat ml wm n A k = ek at bm ⊢
      rw [z_sub_eq (x := A k) (by omega) (by omega)]
      have hwet : ∃ W, (bif Nat.ble 3 k then z_add ek (A (k + 6)) else ek) = W ∧ 0 ≤ W ∧ W ≤ 99 * ((k / 3 + 1 : Nat) : Int) := by
        cases h3 : Nat.ble 3 k with
        | true =>
          have h3' := Nat.le_of_ble_eq_true h3
          have p3 := o2 (k - 3) (by omega)
          rw [show k - 3 + 9 = k + 6 by omega] at p3
          refine ⟨ek + A (k + 6), by rw [cond_true, z_add_eq (by omega) (by omega)], by omega, by omega⟩
        | false =>
          refine ⟨ek, by rw [cond_false], by omega, by omega⟩
      obtain ⟨W, w1, w2, w3⟩ := hwet
      rw [w1]
      have bv := hr_v_b (f := A 36) (w := W) (i := A k - ek) o4.1 w2 (by omega) (by omega)
      rw [z_add_eq (by omega) (by omega), z_sub_eq (by omega) (by omega)]
      omega
  refine ⟨fun k hk => ?_, fun k hk => ?_, fun p hp => ?_, ?_⟩
  · unfold hr_A
    rw [u_up_ne (by omega)]
    exact (key k hk).1
  · unfold hr_A
    rw [u_up_ne (by omega)]
    exact (key k hk).2
  · unfold hr_A
    rw [u_up_ne (by omega)]
    unfold hr_K
    refine hr_k_wh hn 9 0 _ 0 0 0 (fun p hp => ?_) p hp
    rw [hr_F_hi (by omega) 9 0 _ (by decide), ← hr_dq_y hw hh, hr_dq_ne18 (by omega) (by omega) 9 _ (by decide), hr_o_ne n 0 A (p + 18) (by omega) (by omega)]
    exact o3 p hp
  · unfold hr_A
    rw [u_up_ne (by omega), hr_K_hi hw hh hn (by decide)]
    exact o4
/-- hours one behind the other: the State; what melted, gave, who fell, how often -/
def hr_H (w h : Nat) (heat price : Int) (ml : hr_M) (wmt : Int → Nat → Int) (n : Nat) : Nat → (Nat → Int) → Int → Int → Int → Int → (Nat → Int) × Int × Int × Int × Int
  | 0, A, M, G, F, T => (A, M, G, F, T)
  | f + 1, A, M, G, F, T => hr_H w h heat price ml wmt n f (hr_A w h heat price ml (wmt (A 35)) n A) (z_add M (hr_m w h heat ml (wmt (A 35)) n A)) (z_or G (hr_K w h heat price ml (wmt (A 35)) n A).2.1) (z_or F (hr_K w h heat price ml (wmt (A 35)) n A).2.2.1) (z_add T (hr_K w h heat price ml (wmt (A 35)) n A).2.2.2)
theorem c_cfg_LH {s : Nat} (hs : z_st s) {w h n : Nat} {heat price : Int} {ml : hr_M} {wmt : Int → Nat → Int} {m m' : z_M} (hc : c_cfg w h n heat price ml wmt m) (sm : z_same (c_LH s) m m') : c_cfg w h n heat price ml wmt m' := by
  have hs2 := hs.2
  exact c_cfg_sm hc sm (by (try unfold c_LH); (try unfold r_LH); (try unfold r_LHs); (repeat' (first | exact trivial | refine z_ofr_c ?_ ?_)) <;> omega) (by (try unfold c_LH); (try unfold r_LH); (try unfold r_LHs); (repeat' (first | exact trivial | refine z_of_c ?_ ?_)) <;> omega) (by (try unfold c_LH); (try unfold r_LH); (try unfold r_LHs); (repeat' (first | exact trivial | refine z_ofr_c ?_ ?_)) <;> omega) (by (try unfold c_LH); (try unfold r_LH); (try unfold r_LHs); (repeat' (first | exact trivial | refine z_ofr_c ?_ ?_)) <;> omega) (by (try unfold c_LH); (try unfold r_LH); (try unfold r_LHs); (repeat' (first | exact trivial | refine z_of_c ?_ ?_)) <;> omega) (by (try unfold c_LH); (try unfold r_LH); (try unfold r_LHs); (repeat' (first | exact trivial | refine z_of_c ?_ ?_)) <;> omega)
theorem r_cfg_LH {a : Nat} (ha2 : z_ab a) {w h n : Nat} {heat price : Int} {ml : hr_M} {wmt : Int → Nat → Int} {m m' : z_M} (hc : r_cfg w h n heat price ml wmt m) (sm : z_same (r_LH a) m m') : r_cfg w h n heat price ml wmt m' := by
  have ha3 := r_ne251 ha2
  exact r_cfg_sm hc sm (by (try unfold c_LH); (try unfold r_LH); (try unfold r_LHs); (repeat' (first | exact trivial | refine z_of_c ?_ ?_)) <;> omega) (by (try unfold c_LH); (try unfold r_LH); (try unfold r_LHs); (repeat' (first | exact trivial | refine z_of_c ?_ ?_)) <;> omega) (by (try unfold c_LH); (try unfold r_LH); (try unfold r_LHs); (repeat' (first | exact trivial | refine z_of_c ?_ ?_)) <;> omega) (by (try unfold c_LH); (try unfold r_LH); (try unfold r_LHs); (repeat' (first | exact trivial | refine z_of_c ?_ ?_)) <;> omega) (by (try unfold c_LH); (try unfold r_LH); (try unfold r_LHs); (repeat' (first | exact trivial | refine z_of_c ?_ ?_)) <;> omega) (by (try unfold c_LH); (try unfold r_LH); (try unfold r_LHs); (repeat' (first | exact trivial | refine z_of_c ?_ ?_)) <;> omega) (by (try unfold c_LH); (try unfold r_LH); (try unfold r_LHs); (repeat' (first | exact trivial | refine z_ofr_c ?_ ?_)) <;> omega) (by (try unfold c_LH); (try unfold r_LH); (try unfold r_LHs); (repeat' (first | exact trivial | refine z_ofr_c ?_ ?_)) <;> omega) (by (try unfold c_LH); (try unfold r_LH); (try unfold r_LHs); (repeat' (first | exact trivial | refine z_of_c ?_ ?_)) <;> omega)
theorem c_goOn1 {s : Nat} (hs : z_st s) {w h n : Nat} {heat price : Int} {ml : hr_M} {wmt : Int → Nat → Int} (hw : w ≤ 3) (hh : h ≤ 3) (hN : hr_nums n heat ml wmt) {N : Nat} (hN6 : N ≤ 1000000) : ∀ (f x : Nat) (m : z_M) (A : Nat → Int), x + f = N → c_cfg w h n heat price ml wmt m → cS m s n = A → hr_ok n A → 0 ≤ A 35 → A 35 + (f : Int) ≤ 2147483647 → z_w (m 24 6) = m 24 6 → z_w (m 24 9) = m 24 9 → ∃ m', z_R 67 (m, 2, [(2, 24), (2, ((s : Nat) : Int)), (0, (N : Int)), (0, (x : Int))], []) = some (m', none) ∧ (cS m' s n, m' 24 6, m' 24 7, m' 24 8, m' 24 9) = hr_H w h heat price ml wmt n f A (m 24 6) (m 24 7) (m 24 8) (m 24 9) ∧ z_same (c_LH s) m m' := by
  have hs2 := hs.2
  intro f
  induction f with
  | zero =>
    intro x m A hx hc hA hok ht ht2 h6 h9
    rw [s_goOn_2 hs m N x ⟨by omega, by omega⟩ ⟨by omega, by omega⟩, if_pos (by omega)]
    exact ⟨m, rfl, by rw [hA]; rfl, z_same.rf⟩
  | succ f ih =>
    intro x m A hx hc hA hok ht ht2 h6 h9
    obtain ⟨m1, a1, a2, a3, a4, a5, a6, a7, a8, a9⟩ := c_hour hs hw hh hN m hc hA hok ht (by omega) h6 h9
    rw [s_goOn_2 hs m N x ⟨by omega, by omega⟩ ⟨by omega, by omega⟩, if_neg (by omega), a1, zb_n, s_goOn_19 hs m1 N x ⟨by omega, by omega⟩, tc1]
    have hok' := hr_A_ok (price := price) hw hh hN.1 hN.2.1 hN.2.2.1 (hN.2.2.2 (A 35) ht) hok
    have e35 : hr_A w h heat price ml (wmt (A 35)) n A 35 = A 35 + 1 := by rw [hr_A_35 hw hh hN.1, z_add_eq (by omega) (by omega)]
    obtain ⟨m', b1, b2, b3⟩ := ih (x + 1) m1 (hr_A w h heat price ml (wmt (A 35)) n A) (by omega) (c_cfg_LH hs hc a9) a2 hok' (by omega) (by omega) (by rw [a3, z_add_w]; exact z_w_w) (by rw [a6, z_add_w]; exact z_w_w)
    refine ⟨m', b1, ?_, a9.tr b3⟩
    rw [b2, a3, a4, a5, a6]
    rfl
theorem c_goOn {s : Nat} (hs : z_st s) {w h n : Nat} {heat price : Int} {ml : hr_M} {wmt : Int → Nat → Int} (hw : w ≤ 3) (hh : h ≤ 3) (hN : hr_nums n heat ml wmt) {N : Nat} (hN6 : N ≤ 1000000) (m : z_M) {A : Nat → Int} (hc : c_cfg w h n heat price ml wmt m) (hA : cS m s n = A) (hok : hr_ok n A) (ht : 0 ≤ A 35) (ht2 : A 35 + (N : Int) ≤ 2147483647) (h6 : z_w (m 24 6) = m 24 6) (h9 : z_w (m 24 9) = m 24 9) : ∃ m', z_R 67 (m, 0, [(2, 24), (2, ((s : Nat) : Int)), (0, (N : Int)), (9, 0)], []) = some (m', none) ∧ (cS m' s n, m' 24 6, m' 24 7, m' 24 8, m' 24 9) = hr_H w h heat price ml wmt n N A (m 24 6) (m 24 7) (m 24 8) (m 24 9) ∧ z_same (c_LH s) m m' := by
  rw [s_goOn_0 hs m N ⟨by omega, by omega⟩, show (0 : Int) = ((0 : Nat) : Int) from rfl]
  exact c_goOn1 hs hw hh hN hN6 N 0 m A (by omega) hc hA hok ht ht2 h6 h9
abbrev r_LHs (a : Nat) : List (Nat × Nat × Nat) := [(259, 0, 6), (251, 12, 16), (251, 21, 21), (262, 0, 8), (251, 28, 35), (a, 0, 36)]
theorem r_cfg_LHs {a : Nat} (ha2 : z_ab a) {w h n : Nat} {heat price : Int} {ml : hr_M} {wmt : Int → Nat → Int} {m m' : z_M} (hc : r_cfg w h n heat price ml wmt m) (sm : z_same (r_LHs a) m m') : r_cfg w h n heat price ml wmt m' := by
  have ha3 := r_ne251 ha2
  exact r_cfg_sm hc sm (by (try unfold c_LH); (try unfold r_LH); (try unfold r_LHs); (repeat' (first | exact trivial | refine z_of_c ?_ ?_)) <;> omega) (by (try unfold c_LH); (try unfold r_LH); (try unfold r_LHs); (repeat' (first | exact trivial | refine z_of_c ?_ ?_)) <;> omega) (by (try unfold c_LH); (try unfold r_LH); (try unfold r_LHs); (repeat' (first | exact trivial | refine z_of_c ?_ ?_)) <;> omega) (by (try unfold c_LH); (try unfold r_LH); (try unfold r_LHs); (repeat' (first | exact trivial | refine z_of_c ?_ ?_)) <;> omega) (by (try unfold c_LH); (try unfold r_LH); (try unfold r_LHs); (repeat' (first | exact trivial | refine z_of_c ?_ ?_)) <;> omega) (by (try unfold c_LH); (try unfold r_LH); (try unfold r_LHs); (repeat' (first | exact trivial | refine z_of_c ?_ ?_)) <;> omega) (by (try unfold c_LH); (try unfold r_LH); (try unfold r_LHs); (repeat' (first | exact trivial | refine z_ofr_c ?_ ?_)) <;> omega) (by (try unfold c_LH); (try unfold r_LH); (try unfold r_LHs); (repeat' (first | exact trivial | refine z_ofr_c ?_ ?_)) <;> omega) (by (try unfold c_LH); (try unfold r_LH); (try unfold r_LHs); (repeat' (first | exact trivial | refine z_of_c ?_ ?_)) <;> omega)
theorem r_goHours1 {a : Nat} (ha : z_A 37 a) (ha2 : z_ab a) {w h n : Nat} {heat price : Int} {ml : hr_M} {wmt : Int → Nat → Int} (hw : w ≤ 3) (hh : h ≤ 3) (hN : hr_nums n heat ml wmt) {N : Nat} (hN6 : N ≤ 1000000) : ∀ (f x : Nat) (m : z_M) (A : Nat → Int), x + f = N → r_cfg w h n heat price ml wmt m → rS m a n = A → hr_ok n A → 0 ≤ A 35 → A 35 + (f : Int) ≤ 2147483647 → ∃ m', z_R 207 (m, 2, [(2, 251), (2, ((a : Nat) : Int)), (0, (N : Int)), (0, (x : Int))], []) = some (m', none) ∧ (rS m' a n, m' 251 32, m' 251 33, m' 251 34, m' 251 35) = hr_H w h heat price ml wmt n f A (m 251 32) (m 251 33) (m 251 34) (m 251 35) ∧ z_same (r_LHs a) m m' := by
  have ha3 := r_ne251 ha2
  intro f
  induction f with
  | zero =>
    intro x m A hx hc hA hok ht ht2
    rw [t_hrs_2 ha ha2 m N x ⟨by omega, by omega⟩ ⟨by omega, by omega⟩, if_pos (by omega)]
    exact ⟨m, rfl, by rw [hA]; rfl, z_same.rf⟩
  | succ f ih =>
    intro x m A hx hc hA hok ht ht2
    obtain ⟨m1, a1, a2, a3, a4, a5, a6, a7⟩ := r_hour ha ha2 hw hh hN m hc hA hok ht (by omega)
    rw [t_hrs_2 ha ha2 m N x ⟨by omega, by omega⟩ ⟨by omega, by omega⟩, if_neg (by omega), a1, zb_n, t_hrs_12 ha ha2 m1 N x ⟨by omega, by omega⟩, tc1, a3, a4, a5, a6]
    have hok' := hr_A_ok (price := price) hw hh hN.1 hN.2.1 hN.2.2.1 (hN.2.2.2 (A 35) ht) hok
    have e35 : hr_A w h heat price ml (wmt (A 35)) n A 35 = A 35 + 1 := by rw [hr_A_35 hw hh hN.1, z_add_eq (by omega) (by omega)]
    have s1 : z_same (r_LHs a) m m1 := a7.subo (by (try unfold c_LH); (try unfold r_LH); (try unfold r_LHs); (repeat' (first | exact trivial | refine z_sbo_c ?_ ?_)) <;> (intro k h1 h2; first | exact z_on_h rfl (by omega) (by omega) | exact z_on_t (z_on_h rfl (by omega) (by omega)) | exact z_on_t (z_on_t (z_on_h rfl (by omega) (by omega))) | exact z_on_t (z_on_t (z_on_t (z_on_h rfl (by omega) (by omega)))) | exact z_on_t (z_on_t (z_on_t (z_on_t (z_on_h rfl (by omega) (by omega))))) | exact z_on_t (z_on_t (z_on_t (z_on_t (z_on_t (z_on_h rfl (by omega) (by omega)))))) | exact z_on_t (z_on_t (z_on_t (z_on_t (z_on_t (z_on_t (z_on_h rfl (by omega) (by omega))))))) | exact z_on_t (z_on_t (z_on_t (z_on_t (z_on_t (z_on_t (z_on_t (z_on_h rfl (by omega) (by omega)))))))) | exact z_on_t (z_on_t (z_on_t (z_on_t (z_on_t (z_on_t (z_on_t (z_on_t (z_on_h rfl (by omega) (by omega))))))))) | exact z_on_t (z_on_t (z_on_t (z_on_t (z_on_t (z_on_t (z_on_t (z_on_t (z_on_t (z_on_h rfl (by omega) (by omega)))))))))) | exact z_on_t (z_on_t (z_on_t (z_on_t (z_on_t (z_on_t (z_on_t (z_on_t (z_on_t (z_on_t (z_on_h rfl (by omega) (by omega))))))))))) | exact z_on_t (z_on_t (z_on_t (z_on_t (z_on_t (z_on_t (z_on_t (z_on_t (z_on_t (z_on_t (z_on_t (z_on_h rfl (by omega) (by omega)))))))))))) | exact z_on_t (z_on_t (z_on_t (z_on_t (z_on_t (z_on_t (z_on_t (z_on_t (z_on_t (z_on_t (z_on_t (z_on_t (z_on_h rfl (by omega) (by omega)))))))))))))))
    rw [a7.of (p := 251) (k := 32) (by (try unfold c_LH); (try unfold r_LH); (try unfold r_LHs); (repeat' (first | exact trivial | refine z_of_c ?_ ?_)) <;> omega), a7.of (p := 251) (k := 33) (by (try unfold c_LH); (try unfold r_LH); (try unfold r_LHs); (repeat' (first | exact trivial | refine z_of_c ?_ ?_)) <;> omega), a7.of (p := 251) (k := 34) (by (try unfold c_LH); (try unfold r_LH); (try unfold r_LHs); (repeat' (first | exact trivial | refine z_of_c ?_ ?_)) <;> omega), a7.of (p := 251) (k := 35) (by (try unfold c_LH); (try unfold r_LH); (try unfold r_LHs); (repeat' (first | exact trivial | refine z_of_c ?_ ?_)) <;> omega)]
    have s2 : z_same (r_LHs a) m (z_up (z_up (z_up (z_up m1 251 32 (z_add (m 251 32) (hr_m w h heat ml (wmt (A 35)) n A))) 251 33 (z_or (m 251 33) (hr_K w h heat price ml (wmt (A 35)) n A).2.1)) 251 34 (z_or (m 251 34) (hr_K w h heat price ml (wmt (A 35)) n A).2.2.1)) 251 35 (z_add (m 251 35) (hr_K w h heat price ml (wmt (A 35)) n A).2.2.2)) := (((s1.upo (by (try unfold c_LH); (try unfold r_LH); (try unfold r_LHs); first | exact z_on_h rfl (by omega) (by omega) | exact z_on_t (z_on_h rfl (by omega) (by omega)) | exact z_on_t (z_on_t (z_on_h rfl (by omega) (by omega))) | exact z_on_t (z_on_t (z_on_t (z_on_h rfl (by omega) (by omega)))) | exact z_on_t (z_on_t (z_on_t (z_on_t (z_on_h rfl (by omega) (by omega))))) | exact z_on_t (z_on_t (z_on_t (z_on_t (z_on_t (z_on_h rfl (by omega) (by omega)))))) | exact z_on_t (z_on_t (z_on_t (z_on_t (z_on_t (z_on_t (z_on_h rfl (by omega) (by omega))))))) | exact z_on_t (z_on_t (z_on_t (z_on_t (z_on_t (z_on_t (z_on_t (z_on_h rfl (by omega) (by omega)))))))) | exact z_on_t (z_on_t (z_on_t (z_on_t (z_on_t (z_on_t (z_on_t (z_on_t (z_on_h rfl (by omega) (by omega))))))))) | exact z_on_t (z_on_t (z_on_t (z_on_t (z_on_t (z_on_t (z_on_t (z_on_t (z_on_t (z_on_h rfl (by omega) (by omega)))))))))) | exact z_on_t (z_on_t (z_on_t (z_on_t (z_on_t (z_on_t (z_on_t (z_on_t (z_on_t (z_on_t (z_on_h rfl (by omega) (by omega))))))))))) | exact z_on_t (z_on_t (z_on_t (z_on_t (z_on_t (z_on_t (z_on_t (z_on_t (z_on_t (z_on_t (z_on_t (z_on_h rfl (by omega) (by omega)))))))))))) | exact z_on_t (z_on_t (z_on_t (z_on_t (z_on_t (z_on_t (z_on_t (z_on_t (z_on_t (z_on_t (z_on_t (z_on_t (z_on_h rfl (by omega) (by omega))))))))))))))).upo (by (try unfold c_LH); (try unfold r_LH); (try unfold r_LHs); first | exact z_on_h rfl (by omega) (by omega) | exact z_on_t (z_on_h rfl (by omega) (by omega)) | exact z_on_t (z_on_t (z_on_h rfl (by omega) (by omega))) | exact z_on_t (z_on_t (z_on_t (z_on_h rfl (by omega) (by omega)))) | exact z_on_t (z_on_t (z_on_t (z_on_t (z_on_h rfl (by omega) (by omega))))) | exact z_on_t (z_on_t (z_on_t (z_on_t (z_on_t (z_on_h rfl (by omega) (by omega)))))) | exact z_on_t (z_on_t (z_on_t (z_on_t (z_on_t (z_on_t (z_on_h rfl (by omega) (by omega))))))) | exact z_on_t (z_on_t (z_on_t (z_on_t (z_on_t (z_on_t (z_on_t (z_on_h rfl (by omega) (by omega)))))))) | exact z_on_t (z_on_t (z_on_t (z_on_t (z_on_t (z_on_t (z_on_t (z_on_t (z_on_h rfl (by omega) (by omega))))))))) | exact z_on_t (z_on_t (z_on_t (z_on_t (z_on_t (z_on_t (z_on_t (z_on_t (z_on_t (z_on_h rfl (by omega) (by omega)))))))))) | exact z_on_t (z_on_t (z_on_t (z_on_t (z_on_t (z_on_t (z_on_t (z_on_t (z_on_t (z_on_t (z_on_h rfl (by omega) (by omega))))))))))) | exact z_on_t (z_on_t (z_on_t (z_on_t (z_on_t (z_on_t (z_on_t (z_on_t (z_on_t (z_on_t (z_on_t (z_on_h rfl (by omega) (by omega)))))))))))) | exact z_on_t (z_on_t (z_on_t (z_on_t (z_on_t (z_on_t (z_on_t (z_on_t (z_on_t (z_on_t (z_on_t (z_on_t (z_on_h rfl (by omega) (by omega))))))))))))))).upo (by (try unfold c_LH); (try unfold r_LH); (try unfold r_LHs); first | exact z_on_h rfl (by omega) (by omega) | exact z_on_t (z_on_h rfl (by omega) (by omega)) | exact z_on_t (z_on_t (z_on_h rfl (by omega) (by omega))) | exact z_on_t (z_on_t (z_on_t (z_on_h rfl (by omega) (by omega)))) | exact z_on_t (z_on_t (z_on_t (z_on_t (z_on_h rfl (by omega) (by omega))))) | exact z_on_t (z_on_t (z_on_t (z_on_t (z_on_t (z_on_h rfl (by omega) (by omega)))))) | exact z_on_t (z_on_t (z_on_t (z_on_t (z_on_t (z_on_t (z_on_h rfl (by omega) (by omega))))))) | exact z_on_t (z_on_t (z_on_t (z_on_t (z_on_t (z_on_t (z_on_t (z_on_h rfl (by omega) (by omega)))))))) | exact z_on_t (z_on_t (z_on_t (z_on_t (z_on_t (z_on_t (z_on_t (z_on_t (z_on_h rfl (by omega) (by omega))))))))) | exact z_on_t (z_on_t (z_on_t (z_on_t (z_on_t (z_on_t (z_on_t (z_on_t (z_on_t (z_on_h rfl (by omega) (by omega)))))))))) | exact z_on_t (z_on_t (z_on_t (z_on_t (z_on_t (z_on_t (z_on_t (z_on_t (z_on_t (z_on_t (z_on_h rfl (by omega) (by omega))))))))))) | exact z_on_t (z_on_t (z_on_t (z_on_t (z_on_t (z_on_t (z_on_t (z_on_t (z_on_t (z_on_t (z_on_t (z_on_h rfl (by omega) (by omega)))))))))))) | exact z_on_t (z_on_t (z_on_t (z_on_t (z_on_t (z_on_t (z_on_t (z_on_t (z_on_t (z_on_t (z_on_t (z_on_t (z_on_h rfl (by omega) (by omega))))))))))))))).upo (by (try unfold c_LH); (try unfold r_LH); (try unfold r_LHs); first | exact z_on_h rfl (by omega) (by omega) | exact z_on_t (z_on_h rfl (by omega) (by omega)) | exact z_on_t (z_on_t (z_on_h rfl (by omega) (by omega))) | exact z_on_t (z_on_t (z_on_t (z_on_h rfl (by omega) (by omega)))) | exact z_on_t (z_on_t (z_on_t (z_on_t (z_on_h rfl (by omega) (by omega))))) | exact z_on_t (z_on_t (z_on_t (z_on_t (z_on_t (z_on_h rfl (by omega) (by omega)))))) | exact z_on_t (z_on_t (z_on_t (z_on_t (z_on_t (z_on_t (z_on_h rfl (by omega) (by omega))))))) | exact z_on_t (z_on_t (z_on_t (z_on_t (z_on_t (z_on_t (z_on_t (z_on_h rfl (by omega) (by omega)))))))) | exact z_on_t (z_on_t (z_on_t (z_on_t (z_on_t (z_on_t (z_on_t (z_on_t (z_on_h rfl (by omega) (by omega))))))))) | exact z_on_t (z_on_t (z_on_t (z_on_t (z_on_t (z_on_t (z_on_t (z_on_t (z_on_t (z_on_h rfl (by omega) (by omega)))))))))) | exact z_on_t (z_on_t (z_on_t (z_on_t (z_on_t (z_on_t (z_on_t (z_on_t (z_on_t (z_on_t (z_on_h rfl (by omega) (by omega))))))))))) | exact z_on_t (z_on_t (z_on_t (z_on_t (z_on_t (z_on_t (z_on_t (z_on_t (z_on_t (z_on_t (z_on_t (z_on_h rfl (by omega) (by omega)))))))))))) | exact z_on_t (z_on_t (z_on_t (z_on_t (z_on_t (z_on_t (z_on_t (z_on_t (z_on_t (z_on_t (z_on_t (z_on_t (z_on_h rfl (by omega) (by omega))))))))))))))
    generalize hm2 : z_up (z_up (z_up (z_up m1 251 32 (z_add (m 251 32) (hr_m w h heat ml (wmt (A 35)) n A))) 251 33 (z_or (m 251 33) (hr_K w h heat price ml (wmt (A 35)) n A).2.1)) 251 34 (z_or (m 251 34) (hr_K w h heat price ml (wmt (A 35)) n A).2.2.1)) 251 35 (z_add (m 251 35) (hr_K w h heat price ml (wmt (A 35)) n A).2.2.2) = m2 at s2 ⊢
    have g32 : m2 251 32 = z_add (m 251 32) (hr_m w h heat ml (wmt (A 35)) n A) := by rw [← hm2, zu_k (by decide), zu_k (by decide), zu_k (by decide), zu_self]
    have g33 : m2 251 33 = z_or (m 251 33) (hr_K w h heat price ml (wmt (A 35)) n A).2.1 := by rw [← hm2, zu_k (by decide), zu_k (by decide), zu_self]
    have g34 : m2 251 34 = z_or (m 251 34) (hr_K w h heat price ml (wmt (A 35)) n A).2.2.1 := by rw [← hm2, zu_k (by decide), zu_self]
    have g35 : m2 251 35 = z_add (m 251 35) (hr_K w h heat price ml (wmt (A 35)) n A).2.2.2 := by rw [← hm2, zu_self]
    have ga : m2 a = m1 a := by rw [← hm2, zu_rowne (by omega), zu_rowne (by omega), zu_rowne (by omega), zu_rowne (by omega)]
    obtain ⟨m', b1, b2, b3⟩ := ih (x + 1) m2 (hr_A w h heat price ml (wmt (A 35)) n A) (by omega) (r_cfg_LHs ha2 hc s2) ((rS_row ga).trans a2) hok' (by omega) (by omega)
    refine ⟨m', b1, ?_, s2.tr b3⟩
    rw [b2, g32, g33, g34, g35]
    rfl
theorem r_goHours {a : Nat} (ha : z_A 37 a) (ha2 : z_ab a) {w h n : Nat} {heat price : Int} {ml : hr_M} {wmt : Int → Nat → Int} (hw : w ≤ 3) (hh : h ≤ 3) (hN : hr_nums n heat ml wmt) {N : Nat} (hN6 : N ≤ 1000000) (m : z_M) {A : Nat → Int} (hc : r_cfg w h n heat price ml wmt m) (hA : rS m a n = A) (hok : hr_ok n A) (ht : 0 ≤ A 35) (ht2 : A 35 + (N : Int) ≤ 2147483647) : ∃ m', z_R 207 (m, 0, [(2, 251), (2, ((a : Nat) : Int)), (0, (N : Int)), (9, 0)], []) = some (m', none) ∧ (rS m' a n, m' 251 32, m' 251 33, m' 251 34, m' 251 35) = hr_H w h heat price ml wmt n N A (m 251 32) (m 251 33) (m 251 34) (m 251 35) ∧ z_same (r_LHs a) m m' := by
  rw [t_hrs_0 ha ha2 m N ⟨by omega, by omega⟩, show (0 : Int) = ((0 : Nat) : Int) from rfl]
  exact r_goHours1 ha ha2 hw hh hN hN6 N 0 m A (by omega) hc hA hok ht ht2
end
section
/-! STRETCHES of small calls -/
theorem s_kn_0  (m : z_M) (a : Int) : z_R 55 (m, 0, [(2, 3), (0, a)], []) = if a < 0 then some (m, some (0, 0)) else if m 3 11 ≤ a then some (m, some (0, 0)) else some (m, some (0, 1)) :=
  have hK : kt_at 55 = kt_55 := rfl
  (z_R_run hK (n := 1) (g' := (m, 1, [(2, 3), (0, a)], [(0, a)])) rfl).trans (z_R_ifd hK (c := a < 0) (p1 := 16) (p2 := 4) rfl rfl rfl (fun h1 => (z_R_run hK (n := 1) (g' := (m, 17, [(2, 3), (0, a)], [(0, 0)])) rfl).trans (z_R_ret hK rfl rfl rfl)) (fun h1 => (z_R_run hK (n := 3) (g' := (m, 9, [(2, 3), (0, a)], [(0, m 3 11), (0, a)])) rfl).trans (z_R_ifd hK (c := m 3 11 ≤ a) (p1 := 16) (p2 := 12) rfl rfl rfl (fun h2 => (z_R_run hK (n := 1) (g' := (m, 17, [(2, 3), (0, a)], [(0, 0)])) rfl).trans (z_R_ret hK rfl rfl rfl)) (fun h2 => (z_R_run hK (n := 2) (g' := (m, 17, [(2, 3), (0, a)], [(0, 1)])) rfl).trans (z_R_ret hK rfl rfl rfl)))))
theorem t_told_0  (m : z_M) (a : Int) : z_R 200 (m, 0, [(0, a)], []) = if a = (-1) then some (m, some (0, 9)) else some (m, some (0, a)) :=
  have hK : kt_at 200 = kt_200 := rfl
  (z_R_run hK (n := 2) (g' := (m, 2, [(0, a)], [(0, (-1)), (0, a)])) rfl).trans (z_R_ifnd hK (c := a = (-1)) (p1 := 10) (p2 := 5) rfl rfl rfl (fun h1 => (z_R_run hK (n := 1) (g' := (m, 11, [(0, a)], [(0, a)])) rfl).trans (z_R_ret hK rfl rfl rfl)) (fun h1 => (z_R_run hK (n := 2) (g' := (m, 11, [(0, a)], [(0, 9)])) rfl).trans (z_R_ret hK rfl rfl rfl)))
theorem t_isp_0  (m : z_M) (a : Int) (h_n : 0 ≤ m 251 3 ∧ m 251 3 ≤ 5) : z_R 191 (m, 0, [(2, 251), (0, a)], []) = (z_R 162 (m, 0, [(0, a), (0, 0), (0, m 251 3 - 1)], [])).bind fun qq => z_R 191 (qq.1, 11, [(2, 251), (0, a)], qq.2.toList ++ []) :=
  have hK : kt_at 191 = kt_191 := rfl
  (z_R_run hK (n := 6) (g' := (m, 8, [(2, 251), (0, a)], [(0, z_sub (m 251 3) 1), (0, 0), (0, a)])) rfl).trans ((congrArg (fun vv => z_R 191 (m, 8, [(2, 251), (0, a)], [(0, vv), (0, 0), (0, a)])) (z_sub_eq (by omega) (by omega))).trans (z_R_call hK rfl rfl rfl rfl rfl))
theorem t_isp_11  (m : z_M) (x1 : Int) (u : Int) : z_R 191 (m, 11, [(2, 251), (0, x1)], [(0, u)]) = some (m, some (0, u)) :=
  have hK : kt_at 191 = kt_191 := rfl
  z_R_ret hK rfl rfl rfl
end
section
/-! SMALL CALLS, by cases; copies of rows -/
theorem z_R_cpT {y : Nat} {K : List (List a_K)} (hK : kt_at y = K) {n d so : Int} {A B na nb : Nat} {m : z_M} {pc : Nat} {ls : z_L} {st : List z_V} {g' : z_G} {q : a_K} {R : Option z_Q} (hq : k_get K pc = some q) (hk : z_kd q.2.1 q.2.2.2.2 = 0) (hs : z_step q (m, pc, ls, st) = bif decide (0 ≤ n) && (decide (0 ≤ d) && (decide (0 ≤ so) && (decide (so + n ≤ (h_ln A : Int)) && decide (d + n ≤ (h_ln B : Int))))) then some g' else none) (ha : h_ln A = na) (hb : h_ln B = nb) (h : 0 ≤ n ∧ 0 ≤ d ∧ 0 ≤ so ∧ so + n ≤ (na : Int) ∧ d + n ≤ (nb : Int)) (h1 : z_R y g' = R) : z_R y (m, pc, ls, st) = R := by
  obtain ⟨h2, h3, h4, h5, h6⟩ := h
  rw [ha, hb, decide_eq_true h2, decide_eq_true h3, decide_eq_true h4, decide_eq_true h5, decide_eq_true h6] at hs
  exact (z_R_st hK (g := (m, pc, ls, st)) hq hk hs).trans h1
theorem t_ifin (m : z_M) (a b c : Int) : z_R 162 (m, 0, [(0, a), (0, b), (0, c)], []) = if b ≤ a ∧ a ≤ c then some (m, some (0, 1)) else some (m, some (0, 0)) := by
  rw [r_in]
  by_cases h : b ≤ a ∧ a ≤ c
  · rw [if_pos h, if_pos h]
  · rw [if_neg h, if_neg h]
theorem u_hs_01 {w h a : Int} : u_hs w h a = 0 ∨ u_hs w h a = 1 := by
  unfold u_hs
  by_cases h1 : a < 0
  · rw [if_pos h1]; exact Or.inl rfl
  rw [if_neg h1]
  by_cases h2 : 9 ≤ a
  · rw [if_pos h2]; exact Or.inl rfl
  rw [if_neg h2]
  by_cases h3 : w ≤ z_rem a 3
  · rw [if_pos h3]; exact Or.inl rfl
  rw [if_neg h3]
  by_cases h4 : h ≤ z_div a 3
  · rw [if_pos h4]; exact Or.inl rfl
  · rw [if_neg h4]; exact Or.inr rfl
theorem c_ifhas (m : z_M) (a : Int) {w h : Int} (hw : m 3 8 = w) (hh : m 3 9 = h) : z_R 32 (m, 0, [(2, 3), (0, a)], []) = if ¬ u_hs w h a = 0 then some (m, some (0, 1)) else some (m, some (0, 0)) := by
  rw [c_hasv, hw, hh]
  rcases u_hs_01 (w := w) (h := h) (a := a) with e | e
  · rw [e, if_neg (not_not_intro rfl)]
  · rw [e, if_pos (by decide)]
theorem t_ifroom (m : z_M) (a : Int) {w h : Int} (hw : m 251 1 = w) (hh : m 251 2 = h) : z_R 171 (m, 0, [(2, 251), (0, a)], []) = if ¬ u_hs w h a = 0 then some (m, some (0, 1)) else some (m, some (0, 0)) := by
  rw [t_roomv, hw, hh]
  rcases u_hs_01 (w := w) (h := h) (a := a) with e | e
  · rw [e, if_neg (not_not_intro rfl)]
  · rw [e, if_pos (by decide)]
theorem c_ifknows (m : z_M) (a : Int) {n : Int} (hn : m 3 11 = n) : z_R 55 (m, 0, [(2, 3), (0, a)], []) = if 0 ≤ a ∧ a < n then some (m, some (0, 1)) else some (m, some (0, 0)) := by
  rw [s_kn_0, hn]
  by_cases h1 : a < 0
  · rw [if_pos h1, if_neg (by omega)]
  rw [if_neg h1]
  by_cases h2 : n ≤ a
  · rw [if_pos h2, if_neg (by omega)]
  · rw [if_neg h2, if_pos (by omega)]
theorem t_iftold (m : z_M) (a : Int) : z_R 200 (m, 0, [(0, a)], []) = if a = -1 then some (m, some (0, 9)) else some (m, some (0, a)) := t_told_0 m a
theorem t_ifperson (m : z_M) (a : Int) {n : Int} (hn : m 251 3 = n) (h5 : 0 ≤ n ∧ n ≤ 5) : z_R 191 (m, 0, [(2, 251), (0, a)], []) = if 0 ≤ a ∧ a < n then some (m, some (0, 1)) else some (m, some (0, 0)) := by
  rw [t_isp_0 m a (by omega), t_ifin]
  by_cases h : 0 ≤ a ∧ a < n
  · rw [if_pos h, if_pos (by omega), zb_v, t_isp_11]
  · rw [if_neg h, if_neg (by omega), zb_v, t_isp_11]
/-! rows of States in rows -/
theorem ga29 {m : z_M} {k : Nat} (h : k < 12) : (z_ga m 29 k).2 = ((32 + 6 * k : Nat) : Int) := by
  have e : ∀ k, k < 12 → (Nat.beq (h_ty 29 k).1 1 && i_eq (h_ty 29 k).2.1 ((32 + 6 * k : Nat) : Int)) = true := by decide +kernel
  obtain ⟨e1, e2⟩ := Bool.and_eq_true _ _ |>.mp (e k h)
  unfold z_ga
  rw [e1, i_eq_iff.mp e2]
  rfl
theorem ga30 {m : z_M} {k : Nat} (h : k < 2) : (z_ga m 30 k).2 = ((104 + 6 * k : Nat) : Int) := by
  have e : ∀ k, k < 2 → (Nat.beq (h_ty 30 k).1 1 && i_eq (h_ty 30 k).2.1 ((104 + 6 * k : Nat) : Int)) = true := by decide +kernel
  obtain ⟨e1, e2⟩ := Bool.and_eq_true _ _ |>.mp (e k h)
  unfold z_ga
  rw [e1, i_eq_iff.mp e2]
  rfl
theorem z_st_12 : z_st 12 := ⟨by decide, by decide⟩
theorem z_st_18 : z_st 18 := ⟨by decide, by decide⟩
theorem z_st_done {k : Nat} (h : k < 12) : z_st (32 + 6 * k) := by
  refine ⟨?_, by omega⟩
  have e : ∀ k, k < 12 → 32 + 6 * k ∈ z_stL := by decide
  exact e k h
theorem z_st_kept {k : Nat} (h : k < 2) : z_st (104 + 6 * k) := by
  refine ⟨?_, by omega⟩
  have e : ∀ k, k < 2 → 104 + 6 * k ∈ z_stL := by decide
  exact e k h
/-- one State is made what another is -/
abbrev c_LB (t : Nat) : List (Nat × Nat × Nat) := [(t + 1, 0, 8), (t + 2, 0, 8), (t + 3, 0, 4), (t + 4, 0, 4), (t + 5, 0, 4), (t, 5, 8)]
theorem zc_in {m : z_M} {a b n k : Nat} (h : k < n) : z_cp m a 0 b 0 n b k = m a k := by
  unfold z_cp
  rw [if_pos ⟨rfl, Nat.zero_le _, by omega⟩, Nat.zero_add, Nat.sub_zero]
theorem z_same.cp {L : List (Nat × Nat × Nat)} {m m' : z_M} {a s b d n : Nat} (h : z_same L m m') (hq : ∀ k, d ≤ k → k < d + n → z_on L b k) : z_same L m (z_cp m' a s b d n) := fun p' k' hn => by
  have : ¬ (p' = b ∧ d ≤ k' ∧ k' < d + n) := fun ⟨e1, e2, e3⟩ => by
    obtain ⟨q, q1, q2, q3, q4⟩ := z_on_ok (hq k' e2 e3)
    exact hn q q1 ⟨q2.trans e1.symm, q3, q4⟩
  unfold z_cp
  rw [if_neg this]
  exact h p' k' hn
end
section
/-! STRETCHES of what changes the state -/
theorem s_bec_0 {s t : Nat} (hs : z_st s) (ht : z_st t) (hd : s + 5 < t ∨ t + 5 < s) (m : z_M) : z_R 61 (m, 0, [(2, ((t : Nat) : Int)), (2, ((s : Nat) : Int))], []) = some (z_up (z_up (z_up (z_up (z_cp (z_cp (z_cp (z_cp (z_cp m (s + 1) 0 (t + 1) 0 9) (s + 2) 0 (t + 2) 0 9) (s + 3) 0 (t + 3) 0 5) (s + 4) 0 (t + 4) 0 5) (s + 5) 0 (t + 5) 0 5) t 5 (m s 5)) t 6 (m s 6)) t 7 (m s 7)) t 8 (m s 8), none) :=
  have hK : kt_at 61 = kt_61 := rfl
  (z_R_run hK (n := 1) (g' := (m, 1, [(2, ((t : Nat) : Int)), (2, ((s : Nat) : Int))], [(2, ((s : Nat) : Int))])) rfl).trans (z_R_gf hK rfl rfl rfl (st_ga hs 0 (by decide)) ((z_R_run hK (n := 2) (g' := (m, 6, [(2, ((t : Nat) : Int)), (2, ((s : Nat) : Int))], [(2, ((t : Nat) : Int)), (0, 0), (2, ((s + 1 : Nat) : Int))])) rfl).trans (z_R_gf hK rfl rfl rfl (st_ga ht 0 (by decide)) ((z_R_run hK (n := 2) (g' := (m, 12, [(2, ((t : Nat) : Int)), (2, ((s : Nat) : Int))], [(0, 9), (0, 0), (2, ((t + 1 : Nat) : Int)), (0, 0), (2, ((s + 1 : Nat) : Int))])) rfl).trans (z_R_cpT hK (g' := (z_cp m (s + 1) 0 (t + 1) 0 9, 15, [(2, ((t : Nat) : Int)), (2, ((s : Nat) : Int))], [])) rfl rfl rfl (st_hl hs 1 (by decide) (by decide)) (st_hl ht 1 (by decide) (by decide)) (show 0 ≤ (9 : Int) ∧ 0 ≤ (0 : Int) ∧ 0 ≤ (0 : Int) ∧ (0 : Int) + (9 : Int) ≤ 9 ∧ (0 : Int) + (9 : Int) ≤ 9 by omega) ((z_R_run hK (n := 1) (g' := (z_cp m (s + 1) 0 (t + 1) 0 9, 16, [(2, ((t : Nat) : Int)), (2, ((s : Nat) : Int))], [(2, ((s : Nat) : Int))])) rfl).trans (z_R_gf hK rfl rfl rfl (st_ga hs 1 (by decide)) ((z_R_run hK (n := 2) (g' := (z_cp m (s + 1) 0 (t + 1) 0 9, 21, [(2, ((t : Nat) : Int)), (2, ((s : Nat) : Int))], [(2, ((t : Nat) : Int)), (0, 0), (2, ((s + 2 : Nat) : Int))])) rfl).trans (z_R_gf hK rfl rfl rfl (st_ga ht 1 (by decide)) ((z_R_run hK (n := 2) (g' := (z_cp m (s + 1) 0 (t + 1) 0 9, 27, [(2, ((t : Nat) : Int)), (2, ((s : Nat) : Int))], [(0, 9), (0, 0), (2, ((t + 2 : Nat) : Int)), (0, 0), (2, ((s + 2 : Nat) : Int))])) rfl).trans (z_R_cpT hK (g' := (z_cp (z_cp m (s + 1) 0 (t + 1) 0 9) (s + 2) 0 (t + 2) 0 9, 30, [(2, ((t : Nat) : Int)), (2, ((s : Nat) : Int))], [])) rfl rfl rfl (st_hl hs 2 (by decide) (by decide)) (st_hl ht 2 (by decide) (by decide)) (show 0 ≤ (9 : Int) ∧ 0 ≤ (0 : Int) ∧ 0 ≤ (0 : Int) ∧ (0 : Int) + (9 : Int) ≤ 9 ∧ (0 : Int) + (9 : Int) ≤ 9 by omega) ((z_R_run hK (n := 1) (g' := (z_cp (z_cp m (s + 1) 0 (t + 1) 0 9) (s + 2) 0 (t + 2) 0 9, 31, [(2, ((t : Nat) : Int)), (2, ((s : Nat) : Int))], [(2, ((s : Nat) : Int))])) rfl).trans (z_R_gf hK rfl rfl rfl (st_ga hs 2 (by decide)) ((z_R_run hK (n := 2) (g' := (z_cp (z_cp m (s + 1) 0 (t + 1) 0 9) (s + 2) 0 (t + 2) 0 9, 36, [(2, ((t : Nat) : Int)), (2, ((s : Nat) : Int))], [(2, ((t : Nat) : Int)), (0, 0), (2, ((s + 3 : Nat) : Int))])) rfl).trans (z_R_gf hK rfl rfl rfl (st_ga ht 2 (by decide)) ((z_R_run hK (n := 2) (g' := (z_cp (z_cp m (s + 1) 0 (t + 1) 0 9) (s + 2) 0 (t + 2) 0 9, 41, [(2, ((t : Nat) : Int)), (2, ((s : Nat) : Int))], [(0, 5), (0, 0), (2, ((t + 3 : Nat) : Int)), (0, 0), (2, ((s + 3 : Nat) : Int))])) rfl).trans (z_R_cpT hK (g' := (z_cp (z_cp (z_cp m (s + 1) 0 (t + 1) 0 9) (s + 2) 0 (t + 2) 0 9) (s + 3) 0 (t + 3) 0 5, 44, [(2, ((t : Nat) : Int)), (2, ((s : Nat) : Int))], [])) rfl rfl rfl (st_hl hs 3 (by decide) (by decide)) (st_hl ht 3 (by decide) (by decide)) (show 0 ≤ (5 : Int) ∧ 0 ≤ (0 : Int) ∧ 0 ≤ (0 : Int) ∧ (0 : Int) + (5 : Int) ≤ 5 ∧ (0 : Int) + (5 : Int) ≤ 5 by omega) ((z_R_run hK (n := 1) (g' := (z_cp (z_cp (z_cp m (s + 1) 0 (t + 1) 0 9) (s + 2) 0 (t + 2) 0 9) (s + 3) 0 (t + 3) 0 5, 45, [(2, ((t : Nat) : Int)), (2, ((s : Nat) : Int))], [(2, ((s : Nat) : Int))])) rfl).trans (z_R_gf hK rfl rfl rfl (st_ga hs 3 (by decide)) ((z_R_run hK (n := 2) (g' := (z_cp (z_cp (z_cp m (s + 1) 0 (t + 1) 0 9) (s + 2) 0 (t + 2) 0 9) (s + 3) 0 (t + 3) 0 5, 50, [(2, ((t : Nat) : Int)), (2, ((s : Nat) : Int))], [(2, ((t : Nat) : Int)), (0, 0), (2, ((s + 4 : Nat) : Int))])) rfl).trans (z_R_gf hK rfl rfl rfl (st_ga ht 3 (by decide)) ((z_R_run hK (n := 2) (g' := (z_cp (z_cp (z_cp m (s + 1) 0 (t + 1) 0 9) (s + 2) 0 (t + 2) 0 9) (s + 3) 0 (t + 3) 0 5, 55, [(2, ((t : Nat) : Int)), (2, ((s : Nat) : Int))], [(0, 5), (0, 0), (2, ((t + 4 : Nat) : Int)), (0, 0), (2, ((s + 4 : Nat) : Int))])) rfl).trans (z_R_cpT hK (g' := (z_cp (z_cp (z_cp (z_cp m (s + 1) 0 (t + 1) 0 9) (s + 2) 0 (t + 2) 0 9) (s + 3) 0 (t + 3) 0 5) (s + 4) 0 (t + 4) 0 5, 58, [(2, ((t : Nat) : Int)), (2, ((s : Nat) : Int))], [])) rfl rfl rfl (st_hl hs 4 (by decide) (by decide)) (st_hl ht 4 (by decide) (by decide)) (show 0 ≤ (5 : Int) ∧ 0 ≤ (0 : Int) ∧ 0 ≤ (0 : Int) ∧ (0 : Int) + (5 : Int) ≤ 5 ∧ (0 : Int) + (5 : Int) ≤ 5 by omega) ((z_R_run hK (n := 1) (g' := (z_cp (z_cp (z_cp (z_cp m (s + 1) 0 (t + 1) 0 9) (s + 2) 0 (t + 2) 0 9) (s + 3) 0 (t + 3) 0 5) (s + 4) 0 (t + 4) 0 5, 59, [(2, ((t : Nat) : Int)), (2, ((s : Nat) : Int))], [(2, ((s : Nat) : Int))])) rfl).trans (z_R_gf hK rfl rfl rfl (st_ga hs 4 (by decide)) ((z_R_run hK (n := 2) (g' := (z_cp (z_cp (z_cp (z_cp m (s + 1) 0 (t + 1) 0 9) (s + 2) 0 (t + 2) 0 9) (s + 3) 0 (t + 3) 0 5) (s + 4) 0 (t + 4) 0 5, 64, [(2, ((t : Nat) : Int)), (2, ((s : Nat) : Int))], [(2, ((t : Nat) : Int)), (0, 0), (2, ((s + 5 : Nat) : Int))])) rfl).trans (z_R_gf hK rfl rfl rfl (st_ga ht 4 (by decide)) ((z_R_run hK (n := 2) (g' := (z_cp (z_cp (z_cp (z_cp m (s + 1) 0 (t + 1) 0 9) (s + 2) 0 (t + 2) 0 9) (s + 3) 0 (t + 3) 0 5) (s + 4) 0 (t + 4) 0 5, 69, [(2, ((t : Nat) : Int)), (2, ((s : Nat) : Int))], [(0, 5), (0, 0), (2, ((t + 5 : Nat) : Int)), (0, 0), (2, ((s + 5 : Nat) : Int))])) rfl).trans (z_R_cpT hK (g' := (z_cp (z_cp (z_cp (z_cp (z_cp m (s + 1) 0 (t + 1) 0 9) (s + 2) 0 (t + 2) 0 9) (s + 3) 0 (t + 3) 0 5) (s + 4) 0 (t + 4) 0 5) (s + 5) 0 (t + 5) 0 5, 72, [(2, ((t : Nat) : Int)), (2, ((s : Nat) : Int))], [])) rfl rfl rfl (st_hl hs 5 (by decide) (by decide)) (st_hl ht 5 (by decide) (by decide)) (show 0 ≤ (5 : Int) ∧ 0 ≤ (0 : Int) ∧ 0 ≤ (0 : Int) ∧ (0 : Int) + (5 : Int) ≤ 5 ∧ (0 : Int) + (5 : Int) ≤ 5 by omega) ((z_R_run hK (n := 2) (g' := (z_cp (z_cp (z_cp (z_cp (z_cp m (s + 1) 0 (t + 1) 0 9) (s + 2) 0 (t + 2) 0 9) (s + 3) 0 (t + 3) 0 5) (s + 4) 0 (t + 4) 0 5) (s + 5) 0 (t + 5) 0 5, 74, [(2, ((t : Nat) : Int)), (2, ((s : Nat) : Int))], [(2, ((s : Nat) : Int)), (2, ((t : Nat) : Int))])) rfl).trans (z_R_gf hK rfl rfl rfl (st_gi hs 5 (by decide) (by decide)) ((congrArg (fun vv => z_R 61 (z_cp (z_cp (z_cp (z_cp (z_cp m (s + 1) 0 (t + 1) 0 9) (s + 2) 0 (t + 2) 0 9) (s + 3) 0 (t + 3) 0 5) (s + 4) 0 (t + 4) 0 5) (s + 5) 0 (t + 5) 0 5, 77, [(2, ((t : Nat) : Int)), (2, ((s : Nat) : Int))], [(0, vv), (2, ((t : Nat) : Int))])) ((zc_p (by omega)).trans ((zc_p (by omega)).trans ((zc_p (by omega)).trans ((zc_p (by omega)).trans (zc_p (by omega))))))).trans ((z_R_run hK (n := 3) (g' := (z_up (z_cp (z_cp (z_cp (z_cp (z_cp m (s + 1) 0 (t + 1) 0 9) (s + 2) 0 (t + 2) 0 9) (s + 3) 0 (t + 3) 0 5) (s + 4) 0 (t + 4) 0 5) (s + 5) 0 (t + 5) 0 5) t 5 (m s 5), 82, [(2, ((t : Nat) : Int)), (2, ((s : Nat) : Int))], [(2, ((s : Nat) : Int)), (2, ((t : Nat) : Int))])) rfl).trans (z_R_gf hK rfl rfl rfl (st_gi hs 6 (by decide) (by decide)) ((congrArg (fun vv => z_R 61 (z_up (z_cp (z_cp (z_cp (z_cp (z_cp m (s + 1) 0 (t + 1) 0 9) (s + 2) 0 (t + 2) 0 9) (s + 3) 0 (t + 3) 0 5) (s + 4) 0 (t + 4) 0 5) (s + 5) 0 (t + 5) 0 5) t 5 (m s 5), 85, [(2, ((t : Nat) : Int)), (2, ((s : Nat) : Int))], [(0, vv), (2, ((t : Nat) : Int))])) ((zu_p (by omega)).trans ((zc_p (by omega)).trans ((zc_p (by omega)).trans ((zc_p (by omega)).trans ((zc_p (by omega)).trans (zc_p (by omega)))))))).trans ((z_R_run hK (n := 3) (g' := (z_up (z_up (z_cp (z_cp (z_cp (z_cp (z_cp m (s + 1) 0 (t + 1) 0 9) (s + 2) 0 (t + 2) 0 9) (s + 3) 0 (t + 3) 0 5) (s + 4) 0 (t + 4) 0 5) (s + 5) 0 (t + 5) 0 5) t 5 (m s 5)) t 6 (m s 6), 90, [(2, ((t : Nat) : Int)), (2, ((s : Nat) : Int))], [(2, ((s : Nat) : Int)), (2, ((t : Nat) : Int))])) rfl).trans (z_R_gf hK rfl rfl rfl (st_gi hs 7 (by decide) (by decide)) ((congrArg (fun vv => z_R 61 (z_up (z_up (z_cp (z_cp (z_cp (z_cp (z_cp m (s + 1) 0 (t + 1) 0 9) (s + 2) 0 (t + 2) 0 9) (s + 3) 0 (t + 3) 0 5) (s + 4) 0 (t + 4) 0 5) (s + 5) 0 (t + 5) 0 5) t 5 (m s 5)) t 6 (m s 6), 93, [(2, ((t : Nat) : Int)), (2, ((s : Nat) : Int))], [(0, vv), (2, ((t : Nat) : Int))])) ((zu_p (by omega)).trans ((zu_p (by omega)).trans ((zc_p (by omega)).trans ((zc_p (by omega)).trans ((zc_p (by omega)).trans ((zc_p (by omega)).trans (zc_p (by omega))))))))).trans ((z_R_run hK (n := 3) (g' := (z_up (z_up (z_up (z_cp (z_cp (z_cp (z_cp (z_cp m (s + 1) 0 (t + 1) 0 9) (s + 2) 0 (t + 2) 0 9) (s + 3) 0 (t + 3) 0 5) (s + 4) 0 (t + 4) 0 5) (s + 5) 0 (t + 5) 0 5) t 5 (m s 5)) t 6 (m s 6)) t 7 (m s 7), 98, [(2, ((t : Nat) : Int)), (2, ((s : Nat) : Int))], [(2, ((s : Nat) : Int)), (2, ((t : Nat) : Int))])) rfl).trans (z_R_gf hK rfl rfl rfl (st_gi hs 8 (by decide) (by decide)) ((congrArg (fun vv => z_R 61 (z_up (z_up (z_up (z_cp (z_cp (z_cp (z_cp (z_cp m (s + 1) 0 (t + 1) 0 9) (s + 2) 0 (t + 2) 0 9) (s + 3) 0 (t + 3) 0 5) (s + 4) 0 (t + 4) 0 5) (s + 5) 0 (t + 5) 0 5) t 5 (m s 5)) t 6 (m s 6)) t 7 (m s 7), 101, [(2, ((t : Nat) : Int)), (2, ((s : Nat) : Int))], [(0, vv), (2, ((t : Nat) : Int))])) ((zu_p (by omega)).trans ((zu_p (by omega)).trans ((zu_p (by omega)).trans ((zc_p (by omega)).trans ((zc_p (by omega)).trans ((zc_p (by omega)).trans ((zc_p (by omega)).trans (zc_p (by omega)))))))))).trans ((z_R_run hK (n := 1) (g' := (z_up (z_up (z_up (z_up (z_cp (z_cp (z_cp (z_cp (z_cp m (s + 1) 0 (t + 1) 0 9) (s + 2) 0 (t + 2) 0 9) (s + 3) 0 (t + 3) 0 5) (s + 4) 0 (t + 4) 0 5) (s + 5) 0 (t + 5) 0 5) t 5 (m s 5)) t 6 (m s 6)) t 7 (m s 7)) t 8 (m s 8), 104, [(2, ((t : Nat) : Int)), (2, ((s : Nat) : Int))], [])) rfl).trans (z_R_ret hK rfl rfl rfl)))))))))))))))))))))))))))))))))))))))))))
theorem s_rem_0  (m : z_M) (h_x : 0 ≤ m 28 3 ∧ m 28 3 ≤ 11) : z_R 60 (m, 0, [(2, 28), (2, 12)], []) = (z_R 61 (m, 0, [(2, (z_ga m 29 (m 28 3).toNat).2), (2, 12)], [])).bind fun qq => z_R 60 (qq.1, 13, [(2, 28), (2, 12)], qq.2.toList ++ []) :=
  have hK : kt_at 60 = kt_60 := rfl
  (z_R_run hK (n := 2) (g' := (m, 4, [(2, 28), (2, 12)], [(2, 29)])) rfl).trans ((z_R_run hK (n := 2) (g' := (m, 8, [(2, 28), (2, 12)], [(0, m 28 3), (2, 29)])) rfl).trans (z_R_ixG hK (n := 12) (Q := 29) rfl rfl rfl (show 0 ≤ m 28 3 ∧ m 28 3 < 12 by omega) ((z_R_run hK (n := 1) (g' := (m, 10, [(2, 28), (2, 12)], [(2, 12), (2, (z_ga m 29 (m 28 3).toNat).2)])) rfl).trans (z_R_call hK rfl rfl rfl rfl rfl))))
theorem s_rem_13  (m : z_M) (h_x : 0 ≤ m 28 3 ∧ m 28 3 ≤ 11) (h_z : 0 ≤ m 28 4 ∧ m 28 4 ≤ 12) : z_R 60 (m, 13, [(2, 28), (2, 12)], []) = some (z_up (z_up m 28 3 ((m 28 3 + 1) % 12)) 28 4 (if 12 < (m 28 4 + 1) then 12 else (m 28 4 + 1)), none) :=
  have hK : kt_at 60 = kt_60 := rfl
  (z_R_run hK (n := 5) (g' := (m, 20, [(2, 28), (2, 12)], [(0, z_add (m 28 3) 1), (2, 28)])) rfl).trans ((congrArg (fun vv => z_R 60 (m, 20, [(2, 28), (2, 12)], [(0, vv), (2, 28)])) (z_add_eq (by omega) (by omega))).trans ((z_R_run hK (n := 2) (g' := (m, 23, [(2, 28), (2, 12)], [(0, z_rem (m 28 3 + 1) 12), (2, 28)])) rfl).trans ((congrArg (fun vv => z_R 60 (m, 23, [(2, 28), (2, 12)], [(0, vv), (2, 28)])) (z_rem_nn (by omega) (by omega) (by decide) (by decide))).trans ((z_R_run hK (n := 4) (g' := (z_up m 28 3 ((m 28 3 + 1) % 12), 31, [(2, 28), (2, 12)], [(0, (z_up m 28 3 ((m 28 3 + 1) % 12)) 28 4), (2, 28)])) rfl).trans ((congrArg (fun vv => z_R 60 (z_up m 28 3 ((m 28 3 + 1) % 12), 31, [(2, 28), (2, 12)], [(0, vv), (2, 28)])) (zu_k (by decide))).trans ((z_R_run hK (n := 2) (g' := (z_up m 28 3 ((m 28 3 + 1) % 12), 33, [(2, 28), (2, 12)], [(0, z_add (m 28 4) 1), (2, 28)])) rfl).trans ((congrArg (fun vv => z_R 60 (z_up m 28 3 ((m 28 3 + 1) % 12), 33, [(2, 28), (2, 12)], [(0, vv), (2, 28)])) (z_add_eq (by omega) (by omega))).trans ((z_R_run hK (n := 3) (g' := (z_up (z_up m 28 3 ((m 28 3 + 1) % 12)) 28 4 (if 12 < (m 28 4 + 1) then 12 else (m 28 4 + 1)), 41, [(2, 28), (2, 12)], [])) rfl).trans (z_R_ret hK rfl rfl rfl)))))))))
theorem s_rem18_0  (m : z_M) (h_x : 0 ≤ m 28 3 ∧ m 28 3 ≤ 11) : z_R 60 (m, 0, [(2, 28), (2, 18)], []) = (z_R 61 (m, 0, [(2, (z_ga m 29 (m 28 3).toNat).2), (2, 18)], [])).bind fun qq => z_R 60 (qq.1, 13, [(2, 28), (2, 18)], qq.2.toList ++ []) :=
  have hK : kt_at 60 = kt_60 := rfl
  (z_R_run hK (n := 2) (g' := (m, 4, [(2, 28), (2, 18)], [(2, 29)])) rfl).trans ((z_R_run hK (n := 2) (g' := (m, 8, [(2, 28), (2, 18)], [(0, m 28 3), (2, 29)])) rfl).trans (z_R_ixG hK (n := 12) (Q := 29) rfl rfl rfl (show 0 ≤ m 28 3 ∧ m 28 3 < 12 by omega) ((z_R_run hK (n := 1) (g' := (m, 10, [(2, 28), (2, 18)], [(2, 18), (2, (z_ga m 29 (m 28 3).toNat).2)])) rfl).trans (z_R_call hK rfl rfl rfl rfl rfl))))
theorem s_rem18_13  (m : z_M) (h_x : 0 ≤ m 28 3 ∧ m 28 3 ≤ 11) (h_z : 0 ≤ m 28 4 ∧ m 28 4 ≤ 12) : z_R 60 (m, 13, [(2, 28), (2, 18)], []) = some (z_up (z_up m 28 3 ((m 28 3 + 1) % 12)) 28 4 (if 12 < (m 28 4 + 1) then 12 else (m 28 4 + 1)), none) :=
  have hK : kt_at 60 = kt_60 := rfl
  (z_R_run hK (n := 5) (g' := (m, 20, [(2, 28), (2, 18)], [(0, z_add (m 28 3) 1), (2, 28)])) rfl).trans ((congrArg (fun vv => z_R 60 (m, 20, [(2, 28), (2, 18)], [(0, vv), (2, 28)])) (z_add_eq (by omega) (by omega))).trans ((z_R_run hK (n := 2) (g' := (m, 23, [(2, 28), (2, 18)], [(0, z_rem (m 28 3 + 1) 12), (2, 28)])) rfl).trans ((congrArg (fun vv => z_R 60 (m, 23, [(2, 28), (2, 18)], [(0, vv), (2, 28)])) (z_rem_nn (by omega) (by omega) (by decide) (by decide))).trans ((z_R_run hK (n := 4) (g' := (z_up m 28 3 ((m 28 3 + 1) % 12), 31, [(2, 28), (2, 18)], [(0, (z_up m 28 3 ((m 28 3 + 1) % 12)) 28 4), (2, 28)])) rfl).trans ((congrArg (fun vv => z_R 60 (z_up m 28 3 ((m 28 3 + 1) % 12), 31, [(2, 28), (2, 18)], [(0, vv), (2, 28)])) (zu_k (by decide))).trans ((z_R_run hK (n := 2) (g' := (z_up m 28 3 ((m 28 3 + 1) % 12), 33, [(2, 28), (2, 18)], [(0, z_add (m 28 4) 1), (2, 28)])) rfl).trans ((congrArg (fun vv => z_R 60 (z_up m 28 3 ((m 28 3 + 1) % 12), 33, [(2, 28), (2, 18)], [(0, vv), (2, 28)])) (z_add_eq (by omega) (by omega))).trans ((z_R_run hK (n := 3) (g' := (z_up (z_up m 28 3 ((m 28 3 + 1) % 12)) 28 4 (if 12 < (m 28 4 + 1) then 12 else (m 28 4 + 1)), 41, [(2, 28), (2, 18)], [])) rfl).trans (z_R_ret hK rfl rfl rfl)))))))))
theorem s_gob_0  (m : z_M) (h_x : 0 ≤ m 28 3 ∧ m 28 3 ≤ 11) (h_z : 0 ≤ m 28 4 ∧ m 28 4 ≤ 12) : z_R 88 (m, 0, [(2, 28), (2, 12)], []) = if m 28 4 = 0 then some (m, some (0, 0)) else (z_R 61 (z_up (z_up m 28 3 ((m 28 3 + 11) % 12)) 28 4 (m 28 4 - 1), 0, [(2, 12), (2, (z_ga (z_up (z_up m 28 3 ((m 28 3 + 11) % 12)) 28 4 (m 28 4 - 1)) 29 ((m 28 3 + 11) % 12).toNat).2)], [])).bind fun qq => z_R 88 (qq.1, 48, [(2, 28), (2, 12)], qq.2.toList ++ []) :=
  have hK : kt_at 88 = kt_88 := rfl
  (z_R_run hK (n := 2) (g' := (m, 4, [(2, 28), (2, 12)], [(0, m 28 4)])) rfl).trans (z_R_ifnd hK (c := m 28 4 = 0) (p1 := 9) (p2 := 7) rfl rfl rfl (fun h1 => (z_R_run hK (n := 5) (g' := (m, 17, [(2, 28), (2, 12)], [(0, z_add (m 28 3) 12), (2, 28)])) rfl).trans ((congrArg (fun vv => z_R 88 (m, 17, [(2, 28), (2, 12)], [(0, vv), (2, 28)])) (z_add_eq (by omega) (by omega))).trans ((z_R_run hK (n := 2) (g' := (m, 19, [(2, 28), (2, 12)], [(0, z_sub (m 28 3 + 12) 1), (2, 28)])) rfl).trans ((congrArg (fun vv => z_R 88 (m, 19, [(2, 28), (2, 12)], [(0, vv), (2, 28)])) ((z_sub_eq (by omega) (by omega)).trans (by omega))).trans ((z_R_run hK (n := 2) (g' := (m, 22, [(2, 28), (2, 12)], [(0, z_rem (m 28 3 + 11) 12), (2, 28)])) rfl).trans ((congrArg (fun vv => z_R 88 (m, 22, [(2, 28), (2, 12)], [(0, vv), (2, 28)])) (z_rem_nn (by omega) (by omega) (by decide) (by decide))).trans ((z_R_run hK (n := 4) (g' := (z_up m 28 3 ((m 28 3 + 11) % 12), 30, [(2, 28), (2, 12)], [(0, (z_up m 28 3 ((m 28 3 + 11) % 12)) 28 4), (2, 28)])) rfl).trans ((congrArg (fun vv => z_R 88 (z_up m 28 3 ((m 28 3 + 11) % 12), 30, [(2, 28), (2, 12)], [(0, vv), (2, 28)])) (zu_k (by decide))).trans ((z_R_run hK (n := 2) (g' := (z_up m 28 3 ((m 28 3 + 11) % 12), 32, [(2, 28), (2, 12)], [(0, z_sub (m 28 4) 1), (2, 28)])) rfl).trans ((congrArg (fun vv => z_R 88 (z_up m 28 3 ((m 28 3 + 11) % 12), 32, [(2, 28), (2, 12)], [(0, vv), (2, 28)])) (z_sub_eq (by omega) (by omega))).trans ((z_R_run hK (n := 4) (g' := (z_up (z_up m 28 3 ((m 28 3 + 11) % 12)) 28 4 (m 28 4 - 1), 40, [(2, 28), (2, 12)], [(2, 29), (2, 12)])) rfl).trans ((z_R_run hK (n := 2) (g' := (z_up (z_up m 28 3 ((m 28 3 + 11) % 12)) 28 4 (m 28 4 - 1), 44, [(2, 28), (2, 12)], [(0, (z_up (z_up m 28 3 ((m 28 3 + 11) % 12)) 28 4 (m 28 4 - 1)) 28 3), (2, 29), (2, 12)])) rfl).trans ((congrArg (fun vv => z_R 88 (z_up (z_up m 28 3 ((m 28 3 + 11) % 12)) 28 4 (m 28 4 - 1), 44, [(2, 28), (2, 12)], [(0, vv), (2, 29), (2, 12)])) ((zu_k (by decide)).trans (zu_self))).trans (z_R_ixG hK (n := 12) (Q := 29) rfl rfl rfl (show 0 ≤ (m 28 3 + 11) % 12 ∧ (m 28 3 + 11) % 12 < 12 by omega) (z_R_call hK rfl rfl rfl rfl rfl))))))))))))))) (fun h1 => (z_R_run hK (n := 1) (g' := (m, 8, [(2, 28), (2, 12)], [(0, 0)])) rfl).trans (z_R_ret hK rfl rfl rfl)))
theorem s_gob_48  (m : z_M) : z_R 88 (m, 48, [(2, 28), (2, 12)], []) = some (m, some (0, 1)) :=
  have hK : kt_at 88 = kt_88 := rfl
  (z_R_run hK (n := 1) (g' := (m, 49, [(2, 28), (2, 12)], [(0, 1)])) rfl).trans (z_R_ret hK rfl rfl rfl)
theorem s_fdone_0  (m : z_M) : z_R 33 (m, 0, [(2, 28)], []) = some (z_up m 28 4 0, none) :=
  have hK : kt_at 33 = kt_33 := rfl
  (z_R_run hK (n := 3) (g' := (z_up m 28 4 0, 5, [(2, 28)], [])) rfl).trans (z_R_ret hK rfl rfl rfl)
theorem s_mva_0  (m : z_M) (p : Int) (k : Int) (h_n : 0 ≤ m 3 11 ∧ m 3 11 ≤ 5) : z_R 59 (m, 0, [(2, 0), (0, p), (0, k), (9, 0)], []) = if 0 ≤ p ∧ p < m 3 11 then if ¬ u_hs (m 3 8) (m 3 9) k = 0 then if m 15 (p).toNat = k then some (m, some (0, (-2))) else if m 15 (p).toNat = (-1) then some (m, some (0, 9)) else some (m, some (0, m 15 (p).toNat)) else some (m, some (0, (-1))) else some (m, some (0, (-1))) :=
  have hK : kt_at 59 = kt_59 := rfl
  (z_R_run hK (n := 2) (g' := (m, 4, [(2, 0), (0, p), (0, k), (9, 0)], [(2, 3)])) rfl).trans ((z_R_run hK (n := 1) (g' := (m, 5, [(2, 0), (0, p), (0, k), (9, 0)], [(0, p), (2, 3)])) rfl).trans (z_R_cif hK rfl rfl rfl rfl rfl (c_ifknows _ _ rfl) (fun h1 => (z_R_run hK (n := 3) (g' := (m, 15, [(2, 0), (0, p), (0, k), (9, 0)], [(2, 3)])) rfl).trans ((z_R_run hK (n := 1) (g' := (m, 16, [(2, 0), (0, p), (0, k), (9, 0)], [(0, k), (2, 3)])) rfl).trans (z_R_cif hK rfl rfl rfl rfl rfl (c_ifhas _ _ rfl rfl) (fun h2 => have h5 := u_hs_rng h2; (z_R_run hK (n := 3) (g' := (m, 28, [(2, 0), (0, p), (0, k), (9, 0)], [(2, 12)])) rfl).trans ((z_R_run hK (n := 1) (g' := (m, 31, [(2, 0), (0, p), (0, k), (9, 0)], [(2, 15)])) rfl).trans ((z_R_run hK (n := 1) (g' := (m, 32, [(2, 0), (0, p), (0, k), (9, 0)], [(0, p), (2, 15)])) rfl).trans (z_R_ixT hK (n := 5) (g' := (m, 33, [(2, 0), (0, p), (0, k), (9, 0)], [(0, m 15 (p).toNat)])) rfl rfl rfl  (show 0 ≤ p ∧ p < 5 by omega) ((z_R_run hK (n := 3) (g' := (m, 36, [(2, 0), (0, p), (0, k), (0, m 15 (p).toNat)], [(0, k), (0, m 15 (p).toNat)])) rfl).trans (z_R_ifnd hK (c := m 15 (p).toNat = k) (p1 := 42) (p2 := 39) rfl rfl rfl (fun h3 => (z_R_run hK (n := 2) (g' := (m, 44, [(2, 0), (0, p), (0, k), (0, m 15 (p).toNat)], [(0, (-1)), (0, m 15 (p).toNat)])) rfl).trans (z_R_ifnd hK (c := m 15 (p).toNat = (-1)) (p1 := 52) (p2 := 47) rfl rfl rfl (fun h4 => (z_R_run hK (n := 1) (g' := (m, 53, [(2, 0), (0, p), (0, k), (0, m 15 (p).toNat)], [(0, m 15 (p).toNat)])) rfl).trans (z_R_ret hK rfl rfl rfl)) (fun h4 => (z_R_run hK (n := 2) (g' := (m, 53, [(2, 0), (0, p), (0, k), (0, m 15 (p).toNat)], [(0, 9)])) rfl).trans (z_R_ret hK rfl rfl rfl)))) (fun h3 => (z_R_run hK (n := 1) (g' := (m, 41, [(2, 0), (0, p), (0, k), (0, m 15 (p).toNat)], [(0, (-2))])) rfl).trans (z_R_ret hK rfl rfl rfl)))))))) (fun h2 => (z_R_run hK (n := 2) (g' := (m, 23, [(2, 0), (0, p), (0, k), (9, 0)], [(0, (-1))])) rfl).trans (z_R_ret hK rfl rfl rfl))))) (fun h1 => (z_R_run hK (n := 2) (g' := (m, 23, [(2, 0), (0, p), (0, k), (9, 0)], [(0, (-1))])) rfl).trans (z_R_ret hK rfl rfl rfl))))
theorem s_mv_0  (m : z_M) (p : Int) (k : Int) : z_R 58 (m, 0, [(2, 0), (0, p), (0, k), (9, 0)], []) = (z_R 59 (m, 0, [(2, 0), (0, p), (0, k), (9, 0)], [])).bind fun qq => z_R 58 (qq.1, 6, [(2, 0), (0, p), (0, k), (9, 0)], qq.2.toList ++ []) :=
  have hK : kt_at 58 = kt_58 := rfl
  (z_R_run hK (n := 3) (g' := (m, 3, [(2, 0), (0, p), (0, k), (9, 0)], [(0, k), (0, p), (2, 0)])) rfl).trans (z_R_call hK rfl rfl rfl rfl rfl)
theorem s_mv_6  (m : z_M) (x1 : Int) (x2 : Int) (u : Int) : z_R 58 (m, 6, [(2, 0), (0, x1), (0, x2), (9, 0)], [(0, u)]) = if u < 0 then some (m, some (0, u)) else (z_R 60 (m, 0, [(2, 28), (2, 12)], [])).bind fun qq => z_R 58 (qq.1, 22, [(2, 0), (0, x1), (0, x2), (0, u)], qq.2.toList ++ []) :=
  have hK : kt_at 58 = kt_58 := rfl
  (z_R_run hK (n := 2) (g' := (m, 8, [(2, 0), (0, x1), (0, x2), (0, u)], [(0, u)])) rfl).trans (z_R_ifd hK (c := u < 0) (p1 := 32) (p2 := 11) rfl rfl rfl (fun h1 => (z_R_run hK (n := 1) (g' := (m, 33, [(2, 0), (0, x1), (0, x2), (0, u)], [(0, u)])) rfl).trans (z_R_ret hK rfl rfl rfl)) (fun h1 => (z_R_run hK (n := 2) (g' := (m, 15, [(2, 0), (0, x1), (0, x2), (0, u)], [(2, 28)])) rfl).trans ((z_R_run hK (n := 2) (g' := (m, 19, [(2, 0), (0, x1), (0, x2), (0, u)], [(2, 12), (2, 28)])) rfl).trans (z_R_call hK rfl rfl rfl rfl rfl))))
theorem s_mv_22  (m : z_M) (x1 : Int) (x2 : Int) (x3 : Int) : z_R 58 (m, 22, [(2, 0), (0, x1), (0, x2), (0, x3)], []) = if 0 ≤ x1 ∧ x1 < 5 then some (z_up m 15 (x1).toNat x2, some (0, x3)) else none :=
  have hK : kt_at 58 = kt_58 := rfl
  (z_R_run hK (n := 2) (g' := (m, 26, [(2, 0), (0, x1), (0, x2), (0, x3)], [(2, 12)])) rfl).trans ((z_R_run hK (n := 1) (g' := (m, 29, [(2, 0), (0, x1), (0, x2), (0, x3)], [(2, 15)])) rfl).trans ((z_R_run hK (n := 2) (g' := (m, 31, [(2, 0), (0, x1), (0, x2), (0, x3)], [(0, x2), (0, x1), (2, 15)])) rfl).trans (z_R_ixD hK (n := 5) (g' := (z_up m 15 (x1).toNat x2, 32, [(2, 0), (0, x1), (0, x2), (0, x3)], [])) rfl rfl rfl (fun h1 => (z_R_run hK (n := 1) (g' := (z_up m 15 (x1).toNat x2, 33, [(2, 0), (0, x1), (0, x2), (0, x3)], [(0, x3)])) rfl).trans (z_R_ret hK rfl rfl rfl)))))
theorem s_sta_0  (m : z_M) (k : Int) : z_R 63 (m, 0, [(2, 0), (0, k)], []) = if k = (-1) then if m 12 6 = k then some (m, some (0, (-2))) else if m 12 6 = (-1) then some (m, some (0, 9)) else some (m, some (0, m 12 6)) else if ¬ u_hs (m 3 8) (m 3 9) k = 0 then if m 12 6 = k then some (m, some (0, (-2))) else if m 12 6 = (-1) then some (m, some (0, 9)) else some (m, some (0, m 12 6)) else some (m, some (0, (-1))) :=
  have hK : kt_at 63 = kt_63 := rfl
  (z_R_run hK (n := 2) (g' := (m, 2, [(2, 0), (0, k)], [(0, (-1)), (0, k)])) rfl).trans (z_R_ifd hK (c := k = (-1)) (p1 := 18) (p2 := 5) rfl rfl rfl (fun h1 => (z_R_run hK (n := 2) (g' := (m, 22, [(2, 0), (0, k)], [(2, 12)])) rfl).trans ((z_R_run hK (n := 2) (g' := (m, 26, [(2, 0), (0, k)], [(0, k), (0, m 12 6)])) rfl).trans (z_R_ifnd hK (c := m 12 6 = k) (p1 := 32) (p2 := 29) rfl rfl rfl (fun h2 => (z_R_run hK (n := 2) (g' := (m, 36, [(2, 0), (0, k)], [(2, 12)])) rfl).trans ((z_R_run hK (n := 2) (g' := (m, 40, [(2, 0), (0, k)], [(0, (-1)), (0, m 12 6)])) rfl).trans (z_R_ifnd hK (c := m 12 6 = (-1)) (p1 := 48) (p2 := 43) rfl rfl rfl (fun h3 => (z_R_run hK (n := 2) (g' := (m, 52, [(2, 0), (0, k)], [(2, 12)])) rfl).trans ((z_R_run hK (n := 1) (g' := (m, 55, [(2, 0), (0, k)], [(0, m 12 6)])) rfl).trans (z_R_ret hK rfl rfl rfl))) (fun h3 => (z_R_run hK (n := 2) (g' := (m, 55, [(2, 0), (0, k)], [(0, 9)])) rfl).trans (z_R_ret hK rfl rfl rfl))))) (fun h2 => (z_R_run hK (n := 1) (g' := (m, 31, [(2, 0), (0, k)], [(0, (-2))])) rfl).trans (z_R_ret hK rfl rfl rfl))))) (fun h1 => (z_R_run hK (n := 2) (g' := (m, 9, [(2, 0), (0, k)], [(2, 3)])) rfl).trans ((z_R_run hK (n := 1) (g' := (m, 10, [(2, 0), (0, k)], [(0, k), (2, 3)])) rfl).trans (z_R_cif hK rfl rfl rfl rfl rfl (c_ifhas _ _ rfl rfl) (fun h4 => have h7 := u_hs_rng h4; (z_R_run hK (n := 3) (g' := (m, 22, [(2, 0), (0, k)], [(2, 12)])) rfl).trans ((z_R_run hK (n := 2) (g' := (m, 26, [(2, 0), (0, k)], [(0, k), (0, m 12 6)])) rfl).trans (z_R_ifnd hK (c := m 12 6 = k) (p1 := 32) (p2 := 29) rfl rfl rfl (fun h5 => (z_R_run hK (n := 2) (g' := (m, 36, [(2, 0), (0, k)], [(2, 12)])) rfl).trans ((z_R_run hK (n := 2) (g' := (m, 40, [(2, 0), (0, k)], [(0, (-1)), (0, m 12 6)])) rfl).trans (z_R_ifnd hK (c := m 12 6 = (-1)) (p1 := 48) (p2 := 43) rfl rfl rfl (fun h6 => (z_R_run hK (n := 2) (g' := (m, 52, [(2, 0), (0, k)], [(2, 12)])) rfl).trans ((z_R_run hK (n := 1) (g' := (m, 55, [(2, 0), (0, k)], [(0, m 12 6)])) rfl).trans (z_R_ret hK rfl rfl rfl))) (fun h6 => (z_R_run hK (n := 2) (g' := (m, 55, [(2, 0), (0, k)], [(0, 9)])) rfl).trans (z_R_ret hK rfl rfl rfl))))) (fun h5 => (z_R_run hK (n := 1) (g' := (m, 31, [(2, 0), (0, k)], [(0, (-2))])) rfl).trans (z_R_ret hK rfl rfl rfl))))) (fun h4 => (z_R_run hK (n := 2) (g' := (m, 17, [(2, 0), (0, k)], [(0, (-1))])) rfl).trans (z_R_ret hK rfl rfl rfl))))))
theorem s_stv_0  (m : z_M) (k : Int) : z_R 62 (m, 0, [(2, 0), (0, k), (9, 0)], []) = (z_R 63 (m, 0, [(2, 0), (0, k)], [])).bind fun qq => z_R 62 (qq.1, 5, [(2, 0), (0, k), (9, 0)], qq.2.toList ++ []) :=
  have hK : kt_at 62 = kt_62 := rfl
  (z_R_run hK (n := 2) (g' := (m, 2, [(2, 0), (0, k), (9, 0)], [(0, k), (2, 0)])) rfl).trans (z_R_call hK rfl rfl rfl rfl rfl)
theorem s_stv_5  (m : z_M) (x1 : Int) (u : Int) : z_R 62 (m, 5, [(2, 0), (0, x1), (9, 0)], [(0, u)]) = if u < 0 then some (m, some (0, u)) else (z_R 60 (m, 0, [(2, 28), (2, 12)], [])).bind fun qq => z_R 62 (qq.1, 21, [(2, 0), (0, x1), (0, u)], qq.2.toList ++ []) :=
  have hK : kt_at 62 = kt_62 := rfl
  (z_R_run hK (n := 2) (g' := (m, 7, [(2, 0), (0, x1), (0, u)], [(0, u)])) rfl).trans (z_R_ifd hK (c := u < 0) (p1 := 29) (p2 := 10) rfl rfl rfl (fun h1 => (z_R_run hK (n := 1) (g' := (m, 30, [(2, 0), (0, x1), (0, u)], [(0, u)])) rfl).trans (z_R_ret hK rfl rfl rfl)) (fun h1 => (z_R_run hK (n := 2) (g' := (m, 14, [(2, 0), (0, x1), (0, u)], [(2, 28)])) rfl).trans ((z_R_run hK (n := 2) (g' := (m, 18, [(2, 0), (0, x1), (0, u)], [(2, 12), (2, 28)])) rfl).trans (z_R_call hK rfl rfl rfl rfl rfl))))
theorem s_stv_21  (m : z_M) (x1 : Int) (x2 : Int) : z_R 62 (m, 21, [(2, 0), (0, x1), (0, x2)], []) = some (z_up m 12 6 x1, some (0, x2)) :=
  have hK : kt_at 62 = kt_62 := rfl
  (z_R_run hK (n := 2) (g' := (m, 25, [(2, 0), (0, x1), (0, x2)], [(2, 12)])) rfl).trans ((z_R_run hK (n := 3) (g' := (z_up m 12 6 x1, 30, [(2, 0), (0, x1), (0, x2)], [(0, x2)])) rfl).trans (z_R_ret hK rfl rfl rfl))
theorem s_hour_0  (m : z_M) : z_R 64 (m, 0, [(2, 0)], []) = (z_R 65 (m, 0, [(2, 0), (0, 1)], [])).bind fun qq => z_R 64 (qq.1, 5, [(2, 0)], qq.2.toList ++ []) :=
  have hK : kt_at 64 = kt_64 := rfl
  (z_R_run hK (n := 2) (g' := (m, 2, [(2, 0)], [(0, 1), (2, 0)])) rfl).trans (z_R_call hK rfl rfl rfl rfl rfl)
theorem s_hour_5  (m : z_M) (u : Int) : z_R 64 (m, 5, [(2, 0)], [(0, u)]) = some (m, some (0, u)) :=
  have hK : kt_at 64 = kt_64 := rfl
  z_R_ret hK rfl rfl rfl
theorem s_hours_0  (m : z_M) (n : Int) : z_R 80 (m, 0, [(2, 0), (0, n)], []) = if n < 0 then some (m, some (0, (-1))) else if n ≤ 60 then (z_R 65 (m, 0, [(2, 0), (0, n)], [])).bind fun qq => z_R 80 (qq.1, 17, [(2, 0), (0, n)], qq.2.toList ++ []) else some (m, some (0, (-1))) :=
  have hK : kt_at 80 = kt_80 := rfl
  (z_R_run hK (n := 1) (g' := (m, 1, [(2, 0), (0, n)], [(0, n)])) rfl).trans (z_R_ifd hK (c := n < 0) (p1 := 10) (p2 := 4) rfl rfl rfl (fun h1 => (z_R_run hK (n := 1) (g' := (m, 11, [(2, 0), (0, n)], [(0, (-1))])) rfl).trans (z_R_ret hK rfl rfl rfl)) (fun h1 => (z_R_run hK (n := 2) (g' := (m, 7, [(2, 0), (0, n)], [(0, 60), (0, n)])) rfl).trans (z_R_ifd hK (c := n ≤ 60) (p1 := 12) (p2 := 10) rfl rfl rfl (fun h2 => (z_R_run hK (n := 2) (g' := (m, 14, [(2, 0), (0, n)], [(0, n), (2, 0)])) rfl).trans (z_R_call hK rfl rfl rfl rfl rfl)) (fun h2 => (z_R_run hK (n := 1) (g' := (m, 11, [(2, 0), (0, n)], [(0, (-1))])) rfl).trans (z_R_ret hK rfl rfl rfl)))))
theorem s_hours_17  (m : z_M) (x1 : Int) (u : Int) : z_R 80 (m, 17, [(2, 0), (0, x1)], [(0, u)]) = some (m, some (0, u)) :=
  have hK : kt_at 80 = kt_80 := rfl
  z_R_ret hK rfl rfl rfl
theorem s_lp_0  (m : z_M) (n : Int) (h_n : 0 ≤ n ∧ n ≤ 60) : z_R 65 (m, 0, [(2, 0), (0, n)], []) = if n ≤ 0 then (z_R 67 (z_up (z_up (z_up (z_up m 24 6 0) 24 7 0) 24 8 0) 24 9 0, 0, [(2, 24), (2, 12), (0, n), (9, 0)], [])).bind fun qq => z_R 65 (qq.1, 34, [(2, 0), (0, n)], qq.2.toList ++ []) else (z_R 60 (m, 0, [(2, 28), (2, 12)], [])).bind fun qq => z_R 65 (qq.1, 15, [(2, 0), (0, n)], qq.2.toList ++ []) :=
  have hK : kt_at 65 = kt_65 := rfl
  (z_R_run hK (n := 1) (g' := (m, 1, [(2, 0), (0, n)], [(0, n)])) rfl).trans (z_R_ifd hK (c := n ≤ 0) (p1 := 15) (p2 := 4) rfl rfl rfl (fun h1 => (z_R_run hK (n := 2) (g' := (m, 19, [(2, 0), (0, n)], [(2, 24)])) rfl).trans (z_R_cs hK rfl rfl rfl rfl rfl (s_cb_0 _) ((z_R_run hK (n := 2) (g' := (z_up (z_up (z_up (z_up m 24 6 0) 24 7 0) 24 8 0) 24 9 0, 26, [(2, 0), (0, n)], [(2, 24)])) rfl).trans ((z_R_run hK (n := 2) (g' := (z_up (z_up (z_up (z_up m 24 6 0) 24 7 0) 24 8 0) 24 9 0, 30, [(2, 0), (0, n)], [(2, 12), (2, 24)])) rfl).trans ((z_R_run hK (n := 1) (g' := (z_up (z_up (z_up (z_up m 24 6 0) 24 7 0) 24 8 0) 24 9 0, 31, [(2, 0), (0, n)], [(0, n), (2, 12), (2, 24)])) rfl).trans (z_R_call hK rfl rfl rfl rfl rfl)))))) (fun h1 => (z_R_run hK (n := 2) (g' := (m, 8, [(2, 0), (0, n)], [(2, 28)])) rfl).trans ((z_R_run hK (n := 2) (g' := (m, 12, [(2, 0), (0, n)], [(2, 12), (2, 28)])) rfl).trans (z_R_call hK rfl rfl rfl rfl rfl))))
theorem s_lp_15  (m : z_M) (x1 : Int) : z_R 65 (m, 15, [(2, 0), (0, x1)], []) = (z_R 67 (z_up (z_up (z_up (z_up m 24 6 0) 24 7 0) 24 8 0) 24 9 0, 0, [(2, 24), (2, 12), (0, x1), (9, 0)], [])).bind fun qq => z_R 65 (qq.1, 34, [(2, 0), (0, x1)], qq.2.toList ++ []) :=
  have hK : kt_at 65 = kt_65 := rfl
  (z_R_run hK (n := 2) (g' := (m, 19, [(2, 0), (0, x1)], [(2, 24)])) rfl).trans (z_R_cs hK rfl rfl rfl rfl rfl (s_cb_0 _) ((z_R_run hK (n := 2) (g' := (z_up (z_up (z_up (z_up m 24 6 0) 24 7 0) 24 8 0) 24 9 0, 26, [(2, 0), (0, x1)], [(2, 24)])) rfl).trans ((z_R_run hK (n := 2) (g' := (z_up (z_up (z_up (z_up m 24 6 0) 24 7 0) 24 8 0) 24 9 0, 30, [(2, 0), (0, x1)], [(2, 12), (2, 24)])) rfl).trans ((z_R_run hK (n := 1) (g' := (z_up (z_up (z_up (z_up m 24 6 0) 24 7 0) 24 8 0) 24 9 0, 31, [(2, 0), (0, x1)], [(0, x1), (2, 12), (2, 24)])) rfl).trans (z_R_call hK rfl rfl rfl rfl rfl)))))
theorem s_lp_34  (m : z_M) (x1 : Int) : z_R 65 (m, 34, [(2, 0), (0, x1)], []) = (z_R 76 (m, 0, [(2, 0), (1, z_i2l (m 24 7)), (9, 0), (1, z_i2l (m 24 8)), (9, 0), (1, z_i2l (m 12 5)), (9, 0)], [])).bind fun qq => z_R 65 (qq.1, 62, [(2, 0), (0, x1)], qq.2.toList ++ []) :=
  have hK : kt_at 65 = kt_65 := rfl
  (z_R_run hK (n := 3) (g' := (m, 39, [(2, 0), (0, x1)], [(2, 24), (2, 0)])) rfl).trans ((z_R_run hK (n := 4) (g' := (m, 47, [(2, 0), (0, x1)], [(2, 24), (1, z_i2l (m 24 7)), (2, 0)])) rfl).trans ((z_R_run hK (n := 4) (g' := (m, 55, [(2, 0), (0, x1)], [(2, 12), (1, z_i2l (m 24 8)), (1, z_i2l (m 24 7)), (2, 0)])) rfl).trans ((z_R_run hK (n := 2) (g' := (m, 59, [(2, 0), (0, x1)], [(1, z_i2l (m 12 5)), (1, z_i2l (m 24 8)), (1, z_i2l (m 24 7)), (2, 0)])) rfl).trans (z_R_call hK rfl rfl rfl rfl rfl))))
theorem s_lp_62  (m : z_M) (x1 : Int) : z_R 65 (m, 62, [(2, 0), (0, x1)], []) = some (m, some (0, m 24 6)) :=
  have hK : kt_at 65 = kt_65 := rfl
  (z_R_run hK (n := 2) (g' := (m, 66, [(2, 0), (0, x1)], [(2, 24)])) rfl).trans ((z_R_run hK (n := 1) (g' := (m, 69, [(2, 0), (0, x1)], [(0, m 24 6)])) rfl).trans (z_R_ret hK rfl rfl rfl))
theorem s_pay_0  (m : z_M) (p : Int) (n : Int) (h_n : 0 ≤ m 3 11 ∧ m 3 11 ≤ 5) : z_R 81 (m, 0, [(2, 0), (0, p), (0, n)], []) = if 0 ≤ p ∧ p < m 3 11 then if n < 1 then some (m, some (0, (-1))) else if 9999 < n then some (m, some (0, (-1))) else if n ≤ m 16 (p).toNat then (z_R 60 (m, 0, [(2, 28), (2, 12)], [])).bind fun qq => z_R 81 (qq.1, 49, [(2, 0), (0, p), (0, n)], qq.2.toList ++ []) else some (m, some (0, (-1))) else some (m, some (0, (-1))) :=
  have hK : kt_at 81 = kt_81 := rfl
  (z_R_run hK (n := 2) (g' := (m, 4, [(2, 0), (0, p), (0, n)], [(2, 3)])) rfl).trans ((z_R_run hK (n := 1) (g' := (m, 5, [(2, 0), (0, p), (0, n)], [(0, p), (2, 3)])) rfl).trans (z_R_cif hK rfl rfl rfl rfl rfl (c_ifknows _ _ rfl) (fun h1 => (z_R_run hK (n := 3) (g' := (m, 13, [(2, 0), (0, p), (0, n)], [(0, 1), (0, n)])) rfl).trans (z_R_ifd hK (c := n < 1) (p1 := 36) (p2 := 16) rfl rfl rfl (fun h2 => (z_R_run hK (n := 1) (g' := (m, 37, [(2, 0), (0, p), (0, n)], [(0, (-1))])) rfl).trans (z_R_ret hK rfl rfl rfl)) (fun h2 => (z_R_run hK (n := 2) (g' := (m, 20, [(2, 0), (0, p), (0, n)], [(0, 9999), (0, n)])) rfl).trans (z_R_ifd hK (c := 9999 < n) (p1 := 36) (p2 := 23) rfl rfl rfl (fun h3 => (z_R_run hK (n := 1) (g' := (m, 37, [(2, 0), (0, p), (0, n)], [(0, (-1))])) rfl).trans (z_R_ret hK rfl rfl rfl)) (fun h3 => (z_R_run hK (n := 2) (g' := (m, 27, [(2, 0), (0, p), (0, n)], [(2, 12)])) rfl).trans ((z_R_run hK (n := 1) (g' := (m, 30, [(2, 0), (0, p), (0, n)], [(2, 16)])) rfl).trans ((z_R_run hK (n := 1) (g' := (m, 31, [(2, 0), (0, p), (0, n)], [(0, p), (2, 16)])) rfl).trans (z_R_ixT hK (n := 5) (g' := (m, 32, [(2, 0), (0, p), (0, n)], [(0, m 16 (p).toNat)])) rfl rfl rfl  (show 0 ≤ p ∧ p < 5 by omega) ((z_R_run hK (n := 1) (g' := (m, 33, [(2, 0), (0, p), (0, n)], [(0, n), (0, m 16 (p).toNat)])) rfl).trans (z_R_ifd hK (c := n ≤ m 16 (p).toNat) (p1 := 38) (p2 := 36) rfl rfl rfl (fun h4 => (z_R_run hK (n := 2) (g' := (m, 42, [(2, 0), (0, p), (0, n)], [(2, 28)])) rfl).trans ((z_R_run hK (n := 2) (g' := (m, 46, [(2, 0), (0, p), (0, n)], [(2, 12), (2, 28)])) rfl).trans (z_R_call hK rfl rfl rfl rfl rfl))) (fun h4 => (z_R_run hK (n := 1) (g' := (m, 37, [(2, 0), (0, p), (0, n)], [(0, (-1))])) rfl).trans (z_R_ret hK rfl rfl rfl)))))))))))) (fun h1 => (z_R_run hK (n := 2) (g' := (m, 37, [(2, 0), (0, p), (0, n)], [(0, (-1))])) rfl).trans (z_R_ret hK rfl rfl rfl))))
theorem s_pay_49  (m : z_M) (x1 : Int) (x2 : Int) : z_R 81 (m, 49, [(2, 0), (0, x1), (0, x2)], []) = if 0 ≤ x1 ∧ x1 < 5 then some (z_up m 16 (x1).toNat (z_sub (m 16 (x1).toNat) x2), some (0, z_sub (m 16 (x1).toNat) x2)) else none :=
  have hK : kt_at 81 = kt_81 := rfl
  (z_R_run hK (n := 2) (g' := (m, 53, [(2, 0), (0, x1), (0, x2)], [(2, 12)])) rfl).trans ((z_R_run hK (n := 1) (g' := (m, 56, [(2, 0), (0, x1), (0, x2)], [(2, 16)])) rfl).trans ((z_R_run hK (n := 2) (g' := (m, 58, [(2, 0), (0, x1), (0, x2)], [(0, x1), (2, 16), (0, x1), (2, 16)])) rfl).trans (z_R_ixD hK (n := 5) (g' := (m, 59, [(2, 0), (0, x1), (0, x2)], [(0, m 16 (x1).toNat), (0, x1), (2, 16)])) rfl rfl rfl  (fun h1 => (z_R_run hK (n := 2) (g' := (m, 61, [(2, 0), (0, x1), (0, x2)], [(0, z_sub (m 16 (x1).toNat) x2), (0, x1), (2, 16)])) rfl).trans (z_R_ixT hK (n := 5) (g' := (z_up m 16 (x1).toNat (z_sub (m 16 (x1).toNat) x2), 62, [(2, 0), (0, x1), (0, x2)], [])) rfl rfl rfl (show 0 ≤ x1 ∧ x1 < 5 by omega) ((z_R_run hK (n := 2) (g' := (z_up m 16 (x1).toNat (z_sub (m 16 (x1).toNat) x2), 66, [(2, 0), (0, x1), (0, x2)], [(2, 12)])) rfl).trans ((z_R_run hK (n := 1) (g' := (z_up m 16 (x1).toNat (z_sub (m 16 (x1).toNat) x2), 69, [(2, 0), (0, x1), (0, x2)], [(2, 16)])) rfl).trans ((z_R_run hK (n := 1) (g' := (z_up m 16 (x1).toNat (z_sub (m 16 (x1).toNat) x2), 70, [(2, 0), (0, x1), (0, x2)], [(0, x1), (2, 16)])) rfl).trans (z_R_ixT hK (n := 5) (g' := (z_up m 16 (x1).toNat (z_sub (m 16 (x1).toNat) x2), 71, [(2, 0), (0, x1), (0, x2)], [(0, (z_up m 16 (x1).toNat (z_sub (m 16 (x1).toNat) x2)) 16 (x1).toNat)])) rfl rfl rfl  (show 0 ≤ x1 ∧ x1 < 5 by omega) ((congrArg (fun vv => z_R 81 (z_up m 16 (x1).toNat (z_sub (m 16 (x1).toNat) x2), 71, [(2, 0), (0, x1), (0, x2)], [(0, vv)])) (zu_self)).trans (z_R_ret hK rfl rfl rfl)))))))))))
theorem s_set_0  (m : z_M) (a : Int) (v : Int) : z_R 53 (m, 0, [(2, 0), (0, a), (0, v), (9, 0)], []) = if a < 0 then some (m, some (0, (-1))) else if 2 < a then some (m, some (0, (-1))) else if v < 0 then some (m, some (0, (-1))) else if v ≤ 9 then if a = 0 then some (z_up m 3 12 v, some (0, m 3 12)) else if a = 1 then some (z_up m 12 8 v, some (0, m 12 8)) else some (z_up m 3 13 v, some (0, m 3 13)) else some (m, some (0, (-1))) :=
  have hK : kt_at 53 = kt_53 := rfl
  (z_R_run hK (n := 1) (g' := (m, 1, [(2, 0), (0, a), (0, v), (9, 0)], [(0, a)])) rfl).trans (z_R_ifd hK (c := a < 0) (p1 := 19) (p2 := 4) rfl rfl rfl (fun h1 => (z_R_run hK (n := 1) (g' := (m, 20, [(2, 0), (0, a), (0, v), (9, 0)], [(0, (-1))])) rfl).trans (z_R_ret hK rfl rfl rfl)) (fun h1 => (z_R_run hK (n := 2) (g' := (m, 6, [(2, 0), (0, a), (0, v), (9, 0)], [(0, 2), (0, a)])) rfl).trans (z_R_ifd hK (c := 2 < a) (p1 := 19) (p2 := 9) rfl rfl rfl (fun h2 => (z_R_run hK (n := 1) (g' := (m, 20, [(2, 0), (0, a), (0, v), (9, 0)], [(0, (-1))])) rfl).trans (z_R_ret hK rfl rfl rfl)) (fun h2 => (z_R_run hK (n := 1) (g' := (m, 10, [(2, 0), (0, a), (0, v), (9, 0)], [(0, v)])) rfl).trans (z_R_ifd hK (c := v < 0) (p1 := 19) (p2 := 13) rfl rfl rfl (fun h3 => (z_R_run hK (n := 1) (g' := (m, 20, [(2, 0), (0, a), (0, v), (9, 0)], [(0, (-1))])) rfl).trans (z_R_ret hK rfl rfl rfl)) (fun h3 => (z_R_run hK (n := 2) (g' := (m, 16, [(2, 0), (0, a), (0, v), (9, 0)], [(0, 9), (0, v)])) rfl).trans (z_R_ifd hK (c := v ≤ 9) (p1 := 21) (p2 := 19) rfl rfl rfl (fun h4 => (z_R_run hK (n := 1) (g' := (m, 22, [(2, 0), (0, a), (0, v), (9, 0)], [(0, a)])) rfl).trans (z_R_ifnd hK (c := a = 0) (p1 := 44) (p2 := 25) rfl rfl rfl (fun h5 => (z_R_run hK (n := 2) (g' := (m, 46, [(2, 0), (0, a), (0, v), (9, 0)], [(0, 1), (0, a)])) rfl).trans (z_R_ifnd hK (c := a = 1) (p1 := 68) (p2 := 49) rfl rfl rfl (fun h6 => (z_R_run hK (n := 2) (g' := (m, 72, [(2, 0), (0, a), (0, v), (9, 0)], [(2, 3)])) rfl).trans ((z_R_run hK (n := 4) (g' := (m, 80, [(2, 0), (0, a), (0, v), (0, m 3 13)], [(2, 3)])) rfl).trans ((z_R_run hK (n := 3) (g' := (z_up m 3 13 v, 85, [(2, 0), (0, a), (0, v), (0, m 3 13)], [(0, m 3 13)])) rfl).trans (z_R_ret hK rfl rfl rfl)))) (fun h6 => (z_R_run hK (n := 2) (g' := (m, 53, [(2, 0), (0, a), (0, v), (9, 0)], [(2, 12)])) rfl).trans ((z_R_run hK (n := 4) (g' := (m, 61, [(2, 0), (0, a), (0, v), (0, m 12 8)], [(2, 12)])) rfl).trans ((z_R_run hK (n := 4) (g' := (z_up m 12 8 v, 85, [(2, 0), (0, a), (0, v), (0, m 12 8)], [(0, m 12 8)])) rfl).trans (z_R_ret hK rfl rfl rfl)))))) (fun h5 => (z_R_run hK (n := 2) (g' := (m, 29, [(2, 0), (0, a), (0, v), (9, 0)], [(2, 3)])) rfl).trans ((z_R_run hK (n := 4) (g' := (m, 37, [(2, 0), (0, a), (0, v), (0, m 3 12)], [(2, 3)])) rfl).trans ((z_R_run hK (n := 4) (g' := (z_up m 3 12 v, 85, [(2, 0), (0, a), (0, v), (0, m 3 12)], [(0, m 3 12)])) rfl).trans (z_R_ret hK rfl rfl rfl)))))) (fun h4 => (z_R_run hK (n := 1) (g' := (m, 20, [(2, 0), (0, a), (0, v), (9, 0)], [(0, (-1))])) rfl).trans (z_R_ret hK rfl rfl rfl)))))))))
theorem s_doing_0  (m : z_M) (p : Int) (k : Int) (v : Int) (h_n : 0 ≤ m 3 11 ∧ m 3 11 ≤ 5) : z_R 54 (m, 0, [(2, 0), (0, p), (0, k), (0, v), (9, 0)], []) = if 0 ≤ p ∧ p < m 3 11 then if k < 0 then some (m, some (0, (-1))) else if 6 ≤ k then some (m, some (0, (-1))) else if v < 0 then some (m, some (0, (-1))) else if v ≤ 9 then some (z_up m 8 (6 * p + k).toNat v, some (0, m 8 (6 * p + k).toNat)) else some (m, some (0, (-1))) else some (m, some (0, (-1))) :=
  have hK : kt_at 54 = kt_54 := rfl
  (z_R_run hK (n := 2) (g' := (m, 4, [(2, 0), (0, p), (0, k), (0, v), (9, 0)], [(2, 3)])) rfl).trans ((z_R_run hK (n := 1) (g' := (m, 5, [(2, 0), (0, p), (0, k), (0, v), (9, 0)], [(0, p), (2, 3)])) rfl).trans (z_R_cif hK rfl rfl rfl rfl rfl (c_ifknows _ _ rfl) (fun h1 => (z_R_run hK (n := 2) (g' := (m, 12, [(2, 0), (0, p), (0, k), (0, v), (9, 0)], [(0, k)])) rfl).trans (z_R_ifd hK (c := k < 0) (p1 := 31) (p2 := 15) rfl rfl rfl (fun h2 => (z_R_run hK (n := 1) (g' := (m, 32, [(2, 0), (0, p), (0, k), (0, v), (9, 0)], [(0, (-1))])) rfl).trans (z_R_ret hK rfl rfl rfl)) (fun h2 => (z_R_run hK (n := 2) (g' := (m, 18, [(2, 0), (0, p), (0, k), (0, v), (9, 0)], [(0, 6), (0, k)])) rfl).trans (z_R_ifd hK (c := 6 ≤ k) (p1 := 31) (p2 := 21) rfl rfl rfl (fun h3 => (z_R_run hK (n := 1) (g' := (m, 32, [(2, 0), (0, p), (0, k), (0, v), (9, 0)], [(0, (-1))])) rfl).trans (z_R_ret hK rfl rfl rfl)) (fun h3 => (z_R_run hK (n := 1) (g' := (m, 22, [(2, 0), (0, p), (0, k), (0, v), (9, 0)], [(0, v)])) rfl).trans (z_R_ifd hK (c := v < 0) (p1 := 31) (p2 := 25) rfl rfl rfl (fun h4 => (z_R_run hK (n := 1) (g' := (m, 32, [(2, 0), (0, p), (0, k), (0, v), (9, 0)], [(0, (-1))])) rfl).trans (z_R_ret hK rfl rfl rfl)) (fun h4 => (z_R_run hK (n := 2) (g' := (m, 28, [(2, 0), (0, p), (0, k), (0, v), (9, 0)], [(0, 9), (0, v)])) rfl).trans (z_R_ifd hK (c := v ≤ 9) (p1 := 33) (p2 := 31) rfl rfl rfl (fun h5 => (z_R_run hK (n := 2) (g' := (m, 37, [(2, 0), (0, p), (0, k), (0, v), (9, 0)], [(2, 3)])) rfl).trans ((z_R_run hK (n := 1) (g' := (m, 40, [(2, 0), (0, p), (0, k), (0, v), (9, 0)], [(2, 8)])) rfl).trans ((z_R_run hK (n := 3) (g' := (m, 44, [(2, 0), (0, p), (0, k), (0, v), (9, 0)], [(0, z_mul p 6), (2, 8)])) rfl).trans ((congrArg (fun vv => z_R 54 (m, 44, [(2, 0), (0, p), (0, k), (0, v), (9, 0)], [(0, vv), (2, 8)])) ((z_mul_eq (by omega) (by omega)).trans (by omega))).trans ((z_R_run hK (n := 2) (g' := (m, 46, [(2, 0), (0, p), (0, k), (0, v), (9, 0)], [(0, z_add (6 * p) k), (2, 8)])) rfl).trans ((congrArg (fun vv => z_R 54 (m, 46, [(2, 0), (0, p), (0, k), (0, v), (9, 0)], [(0, vv), (2, 8)])) (z_add_eq (by omega) (by omega))).trans (z_R_ixT hK (n := 30) (g' := (m, 47, [(2, 0), (0, p), (0, k), (0, v), (9, 0)], [(0, m 8 (6 * p + k).toNat)])) rfl rfl rfl  (show 0 ≤ 6 * p + k ∧ 6 * p + k < 30 by omega) ((z_R_run hK (n := 3) (g' := (m, 53, [(2, 0), (0, p), (0, k), (0, v), (0, m 8 (6 * p + k).toNat)], [(2, 3)])) rfl).trans ((z_R_run hK (n := 1) (g' := (m, 56, [(2, 0), (0, p), (0, k), (0, v), (0, m 8 (6 * p + k).toNat)], [(2, 8)])) rfl).trans ((z_R_run hK (n := 3) (g' := (m, 60, [(2, 0), (0, p), (0, k), (0, v), (0, m 8 (6 * p + k).toNat)], [(0, z_mul p 6), (2, 8)])) rfl).trans ((congrArg (fun vv => z_R 54 (m, 60, [(2, 0), (0, p), (0, k), (0, v), (0, m 8 (6 * p + k).toNat)], [(0, vv), (2, 8)])) ((z_mul_eq (by omega) (by omega)).trans (by omega))).trans ((z_R_run hK (n := 2) (g' := (m, 62, [(2, 0), (0, p), (0, k), (0, v), (0, m 8 (6 * p + k).toNat)], [(0, z_add (6 * p) k), (2, 8)])) rfl).trans ((congrArg (fun vv => z_R 54 (m, 62, [(2, 0), (0, p), (0, k), (0, v), (0, m 8 (6 * p + k).toNat)], [(0, vv), (2, 8)])) (z_add_eq (by omega) (by omega))).trans ((z_R_run hK (n := 1) (g' := (m, 63, [(2, 0), (0, p), (0, k), (0, v), (0, m 8 (6 * p + k).toNat)], [(0, v), (0, 6 * p + k), (2, 8)])) rfl).trans (z_R_ixT hK (n := 30) (g' := (z_up m 8 (6 * p + k).toNat v, 64, [(2, 0), (0, p), (0, k), (0, v), (0, m 8 (6 * p + k).toNat)], [])) rfl rfl rfl (show 0 ≤ 6 * p + k ∧ 6 * p + k < 30 by omega) ((z_R_run hK (n := 1) (g' := (z_up m 8 (6 * p + k).toNat v, 66, [(2, 0), (0, p), (0, k), (0, v), (0, m 8 (6 * p + k).toNat)], [(0, m 8 (6 * p + k).toNat)])) rfl).trans (z_R_ret hK rfl rfl rfl))))))))))))))))) (fun h5 => (z_R_run hK (n := 1) (g' := (m, 32, [(2, 0), (0, p), (0, k), (0, v), (9, 0)], [(0, (-1))])) rfl).trans (z_R_ret hK rfl rfl rfl)))))))))) (fun h1 => (z_R_run hK (n := 2) (g' := (m, 32, [(2, 0), (0, p), (0, k), (0, v), (9, 0)], [(0, (-1))])) rfl).trans (z_R_ret hK rfl rfl rfl))))
theorem s_undo_0  (m : z_M) : z_R 87 (m, 0, [(2, 0)], []) = (z_R 88 (m, 0, [(2, 28), (2, 12)], [])).bind fun qq => z_R 87 (qq.1, 11, [(2, 0)], qq.2.toList ++ []) :=
  have hK : kt_at 87 = kt_87 := rfl
  (z_R_run hK (n := 2) (g' := (m, 4, [(2, 0)], [(2, 28)])) rfl).trans ((z_R_run hK (n := 2) (g' := (m, 8, [(2, 0)], [(2, 12), (2, 28)])) rfl).trans (z_R_call hK rfl rfl rfl rfl rfl))
theorem s_undo_11  (m : z_M) (u : Int) : z_R 87 (m, 11, [(2, 0)], [(0, u)]) = if u = 0 then some (m, some (0, (-1))) else some (m, some (0, m 28 4)) :=
  have hK : kt_at 87 = kt_87 := rfl
  z_R_ifd hK (c := u = 0) (p1 := 24) (p2 := 14) rfl rfl rfl (fun h1 => (z_R_run hK (n := 1) (g' := (m, 25, [(2, 0)], [(0, (-1))])) rfl).trans (z_R_ret hK rfl rfl rfl)) (fun h1 => (z_R_run hK (n := 2) (g' := (m, 18, [(2, 0)], [(2, 28)])) rfl).trans ((z_R_run hK (n := 2) (g' := (m, 25, [(2, 0)], [(0, m 28 4)])) rfl).trans (z_R_ret hK rfl rfl rfl)))
theorem s_add_0  (m : z_M) (u : Int) (h_r : 0 ≤ m 0 13 ∧ m 0 13 ≤ 9) : z_R 79 (m, 0, [(2, 0), (1, u), (9, 0)], []) = if 9 ≤ m 0 13 then some (m, none) else some (z_up (z_up m 250 (m 0 13).toNat u) 0 13 (m 0 13 + 1), none) :=
  have hK : kt_at 79 = kt_79 := rfl
  (z_R_run hK (n := 4) (g' := (m, 8, [(2, 0), (1, u), (9, 0)], [(2, 250), (0, m 0 13)])) rfl).trans ((z_R_run hK (n := 1) (g' := (m, 9, [(2, 0), (1, u), (9, 0)], [(0, 9), (0, m 0 13)])) rfl).trans (z_R_ifd hK (c := 9 ≤ m 0 13) (p1 := 32) (p2 := 12) rfl rfl rfl (fun h1 => z_R_ret hK rfl rfl rfl) (fun h1 => (z_R_run hK (n := 2) (g' := (m, 16, [(2, 0), (1, u), (9, 0)], [(2, 250)])) rfl).trans ((z_R_run hK (n := 3) (g' := (m, 21, [(2, 0), (1, u), (9, 0)], [(1, u), (0, m 0 13), (2, 250)])) rfl).trans (z_R_ixT hK (n := 9) (g' := (z_up m 250 (m 0 13).toNat u, 22, [(2, 0), (1, u), (9, 0)], [])) rfl rfl rfl (show 0 ≤ m 0 13 ∧ m 0 13 < 9 by omega) ((z_R_run hK (n := 3) (g' := (z_up m 250 (m 0 13).toNat u, 27, [(2, 0), (1, u), (9, 0)], [(0, (z_up m 250 (m 0 13).toNat u) 0 13), (2, 0)])) rfl).trans ((congrArg (fun vv => z_R 79 (z_up m 250 (m 0 13).toNat u, 27, [(2, 0), (1, u), (9, 0)], [(0, vv), (2, 0)])) (zu_p (by decide))).trans ((z_R_run hK (n := 2) (g' := (z_up m 250 (m 0 13).toNat u, 29, [(2, 0), (1, u), (9, 0)], [(0, z_add (m 0 13) 1), (2, 0)])) rfl).trans ((congrArg (fun vv => z_R 79 (z_up m 250 (m 0 13).toNat u, 29, [(2, 0), (1, u), (9, 0)], [(0, vv), (2, 0)])) (z_add_eq (by omega) (by omega))).trans ((z_R_run hK (n := 1) (g' := (z_up (z_up m 250 (m 0 13).toNat u) 0 13 (m 0 13 + 1), 32, [(2, 0), (1, u), (9, 0)], [])) rfl).trans (z_R_ret hK rfl rfl rfl)))))))))))
theorem s_tell0_0  (m : z_M) : z_R 78 (m, 0, [(2, 0)], []) = some (z_up m 0 13 0, none) :=
  have hK : kt_at 78 = kt_78 := rfl
  (z_R_run hK (n := 3) (g' := (z_up m 0 13 0, 5, [(2, 0)], [])) rfl).trans (z_R_ret hK rfl rfl rfl)
theorem s_tell2_0  (m : z_M) (u1 : Int) (u2 : Int) : z_R 77 (m, 0, [(2, 0), (1, u1), (9, 0), (1, u2), (9, 0)], []) = (z_R 78 (m, 0, [(2, 0)], [])).bind fun qq => z_R 77 (qq.1, 4, [(2, 0), (1, u1), (9, 0), (1, u2), (9, 0)], qq.2.toList ++ []) :=
  have hK : kt_at 77 = kt_77 := rfl
  (z_R_run hK (n := 1) (g' := (m, 1, [(2, 0), (1, u1), (9, 0), (1, u2), (9, 0)], [(2, 0)])) rfl).trans (z_R_call hK rfl rfl rfl rfl rfl)
theorem s_tell2_4  (m : z_M) (x1 : Int) (x3 : Int) : z_R 77 (m, 4, [(2, 0), (1, x1), (9, 0), (1, x3), (9, 0)], []) = (z_R 79 (m, 0, [(2, 0), (1, x1), (9, 0)], [])).bind fun qq => z_R 77 (qq.1, 9, [(2, 0), (1, x1), (9, 0), (1, x3), (9, 0)], qq.2.toList ++ []) :=
  have hK : kt_at 77 = kt_77 := rfl
  (z_R_run hK (n := 2) (g' := (m, 6, [(2, 0), (1, x1), (9, 0), (1, x3), (9, 0)], [(1, x1), (2, 0)])) rfl).trans (z_R_call hK rfl rfl rfl rfl rfl)
theorem s_tell2_9  (m : z_M) (x1 : Int) (x3 : Int) : z_R 77 (m, 9, [(2, 0), (1, x1), (9, 0), (1, x3), (9, 0)], []) = (z_R 79 (m, 0, [(2, 0), (1, x3), (9, 0)], [])).bind fun qq => z_R 77 (qq.1, 14, [(2, 0), (1, x1), (9, 0), (1, x3), (9, 0)], qq.2.toList ++ []) :=
  have hK : kt_at 77 = kt_77 := rfl
  (z_R_run hK (n := 2) (g' := (m, 11, [(2, 0), (1, x1), (9, 0), (1, x3), (9, 0)], [(1, x3), (2, 0)])) rfl).trans (z_R_call hK rfl rfl rfl rfl rfl)
theorem s_tell2_14  (m : z_M) (x1 : Int) (x3 : Int) : z_R 77 (m, 14, [(2, 0), (1, x1), (9, 0), (1, x3), (9, 0)], []) = some (m, none) :=
  have hK : kt_at 77 = kt_77 := rfl
  z_R_ret hK rfl rfl rfl
theorem s_tell3_0  (m : z_M) (u1 : Int) (u2 : Int) (u3 : Int) : z_R 76 (m, 0, [(2, 0), (1, u1), (9, 0), (1, u2), (9, 0), (1, u3), (9, 0)], []) = (z_R 77 (m, 0, [(2, 0), (1, u1), (9, 0), (1, u2), (9, 0)], [])).bind fun qq => z_R 76 (qq.1, 6, [(2, 0), (1, u1), (9, 0), (1, u2), (9, 0), (1, u3), (9, 0)], qq.2.toList ++ []) :=
  have hK : kt_at 76 = kt_76 := rfl
  (z_R_run hK (n := 3) (g' := (m, 3, [(2, 0), (1, u1), (9, 0), (1, u2), (9, 0), (1, u3), (9, 0)], [(1, u2), (1, u1), (2, 0)])) rfl).trans (z_R_call hK rfl rfl rfl rfl rfl)
theorem s_tell3_6  (m : z_M) (x1 : Int) (x3 : Int) (x5 : Int) : z_R 76 (m, 6, [(2, 0), (1, x1), (9, 0), (1, x3), (9, 0), (1, x5), (9, 0)], []) = (z_R 79 (m, 0, [(2, 0), (1, x5), (9, 0)], [])).bind fun qq => z_R 76 (qq.1, 12, [(2, 0), (1, x1), (9, 0), (1, x3), (9, 0), (1, x5), (9, 0)], qq.2.toList ++ []) :=
  have hK : kt_at 76 = kt_76 := rfl
  (z_R_run hK (n := 2) (g' := (m, 9, [(2, 0), (1, x1), (9, 0), (1, x3), (9, 0), (1, x5), (9, 0)], [(1, x5), (2, 0)])) rfl).trans (z_R_call hK rfl rfl rfl rfl rfl)
theorem s_tell3_12  (m : z_M) (x1 : Int) (x3 : Int) (x5 : Int) : z_R 76 (m, 12, [(2, 0), (1, x1), (9, 0), (1, x3), (9, 0), (1, x5), (9, 0)], []) = some (m, none) :=
  have hK : kt_at 76 = kt_76 := rfl
  z_R_ret hK rfl rfl rfl
theorem t_lay260_0  (m : z_M) (k : Int) (h_k : 0 ≤ k ∧ k ≤ 407) : z_R 198 (m, 0, [(2, 252), (2, 260), (0, k), (9, 0)], []) = z_R 198 (m, 2, [(2, 252), (2, 260), (0, k), (0, 0)], []) :=
  have hK : kt_at 198 = kt_198 := rfl
  (z_R_run hK (n := 2) (g' := (m, 2, [(2, 252), (2, 260), (0, k), (0, 0)], [])) rfl).trans (rfl)
theorem t_lay260_2  (m : z_M) (x2 : Int) (x3 : Int) (h_x2 : 0 ≤ x2 ∧ x2 ≤ 407) (h_x3 : 0 ≤ x3 ∧ x3 ≤ 37) : z_R 198 (m, 2, [(2, 252), (2, 260), (0, x2), (0, x3)], []) = if 37 ≤ x3 then some (m, none) else z_R 198 (z_up m 260 (x2 + x3).toNat (m 252 (x3).toNat), 2, [(2, 252), (2, 260), (0, x2), (0, x3 + 1)], []) :=
  have hK : kt_at 198 = kt_198 := rfl
  (z_R_run hK (n := 2) (g' := (m, 5, [(2, 252), (2, 260), (0, x2), (0, x3)], [(0, 37), (0, x3)])) rfl).trans (z_R_ifd hK (c := 37 ≤ x3) (p1 := 22) (p2 := 8) rfl rfl rfl (fun h1 => z_R_ret hK rfl rfl rfl) (fun h1 => (z_R_run hK (n := 4) (g' := (m, 12, [(2, 252), (2, 260), (0, x2), (0, x3)], [(0, z_add x2 x3), (2, 260)])) rfl).trans ((congrArg (fun vv => z_R 198 (m, 12, [(2, 252), (2, 260), (0, x2), (0, x3)], [(0, vv), (2, 260)])) (z_add_eq (by omega) (by omega))).trans ((z_R_run hK (n := 2) (g' := (m, 14, [(2, 252), (2, 260), (0, x2), (0, x3)], [(0, x3), (2, 252), (0, x2 + x3), (2, 260)])) rfl).trans (z_R_ixT hK (n := 37) (g' := (m, 15, [(2, 252), (2, 260), (0, x2), (0, x3)], [(0, m 252 (x3).toNat), (0, x2 + x3), (2, 260)])) rfl rfl rfl  (show 0 ≤ x3 ∧ x3 < 37 by omega) (z_R_ixT hK (n := 444) (g' := (z_up m 260 (x2 + x3).toNat (m 252 (x3).toNat), 16, [(2, 252), (2, 260), (0, x2), (0, x3)], [])) rfl rfl rfl (show 0 ≤ x2 + x3 ∧ x2 + x3 < 444 by omega) ((z_R_run hK (n := 1) (g' := (z_up m 260 (x2 + x3).toNat (m 252 (x3).toNat), 19, [(2, 252), (2, 260), (0, x2), (0, z_add x3 1)], [])) rfl).trans ((congrArg (fun vv => z_R 198 (z_up m 260 (x2 + x3).toNat (m 252 (x3).toNat), 19, [(2, 252), (2, 260), (0, x2), (0, vv)], [])) (z_add_eq (by omega) (by omega))).trans ((z_R_run hK (n := 1) (g' := (z_up m 260 (x2 + x3).toNat (m 252 (x3).toNat), 2, [(2, 252), (2, 260), (0, x2), (0, x3 + 1)], [])) rfl).trans (rfl))))))))))
theorem t_lay261_0  (m : z_M) (k : Int) (h_k : 0 ≤ k ∧ k ≤ 0) : z_R 198 (m, 0, [(2, 252), (2, 261), (0, k), (9, 0)], []) = z_R 198 (m, 2, [(2, 252), (2, 261), (0, k), (0, 0)], []) :=
  have hK : kt_at 198 = kt_198 := rfl
  (z_R_run hK (n := 2) (g' := (m, 2, [(2, 252), (2, 261), (0, k), (0, 0)], [])) rfl).trans (rfl)
theorem t_lay261_2  (m : z_M) (x2 : Int) (x3 : Int) (h_x2 : 0 ≤ x2 ∧ x2 ≤ 0) (h_x3 : 0 ≤ x3 ∧ x3 ≤ 37) : z_R 198 (m, 2, [(2, 252), (2, 261), (0, x2), (0, x3)], []) = if 37 ≤ x3 then some (m, none) else z_R 198 (z_up m 261 (x2 + x3).toNat (m 252 (x3).toNat), 2, [(2, 252), (2, 261), (0, x2), (0, x3 + 1)], []) :=
  have hK : kt_at 198 = kt_198 := rfl
  (z_R_run hK (n := 2) (g' := (m, 5, [(2, 252), (2, 261), (0, x2), (0, x3)], [(0, 37), (0, x3)])) rfl).trans (z_R_ifd hK (c := 37 ≤ x3) (p1 := 22) (p2 := 8) rfl rfl rfl (fun h1 => z_R_ret hK rfl rfl rfl) (fun h1 => (z_R_run hK (n := 4) (g' := (m, 12, [(2, 252), (2, 261), (0, x2), (0, x3)], [(0, z_add x2 x3), (2, 261)])) rfl).trans ((congrArg (fun vv => z_R 198 (m, 12, [(2, 252), (2, 261), (0, x2), (0, x3)], [(0, vv), (2, 261)])) (z_add_eq (by omega) (by omega))).trans ((z_R_run hK (n := 2) (g' := (m, 14, [(2, 252), (2, 261), (0, x2), (0, x3)], [(0, x3), (2, 252), (0, x2 + x3), (2, 261)])) rfl).trans (z_R_ixT hK (n := 37) (g' := (m, 15, [(2, 252), (2, 261), (0, x2), (0, x3)], [(0, m 252 (x3).toNat), (0, x2 + x3), (2, 261)])) rfl rfl rfl  (show 0 ≤ x3 ∧ x3 < 37 by omega) (z_R_ixT hK (n := 37) (g' := (z_up m 261 (x2 + x3).toNat (m 252 (x3).toNat), 16, [(2, 252), (2, 261), (0, x2), (0, x3)], [])) rfl rfl rfl (show 0 ≤ x2 + x3 ∧ x2 + x3 < 37 by omega) ((z_R_run hK (n := 1) (g' := (z_up m 261 (x2 + x3).toNat (m 252 (x3).toNat), 19, [(2, 252), (2, 261), (0, x2), (0, z_add x3 1)], [])) rfl).trans ((congrArg (fun vv => z_R 198 (z_up m 261 (x2 + x3).toNat (m 252 (x3).toNat), 19, [(2, 252), (2, 261), (0, x2), (0, vv)], [])) (z_add_eq (by omega) (by omega))).trans ((z_R_run hK (n := 1) (g' := (z_up m 261 (x2 + x3).toNat (m 252 (x3).toNat), 2, [(2, 252), (2, 261), (0, x2), (0, x3 + 1)], [])) rfl).trans (rfl))))))))))
theorem t_laya_0  (m : z_M) (k : Int) (h_k : 0 ≤ k ∧ k ≤ 407) : z_R 198 (m, 0, [(2, 261), (2, 260), (0, k), (9, 0)], []) = z_R 198 (m, 2, [(2, 261), (2, 260), (0, k), (0, 0)], []) :=
  have hK : kt_at 198 = kt_198 := rfl
  (z_R_run hK (n := 2) (g' := (m, 2, [(2, 261), (2, 260), (0, k), (0, 0)], [])) rfl).trans (rfl)
theorem t_laya_2  (m : z_M) (x2 : Int) (x3 : Int) (h_x2 : 0 ≤ x2 ∧ x2 ≤ 407) (h_x3 : 0 ≤ x3 ∧ x3 ≤ 37) : z_R 198 (m, 2, [(2, 261), (2, 260), (0, x2), (0, x3)], []) = if 37 ≤ x3 then some (m, none) else z_R 198 (z_up m 260 (x2 + x3).toNat (m 261 (x3).toNat), 2, [(2, 261), (2, 260), (0, x2), (0, x3 + 1)], []) :=
  have hK : kt_at 198 = kt_198 := rfl
  (z_R_run hK (n := 2) (g' := (m, 5, [(2, 261), (2, 260), (0, x2), (0, x3)], [(0, 37), (0, x3)])) rfl).trans (z_R_ifd hK (c := 37 ≤ x3) (p1 := 22) (p2 := 8) rfl rfl rfl (fun h1 => z_R_ret hK rfl rfl rfl) (fun h1 => (z_R_run hK (n := 4) (g' := (m, 12, [(2, 261), (2, 260), (0, x2), (0, x3)], [(0, z_add x2 x3), (2, 260)])) rfl).trans ((congrArg (fun vv => z_R 198 (m, 12, [(2, 261), (2, 260), (0, x2), (0, x3)], [(0, vv), (2, 260)])) (z_add_eq (by omega) (by omega))).trans ((z_R_run hK (n := 2) (g' := (m, 14, [(2, 261), (2, 260), (0, x2), (0, x3)], [(0, x3), (2, 261), (0, x2 + x3), (2, 260)])) rfl).trans (z_R_ixT hK (n := 37) (g' := (m, 15, [(2, 261), (2, 260), (0, x2), (0, x3)], [(0, m 261 (x3).toNat), (0, x2 + x3), (2, 260)])) rfl rfl rfl  (show 0 ≤ x3 ∧ x3 < 37 by omega) (z_R_ixT hK (n := 444) (g' := (z_up m 260 (x2 + x3).toNat (m 261 (x3).toNat), 16, [(2, 261), (2, 260), (0, x2), (0, x3)], [])) rfl rfl rfl (show 0 ≤ x2 + x3 ∧ x2 + x3 < 444 by omega) ((z_R_run hK (n := 1) (g' := (z_up m 260 (x2 + x3).toNat (m 261 (x3).toNat), 19, [(2, 261), (2, 260), (0, x2), (0, z_add x3 1)], [])) rfl).trans ((congrArg (fun vv => z_R 198 (z_up m 260 (x2 + x3).toNat (m 261 (x3).toNat), 19, [(2, 261), (2, 260), (0, x2), (0, vv)], [])) (z_add_eq (by omega) (by omega))).trans ((z_R_run hK (n := 1) (g' := (z_up m 260 (x2 + x3).toNat (m 261 (x3).toNat), 2, [(2, 261), (2, 260), (0, x2), (0, x3 + 1)], [])) rfl).trans (rfl))))))))))
theorem t_lay264_0  (m : z_M) (k : Int) (h_k : 0 ≤ k ∧ k ≤ 0) : z_R 198 (m, 0, [(2, 252), (2, 264), (0, k), (9, 0)], []) = z_R 198 (m, 2, [(2, 252), (2, 264), (0, k), (0, 0)], []) :=
  have hK : kt_at 198 = kt_198 := rfl
  (z_R_run hK (n := 2) (g' := (m, 2, [(2, 252), (2, 264), (0, k), (0, 0)], [])) rfl).trans (rfl)
theorem t_lay264_2  (m : z_M) (x2 : Int) (x3 : Int) (h_x2 : 0 ≤ x2 ∧ x2 ≤ 0) (h_x3 : 0 ≤ x3 ∧ x3 ≤ 37) : z_R 198 (m, 2, [(2, 252), (2, 264), (0, x2), (0, x3)], []) = if 37 ≤ x3 then some (m, none) else z_R 198 (z_up m 264 (x2 + x3).toNat (m 252 (x3).toNat), 2, [(2, 252), (2, 264), (0, x2), (0, x3 + 1)], []) :=
  have hK : kt_at 198 = kt_198 := rfl
  (z_R_run hK (n := 2) (g' := (m, 5, [(2, 252), (2, 264), (0, x2), (0, x3)], [(0, 37), (0, x3)])) rfl).trans (z_R_ifd hK (c := 37 ≤ x3) (p1 := 22) (p2 := 8) rfl rfl rfl (fun h1 => z_R_ret hK rfl rfl rfl) (fun h1 => (z_R_run hK (n := 4) (g' := (m, 12, [(2, 252), (2, 264), (0, x2), (0, x3)], [(0, z_add x2 x3), (2, 264)])) rfl).trans ((congrArg (fun vv => z_R 198 (m, 12, [(2, 252), (2, 264), (0, x2), (0, x3)], [(0, vv), (2, 264)])) (z_add_eq (by omega) (by omega))).trans ((z_R_run hK (n := 2) (g' := (m, 14, [(2, 252), (2, 264), (0, x2), (0, x3)], [(0, x3), (2, 252), (0, x2 + x3), (2, 264)])) rfl).trans (z_R_ixT hK (n := 37) (g' := (m, 15, [(2, 252), (2, 264), (0, x2), (0, x3)], [(0, m 252 (x3).toNat), (0, x2 + x3), (2, 264)])) rfl rfl rfl  (show 0 ≤ x3 ∧ x3 < 37 by omega) (z_R_ixT hK (n := 37) (g' := (z_up m 264 (x2 + x3).toNat (m 252 (x3).toNat), 16, [(2, 252), (2, 264), (0, x2), (0, x3)], [])) rfl rfl rfl (show 0 ≤ x2 + x3 ∧ x2 + x3 < 37 by omega) ((z_R_run hK (n := 1) (g' := (z_up m 264 (x2 + x3).toNat (m 252 (x3).toNat), 19, [(2, 252), (2, 264), (0, x2), (0, z_add x3 1)], [])) rfl).trans ((congrArg (fun vv => z_R 198 (z_up m 264 (x2 + x3).toNat (m 252 (x3).toNat), 19, [(2, 252), (2, 264), (0, x2), (0, vv)], [])) (z_add_eq (by omega) (by omega))).trans ((z_R_run hK (n := 1) (g' := (z_up m 264 (x2 + x3).toNat (m 252 (x3).toNat), 2, [(2, 252), (2, 264), (0, x2), (0, x3 + 1)], [])) rfl).trans (rfl))))))))))
theorem t_rem_0  (m : z_M) (h_z : 0 ≤ m 251 25 ∧ m 251 25 ≤ 12) : z_R 197 (m, 0, [(2, 251), (2, 252), (9, 0)], []) = if m 251 25 = 12 then z_R 197 (m, 11, [(2, 251), (2, 252), (0, 0)], []) else (z_R 198 (m, 0, [(2, 252), (2, 260), (0, 37 * m 251 25), (9, 0)], [])).bind fun qq => z_R 197 (qq.1, 64, [(2, 251), (2, 252), (9, 0)], qq.2.toList ++ []) :=
  have hK : kt_at 197 = kt_197 := rfl
  (z_R_run hK (n := 3) (g' := (m, 6, [(2, 251), (2, 252), (9, 0)], [(0, 12), (0, m 251 25)])) rfl).trans (z_R_ifnd hK (c := m 251 25 = 12) (p1 := 49) (p2 := 9) rfl rfl rfl (fun h1 => (z_R_run hK (n := 3) (g' := (m, 54, [(2, 251), (2, 252), (9, 0)], [(2, 260), (2, 252)])) rfl).trans ((z_R_run hK (n := 4) (g' := (m, 61, [(2, 251), (2, 252), (9, 0)], [(0, z_mul 37 (m 251 25)), (2, 260), (2, 252)])) rfl).trans ((congrArg (fun vv => z_R 197 (m, 61, [(2, 251), (2, 252), (9, 0)], [(0, vv), (2, 260), (2, 252)])) ((z_mul_eq (by omega) (by omega)).trans (by omega))).trans (z_R_call hK rfl rfl rfl rfl rfl)))) (fun h1 => (z_R_run hK (n := 2) (g' := (m, 11, [(2, 251), (2, 252), (0, 0)], [])) rfl).trans (rfl)))
theorem t_rem_11  (m : z_M) (x2 : Int) (h_x2 : 0 ≤ x2 ∧ x2 ≤ 407) (h_z : 0 ≤ m 251 25 ∧ m 251 25 ≤ 12) : z_R 197 (m, 11, [(2, 251), (2, 252), (0, x2)], []) = if 407 ≤ x2 then (z_R 198 (z_up m 251 25 (m 251 25 - 1), 0, [(2, 252), (2, 260), (0, 37 * m 251 25 - 37), (9, 0)], [])).bind fun qq => z_R 197 (qq.1, 64, [(2, 251), (2, 252), (0, x2)], qq.2.toList ++ []) else z_R 197 (z_up m 260 (x2).toNat (m 260 (x2 + 37).toNat), 11, [(2, 251), (2, 252), (0, x2 + 1)], []) :=
  have hK : kt_at 197 = kt_197 := rfl
  (z_R_run hK (n := 2) (g' := (m, 15, [(2, 251), (2, 252), (0, x2)], [(0, 407), (0, x2)])) rfl).trans (z_R_ifd hK (c := 407 ≤ x2) (p1 := 39) (p2 := 18) rfl rfl rfl (fun h1 => (z_R_run hK (n := 5) (g' := (m, 46, [(2, 251), (2, 252), (0, x2)], [(0, z_sub (m 251 25) 1), (2, 251)])) rfl).trans ((congrArg (fun vv => z_R 197 (m, 46, [(2, 251), (2, 252), (0, x2)], [(0, vv), (2, 251)])) (z_sub_eq (by omega) (by omega))).trans ((z_R_run hK (n := 4) (g' := (z_up m 251 25 (m 251 25 - 1), 54, [(2, 251), (2, 252), (0, x2)], [(2, 260), (2, 252)])) rfl).trans ((z_R_run hK (n := 3) (g' := (z_up m 251 25 (m 251 25 - 1), 60, [(2, 251), (2, 252), (0, x2)], [(0, (z_up m 251 25 (m 251 25 - 1)) 251 25), (0, 37), (2, 260), (2, 252)])) rfl).trans ((congrArg (fun vv => z_R 197 (z_up m 251 25 (m 251 25 - 1), 60, [(2, 251), (2, 252), (0, x2)], [(0, vv), (0, 37), (2, 260), (2, 252)])) (zu_self)).trans ((z_R_run hK (n := 1) (g' := (z_up m 251 25 (m 251 25 - 1), 61, [(2, 251), (2, 252), (0, x2)], [(0, z_mul 37 (m 251 25 - 1)), (2, 260), (2, 252)])) rfl).trans ((congrArg (fun vv => z_R 197 (z_up m 251 25 (m 251 25 - 1), 61, [(2, 251), (2, 252), (0, x2)], [(0, vv), (2, 260), (2, 252)])) ((z_mul_eq (by omega) (by omega)).trans (by omega))).trans (z_R_call hK rfl rfl rfl rfl rfl)))))))) (fun h1 => (z_R_run hK (n := 2) (g' := (m, 22, [(2, 251), (2, 252), (0, x2)], [(2, 260)])) rfl).trans ((z_R_run hK (n := 3) (g' := (m, 27, [(2, 251), (2, 252), (0, x2)], [(2, 260), (0, x2), (2, 260)])) rfl).trans ((z_R_run hK (n := 3) (g' := (m, 31, [(2, 251), (2, 252), (0, x2)], [(0, z_add x2 37), (2, 260), (0, x2), (2, 260)])) rfl).trans ((congrArg (fun vv => z_R 197 (m, 31, [(2, 251), (2, 252), (0, x2)], [(0, vv), (2, 260), (0, x2), (2, 260)])) (z_add_eq (by omega) (by omega))).trans (z_R_ixT hK (n := 444) (g' := (m, 32, [(2, 251), (2, 252), (0, x2)], [(0, m 260 (x2 + 37).toNat), (0, x2), (2, 260)])) rfl rfl rfl  (show 0 ≤ x2 + 37 ∧ x2 + 37 < 444 by omega) (z_R_ixT hK (n := 444) (g' := (z_up m 260 (x2).toNat (m 260 (x2 + 37).toNat), 33, [(2, 251), (2, 252), (0, x2)], [])) rfl rfl rfl (show 0 ≤ x2 ∧ x2 < 444 by omega) ((z_R_run hK (n := 1) (g' := (z_up m 260 (x2).toNat (m 260 (x2 + 37).toNat), 36, [(2, 251), (2, 252), (0, z_add x2 1)], [])) rfl).trans ((congrArg (fun vv => z_R 197 (z_up m 260 (x2).toNat (m 260 (x2 + 37).toNat), 36, [(2, 251), (2, 252), (0, vv)], [])) (z_add_eq (by omega) (by omega))).trans ((z_R_run hK (n := 1) (g' := (z_up m 260 (x2).toNat (m 260 (x2 + 37).toNat), 11, [(2, 251), (2, 252), (0, x2 + 1)], [])) rfl).trans (rfl)))))))))))
theorem t_rem_64  (m : z_M) (v2 : z_V) (h_z : 0 ≤ m 251 25 ∧ m 251 25 ≤ 12) : z_R 197 (m, 64, [(2, 251), (2, 252), v2], []) = some (z_up m 251 25 (m 251 25 + 1), none) :=
  have hK : kt_at 197 = kt_197 := rfl
  (z_R_run hK (n := 5) (g' := (m, 71, [(2, 251), (2, 252), v2], [(0, z_add (m 251 25) 1), (2, 251)])) rfl).trans ((congrArg (fun vv => z_R 197 (m, 71, [(2, 251), (2, 252), v2], [(0, vv), (2, 251)])) (z_add_eq (by omega) (by omega))).trans ((z_R_run hK (n := 1) (g' := (z_up m 251 25 (m 251 25 + 1), 74, [(2, 251), (2, 252), v2], [])) rfl).trans (z_R_ret hK rfl rfl rfl)))
theorem t_rema_0  (m : z_M) (h_z : 0 ≤ m 251 25 ∧ m 251 25 ≤ 12) : z_R 197 (m, 0, [(2, 251), (2, 261), (9, 0)], []) = if m 251 25 = 12 then z_R 197 (m, 11, [(2, 251), (2, 261), (0, 0)], []) else (z_R 198 (m, 0, [(2, 261), (2, 260), (0, 37 * m 251 25), (9, 0)], [])).bind fun qq => z_R 197 (qq.1, 64, [(2, 251), (2, 261), (9, 0)], qq.2.toList ++ []) :=
  have hK : kt_at 197 = kt_197 := rfl
  (z_R_run hK (n := 3) (g' := (m, 6, [(2, 251), (2, 261), (9, 0)], [(0, 12), (0, m 251 25)])) rfl).trans (z_R_ifnd hK (c := m 251 25 = 12) (p1 := 49) (p2 := 9) rfl rfl rfl (fun h1 => (z_R_run hK (n := 3) (g' := (m, 54, [(2, 251), (2, 261), (9, 0)], [(2, 260), (2, 261)])) rfl).trans ((z_R_run hK (n := 4) (g' := (m, 61, [(2, 251), (2, 261), (9, 0)], [(0, z_mul 37 (m 251 25)), (2, 260), (2, 261)])) rfl).trans ((congrArg (fun vv => z_R 197 (m, 61, [(2, 251), (2, 261), (9, 0)], [(0, vv), (2, 260), (2, 261)])) ((z_mul_eq (by omega) (by omega)).trans (by omega))).trans (z_R_call hK rfl rfl rfl rfl rfl)))) (fun h1 => (z_R_run hK (n := 2) (g' := (m, 11, [(2, 251), (2, 261), (0, 0)], [])) rfl).trans (rfl)))
theorem t_rema_11  (m : z_M) (x2 : Int) (h_x2 : 0 ≤ x2 ∧ x2 ≤ 407) (h_z : 0 ≤ m 251 25 ∧ m 251 25 ≤ 12) : z_R 197 (m, 11, [(2, 251), (2, 261), (0, x2)], []) = if 407 ≤ x2 then (z_R 198 (z_up m 251 25 (m 251 25 - 1), 0, [(2, 261), (2, 260), (0, 37 * m 251 25 - 37), (9, 0)], [])).bind fun qq => z_R 197 (qq.1, 64, [(2, 251), (2, 261), (0, x2)], qq.2.toList ++ []) else z_R 197 (z_up m 260 (x2).toNat (m 260 (x2 + 37).toNat), 11, [(2, 251), (2, 261), (0, x2 + 1)], []) :=
  have hK : kt_at 197 = kt_197 := rfl
  (z_R_run hK (n := 2) (g' := (m, 15, [(2, 251), (2, 261), (0, x2)], [(0, 407), (0, x2)])) rfl).trans (z_R_ifd hK (c := 407 ≤ x2) (p1 := 39) (p2 := 18) rfl rfl rfl (fun h1 => (z_R_run hK (n := 5) (g' := (m, 46, [(2, 251), (2, 261), (0, x2)], [(0, z_sub (m 251 25) 1), (2, 251)])) rfl).trans ((congrArg (fun vv => z_R 197 (m, 46, [(2, 251), (2, 261), (0, x2)], [(0, vv), (2, 251)])) (z_sub_eq (by omega) (by omega))).trans ((z_R_run hK (n := 4) (g' := (z_up m 251 25 (m 251 25 - 1), 54, [(2, 251), (2, 261), (0, x2)], [(2, 260), (2, 261)])) rfl).trans ((z_R_run hK (n := 3) (g' := (z_up m 251 25 (m 251 25 - 1), 60, [(2, 251), (2, 261), (0, x2)], [(0, (z_up m 251 25 (m 251 25 - 1)) 251 25), (0, 37), (2, 260), (2, 261)])) rfl).trans ((congrArg (fun vv => z_R 197 (z_up m 251 25 (m 251 25 - 1), 60, [(2, 251), (2, 261), (0, x2)], [(0, vv), (0, 37), (2, 260), (2, 261)])) (zu_self)).trans ((z_R_run hK (n := 1) (g' := (z_up m 251 25 (m 251 25 - 1), 61, [(2, 251), (2, 261), (0, x2)], [(0, z_mul 37 (m 251 25 - 1)), (2, 260), (2, 261)])) rfl).trans ((congrArg (fun vv => z_R 197 (z_up m 251 25 (m 251 25 - 1), 61, [(2, 251), (2, 261), (0, x2)], [(0, vv), (2, 260), (2, 261)])) ((z_mul_eq (by omega) (by omega)).trans (by omega))).trans (z_R_call hK rfl rfl rfl rfl rfl)))))))) (fun h1 => (z_R_run hK (n := 2) (g' := (m, 22, [(2, 251), (2, 261), (0, x2)], [(2, 260)])) rfl).trans ((z_R_run hK (n := 3) (g' := (m, 27, [(2, 251), (2, 261), (0, x2)], [(2, 260), (0, x2), (2, 260)])) rfl).trans ((z_R_run hK (n := 3) (g' := (m, 31, [(2, 251), (2, 261), (0, x2)], [(0, z_add x2 37), (2, 260), (0, x2), (2, 260)])) rfl).trans ((congrArg (fun vv => z_R 197 (m, 31, [(2, 251), (2, 261), (0, x2)], [(0, vv), (2, 260), (0, x2), (2, 260)])) (z_add_eq (by omega) (by omega))).trans (z_R_ixT hK (n := 444) (g' := (m, 32, [(2, 251), (2, 261), (0, x2)], [(0, m 260 (x2 + 37).toNat), (0, x2), (2, 260)])) rfl rfl rfl  (show 0 ≤ x2 + 37 ∧ x2 + 37 < 444 by omega) (z_R_ixT hK (n := 444) (g' := (z_up m 260 (x2).toNat (m 260 (x2 + 37).toNat), 33, [(2, 251), (2, 261), (0, x2)], [])) rfl rfl rfl (show 0 ≤ x2 ∧ x2 < 444 by omega) ((z_R_run hK (n := 1) (g' := (z_up m 260 (x2).toNat (m 260 (x2 + 37).toNat), 36, [(2, 251), (2, 261), (0, z_add x2 1)], [])) rfl).trans ((congrArg (fun vv => z_R 197 (z_up m 260 (x2).toNat (m 260 (x2 + 37).toNat), 36, [(2, 251), (2, 261), (0, vv)], [])) (z_add_eq (by omega) (by omega))).trans ((z_R_run hK (n := 1) (g' := (z_up m 260 (x2).toNat (m 260 (x2 + 37).toNat), 11, [(2, 251), (2, 261), (0, x2 + 1)], [])) rfl).trans (rfl)))))))))))
theorem t_rema_64  (m : z_M) (v2 : z_V) (h_z : 0 ≤ m 251 25 ∧ m 251 25 ≤ 12) : z_R 197 (m, 64, [(2, 251), (2, 261), v2], []) = some (z_up m 251 25 (m 251 25 + 1), none) :=
  have hK : kt_at 197 = kt_197 := rfl
  (z_R_run hK (n := 5) (g' := (m, 71, [(2, 251), (2, 261), v2], [(0, z_add (m 251 25) 1), (2, 251)])) rfl).trans ((congrArg (fun vv => z_R 197 (m, 71, [(2, 251), (2, 261), v2], [(0, vv), (2, 251)])) (z_add_eq (by omega) (by omega))).trans ((z_R_run hK (n := 1) (g' := (z_up m 251 25 (m 251 25 + 1), 74, [(2, 251), (2, 261), v2], [])) rfl).trans (z_R_ret hK rfl rfl rfl)))
theorem t_rmv_0  (m : z_M) (p : Int) (k : Int) (h_n : 0 ≤ m 251 3 ∧ m 251 3 ≤ 5) : z_R 196 (m, 0, [(2, 251), (0, p), (0, k)], []) = if 0 ≤ p ∧ p < m 251 3 then if ¬ u_hs (m 251 1) (m 251 2) k = 0 then if m 252 (p + 18).toNat = k then some (m, some (0, (-2))) else some (m, some (0, 0)) else some (m, some (0, (-1))) else some (m, some (0, (-1))) :=
  have hK : kt_at 196 = kt_196 := rfl
  (z_R_run hK (n := 2) (g' := (m, 2, [(2, 251), (0, p), (0, k)], [(0, p), (2, 251)])) rfl).trans (z_R_cif hK rfl rfl rfl rfl rfl (t_ifperson _ _ rfl h_n) (fun h1 => (z_R_run hK (n := 3) (g' := (m, 10, [(2, 251), (0, p), (0, k)], [(0, k), (2, 251)])) rfl).trans (z_R_cif hK rfl rfl rfl rfl rfl (t_ifroom _ _ rfl rfl) (fun h2 => have h4 := u_hs_rng h2; (z_R_run hK (n := 3) (g' := (m, 24, [(2, 251), (0, p), (0, k)], [(2, 252)])) rfl).trans ((z_R_run hK (n := 3) (g' := (m, 28, [(2, 251), (0, p), (0, k)], [(0, z_add 18 p), (2, 252)])) rfl).trans ((congrArg (fun vv => z_R 196 (m, 28, [(2, 251), (0, p), (0, k)], [(0, vv), (2, 252)])) ((z_add_eq (by omega) (by omega)).trans (by omega))).trans (z_R_ixT hK (n := 37) (g' := (m, 29, [(2, 251), (0, p), (0, k)], [(0, m 252 (p + 18).toNat)])) rfl rfl rfl  (show 0 ≤ p + 18 ∧ p + 18 < 37 by omega) ((z_R_run hK (n := 1) (g' := (m, 30, [(2, 251), (0, p), (0, k)], [(0, k), (0, m 252 (p + 18).toNat)])) rfl).trans (z_R_ifnd hK (c := m 252 (p + 18).toNat = k) (p1 := 38) (p2 := 33) rfl rfl rfl (fun h3 => (z_R_run hK (n := 1) (g' := (m, 39, [(2, 251), (0, p), (0, k)], [(0, 0)])) rfl).trans (z_R_ret hK rfl rfl rfl)) (fun h3 => (z_R_run hK (n := 2) (g' := (m, 39, [(2, 251), (0, p), (0, k)], [(0, (-2))])) rfl).trans (z_R_ret hK rfl rfl rfl)))))))) (fun h2 => (z_R_run hK (n := 3) (g' := (m, 39, [(2, 251), (0, p), (0, k)], [(0, (-1))])) rfl).trans (z_R_ret hK rfl rfl rfl)))) (fun h1 => (z_R_run hK (n := 3) (g' := (m, 39, [(2, 251), (0, p), (0, k)], [(0, (-1))])) rfl).trans (z_R_ret hK rfl rfl rfl)))
theorem t_gmv_0  (m : z_M) (p : Int) (k : Int) (h_p : 0 ≤ p ∧ p ≤ 4) : z_R 199 (m, 0, [(2, 251), (0, p), (0, k), (9, 0)], []) = if m 252 (p + 18).toNat = (-1) then some (z_up m 252 (p + 18).toNat k, some (0, 9)) else some (z_up m 252 (p + 18).toNat k, some (0, m 252 (p + 18).toNat)) :=
  have hK : kt_at 199 = kt_199 := rfl
  (z_R_run hK (n := 2) (g' := (m, 4, [(2, 251), (0, p), (0, k), (9, 0)], [(2, 252)])) rfl).trans ((z_R_run hK (n := 3) (g' := (m, 8, [(2, 251), (0, p), (0, k), (9, 0)], [(0, z_add 18 p), (2, 252)])) rfl).trans ((congrArg (fun vv => z_R 199 (m, 8, [(2, 251), (0, p), (0, k), (9, 0)], [(0, vv), (2, 252)])) ((z_add_eq (by omega) (by omega)).trans (by omega))).trans (z_R_ixT hK (n := 37) (g' := (m, 9, [(2, 251), (0, p), (0, k), (9, 0)], [(0, m 252 (p + 18).toNat)])) rfl rfl rfl  (show 0 ≤ p + 18 ∧ p + 18 < 37 by omega) ((z_R_run hK (n := 3) (g' := (m, 14, [(2, 251), (0, p), (0, k), (0, m 252 (p + 18).toNat)], [(2, 252)])) rfl).trans ((z_R_run hK (n := 3) (g' := (m, 18, [(2, 251), (0, p), (0, k), (0, m 252 (p + 18).toNat)], [(0, z_add 18 p), (2, 252)])) rfl).trans ((congrArg (fun vv => z_R 199 (m, 18, [(2, 251), (0, p), (0, k), (0, m 252 (p + 18).toNat)], [(0, vv), (2, 252)])) ((z_add_eq (by omega) (by omega)).trans (by omega))).trans ((z_R_run hK (n := 1) (g' := (m, 19, [(2, 251), (0, p), (0, k), (0, m 252 (p + 18).toNat)], [(0, k), (0, p + 18), (2, 252)])) rfl).trans (z_R_ixT hK (n := 37) (g' := (z_up m 252 (p + 18).toNat k, 20, [(2, 251), (0, p), (0, k), (0, m 252 (p + 18).toNat)], [])) rfl rfl rfl (show 0 ≤ p + 18 ∧ p + 18 < 37 by omega) ((z_R_run hK (n := 1) (g' := (z_up m 252 (p + 18).toNat k, 21, [(2, 251), (0, p), (0, k), (0, m 252 (p + 18).toNat)], [(0, m 252 (p + 18).toNat)])) rfl).trans (z_R_cif hK rfl rfl rfl rfl rfl (t_iftold _ _) (fun h1 => z_R_ret hK rfl rfl rfl) (fun h1 => z_R_ret hK rfl rfl rfl)))))))))))
theorem t_mv_0  (m : z_M) (p : Int) (k : Int) : z_R 195 (m, 0, [(2, 251), (0, p), (0, k), (9, 0)], []) = (z_R 196 (z_up m 251 11 0, 0, [(2, 251), (0, p), (0, k)], [])).bind fun qq => z_R 195 (qq.1, 11, [(2, 251), (0, p), (0, k), (9, 0)], qq.2.toList ++ []) :=
  have hK : kt_at 195 = kt_195 := rfl
  (z_R_run hK (n := 6) (g' := (z_up m 251 11 0, 8, [(2, 251), (0, p), (0, k), (9, 0)], [(0, k), (0, p), (2, 251)])) rfl).trans (z_R_call hK rfl rfl rfl rfl rfl)
theorem t_mv_11  (m : z_M) (x1 : Int) (x2 : Int) (u : Int) : z_R 195 (m, 11, [(2, 251), (0, x1), (0, x2), (9, 0)], [(0, u)]) = if 0 ≤ u then (z_R 197 (m, 0, [(2, 251), (2, 252), (9, 0)], [])).bind fun qq => z_R 195 (qq.1, 26, [(2, 251), (0, x1), (0, x2), (0, u)], qq.2.toList ++ []) else some (m, some (0, u)) :=
  have hK : kt_at 195 = kt_195 := rfl
  (z_R_run hK (n := 2) (g' := (m, 13, [(2, 251), (0, x1), (0, x2), (0, u)], [(0, u)])) rfl).trans (z_R_ifd hK (c := 0 ≤ u) (p1 := 18) (p2 := 16) rfl rfl rfl (fun h1 => (z_R_run hK (n := 3) (g' := (m, 23, [(2, 251), (0, x1), (0, x2), (0, u)], [(2, 252), (2, 251)])) rfl).trans (z_R_call hK rfl rfl rfl rfl rfl)) (fun h1 => (z_R_run hK (n := 1) (g' := (m, 17, [(2, 251), (0, x1), (0, x2), (0, u)], [(0, u)])) rfl).trans (z_R_ret hK rfl rfl rfl)))
theorem t_mv_26  (m : z_M) (x1 : Int) (x2 : Int) (x3 : Int) : z_R 195 (m, 26, [(2, 251), (0, x1), (0, x2), (0, x3)], []) = (z_R 199 (m, 0, [(2, 251), (0, x1), (0, x2), (9, 0)], [])).bind fun qq => z_R 195 (qq.1, 32, [(2, 251), (0, x1), (0, x2), (0, x3)], qq.2.toList ++ []) :=
  have hK : kt_at 195 = kt_195 := rfl
  (z_R_run hK (n := 3) (g' := (m, 29, [(2, 251), (0, x1), (0, x2), (0, x3)], [(0, x2), (0, x1), (2, 251)])) rfl).trans (z_R_call hK rfl rfl rfl rfl rfl)
theorem t_mv_32  (m : z_M) (x1 : Int) (x2 : Int) (x3 : Int) (u : Int) : z_R 195 (m, 32, [(2, 251), (0, x1), (0, x2), (0, x3)], [(0, u)]) = some (m, some (0, u)) :=
  have hK : kt_at 195 = kt_195 := rfl
  z_R_ret hK rfl rfl rfl
theorem t_rst_0  (m : z_M) (k : Int) : z_R 202 (m, 0, [(2, 251), (0, k)], []) = if k = (-1) then if m 252 34 = k then some (m, some (0, (-2))) else some (m, some (0, 0)) else if ¬ u_hs (m 251 1) (m 251 2) k = 0 then if m 252 34 = k then some (m, some (0, (-2))) else some (m, some (0, 0)) else some (m, some (0, (-1))) :=
  have hK : kt_at 202 = kt_202 := rfl
  (z_R_run hK (n := 2) (g' := (m, 2, [(2, 251), (0, k)], [(0, (-1)), (0, k)])) rfl).trans (z_R_ifd hK (c := k = (-1)) (p1 := 17) (p2 := 5) rfl rfl rfl (fun h1 => (z_R_run hK (n := 2) (g' := (m, 21, [(2, 251), (0, k)], [(2, 252)])) rfl).trans ((z_R_run hK (n := 3) (g' := (m, 25, [(2, 251), (0, k)], [(0, k), (0, m 252 34)])) rfl).trans (z_R_ifnd hK (c := m 252 34 = k) (p1 := 33) (p2 := 28) rfl rfl rfl (fun h2 => (z_R_run hK (n := 1) (g' := (m, 34, [(2, 251), (0, k)], [(0, 0)])) rfl).trans (z_R_ret hK rfl rfl rfl)) (fun h2 => (z_R_run hK (n := 2) (g' := (m, 34, [(2, 251), (0, k)], [(0, (-2))])) rfl).trans (z_R_ret hK rfl rfl rfl))))) (fun h1 => (z_R_run hK (n := 2) (g' := (m, 7, [(2, 251), (0, k)], [(0, k), (2, 251)])) rfl).trans (z_R_cif hK rfl rfl rfl rfl rfl (t_ifroom _ _ rfl rfl) (fun h3 => have h5 := u_hs_rng h3; (z_R_run hK (n := 3) (g' := (m, 21, [(2, 251), (0, k)], [(2, 252)])) rfl).trans ((z_R_run hK (n := 3) (g' := (m, 25, [(2, 251), (0, k)], [(0, k), (0, m 252 34)])) rfl).trans (z_R_ifnd hK (c := m 252 34 = k) (p1 := 33) (p2 := 28) rfl rfl rfl (fun h4 => (z_R_run hK (n := 1) (g' := (m, 34, [(2, 251), (0, k)], [(0, 0)])) rfl).trans (z_R_ret hK rfl rfl rfl)) (fun h4 => (z_R_run hK (n := 2) (g' := (m, 34, [(2, 251), (0, k)], [(0, (-2))])) rfl).trans (z_R_ret hK rfl rfl rfl))))) (fun h3 => (z_R_run hK (n := 3) (g' := (m, 34, [(2, 251), (0, k)], [(0, (-1))])) rfl).trans (z_R_ret hK rfl rfl rfl)))))
theorem t_gst_0  (m : z_M) (k : Int) : z_R 203 (m, 0, [(2, 251), (0, k), (9, 0)], []) = if m 252 34 = (-1) then some (z_up m 252 34 k, some (0, 9)) else some (z_up m 252 34 k, some (0, m 252 34)) :=
  have hK : kt_at 203 = kt_203 := rfl
  (z_R_run hK (n := 2) (g' := (m, 4, [(2, 251), (0, k), (9, 0)], [(2, 252)])) rfl).trans ((z_R_run hK (n := 5) (g' := (m, 12, [(2, 251), (0, k), (0, m 252 34)], [(2, 252)])) rfl).trans ((z_R_run hK (n := 4) (g' := (z_up m 252 34 k, 17, [(2, 251), (0, k), (0, m 252 34)], [(0, m 252 34)])) rfl).trans (z_R_cif hK rfl rfl rfl rfl rfl (t_iftold _ _) (fun h1 => z_R_ret hK rfl rfl rfl) (fun h1 => z_R_ret hK rfl rfl rfl))))
theorem t_stv_0  (m : z_M) (k : Int) : z_R 201 (m, 0, [(2, 251), (0, k), (9, 0)], []) = (z_R 202 (z_up m 251 11 0, 0, [(2, 251), (0, k)], [])).bind fun qq => z_R 201 (qq.1, 10, [(2, 251), (0, k), (9, 0)], qq.2.toList ++ []) :=
  have hK : kt_at 201 = kt_201 := rfl
  (z_R_run hK (n := 5) (g' := (z_up m 251 11 0, 7, [(2, 251), (0, k), (9, 0)], [(0, k), (2, 251)])) rfl).trans (z_R_call hK rfl rfl rfl rfl rfl)
theorem t_stv_10  (m : z_M) (x1 : Int) (u : Int) : z_R 201 (m, 10, [(2, 251), (0, x1), (9, 0)], [(0, u)]) = if 0 ≤ u then (z_R 197 (m, 0, [(2, 251), (2, 252), (9, 0)], [])).bind fun qq => z_R 201 (qq.1, 25, [(2, 251), (0, x1), (0, u)], qq.2.toList ++ []) else some (m, some (0, u)) :=
  have hK : kt_at 201 = kt_201 := rfl
  (z_R_run hK (n := 2) (g' := (m, 12, [(2, 251), (0, x1), (0, u)], [(0, u)])) rfl).trans (z_R_ifd hK (c := 0 ≤ u) (p1 := 17) (p2 := 15) rfl rfl rfl (fun h1 => (z_R_run hK (n := 3) (g' := (m, 22, [(2, 251), (0, x1), (0, u)], [(2, 252), (2, 251)])) rfl).trans (z_R_call hK rfl rfl rfl rfl rfl)) (fun h1 => (z_R_run hK (n := 1) (g' := (m, 16, [(2, 251), (0, x1), (0, u)], [(0, u)])) rfl).trans (z_R_ret hK rfl rfl rfl)))
theorem t_stv_25  (m : z_M) (x1 : Int) (x2 : Int) : z_R 201 (m, 25, [(2, 251), (0, x1), (0, x2)], []) = (z_R 203 (m, 0, [(2, 251), (0, x1), (9, 0)], [])).bind fun qq => z_R 201 (qq.1, 30, [(2, 251), (0, x1), (0, x2)], qq.2.toList ++ []) :=
  have hK : kt_at 201 = kt_201 := rfl
  (z_R_run hK (n := 2) (g' := (m, 27, [(2, 251), (0, x1), (0, x2)], [(0, x1), (2, 251)])) rfl).trans (z_R_call hK rfl rfl rfl rfl rfl)
theorem t_stv_30  (m : z_M) (x1 : Int) (x2 : Int) (u : Int) : z_R 201 (m, 30, [(2, 251), (0, x1), (0, x2)], [(0, u)]) = some (m, some (0, u)) :=
  have hK : kt_at 201 = kt_201 := rfl
  z_R_ret hK rfl rfl rfl
theorem t_hour_0  (m : z_M) : z_R 204 (m, 0, [(2, 251)], []) = (z_R 205 (m, 0, [(2, 251), (0, 1)], [])).bind fun qq => z_R 204 (qq.1, 5, [(2, 251)], qq.2.toList ++ []) :=
  have hK : kt_at 204 = kt_204 := rfl
  (z_R_run hK (n := 2) (g' := (m, 2, [(2, 251)], [(0, 1), (2, 251)])) rfl).trans (z_R_call hK rfl rfl rfl rfl rfl)
theorem t_hour_5  (m : z_M) (u : Int) : z_R 204 (m, 5, [(2, 251)], [(0, u)]) = some (m, some (0, u)) :=
  have hK : kt_at 204 = kt_204 := rfl
  z_R_ret hK rfl rfl rfl
theorem t_tell_0  (m : z_M) (u : Int) (h_r : 0 ≤ m 251 10 ∧ m 251 10 ≤ 15) : z_R 210 (m, 0, [(2, 251), (1, u), (9, 0)], []) = some (z_up (z_up m 255 (m 251 10).toNat u) 251 10 (m 251 10 + 1), none) :=
  have hK : kt_at 210 = kt_210 := rfl
  (z_R_run hK (n := 2) (g' := (m, 4, [(2, 251), (1, u), (9, 0)], [(2, 255)])) rfl).trans ((z_R_run hK (n := 3) (g' := (m, 9, [(2, 251), (1, u), (9, 0)], [(1, u), (0, m 251 10), (2, 255)])) rfl).trans (z_R_ixT hK (n := 16) (g' := (z_up m 255 (m 251 10).toNat u, 10, [(2, 251), (1, u), (9, 0)], [])) rfl rfl rfl (show 0 ≤ m 251 10 ∧ m 251 10 < 16 by omega) ((z_R_run hK (n := 3) (g' := (z_up m 255 (m 251 10).toNat u, 15, [(2, 251), (1, u), (9, 0)], [(0, (z_up m 255 (m 251 10).toNat u) 251 10), (2, 251)])) rfl).trans ((congrArg (fun vv => z_R 210 (z_up m 255 (m 251 10).toNat u, 15, [(2, 251), (1, u), (9, 0)], [(0, vv), (2, 251)])) (zu_p (by decide))).trans ((z_R_run hK (n := 2) (g' := (z_up m 255 (m 251 10).toNat u, 17, [(2, 251), (1, u), (9, 0)], [(0, z_add (m 251 10) 1), (2, 251)])) rfl).trans ((congrArg (fun vv => z_R 210 (z_up m 255 (m 251 10).toNat u, 17, [(2, 251), (1, u), (9, 0)], [(0, vv), (2, 251)])) (z_add_eq (by omega) (by omega))).trans ((z_R_run hK (n := 1) (g' := (z_up (z_up m 255 (m 251 10).toNat u) 251 10 (m 251 10 + 1), 20, [(2, 251), (1, u), (9, 0)], [])) rfl).trans (z_R_ret hK rfl rfl rfl))))))))
theorem t_hours_0  (m : z_M) (n : Int) : z_R 205 (m, 0, [(2, 251), (0, n)], []) = if 0 ≤ n ∧ n ≤ 60 then if n ≤ 0 then (z_R 207 (z_up (z_up (z_up (z_up (z_up m 251 11 0) 251 32 0) 251 33 0) 251 34 0) 251 35 0, 0, [(2, 251), (2, 252), (0, n), (9, 0)], [])).bind fun qq => z_R 205 (qq.1, 42, [(2, 251), (0, n)], qq.2.toList ++ []) else (z_R 197 (z_up m 251 11 0, 0, [(2, 251), (2, 252), (9, 0)], [])).bind fun qq => z_R 205 (qq.1, 29, [(2, 251), (0, n)], qq.2.toList ++ []) else some (z_up m 251 11 0, some (0, (-1))) :=
  have hK : kt_at 205 = kt_205 := rfl
  (z_R_run hK (n := 6) (g' := (z_up m 251 11 0, 9, [(2, 251), (0, n)], [(0, 60), (0, 0), (0, n)])) rfl).trans (z_R_cif hK rfl rfl rfl rfl rfl (t_ifin _ _ _ _) (fun h1 => (z_R_run hK (n := 2) (g' := (z_up m 251 11 0, 18, [(2, 251), (0, n)], [(0, n)])) rfl).trans (z_R_ifd hK (c := n ≤ 0) (p1 := 29) (p2 := 21) rfl rfl rfl (fun h2 => (z_R_run hK (n := 1) (g' := (z_up m 251 11 0, 30, [(2, 251), (0, n)], [(2, 251)])) rfl).trans (z_R_cs hK rfl rfl rfl rfl rfl (t_bh_0 _) ((z_R_run hK (n := 3) (g' := (z_up (z_up (z_up (z_up (z_up m 251 11 0) 251 32 0) 251 33 0) 251 34 0) 251 35 0, 38, [(2, 251), (0, n)], [(2, 252), (2, 251)])) rfl).trans ((z_R_run hK (n := 1) (g' := (z_up (z_up (z_up (z_up (z_up m 251 11 0) 251 32 0) 251 33 0) 251 34 0) 251 35 0, 39, [(2, 251), (0, n)], [(0, n), (2, 252), (2, 251)])) rfl).trans (z_R_call hK rfl rfl rfl rfl rfl))))) (fun h2 => (z_R_run hK (n := 3) (g' := (z_up m 251 11 0, 26, [(2, 251), (0, n)], [(2, 252), (2, 251)])) rfl).trans (z_R_call hK rfl rfl rfl rfl rfl)))) (fun h1 => (z_R_run hK (n := 2) (g' := (z_up m 251 11 0, 16, [(2, 251), (0, n)], [(0, (-1))])) rfl).trans (z_R_ret hK rfl rfl rfl)))
theorem t_hours_29  (m : z_M) (x1 : Int) : z_R 205 (m, 29, [(2, 251), (0, x1)], []) = (z_R 207 (z_up (z_up (z_up (z_up m 251 32 0) 251 33 0) 251 34 0) 251 35 0, 0, [(2, 251), (2, 252), (0, x1), (9, 0)], [])).bind fun qq => z_R 205 (qq.1, 42, [(2, 251), (0, x1)], qq.2.toList ++ []) :=
  have hK : kt_at 205 = kt_205 := rfl
  (z_R_run hK (n := 1) (g' := (m, 30, [(2, 251), (0, x1)], [(2, 251)])) rfl).trans (z_R_cs hK rfl rfl rfl rfl rfl (t_bh_0 _) ((z_R_run hK (n := 3) (g' := (z_up (z_up (z_up (z_up m 251 32 0) 251 33 0) 251 34 0) 251 35 0, 38, [(2, 251), (0, x1)], [(2, 252), (2, 251)])) rfl).trans ((z_R_run hK (n := 1) (g' := (z_up (z_up (z_up (z_up m 251 32 0) 251 33 0) 251 34 0) 251 35 0, 39, [(2, 251), (0, x1)], [(0, x1), (2, 252), (2, 251)])) rfl).trans (z_R_call hK rfl rfl rfl rfl rfl))))
theorem t_hours_42  (m : z_M) (x1 : Int) (h_x1 : 0 ≤ x1 ∧ x1 ≤ 60) : z_R 205 (m, 42, [(2, 251), (0, x1)], []) = (z_R 210 (z_up m 251 10 0, 0, [(2, 251), (1, z_i2l (m 251 33)), (9, 0)], [])).bind fun qq => z_R 205 (qq.1, 56, [(2, 251), (0, x1)], qq.2.toList ++ []) :=
  have hK : kt_at 205 = kt_205 := rfl
  (z_R_run hK (n := 6) (g' := (z_up m 251 10 0, 52, [(2, 251), (0, x1)], [(0, (z_up m 251 10 0) 251 33), (2, 251)])) rfl).trans ((congrArg (fun vv => z_R 205 (z_up m 251 10 0, 52, [(2, 251), (0, x1)], [(0, vv), (2, 251)])) (zu_k (by decide))).trans ((z_R_run hK (n := 1) (g' := (z_up m 251 10 0, 53, [(2, 251), (0, x1)], [(1, z_i2l (m 251 33)), (2, 251)])) rfl).trans (z_R_call hK rfl rfl rfl rfl rfl)))
theorem t_hours_56  (m : z_M) (x1 : Int) : z_R 205 (m, 56, [(2, 251), (0, x1)], []) = (z_R 210 (m, 0, [(2, 251), (1, z_i2l (m 251 34)), (9, 0)], [])).bind fun qq => z_R 205 (qq.1, 65, [(2, 251), (0, x1)], qq.2.toList ++ []) :=
  have hK : kt_at 205 = kt_205 := rfl
  (z_R_run hK (n := 4) (g' := (m, 62, [(2, 251), (0, x1)], [(1, z_i2l (m 251 34)), (2, 251)])) rfl).trans (z_R_call hK rfl rfl rfl rfl rfl)
theorem t_hours_65  (m : z_M) (x1 : Int) : z_R 205 (m, 65, [(2, 251), (0, x1)], []) = (z_R 210 (m, 0, [(2, 251), (1, z_i2l (m 252 33)), (9, 0)], [])).bind fun qq => z_R 205 (qq.1, 77, [(2, 251), (0, x1)], qq.2.toList ++ []) :=
  have hK : kt_at 205 = kt_205 := rfl
  (z_R_run hK (n := 3) (g' := (m, 70, [(2, 251), (0, x1)], [(2, 252), (2, 251)])) rfl).trans ((z_R_run hK (n := 3) (g' := (m, 74, [(2, 251), (0, x1)], [(1, z_i2l (m 252 33)), (2, 251)])) rfl).trans (z_R_call hK rfl rfl rfl rfl rfl))
theorem t_hours_77  (m : z_M) (x1 : Int) : z_R 205 (m, 77, [(2, 251), (0, x1)], []) = some (m, some (0, m 251 32)) :=
  have hK : kt_at 205 = kt_205 := rfl
  (z_R_run hK (n := 2) (g' := (m, 81, [(2, 251), (0, x1)], [(0, m 251 32)])) rfl).trans (z_R_ret hK rfl rfl rfl)
theorem t_pay_0  (m : z_M) (p : Int) (n : Int) (h_n : 0 ≤ m 251 3 ∧ m 251 3 ≤ 5) : z_R 211 (m, 0, [(2, 251), (0, p), (0, n)], []) = if 0 ≤ p ∧ p < m 251 3 then if 1 ≤ n ∧ n ≤ 9999 then if n ≤ m 252 (p + 23).toNat then (z_R 197 (z_up m 251 11 0, 0, [(2, 251), (2, 252), (9, 0)], [])).bind fun qq => z_R 211 (qq.1, 47, [(2, 251), (0, p), (0, n)], qq.2.toList ++ []) else some (z_up m 251 11 0, some (0, (-1))) else some (z_up m 251 11 0, some (0, (-1))) else some (z_up m 251 11 0, some (0, (-1))) :=
  have hK : kt_at 211 = kt_211 := rfl
  (z_R_run hK (n := 5) (g' := (z_up m 251 11 0, 7, [(2, 251), (0, p), (0, n)], [(0, p), (2, 251)])) rfl).trans (z_R_cif hK rfl rfl rfl rfl rfl (t_ifperson _ _ (zu_k (by decide)) h_n) (fun h1 => (z_R_run hK (n := 4) (g' := (z_up m 251 11 0, 18, [(2, 251), (0, p), (0, n)], [(0, 9999), (0, 1), (0, n)])) rfl).trans (z_R_cif hK rfl rfl rfl rfl rfl (t_ifin _ _ _ _) (fun h2 => (z_R_run hK (n := 3) (g' := (z_up m 251 11 0, 28, [(2, 251), (0, p), (0, n)], [(2, 252)])) rfl).trans ((z_R_run hK (n := 3) (g' := (z_up m 251 11 0, 32, [(2, 251), (0, p), (0, n)], [(0, z_add 23 p), (2, 252)])) rfl).trans ((congrArg (fun vv => z_R 211 (z_up m 251 11 0, 32, [(2, 251), (0, p), (0, n)], [(0, vv), (2, 252)])) ((z_add_eq (by omega) (by omega)).trans (by omega))).trans (z_R_ixT hK (n := 37) (g' := (z_up m 251 11 0, 33, [(2, 251), (0, p), (0, n)], [(0, (z_up m 251 11 0) 252 (p + 23).toNat)])) rfl rfl rfl  (show 0 ≤ p + 23 ∧ p + 23 < 37 by omega) ((congrArg (fun vv => z_R 211 (z_up m 251 11 0, 33, [(2, 251), (0, p), (0, n)], [(0, vv)])) (zu_p (by decide))).trans ((z_R_run hK (n := 1) (g' := (z_up m 251 11 0, 34, [(2, 251), (0, p), (0, n)], [(0, n), (0, m 252 (p + 23).toNat)])) rfl).trans (z_R_ifd hK (c := n ≤ m 252 (p + 23).toNat) (p1 := 39) (p2 := 37) rfl rfl rfl (fun h3 => (z_R_run hK (n := 3) (g' := (z_up m 251 11 0, 44, [(2, 251), (0, p), (0, n)], [(2, 252), (2, 251)])) rfl).trans (z_R_call hK rfl rfl rfl rfl rfl)) (fun h3 => (z_R_run hK (n := 1) (g' := (z_up m 251 11 0, 38, [(2, 251), (0, p), (0, n)], [(0, (-1))])) rfl).trans (z_R_ret hK rfl rfl rfl))))))))) (fun h2 => (z_R_run hK (n := 2) (g' := (z_up m 251 11 0, 38, [(2, 251), (0, p), (0, n)], [(0, (-1))])) rfl).trans (z_R_ret hK rfl rfl rfl)))) (fun h1 => (z_R_run hK (n := 2) (g' := (z_up m 251 11 0, 38, [(2, 251), (0, p), (0, n)], [(0, (-1))])) rfl).trans (z_R_ret hK rfl rfl rfl)))
theorem t_pay_47  (m : z_M) (x1 : Int) (x2 : Int) : z_R 211 (m, 47, [(2, 251), (0, x1), (0, x2)], []) = if 0 ≤ z_add 23 x1 ∧ z_add 23 x1 < 37 then some (z_up m 252 (z_add 23 x1).toNat (z_sub (m 252 (z_add 23 x1).toNat) x2), some (0, z_sub (m 252 (z_add 23 x1).toNat) x2)) else none :=
  have hK : kt_at 211 = kt_211 := rfl
  (z_R_run hK (n := 2) (g' := (m, 51, [(2, 251), (0, x1), (0, x2)], [(2, 252)])) rfl).trans ((z_R_run hK (n := 4) (g' := (m, 56, [(2, 251), (0, x1), (0, x2)], [(0, z_add 23 x1), (2, 252), (0, z_add 23 x1), (2, 252)])) rfl).trans (z_R_ixD hK (n := 37) (g' := (m, 57, [(2, 251), (0, x1), (0, x2)], [(0, m 252 (z_add 23 x1).toNat), (0, z_add 23 x1), (2, 252)])) rfl rfl rfl  (fun h1 => (z_R_run hK (n := 2) (g' := (m, 59, [(2, 251), (0, x1), (0, x2)], [(0, z_sub (m 252 (z_add 23 x1).toNat) x2), (0, z_add 23 x1), (2, 252)])) rfl).trans (z_R_ixT hK (n := 37) (g' := (z_up m 252 (z_add 23 x1).toNat (z_sub (m 252 (z_add 23 x1).toNat) x2), 60, [(2, 251), (0, x1), (0, x2)], [])) rfl rfl rfl (show 0 ≤ z_add 23 x1 ∧ z_add 23 x1 < 37 by omega) ((z_R_run hK (n := 2) (g' := (z_up m 252 (z_add 23 x1).toNat (z_sub (m 252 (z_add 23 x1).toNat) x2), 64, [(2, 251), (0, x1), (0, x2)], [(2, 252)])) rfl).trans ((z_R_run hK (n := 3) (g' := (z_up m 252 (z_add 23 x1).toNat (z_sub (m 252 (z_add 23 x1).toNat) x2), 68, [(2, 251), (0, x1), (0, x2)], [(0, z_add 23 x1), (2, 252)])) rfl).trans (z_R_ixT hK (n := 37) (g' := (z_up m 252 (z_add 23 x1).toNat (z_sub (m 252 (z_add 23 x1).toNat) x2), 69, [(2, 251), (0, x1), (0, x2)], [(0, (z_up m 252 (z_add 23 x1).toNat (z_sub (m 252 (z_add 23 x1).toNat) x2)) 252 (z_add 23 x1).toNat)])) rfl rfl rfl  (show 0 ≤ z_add 23 x1 ∧ z_add 23 x1 < 37 by omega) ((congrArg (fun vv => z_R 211 (z_up m 252 (z_add 23 x1).toNat (z_sub (m 252 (z_add 23 x1).toNat) x2), 69, [(2, 251), (0, x1), (0, x2)], [(0, vv)])) (zu_self)).trans (z_R_ret hK rfl rfl rfl)))))))))
theorem t_undo_0  (m : z_M) (h_z : 0 ≤ m 251 25 ∧ m 251 25 ≤ 12) : z_R 216 (m, 0, [(2, 251), (9, 0)], []) = if m 251 25 = 0 then some (z_up m 251 11 0, some (0, (-1))) else z_R 216 (z_up (z_up m 251 11 0) 251 25 (m 251 25 - 1), 26, [(2, 251), (0, 0)], []) :=
  have hK : kt_at 216 = kt_216 := rfl
  (z_R_run hK (n := 5) (g' := (z_up m 251 11 0, 9, [(2, 251), (9, 0)], [(0, (z_up m 251 11 0) 251 25)])) rfl).trans ((congrArg (fun vv => z_R 216 (z_up m 251 11 0, 9, [(2, 251), (9, 0)], [(0, vv)])) (zu_k (by decide))).trans (z_R_ifnd hK (c := m 251 25 = 0) (p1 := 14) (p2 := 12) rfl rfl rfl (fun h1 => (z_R_run hK (n := 3) (g' := (z_up m 251 11 0, 19, [(2, 251), (9, 0)], [(0, (z_up m 251 11 0) 251 25), (2, 251)])) rfl).trans ((congrArg (fun vv => z_R 216 (z_up m 251 11 0, 19, [(2, 251), (9, 0)], [(0, vv), (2, 251)])) (zu_k (by decide))).trans ((z_R_run hK (n := 2) (g' := (z_up m 251 11 0, 21, [(2, 251), (9, 0)], [(0, z_sub (m 251 25) 1), (2, 251)])) rfl).trans ((congrArg (fun vv => z_R 216 (z_up m 251 11 0, 21, [(2, 251), (9, 0)], [(0, vv), (2, 251)])) (z_sub_eq (by omega) (by omega))).trans ((z_R_run hK (n := 3) (g' := (z_up (z_up m 251 11 0) 251 25 (m 251 25 - 1), 26, [(2, 251), (0, 0)], [])) rfl).trans (rfl)))))) (fun h1 => (z_R_run hK (n := 1) (g' := (z_up m 251 11 0, 13, [(2, 251), (9, 0)], [(0, (-1))])) rfl).trans (z_R_ret hK rfl rfl rfl))))
theorem t_undo_26  (m : z_M) (x1 : Int) (h_x1 : 0 ≤ x1 ∧ x1 ≤ 37) (h_z : 0 ≤ m 251 25 ∧ m 251 25 ≤ 12) : z_R 216 (m, 26, [(2, 251), (0, x1)], []) = if 37 ≤ x1 then some (m, some (0, m 251 25)) else if 0 ≤ 37 * m 251 25 + x1 ∧ 37 * m 251 25 + x1 < 444 then z_R 216 (z_up m 252 (x1).toNat (m 260 (37 * m 251 25 + x1).toNat), 26, [(2, 251), (0, x1 + 1)], []) else none :=
  have hK : kt_at 216 = kt_216 := rfl
  (z_R_run hK (n := 2) (g' := (m, 29, [(2, 251), (0, x1)], [(0, 37), (0, x1)])) rfl).trans (z_R_ifd hK (c := 37 ≤ x1) (p1 := 58) (p2 := 32) rfl rfl rfl (fun h1 => (z_R_run hK (n := 2) (g' := (m, 62, [(2, 251), (0, x1)], [(0, m 251 25)])) rfl).trans (z_R_ret hK rfl rfl rfl)) (fun h1 => (z_R_run hK (n := 2) (g' := (m, 36, [(2, 251), (0, x1)], [(2, 252)])) rfl).trans ((z_R_run hK (n := 3) (g' := (m, 41, [(2, 251), (0, x1)], [(2, 260), (0, x1), (2, 252)])) rfl).trans ((z_R_run hK (n := 4) (g' := (m, 48, [(2, 251), (0, x1)], [(0, z_mul 37 (m 251 25)), (2, 260), (0, x1), (2, 252)])) rfl).trans ((congrArg (fun vv => z_R 216 (m, 48, [(2, 251), (0, x1)], [(0, vv), (2, 260), (0, x1), (2, 252)])) ((z_mul_eq (by omega) (by omega)).trans (by omega))).trans ((z_R_run hK (n := 2) (g' := (m, 50, [(2, 251), (0, x1)], [(0, z_add (37 * m 251 25) x1), (2, 260), (0, x1), (2, 252)])) rfl).trans ((congrArg (fun vv => z_R 216 (m, 50, [(2, 251), (0, x1)], [(0, vv), (2, 260), (0, x1), (2, 252)])) (z_add_eq (by omega) (by omega))).trans (z_R_ixD hK (n := 444) (g' := (m, 51, [(2, 251), (0, x1)], [(0, m 260 (37 * m 251 25 + x1).toNat), (0, x1), (2, 252)])) rfl rfl rfl  (fun h2 => z_R_ixT hK (n := 37) (g' := (z_up m 252 (x1).toNat (m 260 (37 * m 251 25 + x1).toNat), 52, [(2, 251), (0, x1)], [])) rfl rfl rfl (show 0 ≤ x1 ∧ x1 < 37 by omega) ((z_R_run hK (n := 1) (g' := (z_up m 252 (x1).toNat (m 260 (37 * m 251 25 + x1).toNat), 55, [(2, 251), (0, z_add x1 1)], [])) rfl).trans ((congrArg (fun vv => z_R 216 (z_up m 252 (x1).toNat (m 260 (37 * m 251 25 + x1).toNat), 55, [(2, 251), (0, vv)], [])) (z_add_eq (by omega) (by omega))).trans ((z_R_run hK (n := 1) (g' := (z_up m 252 (x1).toNat (m 260 (37 * m 251 25 + x1).toNat), 26, [(2, 251), (0, x1 + 1)], [])) rfl).trans (rfl)))))))))))))
theorem t_set_0  (m : z_M) (a : Int) (v : Int) : z_R 192 (m, 0, [(2, 251), (0, a), (0, v), (9, 0)], []) = if 0 ≤ a ∧ a ≤ 2 then if 0 ≤ v ∧ v ≤ 9 then if a = 0 then some (z_up (z_up m 251 11 0) 251 5 v, some (0, m 251 5)) else if a = 1 then some (z_up (z_up m 251 11 0) 252 36 v, some (0, m 252 36)) else some (z_up (z_up m 251 11 0) 251 6 v, some (0, m 251 6)) else some (z_up m 251 11 0, some (0, (-1))) else some (z_up m 251 11 0, some (0, (-1))) :=
  have hK : kt_at 192 = kt_192 := rfl
  (z_R_run hK (n := 6) (g' := (z_up m 251 11 0, 8, [(2, 251), (0, a), (0, v), (9, 0)], [(0, 2), (0, 0), (0, a)])) rfl).trans (z_R_cif hK rfl rfl rfl rfl rfl (t_ifin _ _ _ _) (fun h1 => (z_R_run hK (n := 4) (g' := (z_up m 251 11 0, 18, [(2, 251), (0, a), (0, v), (9, 0)], [(0, 9), (0, 0), (0, v)])) rfl).trans (z_R_cif hK rfl rfl rfl rfl rfl (t_ifin _ _ _ _) (fun h2 => (z_R_run hK (n := 2) (g' := (z_up m 251 11 0, 27, [(2, 251), (0, a), (0, v), (9, 0)], [(0, a)])) rfl).trans (z_R_ifnd hK (c := a = 0) (p1 := 37) (p2 := 30) rfl rfl rfl (fun h3 => (z_R_run hK (n := 2) (g' := (z_up m 251 11 0, 39, [(2, 251), (0, a), (0, v), (9, 0)], [(0, 1), (0, a)])) rfl).trans (z_R_ifnd hK (c := a = 1) (p1 := 52) (p2 := 42) rfl rfl rfl (fun h4 => (z_R_run hK (n := 2) (g' := (z_up m 251 11 0, 56, [(2, 251), (0, a), (0, v), (9, 0)], [(0, (z_up m 251 11 0) 251 6)])) rfl).trans ((congrArg (fun vv => z_R 192 (z_up m 251 11 0, 56, [(2, 251), (0, a), (0, v), (9, 0)], [(0, vv)])) (zu_k (by decide))).trans ((z_R_run hK (n := 2) (g' := (z_up m 251 11 0, 58, [(2, 251), (0, a), (0, v), (0, m 251 6)], [(0, a)])) rfl).trans (z_R_ifn0 hK (c := a = 0) (p1 := 66) (p2 := 61) rfl rfl rfl (show ¬ (a = 0) by omega) ((z_R_run hK (n := 2) (g' := (z_up m 251 11 0, 68, [(2, 251), (0, a), (0, v), (0, m 251 6)], [(0, 1), (0, a)])) rfl).trans (z_R_ifn0 hK (c := a = 1) (p1 := 79) (p2 := 71) rfl rfl rfl (show ¬ (a = 1) by omega) ((z_R_run hK (n := 2) (g' := (z_up m 251 11 0, 81, [(2, 251), (0, a), (0, v), (0, m 251 6)], [(0, 2), (0, a)])) rfl).trans (z_R_ifn1 hK (c := a = 2) (p1 := 89) (p2 := 84) rfl rfl rfl (show a = 2 by omega) ((z_R_run hK (n := 4) (g' := (z_up (z_up m 251 11 0) 251 6 v, 90, [(2, 251), (0, a), (0, v), (0, m 251 6)], [(0, m 251 6)])) rfl).trans (z_R_ret hK rfl rfl rfl)))))))))) (fun h4 => (z_R_run hK (n := 2) (g' := (z_up m 251 11 0, 46, [(2, 251), (0, a), (0, v), (9, 0)], [(2, 252)])) rfl).trans ((z_R_run hK (n := 2) (g' := (z_up m 251 11 0, 49, [(2, 251), (0, a), (0, v), (9, 0)], [(0, (z_up m 251 11 0) 252 36)])) rfl).trans ((congrArg (fun vv => z_R 192 (z_up m 251 11 0, 49, [(2, 251), (0, a), (0, v), (9, 0)], [(0, vv)])) (zu_p (by decide))).trans ((z_R_run hK (n := 3) (g' := (z_up m 251 11 0, 58, [(2, 251), (0, a), (0, v), (0, m 252 36)], [(0, a)])) rfl).trans (z_R_ifn0 hK (c := a = 0) (p1 := 66) (p2 := 61) rfl rfl rfl (show ¬ (a = 0) by omega) ((z_R_run hK (n := 2) (g' := (z_up m 251 11 0, 68, [(2, 251), (0, a), (0, v), (0, m 252 36)], [(0, 1), (0, a)])) rfl).trans (z_R_ifn1 hK (c := a = 1) (p1 := 79) (p2 := 71) rfl rfl rfl (show a = 1 by omega) ((z_R_run hK (n := 2) (g' := (z_up m 251 11 0, 75, [(2, 251), (0, a), (0, v), (0, m 252 36)], [(2, 252)])) rfl).trans ((z_R_run hK (n := 5) (g' := (z_up (z_up m 251 11 0) 252 36 v, 81, [(2, 251), (0, a), (0, v), (0, m 252 36)], [(0, 2), (0, a)])) rfl).trans (z_R_ifn0 hK (c := a = 2) (p1 := 89) (p2 := 84) rfl rfl rfl (show ¬ (a = 2) by omega) ((z_R_run hK (n := 1) (g' := (z_up (z_up m 251 11 0) 252 36 v, 90, [(2, 251), (0, a), (0, v), (0, m 252 36)], [(0, m 252 36)])) rfl).trans (z_R_ret hK rfl rfl rfl)))))))))))))) (fun h3 => (z_R_run hK (n := 2) (g' := (z_up m 251 11 0, 34, [(2, 251), (0, a), (0, v), (9, 0)], [(0, (z_up m 251 11 0) 251 5)])) rfl).trans ((congrArg (fun vv => z_R 192 (z_up m 251 11 0, 34, [(2, 251), (0, a), (0, v), (9, 0)], [(0, vv)])) (zu_k (by decide))).trans ((z_R_run hK (n := 3) (g' := (z_up m 251 11 0, 58, [(2, 251), (0, a), (0, v), (0, m 251 5)], [(0, a)])) rfl).trans (z_R_ifn1 hK (c := a = 0) (p1 := 66) (p2 := 61) rfl rfl rfl (show a = 0 by omega) ((z_R_run hK (n := 5) (g' := (z_up (z_up m 251 11 0) 251 5 v, 68, [(2, 251), (0, a), (0, v), (0, m 251 5)], [(0, 1), (0, a)])) rfl).trans (z_R_ifn0 hK (c := a = 1) (p1 := 79) (p2 := 71) rfl rfl rfl (show ¬ (a = 1) by omega) ((z_R_run hK (n := 2) (g' := (z_up (z_up m 251 11 0) 251 5 v, 81, [(2, 251), (0, a), (0, v), (0, m 251 5)], [(0, 2), (0, a)])) rfl).trans (z_R_ifn0 hK (c := a = 2) (p1 := 89) (p2 := 84) rfl rfl rfl (show ¬ (a = 2) by omega) ((z_R_run hK (n := 1) (g' := (z_up (z_up m 251 11 0) 251 5 v, 90, [(2, 251), (0, a), (0, v), (0, m 251 5)], [(0, m 251 5)])) rfl).trans (z_R_ret hK rfl rfl rfl)))))))))))) (fun h2 => (z_R_run hK (n := 2) (g' := (z_up m 251 11 0, 25, [(2, 251), (0, a), (0, v), (9, 0)], [(0, (-1))])) rfl).trans (z_R_ret hK rfl rfl rfl)))) (fun h1 => (z_R_run hK (n := 2) (g' := (z_up m 251 11 0, 25, [(2, 251), (0, a), (0, v), (9, 0)], [(0, (-1))])) rfl).trans (z_R_ret hK rfl rfl rfl)))
theorem t_doing_0  (m : z_M) (p : Int) (k : Int) (v : Int) (h_n : 0 ≤ m 251 3 ∧ m 251 3 ≤ 5) : z_R 193 (m, 0, [(2, 251), (0, p), (0, k), (0, v), (9, 0)], []) = if 0 ≤ p ∧ p < m 251 3 then if 0 ≤ k ∧ k ≤ 5 then if 0 ≤ v ∧ v ≤ 9 then some (z_up (z_up m 251 11 0) 253 (6 * p + k).toNat v, some (0, m 253 (6 * p + k).toNat)) else some (z_up m 251 11 0, some (0, (-1))) else some (z_up m 251 11 0, some (0, (-1))) else some (z_up m 251 11 0, some (0, (-1))) :=
  have hK : kt_at 193 = kt_193 := rfl
  (z_R_run hK (n := 5) (g' := (z_up m 251 11 0, 7, [(2, 251), (0, p), (0, k), (0, v), (9, 0)], [(0, p), (2, 251)])) rfl).trans (z_R_cif hK rfl rfl rfl rfl rfl (t_ifperson _ _ (zu_k (by decide)) h_n) (fun h1 => (z_R_run hK (n := 4) (g' := (z_up m 251 11 0, 16, [(2, 251), (0, p), (0, k), (0, v), (9, 0)], [(0, 5), (0, 0), (0, k)])) rfl).trans (z_R_cif hK rfl rfl rfl rfl rfl (t_ifin _ _ _ _) (fun h2 => (z_R_run hK (n := 4) (g' := (z_up m 251 11 0, 26, [(2, 251), (0, p), (0, k), (0, v), (9, 0)], [(0, 9), (0, 0), (0, v)])) rfl).trans (z_R_cif hK rfl rfl rfl rfl rfl (t_ifin _ _ _ _) (fun h3 => (z_R_run hK (n := 3) (g' := (z_up m 251 11 0, 38, [(2, 251), (0, p), (0, k), (0, v), (9, 0)], [(2, 253)])) rfl).trans ((z_R_run hK (n := 3) (g' := (z_up m 251 11 0, 42, [(2, 251), (0, p), (0, k), (0, v), (9, 0)], [(0, z_mul 6 p), (2, 253)])) rfl).trans ((congrArg (fun vv => z_R 193 (z_up m 251 11 0, 42, [(2, 251), (0, p), (0, k), (0, v), (9, 0)], [(0, vv), (2, 253)])) (z_mul_eq (by omega) (by omega))).trans ((z_R_run hK (n := 2) (g' := (z_up m 251 11 0, 44, [(2, 251), (0, p), (0, k), (0, v), (9, 0)], [(0, z_add (6 * p) k), (2, 253)])) rfl).trans ((congrArg (fun vv => z_R 193 (z_up m 251 11 0, 44, [(2, 251), (0, p), (0, k), (0, v), (9, 0)], [(0, vv), (2, 253)])) (z_add_eq (by omega) (by omega))).trans (z_R_ixT hK (n := 30) (g' := (z_up m 251 11 0, 45, [(2, 251), (0, p), (0, k), (0, v), (9, 0)], [(0, (z_up m 251 11 0) 253 (6 * p + k).toNat)])) rfl rfl rfl  (show 0 ≤ 6 * p + k ∧ 6 * p + k < 30 by omega) ((congrArg (fun vv => z_R 193 (z_up m 251 11 0, 45, [(2, 251), (0, p), (0, k), (0, v), (9, 0)], [(0, vv)])) (zu_p (by decide))).trans ((z_R_run hK (n := 3) (g' := (z_up m 251 11 0, 51, [(2, 251), (0, p), (0, k), (0, v), (0, m 253 (6 * p + k).toNat)], [(2, 253)])) rfl).trans ((z_R_run hK (n := 3) (g' := (z_up m 251 11 0, 55, [(2, 251), (0, p), (0, k), (0, v), (0, m 253 (6 * p + k).toNat)], [(0, z_mul 6 p), (2, 253)])) rfl).trans ((congrArg (fun vv => z_R 193 (z_up m 251 11 0, 55, [(2, 251), (0, p), (0, k), (0, v), (0, m 253 (6 * p + k).toNat)], [(0, vv), (2, 253)])) (z_mul_eq (by omega) (by omega))).trans ((z_R_run hK (n := 2) (g' := (z_up m 251 11 0, 57, [(2, 251), (0, p), (0, k), (0, v), (0, m 253 (6 * p + k).toNat)], [(0, z_add (6 * p) k), (2, 253)])) rfl).trans ((congrArg (fun vv => z_R 193 (z_up m 251 11 0, 57, [(2, 251), (0, p), (0, k), (0, v), (0, m 253 (6 * p + k).toNat)], [(0, vv), (2, 253)])) (z_add_eq (by omega) (by omega))).trans ((z_R_run hK (n := 1) (g' := (z_up m 251 11 0, 58, [(2, 251), (0, p), (0, k), (0, v), (0, m 253 (6 * p + k).toNat)], [(0, v), (0, 6 * p + k), (2, 253)])) rfl).trans (z_R_ixT hK (n := 30) (g' := (z_up (z_up m 251 11 0) 253 (6 * p + k).toNat v, 59, [(2, 251), (0, p), (0, k), (0, v), (0, m 253 (6 * p + k).toNat)], [])) rfl rfl rfl (show 0 ≤ 6 * p + k ∧ 6 * p + k < 30 by omega) ((z_R_run hK (n := 1) (g' := (z_up (z_up m 251 11 0) 253 (6 * p + k).toNat v, 61, [(2, 251), (0, p), (0, k), (0, v), (0, m 253 (6 * p + k).toNat)], [(0, m 253 (6 * p + k).toNat)])) rfl).trans (z_R_ret hK rfl rfl rfl)))))))))))))))) (fun h3 => (z_R_run hK (n := 2) (g' := (z_up m 251 11 0, 33, [(2, 251), (0, p), (0, k), (0, v), (9, 0)], [(0, (-1))])) rfl).trans (z_R_ret hK rfl rfl rfl)))) (fun h2 => (z_R_run hK (n := 2) (g' := (z_up m 251 11 0, 33, [(2, 251), (0, p), (0, k), (0, v), (9, 0)], [(0, (-1))])) rfl).trans (z_R_ret hK rfl rfl rfl)))) (fun h1 => (z_R_run hK (n := 2) (g' := (z_up m 251 11 0, 33, [(2, 251), (0, p), (0, k), (0, v), (9, 0)], [(0, (-1))])) rfl).trans (z_R_ret hK rfl rfl rfl)))
end
section
/-! WHAT WAS: becoming, remembering, going back -/
theorem z_st_far {s t : Nat} (hs : z_st s) (ht : z_st t) (h : ¬ s = t) : s + 5 < t ∨ t + 5 < s := by
  have e : ∀ s ∈ z_stL, ∀ t ∈ z_stL, s = t ∨ (s + 5 < t ∨ t + 5 < s) := by decide
  exact (e s hs.1 t ht.1).resolve_left h
theorem c_become {s t : Nat} (hs : z_st s) (ht : z_st t) (hd : ¬ s = t) (m : z_M) : ∃ m', z_R 61 (m, 0, [(2, ((t : Nat) : Int)), (2, ((s : Nat) : Int))], []) = some (m', none) ∧ cR m' t = cR m s ∧ z_same (c_LB t) m m' := by
  have hf := z_st_far hs ht hd
  have ht2 := ht.2
  rw [s_bec_0 hs ht hf]
  refine ⟨_, rfl, ?_, ((((((((z_same.rf.cp (fun k h1 h2 => (by (try unfold c_LB); first | exact z_on_h rfl (by omega) (by omega) | exact z_on_t (z_on_h rfl (by omega) (by omega)) | exact z_on_t (z_on_t (z_on_h rfl (by omega) (by omega))) | exact z_on_t (z_on_t (z_on_t (z_on_h rfl (by omega) (by omega)))) | exact z_on_t (z_on_t (z_on_t (z_on_t (z_on_h rfl (by omega) (by omega))))) | exact z_on_t (z_on_t (z_on_t (z_on_t (z_on_t (z_on_h rfl (by omega) (by omega)))))) | exact z_on_t (z_on_t (z_on_t (z_on_t (z_on_t (z_on_t (z_on_h rfl (by omega) (by omega))))))) | exact z_on_t (z_on_t (z_on_t (z_on_t (z_on_t (z_on_t (z_on_t (z_on_h rfl (by omega) (by omega)))))))) | exact z_on_t (z_on_t (z_on_t (z_on_t (z_on_t (z_on_t (z_on_t (z_on_t (z_on_h rfl (by omega) (by omega))))))))) | exact z_on_t (z_on_t (z_on_t (z_on_t (z_on_t (z_on_t (z_on_t (z_on_t (z_on_t (z_on_h rfl (by omega) (by omega)))))))))) | exact z_on_t (z_on_t (z_on_t (z_on_t (z_on_t (z_on_t (z_on_t (z_on_t (z_on_t (z_on_t (z_on_h rfl (by omega) (by omega))))))))))) | exact z_on_t (z_on_t (z_on_t (z_on_t (z_on_t (z_on_t (z_on_t (z_on_t (z_on_t (z_on_t (z_on_t (z_on_h rfl (by omega) (by omega)))))))))))) | exact z_on_t (z_on_t (z_on_t (z_on_t (z_on_t (z_on_t (z_on_t (z_on_t (z_on_t (z_on_t (z_on_t (z_on_t (z_on_h rfl (by omega) (by omega)))))))))))))))).cp (fun k h1 h2 => (by (try unfold c_LB); first | exact z_on_h rfl (by omega) (by omega) | exact z_on_t (z_on_h rfl (by omega) (by omega)) | exact z_on_t (z_on_t (z_on_h rfl (by omega) (by omega))) | exact z_on_t (z_on_t (z_on_t (z_on_h rfl (by omega) (by omega)))) | exact z_on_t (z_on_t (z_on_t (z_on_t (z_on_h rfl (by omega) (by omega))))) | exact z_on_t (z_on_t (z_on_t (z_on_t (z_on_t (z_on_h rfl (by omega) (by omega)))))) | exact z_on_t (z_on_t (z_on_t (z_on_t (z_on_t (z_on_t (z_on_h rfl (by omega) (by omega))))))) | exact z_on_t (z_on_t (z_on_t (z_on_t (z_on_t (z_on_t (z_on_t (z_on_h rfl (by omega) (by omega)))))))) | exact z_on_t (z_on_t (z_on_t (z_on_t (z_on_t (z_on_t (z_on_t (z_on_t (z_on_h rfl (by omega) (by omega))))))))) | exact z_on_t (z_on_t (z_on_t (z_on_t (z_on_t (z_on_t (z_on_t (z_on_t (z_on_t (z_on_h rfl (by omega) (by omega)))))))))) | exact z_on_t (z_on_t (z_on_t (z_on_t (z_on_t (z_on_t (z_on_t (z_on_t (z_on_t (z_on_t (z_on_h rfl (by omega) (by omega))))))))))) | exact z_on_t (z_on_t (z_on_t (z_on_t (z_on_t (z_on_t (z_on_t (z_on_t (z_on_t (z_on_t (z_on_t (z_on_h rfl (by omega) (by omega)))))))))))) | exact z_on_t (z_on_t (z_on_t (z_on_t (z_on_t (z_on_t (z_on_t (z_on_t (z_on_t (z_on_t (z_on_t (z_on_t (z_on_h rfl (by omega) (by omega)))))))))))))))).cp (fun k h1 h2 => (by (try unfold c_LB); first | exact z_on_h rfl (by omega) (by omega) | exact z_on_t (z_on_h rfl (by omega) (by omega)) | exact z_on_t (z_on_t (z_on_h rfl (by omega) (by omega))) | exact z_on_t (z_on_t (z_on_t (z_on_h rfl (by omega) (by omega)))) | exact z_on_t (z_on_t (z_on_t (z_on_t (z_on_h rfl (by omega) (by omega))))) | exact z_on_t (z_on_t (z_on_t (z_on_t (z_on_t (z_on_h rfl (by omega) (by omega)))))) | exact z_on_t (z_on_t (z_on_t (z_on_t (z_on_t (z_on_t (z_on_h rfl (by omega) (by omega))))))) | exact z_on_t (z_on_t (z_on_t (z_on_t (z_on_t (z_on_t (z_on_t (z_on_h rfl (by omega) (by omega)))))))) | exact z_on_t (z_on_t (z_on_t (z_on_t (z_on_t (z_on_t (z_on_t (z_on_t (z_on_h rfl (by omega) (by omega))))))))) | exact z_on_t (z_on_t (z_on_t (z_on_t (z_on_t (z_on_t (z_on_t (z_on_t (z_on_t (z_on_h rfl (by omega) (by omega)))))))))) | exact z_on_t (z_on_t (z_on_t (z_on_t (z_on_t (z_on_t (z_on_t (z_on_t (z_on_t (z_on_t (z_on_h rfl (by omega) (by omega))))))))))) | exact z_on_t (z_on_t (z_on_t (z_on_t (z_on_t (z_on_t (z_on_t (z_on_t (z_on_t (z_on_t (z_on_t (z_on_h rfl (by omega) (by omega)))))))))))) | exact z_on_t (z_on_t (z_on_t (z_on_t (z_on_t (z_on_t (z_on_t (z_on_t (z_on_t (z_on_t (z_on_t (z_on_t (z_on_h rfl (by omega) (by omega)))))))))))))))).cp (fun k h1 h2 => (by (try unfold c_LB); first | exact z_on_h rfl (by omega) (by omega) | exact z_on_t (z_on_h rfl (by omega) (by omega)) | exact z_on_t (z_on_t (z_on_h rfl (by omega) (by omega))) | exact z_on_t (z_on_t (z_on_t (z_on_h rfl (by omega) (by omega)))) | exact z_on_t (z_on_t (z_on_t (z_on_t (z_on_h rfl (by omega) (by omega))))) | exact z_on_t (z_on_t (z_on_t (z_on_t (z_on_t (z_on_h rfl (by omega) (by omega)))))) | exact z_on_t (z_on_t (z_on_t (z_on_t (z_on_t (z_on_t (z_on_h rfl (by omega) (by omega))))))) | exact z_on_t (z_on_t (z_on_t (z_on_t (z_on_t (z_on_t (z_on_t (z_on_h rfl (by omega) (by omega)))))))) | exact z_on_t (z_on_t (z_on_t (z_on_t (z_on_t (z_on_t (z_on_t (z_on_t (z_on_h rfl (by omega) (by omega))))))))) | exact z_on_t (z_on_t (z_on_t (z_on_t (z_on_t (z_on_t (z_on_t (z_on_t (z_on_t (z_on_h rfl (by omega) (by omega)))))))))) | exact z_on_t (z_on_t (z_on_t (z_on_t (z_on_t (z_on_t (z_on_t (z_on_t (z_on_t (z_on_t (z_on_h rfl (by omega) (by omega))))))))))) | exact z_on_t (z_on_t (z_on_t (z_on_t (z_on_t (z_on_t (z_on_t (z_on_t (z_on_t (z_on_t (z_on_t (z_on_h rfl (by omega) (by omega)))))))))))) | exact z_on_t (z_on_t (z_on_t (z_on_t (z_on_t (z_on_t (z_on_t (z_on_t (z_on_t (z_on_t (z_on_t (z_on_t (z_on_h rfl (by omega) (by omega)))))))))))))))).cp (fun k h1 h2 => (by (try unfold c_LB); first | exact z_on_h rfl (by omega) (by omega) | exact z_on_t (z_on_h rfl (by omega) (by omega)) | exact z_on_t (z_on_t (z_on_h rfl (by omega) (by omega))) | exact z_on_t (z_on_t (z_on_t (z_on_h rfl (by omega) (by omega)))) | exact z_on_t (z_on_t (z_on_t (z_on_t (z_on_h rfl (by omega) (by omega))))) | exact z_on_t (z_on_t (z_on_t (z_on_t (z_on_t (z_on_h rfl (by omega) (by omega)))))) | exact z_on_t (z_on_t (z_on_t (z_on_t (z_on_t (z_on_t (z_on_h rfl (by omega) (by omega))))))) | exact z_on_t (z_on_t (z_on_t (z_on_t (z_on_t (z_on_t (z_on_t (z_on_h rfl (by omega) (by omega)))))))) | exact z_on_t (z_on_t (z_on_t (z_on_t (z_on_t (z_on_t (z_on_t (z_on_t (z_on_h rfl (by omega) (by omega))))))))) | exact z_on_t (z_on_t (z_on_t (z_on_t (z_on_t (z_on_t (z_on_t (z_on_t (z_on_t (z_on_h rfl (by omega) (by omega)))))))))) | exact z_on_t (z_on_t (z_on_t (z_on_t (z_on_t (z_on_t (z_on_t (z_on_t (z_on_t (z_on_t (z_on_h rfl (by omega) (by omega))))))))))) | exact z_on_t (z_on_t (z_on_t (z_on_t (z_on_t (z_on_t (z_on_t (z_on_t (z_on_t (z_on_t (z_on_t (z_on_h rfl (by omega) (by omega)))))))))))) | exact z_on_t (z_on_t (z_on_t (z_on_t (z_on_t (z_on_t (z_on_t (z_on_t (z_on_t (z_on_t (z_on_t (z_on_t (z_on_h rfl (by omega) (by omega)))))))))))))))).upo (by (try unfold c_LB); first | exact z_on_h rfl (by omega) (by omega) | exact z_on_t (z_on_h rfl (by omega) (by omega)) | exact z_on_t (z_on_t (z_on_h rfl (by omega) (by omega))) | exact z_on_t (z_on_t (z_on_t (z_on_h rfl (by omega) (by omega)))) | exact z_on_t (z_on_t (z_on_t (z_on_t (z_on_h rfl (by omega) (by omega))))) | exact z_on_t (z_on_t (z_on_t (z_on_t (z_on_t (z_on_h rfl (by omega) (by omega)))))) | exact z_on_t (z_on_t (z_on_t (z_on_t (z_on_t (z_on_t (z_on_h rfl (by omega) (by omega))))))) | exact z_on_t (z_on_t (z_on_t (z_on_t (z_on_t (z_on_t (z_on_t (z_on_h rfl (by omega) (by omega)))))))) | exact z_on_t (z_on_t (z_on_t (z_on_t (z_on_t (z_on_t (z_on_t (z_on_t (z_on_h rfl (by omega) (by omega))))))))) | exact z_on_t (z_on_t (z_on_t (z_on_t (z_on_t (z_on_t (z_on_t (z_on_t (z_on_t (z_on_h rfl (by omega) (by omega)))))))))) | exact z_on_t (z_on_t (z_on_t (z_on_t (z_on_t (z_on_t (z_on_t (z_on_t (z_on_t (z_on_t (z_on_h rfl (by omega) (by omega))))))))))) | exact z_on_t (z_on_t (z_on_t (z_on_t (z_on_t (z_on_t (z_on_t (z_on_t (z_on_t (z_on_t (z_on_t (z_on_h rfl (by omega) (by omega)))))))))))) | exact z_on_t (z_on_t (z_on_t (z_on_t (z_on_t (z_on_t (z_on_t (z_on_t (z_on_t (z_on_t (z_on_t (z_on_t (z_on_h rfl (by omega) (by omega))))))))))))))).upo (by (try unfold c_LB); first | exact z_on_h rfl (by omega) (by omega) | exact z_on_t (z_on_h rfl (by omega) (by omega)) | exact z_on_t (z_on_t (z_on_h rfl (by omega) (by omega))) | exact z_on_t (z_on_t (z_on_t (z_on_h rfl (by omega) (by omega)))) | exact z_on_t (z_on_t (z_on_t (z_on_t (z_on_h rfl (by omega) (by omega))))) | exact z_on_t (z_on_t (z_on_t (z_on_t (z_on_t (z_on_h rfl (by omega) (by omega)))))) | exact z_on_t (z_on_t (z_on_t (z_on_t (z_on_t (z_on_t (z_on_h rfl (by omega) (by omega))))))) | exact z_on_t (z_on_t (z_on_t (z_on_t (z_on_t (z_on_t (z_on_t (z_on_h rfl (by omega) (by omega)))))))) | exact z_on_t (z_on_t (z_on_t (z_on_t (z_on_t (z_on_t (z_on_t (z_on_t (z_on_h rfl (by omega) (by omega))))))))) | exact z_on_t (z_on_t (z_on_t (z_on_t (z_on_t (z_on_t (z_on_t (z_on_t (z_on_t (z_on_h rfl (by omega) (by omega)))))))))) | exact z_on_t (z_on_t (z_on_t (z_on_t (z_on_t (z_on_t (z_on_t (z_on_t (z_on_t (z_on_t (z_on_h rfl (by omega) (by omega))))))))))) | exact z_on_t (z_on_t (z_on_t (z_on_t (z_on_t (z_on_t (z_on_t (z_on_t (z_on_t (z_on_t (z_on_t (z_on_h rfl (by omega) (by omega)))))))))))) | exact z_on_t (z_on_t (z_on_t (z_on_t (z_on_t (z_on_t (z_on_t (z_on_t (z_on_t (z_on_t (z_on_t (z_on_t (z_on_h rfl (by omega) (by omega))))))))))))))).upo (by (try unfold c_LB); first | exact z_on_h rfl (by omega) (by omega) | exact z_on_t (z_on_h rfl (by omega) (by omega)) | exact z_on_t (z_on_t (z_on_h rfl (by omega) (by omega))) | exact z_on_t (z_on_t (z_on_t (z_on_h rfl (by omega) (by omega)))) | exact z_on_t (z_on_t (z_on_t (z_on_t (z_on_h rfl (by omega) (by omega))))) | exact z_on_t (z_on_t (z_on_t (z_on_t (z_on_t (z_on_h rfl (by omega) (by omega)))))) | exact z_on_t (z_on_t (z_on_t (z_on_t (z_on_t (z_on_t (z_on_h rfl (by omega) (by omega))))))) | exact z_on_t (z_on_t (z_on_t (z_on_t (z_on_t (z_on_t (z_on_t (z_on_h rfl (by omega) (by omega)))))))) | exact z_on_t (z_on_t (z_on_t (z_on_t (z_on_t (z_on_t (z_on_t (z_on_t (z_on_h rfl (by omega) (by omega))))))))) | exact z_on_t (z_on_t (z_on_t (z_on_t (z_on_t (z_on_t (z_on_t (z_on_t (z_on_t (z_on_h rfl (by omega) (by omega)))))))))) | exact z_on_t (z_on_t (z_on_t (z_on_t (z_on_t (z_on_t (z_on_t (z_on_t (z_on_t (z_on_t (z_on_h rfl (by omega) (by omega))))))))))) | exact z_on_t (z_on_t (z_on_t (z_on_t (z_on_t (z_on_t (z_on_t (z_on_t (z_on_t (z_on_t (z_on_t (z_on_h rfl (by omega) (by omega)))))))))))) | exact z_on_t (z_on_t (z_on_t (z_on_t (z_on_t (z_on_t (z_on_t (z_on_t (z_on_t (z_on_t (z_on_t (z_on_t (z_on_h rfl (by omega) (by omega))))))))))))))).upo (by (try unfold c_LB); first | exact z_on_h rfl (by omega) (by omega) | exact z_on_t (z_on_h rfl (by omega) (by omega)) | exact z_on_t (z_on_t (z_on_h rfl (by omega) (by omega))) | exact z_on_t (z_on_t (z_on_t (z_on_h rfl (by omega) (by omega)))) | exact z_on_t (z_on_t (z_on_t (z_on_t (z_on_h rfl (by omega) (by omega))))) | exact z_on_t (z_on_t (z_on_t (z_on_t (z_on_t (z_on_h rfl (by omega) (by omega)))))) | exact z_on_t (z_on_t (z_on_t (z_on_t (z_on_t (z_on_t (z_on_h rfl (by omega) (by omega))))))) | exact z_on_t (z_on_t (z_on_t (z_on_t (z_on_t (z_on_t (z_on_t (z_on_h rfl (by omega) (by omega)))))))) | exact z_on_t (z_on_t (z_on_t (z_on_t (z_on_t (z_on_t (z_on_t (z_on_t (z_on_h rfl (by omega) (by omega))))))))) | exact z_on_t (z_on_t (z_on_t (z_on_t (z_on_t (z_on_t (z_on_t (z_on_t (z_on_t (z_on_h rfl (by omega) (by omega)))))))))) | exact z_on_t (z_on_t (z_on_t (z_on_t (z_on_t (z_on_t (z_on_t (z_on_t (z_on_t (z_on_t (z_on_h rfl (by omega) (by omega))))))))))) | exact z_on_t (z_on_t (z_on_t (z_on_t (z_on_t (z_on_t (z_on_t (z_on_t (z_on_t (z_on_t (z_on_t (z_on_h rfl (by omega) (by omega)))))))))))) | exact z_on_t (z_on_t (z_on_t (z_on_t (z_on_t (z_on_t (z_on_t (z_on_t (z_on_t (z_on_t (z_on_t (z_on_t (z_on_h rfl (by omega) (by omega))))))))))))))⟩
  funext k
  unfold cR
  refine z_ifc (fun h1 => ?_) (fun h1 => z_ifc (fun h2 => ?_) (fun h2 => z_ifc (fun h3 => ?_) (fun h3 => z_ifc (fun h4 => ?_) (fun h4 => z_ifc (fun h5 => ?_) (fun h5 => z_ifc (fun h6 => ?_) (fun h6 => rfl))))))
  · rw [zu_p (by omega), zu_p (by omega), zu_p (by omega), zu_p (by omega), zc_p (by omega), zc_p (by omega), zc_p (by omega), zc_p (by omega), zc_in h1]
  · rw [zu_p (by omega), zu_p (by omega), zu_p (by omega), zu_p (by omega), zc_p (by omega), zc_p (by omega), zc_p (by omega), zc_in (by omega), zc_p (by omega)]
  · rw [zu_p (by omega), zu_p (by omega), zu_p (by omega), zu_p (by omega), zc_p (by omega), zc_p (by omega), zc_in (by omega), zc_p (by omega), zc_p (by omega)]
  · rw [zu_p (by omega), zu_p (by omega), zu_p (by omega), zu_p (by omega), zc_p (by omega), zc_in (by omega), zc_p (by omega), zc_p (by omega), zc_p (by omega)]
  · rw [zu_p (by omega), zu_p (by omega), zu_p (by omega), zu_p (by omega), zc_in (by omega), zc_p (by omega), zc_p (by omega), zc_p (by omega), zc_p (by omega)]
  · rcases (show k = 33 ∨ k = 34 ∨ k = 35 ∨ k = 36 by omega) with rfl | rfl | rfl | rfl
    · show z_up (z_up (z_up (z_up _ t 5 _) t 6 _) t 7 _) t 8 _ t 5 = _
      rw [zu_k (by decide), zu_k (by decide), zu_k (by decide), zu_self]
    · show z_up (z_up (z_up (z_up _ t 5 _) t 6 _) t 7 _) t 8 _ t 6 = _
      rw [zu_k (by decide), zu_k (by decide), zu_self]
    · show z_up (z_up (z_up (z_up _ t 5 _) t 6 _) t 7 _) t 8 _ t 7 = _
      rw [zu_k (by decide), zu_self]
    · show z_up (z_up (z_up (z_up _ t 5 _) t 6 _) t 7 _) t 8 _ t 8 = _
      rw [zu_self]
theorem cS_cR {m m' : z_M} {s t : Nat} {n : Int} (h : cR m' t = cR m s) : cS m' t n = cS m s n := by unfold cS; rw [h]
/-- what can be undone, of the reference: slot j -/
def uR (m : z_M) (p j : Nat) (n : Int) : Nat → Int := a_msk n (fun k => if k < 37 then m p (37 * j + k) else 0)
theorem uR_row {m m' : z_M} {p j : Nat} {n : Int} (h : ∀ k, k < 37 → m' p (37 * j + k) = m p (37 * j + k)) : uR m' p j n = uR m p j n := by
  unfold uR
  congr 1
  funext k
  exact z_ifc (fun hk => h k hk) (fun _ => rfl)
theorem uR_is {m m' : z_M} {p j a : Nat} {n : Int} (h : ∀ k, k < 37 → m' p (37 * j + k) = m a k) : uR m' p j n = rS m a n := by
  unfold uR rS
  congr 1
  funext k
  unfold rR
  exact z_ifc (fun hk => h k hk) (fun _ => rfl)
theorem rS_is {m m' : z_M} {p j a : Nat} {n : Int} (h : ∀ k, k < 37 → m' a k = m p (37 * j + k)) : rS m' a n = uR m p j n := by
  unfold uR rS
  congr 1
  funext k
  unfold rR
  exact z_ifc (fun hk => h k hk) (fun _ => rfl)
/-- the reference lays a State down -/
theorem t_layg {a q : Nat} {B : Int} (hS : ∀ (m : z_M) (x2 x3 : Int), 0 ≤ x2 ∧ x2 ≤ B → 0 ≤ x3 ∧ x3 ≤ 37 → z_R 198 (m, 2, [(2, (a : Int)), (2, (q : Int)), (0, x2), (0, x3)], []) = if 37 ≤ x3 then some (m, none) else z_R 198 (z_up m q (x2 + x3).toNat (m a x3.toNat), 2, [(2, (a : Int)), (2, (q : Int)), (0, x2), (0, x3 + 1)], [])) (hne : ¬ a = q) {b : Nat} (hb : (b : Int) ≤ B) : ∀ (f x : Nat) (m : z_M), x + f = 37 → ∃ m', z_R 198 (m, 2, [(2, (a : Int)), (2, (q : Int)), (0, (b : Int)), (0, (x : Int))], []) = some (m', none) ∧ (∀ k, x ≤ k → k < 37 → m' q (b + k) = m a k) ∧ (∀ p k, ¬ (p = q ∧ b + x ≤ k ∧ k < b + 37) → m' p k = m p k) := by
  intro f
  induction f with
  | zero =>
    intro x m hx
    rw [hS m b x ⟨by omega, by omega⟩ ⟨by omega, by omega⟩, if_pos (by omega)]
    exact ⟨m, rfl, fun k h1 h2 => by omega, fun _ _ _ => rfl⟩
  | succ f ih =>
    intro x m hx
    rw [hS m b x ⟨by omega, by omega⟩ ⟨by omega, by omega⟩, if_neg (by omega), Int.toNat_natCast, tc1, show ((b : Int) + (x : Int)).toNat = b + x by omega]
    obtain ⟨m', a1, a2, a3⟩ := ih (x + 1) (z_up m q (b + x) (m a x)) (by omega)
    refine ⟨m', a1, fun k h1 h2 => ?_, fun p k hn => ?_⟩
    · by_cases hk : k = x
      · rw [hk, a3 q (b + x) (by omega), zu_self]
      · rw [a2 k (by omega) h2, zu_p hne]
    · rw [a3 p k (by omega)]
      by_cases hp : p = q
      · subst hp
        rw [zu_k (by omega)]
      · rw [zu_p hp]
theorem t_layd {a q : Nat} {B : Int} (hS0 : ∀ (m : z_M) (x2 : Int), 0 ≤ x2 ∧ x2 ≤ B → z_R 198 (m, 0, [(2, (a : Int)), (2, (q : Int)), (0, x2), (9, 0)], []) = z_R 198 (m, 2, [(2, (a : Int)), (2, (q : Int)), (0, x2), (0, 0)], [])) (hS : ∀ (m : z_M) (x2 x3 : Int), 0 ≤ x2 ∧ x2 ≤ B → 0 ≤ x3 ∧ x3 ≤ 37 → z_R 198 (m, 2, [(2, (a : Int)), (2, (q : Int)), (0, x2), (0, x3)], []) = if 37 ≤ x3 then some (m, none) else z_R 198 (z_up m q (x2 + x3).toNat (m a x3.toNat), 2, [(2, (a : Int)), (2, (q : Int)), (0, x2), (0, x3 + 1)], [])) (hne : ¬ a = q) {b : Nat} (hb : (b : Int) ≤ B) (m : z_M) : ∃ m', z_R 198 (m, 0, [(2, (a : Int)), (2, (q : Int)), (0, (b : Int)), (9, 0)], []) = some (m', none) ∧ (∀ k, k < 37 → m' q (b + k) = m a k) ∧ (∀ p k, ¬ (p = q ∧ b ≤ k ∧ k < b + 37) → m' p k = m p k) := by
  obtain ⟨m', a1, a2, a3⟩ := t_layg hS hne hb 37 0 m (by decide)
  refine ⟨m', ?_, fun k hk => a2 k (Nat.zero_le _) hk, fun p k hn => a3 p k (by omega)⟩
  rw [hS0 m b ⟨by omega, by omega⟩]
  exact a1
/-- the reference's slots move down by one -/
theorem t_shift {a : Nat} (ha : a = 252 ∨ a = 261) (hS : ∀ (m : z_M) (x2 : Int), 0 ≤ x2 ∧ x2 ≤ 407 → m 251 25 = 12 → z_R 197 (m, 11, [(2, 251), (2, (a : Int)), (0, x2)], []) = if 407 ≤ x2 then (z_R 198 (z_up m 251 25 (m 251 25 - 1), 0, [(2, (a : Int)), (2, 260), (0, 37 * m 251 25 - 37), (9, 0)], [])).bind fun qq => z_R 197 (qq.1, 64, [(2, 251), (2, (a : Int)), (0, x2)], qq.2.toList ++ []) else z_R 197 (z_up m 260 x2.toNat (m 260 (x2 + 37).toNat), 11, [(2, 251), (2, (a : Int)), (0, x2 + 1)], [])) : ∀ (f x : Nat) (m : z_M), x + f = 407 → m 251 25 = 12 → ∃ m' : z_M, z_R 197 (m, 11, [(2, 251), (2, (a : Int)), (0, (x : Int))], []) = ((z_R 198 (z_up m' 251 25 11, 0, [(2, (a : Int)), (2, 260), (0, 407), (9, 0)], [])).bind fun qq => z_R 197 (qq.1, 64, [(2, 251), (2, (a : Int)), (0, 407)], qq.2.toList ++ [])) ∧ (∀ k, x ≤ k → k < 407 → m' 260 k = m 260 (k + 37)) ∧ (∀ p k, ¬ (p = 260 ∧ x ≤ k ∧ k < 407) → m' p k = m p k) := by
  intro f
  induction f with
  | zero =>
    intro x m hx h12
    obtain rfl : x = 407 := by omega
    rw [show ((407 : Nat) : Int) = 407 from rfl, hS m 407 ⟨by decide, by decide⟩ h12, if_pos (by decide), h12]
    exact ⟨m, rfl, fun k h1 h2 => by omega, fun _ _ _ => rfl⟩
  | succ f ih =>
    intro x m hx h12
    rw [hS m x ⟨by omega, by omega⟩ h12, if_neg (by omega), Int.toNat_natCast, tc1, show ((x : Int) + 37).toNat = x + 37 by omega]
    obtain ⟨m', a1, a2, a3⟩ := ih (x + 1) (z_up m 260 x (m 260 (x + 37))) (by omega) (by rw [zu_p (by decide)]; exact h12)
    refine ⟨m', a1, fun k h1 h2 => ?_, fun p k hn => ?_⟩
    · by_cases hk : k = x
      · rw [hk, a3 260 x (by omega), zu_self]
      · rw [a2 k (by omega) h2, zu_k (by omega)]
    · rw [a3 p k (by omega)]
      by_cases hp : p = 260
      · subst hp
        rw [zu_k (by omega)]
      · rw [zu_p hp]
/-- one of the undos' places in the class -/
def u_pl (x : Nat) : Nat := 32 + 6 * x
theorem c_rem {n : Int} (m : z_M) {s : Nat} (hs : s = 12 ∨ s = 18) (hx : 0 ≤ m 28 3 ∧ m 28 3 ≤ 11) (hz : 0 ≤ m 28 4 ∧ m 28 4 ≤ 12) : ∃ m', z_R 60 (m, 0, [(2, 28), (2, (s : Int))], []) = some (m', none) ∧ m' 28 3 = (m 28 3 + 1) % 12 ∧ m' 28 4 = (if m 28 4 = 12 then 12 else m 28 4 + 1) ∧ cS m' (32 + 6 * (m 28 3).toNat) n = cS m s n ∧ z_same ((28, 3, 4) :: c_LB (32 + 6 * (m 28 3).toNat)) m m' := by
  have hst : z_st s := by rcases hs with rfl | rfl; exact z_st_12; exact z_st_18
  generalize hX : (m 28 3).toNat = X
  have hX12 : X < 12 := by omega
  obtain ⟨m1, a1, a2, a3⟩ := c_become hst (z_st_done hX12) (by omega) m
  have e0 : z_R 60 (m, 0, [(2, 28), (2, (s : Int))], []) = (z_R 61 (m, 0, [(2, (z_ga m 29 (m 28 3).toNat).2), (2, (s : Int))], [])).bind fun qq => z_R 60 (qq.1, 13, [(2, 28), (2, (s : Int))], qq.2.toList ++ []) := by
    rcases hs with rfl | rfl
    · exact s_rem_0 m hx
    · exact s_rem18_0 m hx
  have e1 : ∀ m : z_M, (0 ≤ m 28 3 ∧ m 28 3 ≤ 11) → (0 ≤ m 28 4 ∧ m 28 4 ≤ 12) → z_R 60 (m, 13, [(2, 28), (2, (s : Int))], []) = some (z_up (z_up m 28 3 ((m 28 3 + 1) % 12)) 28 4 (if 12 < (m 28 4 + 1) then 12 else (m 28 4 + 1)), none) := by
    rcases hs with rfl | rfl
    · exact s_rem_13
    · exact s_rem18_13
  have g3 : m1 28 3 = m 28 3 := a3.of (by (try unfold c_LB); (repeat' (first | exact trivial | refine z_of_c ?_ ?_)) <;> omega)
  have g4 : m1 28 4 = m 28 4 := a3.of (by (try unfold c_LB); (repeat' (first | exact trivial | refine z_of_c ?_ ?_)) <;> omega)
  rw [e0, hX, ga29 hX12, a1, zb_n, e1 m1 (by omega) (by omega), g3, g4]
  refine ⟨_, rfl, ?_, ?_, ?_, ((a3.subo (L' := (28, 3, 4) :: c_LB (32 + 6 * X)) (by
    unfold c_LB
    exact (by (try unfold c_LB); (repeat' (first | exact trivial | refine z_sbo_c ?_ ?_)) <;> (intro k h1 h2; first | exact z_on_h rfl (by omega) (by omega) | exact z_on_t (z_on_h rfl (by omega) (by omega)) | exact z_on_t (z_on_t (z_on_h rfl (by omega) (by omega))) | exact z_on_t (z_on_t (z_on_t (z_on_h rfl (by omega) (by omega)))) | exact z_on_t (z_on_t (z_on_t (z_on_t (z_on_h rfl (by omega) (by omega))))) | exact z_on_t (z_on_t (z_on_t (z_on_t (z_on_t (z_on_h rfl (by omega) (by omega)))))) | exact z_on_t (z_on_t (z_on_t (z_on_t (z_on_t (z_on_t (z_on_h rfl (by omega) (by omega))))))) | exact z_on_t (z_on_t (z_on_t (z_on_t (z_on_t (z_on_t (z_on_t (z_on_h rfl (by omega) (by omega)))))))) | exact z_on_t (z_on_t (z_on_t (z_on_t (z_on_t (z_on_t (z_on_t (z_on_t (z_on_h rfl (by omega) (by omega))))))))) | exact z_on_t (z_on_t (z_on_t (z_on_t (z_on_t (z_on_t (z_on_t (z_on_t (z_on_t (z_on_h rfl (by omega) (by omega)))))))))) | exact z_on_t (z_on_t (z_on_t (z_on_t (z_on_t (z_on_t (z_on_t (z_on_t (z_on_t (z_on_t (z_on_h rfl (by omega) (by omega))))))))))) | exact z_on_t (z_on_t (z_on_t (z_on_t (z_on_t (z_on_t (z_on_t (z_on_t (z_on_t (z_on_t (z_on_t (z_on_h rfl (by omega) (by omega)))))))))))) | exact z_on_t (z_on_t (z_on_t (z_on_t (z_on_t (z_on_t (z_on_t (z_on_t (z_on_t (z_on_t (z_on_t (z_on_t (z_on_h rfl (by omega) (by omega))))))))))))))))).upo (Or.inl ⟨rfl, by decide, by decide⟩)).upo (Or.inl ⟨rfl, by decide, by decide⟩)⟩
  · rw [zu_k (by decide), zu_self]
  · rw [zu_self]
    by_cases c : m 28 4 = 12
    · rw [if_pos c, if_pos (by omega)]
    · rw [if_neg c, if_neg (by omega)]
  · rw [cS_off (by omega), cS_off (by omega)]
    exact cS_cR a2
theorem r_rem {n : Int} (m : z_M) {a : Nat} (ha : a = 252 ∨ a = 261) (hz : 0 ≤ m 251 25 ∧ m 251 25 ≤ 12) : ∃ m', z_R 197 (m, 0, [(2, 251), (2, (a : Int)), (9, 0)], []) = some (m', none) ∧ m' 251 25 = (if m 251 25 = 12 then 12 else m 251 25 + 1) ∧ uR m' 260 ((m' 251 25).toNat - 1) n = rS m a n ∧ (∀ j : Nat, (j : Int) + 1 < m' 251 25 → uR m' 260 j n = uR m 260 (if m 251 25 = 12 then j + 1 else j) n) ∧ z_same [(251, 25, 25), (260, 0, 443)] m m' := by
  have eL0 : ∀ (m : z_M) (x2 : Int), 0 ≤ x2 ∧ x2 ≤ 407 → z_R 198 (m, 0, [(2, (a : Int)), (2, ((260 : Nat) : Int)), (0, x2), (9, 0)], []) = z_R 198 (m, 2, [(2, (a : Int)), (2, ((260 : Nat) : Int)), (0, x2), (0, 0)], []) := by
    rcases ha with rfl | rfl
    · exact t_lay260_0
    · exact t_laya_0
  have eL : ∀ (m : z_M) (x2 x3 : Int), 0 ≤ x2 ∧ x2 ≤ 407 → 0 ≤ x3 ∧ x3 ≤ 37 → z_R 198 (m, 2, [(2, (a : Int)), (2, ((260 : Nat) : Int)), (0, x2), (0, x3)], []) = if 37 ≤ x3 then some (m, none) else z_R 198 (z_up m 260 (x2 + x3).toNat (m a x3.toNat), 2, [(2, (a : Int)), (2, ((260 : Nat) : Int)), (0, x2), (0, x3 + 1)], []) := by
    rcases ha with rfl | rfl
    · exact t_lay260_2
    · exact t_laya_2
  have e0 : ∀ m : z_M, (0 ≤ m 251 25 ∧ m 251 25 ≤ 12) → z_R 197 (m, 0, [(2, 251), (2, (a : Int)), (9, 0)], []) = if m 251 25 = 12 then z_R 197 (m, 11, [(2, 251), (2, (a : Int)), (0, 0)], []) else (z_R 198 (m, 0, [(2, (a : Int)), (2, 260), (0, 37 * m 251 25), (9, 0)], [])).bind fun qq => z_R 197 (qq.1, 64, [(2, 251), (2, (a : Int)), (9, 0)], qq.2.toList ++ []) := by
    rcases ha with rfl | rfl
    · exact t_rem_0
    · exact t_rema_0
  have e64 : ∀ (m : z_M) (v2 : z_V), (0 ≤ m 251 25 ∧ m 251 25 ≤ 12) → z_R 197 (m, 64, [(2, 251), (2, (a : Int)), v2], []) = some (z_up m 251 25 (m 251 25 + 1), none) := by
    rcases ha with rfl | rfl
    · exact t_rem_64
    · exact t_rema_64
  have eS : ∀ (m : z_M) (x2 : Int), 0 ≤ x2 ∧ x2 ≤ 407 → m 251 25 = 12 → z_R 197 (m, 11, [(2, 251), (2, (a : Int)), (0, x2)], []) = if 407 ≤ x2 then (z_R 198 (z_up m 251 25 (m 251 25 - 1), 0, [(2, (a : Int)), (2, 260), (0, 37 * m 251 25 - 37), (9, 0)], [])).bind fun qq => z_R 197 (qq.1, 64, [(2, 251), (2, (a : Int)), (0, x2)], qq.2.toList ++ []) else z_R 197 (z_up m 260 x2.toNat (m 260 (x2 + 37).toNat), 11, [(2, 251), (2, (a : Int)), (0, x2 + 1)], []) := fun m x2 h1 h2 => by
    rcases ha with rfl | rfl
    · exact t_rem_11 m x2 h1 (by omega)
    · exact t_rema_11 m x2 h1 (by omega)
  have hane : ¬ a = 260 := by omega
  rw [e0 m hz]
  by_cases c : m 251 25 = 12
  · rw [if_pos c, if_pos c]
    obtain ⟨m1, a1, a2, a3⟩ := t_shift ha eS 407 0 m (by decide) c
    obtain ⟨m2, b1, b2, b3⟩ := t_layd eL0 eL hane (b := 407) (by decide) (z_up m1 251 25 11)
    have b1 : z_R 198 (z_up m1 251 25 11, 0, [(2, (a : Int)), (2, 260), (0, 407), (9, 0)], []) = some (m2, none) := b1
    have g25 : m2 251 25 = 11 := by rw [b3 251 25 (by omega), zu_self]
    refine ⟨z_up m2 251 25 (m2 251 25 + 1), ?_, ?_, ?_, ?_, ?_⟩
    · rw [show ((0 : Nat) : Int) = 0 from rfl] at a1
      rw [a1, b1, zb_n, e64 m2 _ (by omega)]
    · rw [zu_self, g25]; rfl
    · rw [zu_self, g25]
      refine uR_is (fun k hk => ?_)
      show z_up m2 251 25 (11 + 1) 260 (37 * 11 + k) = m a k
      rw [zu_p (by decide), show 37 * 11 + k = 407 + k by omega, b2 k hk, zu_p (by omega), a3 a k (by omega)]
    · intro j hj
      rw [zu_self, g25] at hj
      rw [if_pos c]
      unfold uR
      congr 1
      funext k
      refine z_ifc (fun hk => ?_) (fun _ => rfl)
      rw [zu_p (by decide), b3 260 (37 * j + k) (by omega), zu_p (by decide), a2 (37 * j + k) (Nat.zero_le _) (by omega), show 37 * j + k + 37 = 37 * (j + 1) + k by omega]
    · intro p k hn
      have n1 : ¬ (p = 251 ∧ k = 25) := fun z => hn (251, 25, 25) List.mem_cons_self ⟨z.1.symm, (show 25 ≤ k by omega), (show k ≤ 25 by omega)⟩
      have n2 : ¬ (p = 260 ∧ k ≤ 443) := fun z => hn (260, 0, 443) (List.mem_cons_of_mem _ List.mem_cons_self) ⟨z.1.symm, (show 0 ≤ k by omega), (show k ≤ 443 by omega)⟩
      have u1 : ∀ (m : z_M) (v : Int), z_up m 251 25 v p k = m p k := fun m v => by unfold z_up; rw [if_neg n1]
      rw [u1, b3 p k (by omega), u1, a3 p k (by omega)]
  · rw [if_neg c, if_neg c]
    obtain ⟨Z, hZ⟩ : ∃ Z : Nat, m 251 25 = (Z : Int) := ⟨(m 251 25).toNat, by omega⟩
    obtain ⟨m2, b1, b2, b3⟩ := t_layd eL0 eL hane (b := 37 * Z) (by omega) m
    have b1 : z_R 198 (m, 0, [(2, (a : Int)), (2, 260), (0, ((37 * Z : Nat) : Int)), (9, 0)], []) = some (m2, none) := b1
    have g25 : m2 251 25 = (Z : Int) := by rw [b3 251 25 (by omega), hZ]
    refine ⟨z_up m2 251 25 (m2 251 25 + 1), ?_, ?_, ?_, ?_, ?_⟩
    · rw [hZ, show 37 * (Z : Int) = ((37 * Z : Nat) : Int) by omega, b1, zb_n, e64 m2 _ (by omega)]
    · rw [zu_self, g25, hZ]
    · rw [zu_self, g25, show ((Z : Int) + 1).toNat - 1 = Z by omega]
      refine uR_is (fun k hk => ?_)
      rw [zu_p (by decide), b2 k hk]
    · intro j hj
      rw [zu_self, g25] at hj
      rw [if_neg c]
      refine uR_row (fun k hk => ?_)
      rw [zu_p (by decide), b3 260 (37 * j + k) (by omega)]
    · intro p k hn
      have n1 : ¬ (p = 251 ∧ k = 25) := fun z => hn (251, 25, 25) List.mem_cons_self ⟨z.1.symm, (show 25 ≤ k by omega), (show k ≤ 25 by omega)⟩
      have n2 : ¬ (p = 260 ∧ k ≤ 443) := fun z => hn (260, 0, 443) (List.mem_cons_of_mem _ List.mem_cons_self) ⟨z.1.symm, (show 0 ≤ k by omega), (show k ≤ 443 by omega)⟩
      have u1 : ∀ (m : z_M) (v : Int), z_up m 251 25 v p k = m p k := fun m v => by unfold z_up; rw [if_neg n1]
      rw [u1, b3 p k (by omega)]
end
section
/-! THE RULE: what can be read, where reading stands, the code -/
abbrev q_Q : Type := Bool × Int × List Int
def q_op (c l r : Int) : Int := if c = 43 then z_add l r else if c = 45 then z_sub l r else if c = 42 then z_mul l r else if c = 47 then (if r = 0 then 0 else z_div l r) else if c = 60 then (if l < r then 1 else 0) else if c = 62 then (if r < l then 1 else 0) else (if l = r then 1 else 0)
def q_nm (g : Int → Int) : Nat → Int → Int → Int × Int
  | 0, i, v => (i, v)
  | k + 1, i, v => if u_dg (g i) = -1 then (i, v) else q_nm g k (i + 1) (10 * v + u_dg (g i))
def q_th (g : Int → Int) (E : Option (Int → q_Q)) (i : Int) : q_Q := if g i = 40 then (match E with
    | none => (false, i, [])
    | some e => if (e (i + 1)).1 = true ∧ g (e (i + 1)).2.1 = 41 then (true, (e (i + 1)).2.1 + 1, (e (i + 1)).2.2) else (false, (e (i + 1)).2.1, [])) else
  if u_dg (g i) = -1 then (if z_idx (g i) = -1 then (false, i, []) else (true, i + 1, [1000 + z_idx (g i)])) else (true, (q_nm g 3 i 0).1, [(q_nm g 3 i 0).2])
/-- so many - from here on -/
def q_mn (g : Int → Int) : Nat → Int → Nat
  | 0, _ => 0
  | f + 1, i => if g i = 45 then q_mn g f (i + 1) + 1 else 0
def q_sg (g : Int → Int) (E : Option (Int → q_Q)) (i : Int) : q_Q := ((q_th g E (i + q_mn g 40 i)).1, (q_th g E (i + q_mn g 40 i)).2.1, (q_th g E (i + q_mn g 40 i)).2.2 ++ (if q_mn g 40 i % 2 = 1 then [2126] else []))
def q_lp (g : Int → Int) (part : Int → q_Q) (a b : Int) : Nat → q_Q → q_Q
  | 0, r => r
  | k + 1, r => if r.1 = true ∧ (g r.2.1 = a ∨ g r.2.1 = b) then q_lp g part a b k ((part (r.2.1 + 1)).1, (part (r.2.1 + 1)).2.1, r.2.2 ++ (part (r.2.1 + 1)).2.2 ++ [2000 + g r.2.1]) else r
def q_pr (g : Int → Int) (E : Option (Int → q_Q)) (i : Int) : q_Q := q_lp g (q_sg g E) 42 47 40 (q_sg g E i)
def q_su (g : Int → Int) (E : Option (Int → q_Q)) (i : Int) : q_Q := q_lp g (q_pr g E) 43 45 40 (q_pr g E i)
def q_he (g : Int → Int) (E : Option (Int → q_Q)) (i : Int) : q_Q := if (q_su g E i).1 = true ∧ (g (q_su g E i).2.1 = 60 ∨ g (q_su g E i).2.1 = 62 ∨ g (q_su g E i).2.1 = 61) then ((q_su g E ((q_su g E i).2.1 + 1)).1, (q_su g E ((q_su g E i).2.1 + 1)).2.1, (q_su g E i).2.2 ++ (q_su g E ((q_su g E i).2.1 + 1)).2.2 ++ [2000 + g (q_su g E i).2.1]) else q_su g E i
def q_ex (g : Int → Int) : Nat → Int → q_Q
  | 0 => q_he g none
  | D + 1 => q_he g (some (q_ex g D))
/-- for the depth d (0 .. 4) -/
def q_E (g : Int → Int) (d : Nat) : Option (Int → q_Q) := if 4 ≤ d then none else some (q_ex g (3 - d))
theorem q_ex_he (g : Int → Int) {d : Nat} (hd : d ≤ 4) : q_ex g (4 - d) = q_he g (q_E g d) := by
  unfold q_E
  rcases (show d = 0 ∨ d = 1 ∨ d = 2 ∨ d = 3 ∨ d = 4 by omega) with rfl | rfl | rfl | rfl | rfl <;> rfl
/-! bounds: reading goes on, code is no longer than what was read -/
def q_gb (g : Int → Int) : Prop := ∀ i, ¬ g i = -1 → 0 ≤ i ∧ i < 40
def q_good (e : Int → q_Q) : Prop := ∀ i, 0 ≤ i → i ≤ 40 → i ≤ (e i).2.1 ∧ (e i).2.1 ≤ 40 ∧ ((e i).1 = true → i < (e i).2.1 ∧ (((e i).2.2).length : Int) ≤ (e i).2.1 - i)
theorem q_nm_b {g : Int → Int} (hg : q_gb g) : ∀ (k : Nat) (i v : Int), 0 ≤ i → i ≤ 40 → 0 ≤ v → i ≤ (q_nm g k i v).1 ∧ (q_nm g k i v).1 ≤ 40 := by
  intro k
  induction k with
  | zero => intro i v h0 h1 h2; exact ⟨Int.le_refl _, h1⟩
  | succ k ih =>
    intro i v h0 h1 h2
    unfold q_nm
    by_cases c : u_dg (g i) = -1
    · rw [if_pos c]; exact ⟨Int.le_refl _, h1⟩
    · rw [if_neg c]
      have d := u_dg_ne c
      have := hg i (by omega)
      have := ih (i + 1) (10 * v + u_dg (g i)) (by omega) (by omega) (by have := u_dg_rng (g i); omega)
      omega
theorem q_nm_v {g : Int → Int} : ∀ (k : Nat) (i v : Int) (B : Int), 0 ≤ v → v ≤ B - 1 → 0 ≤ (q_nm g k i v).2 ∧ (q_nm g k i v).2 ≤ B * 10 ^ k - 1 := by
  intro k
  induction k with
  | zero => intro i v B h0 h1; show 0 ≤ v ∧ v ≤ B * 1 - 1; omega
  | succ k ih =>
    intro i v B h0 h1
    unfold q_nm
    have r := u_dg_rng (g i)
    have e : B * 10 ^ (k + 1) = B * 10 * 10 ^ k := by rw [Int.pow_succ, Int.mul_assoc, Int.mul_comm (10 ^ k) 10]
    by_cases c : u_dg (g i) = -1
    · rw [if_pos c]
      have hp : (0 : Int) < 10 ^ k := Int.pow_pos (by decide)
      have : B * 1 ≤ B * 10 * 10 ^ k := by
        rw [Int.mul_assoc]
        exact Int.mul_le_mul_of_nonneg_left (by omega) (by omega)
      rw [e]
      show 0 ≤ v ∧ v ≤ B * 10 * 10 ^ k - 1
      omega
    · rw [if_neg c, e]
      exact ih (i + 1) (10 * v + u_dg (g i)) (B * 10) (by omega) (by omega)
theorem q_th_good {g : Int → Int} (hg : q_gb g) {E : Option (Int → q_Q)} (hE : ∀ e, E = some e → q_good e) : q_good (q_th g E) := by
  intro i h0 h1
  unfold q_th
  by_cases c1 : g i = 40
  · have b := hg i (by omega)
    rw [if_pos c1]
    cases hEe : E with
    | none => exact ⟨Int.le_refl _, h1, fun z => by cases z⟩
    | some e =>
      have ge := hE e hEe (i + 1) (by omega) (by omega)
      simp only
      by_cases c2 : (e (i + 1)).1 = true ∧ g (e (i + 1)).2.1 = 41
      · rw [if_pos c2]
        have b2 := hg (e (i + 1)).2.1 (by omega)
        have := ge.2.2 c2.1
        refine ⟨?_, ?_, fun _ => ⟨?_, ?_⟩⟩
        · show i ≤ (e (i + 1)).2.1 + 1; omega
        · show (e (i + 1)).2.1 + 1 ≤ 40; omega
        · show i < (e (i + 1)).2.1 + 1; omega
        · show (((e (i + 1)).2.2).length : Int) ≤ (e (i + 1)).2.1 + 1 - i; omega
      · rw [if_neg c2]
        exact ⟨by show i ≤ (e (i + 1)).2.1; omega, ge.2.1, fun z => by cases z⟩
  rw [if_neg c1]
  by_cases c2 : u_dg (g i) = -1
  · rw [if_pos c2]
    by_cases c3 : z_idx (g i) = -1
    · rw [if_pos c3]; exact ⟨Int.le_refl _, h1, fun z => by cases z⟩
    · rw [if_neg c3]
      have b := hg i (fun z => c3 (by rw [z]; decide))
      refine ⟨?_, ?_, fun _ => ⟨?_, ?_⟩⟩
      · show i ≤ i + 1; omega
      · show i + 1 ≤ 40; omega
      · show i < i + 1; omega
      · show ((1 : Nat) : Int) ≤ i + 1 - i; omega
  · rw [if_neg c2]
    have d := u_dg_ne c2
    have b := hg i (by omega)
    have e : q_nm g 3 i 0 = q_nm g 2 (i + 1) (10 * 0 + u_dg (g i)) := by
      show (if u_dg (g i) = -1 then (i, 0) else q_nm g 2 (i + 1) (10 * 0 + u_dg (g i))) = _
      rw [if_neg c2]
    have n := q_nm_b hg 2 (i + 1) (10 * 0 + u_dg (g i)) (by omega) (by omega) (by have := u_dg_rng (g i); omega)
    rw [e]
    refine ⟨?_, n.2, fun _ => ⟨?_, ?_⟩⟩
    · show i ≤ (q_nm g 2 (i + 1) (10 * 0 + u_dg (g i))).1; omega
    · show i < (q_nm g 2 (i + 1) (10 * 0 + u_dg (g i))).1; omega
    · show ((1 : Nat) : Int) ≤ (q_nm g 2 (i + 1) (10 * 0 + u_dg (g i))).1 - i; omega
theorem q_mn_b {g : Int → Int} (hg : q_gb g) : ∀ (f : Nat) (i : Int), 0 ≤ i → i ≤ 40 → i + (q_mn g f i : Int) ≤ 40 := by
  intro f
  induction f with
  | zero => intro i h0 h1; show i + ((0 : Nat) : Int) ≤ 40; omega
  | succ f ih =>
    intro i h0 h1
    unfold q_mn
    by_cases c : g i = 45
    · rw [if_pos c]
      have := hg i (by omega)
      have := ih (i + 1) (by omega) (by omega)
      omega
    · rw [if_neg c]; omega
theorem q_sg_good {g : Int → Int} (hg : q_gb g) {E : Option (Int → q_Q)} (hE : ∀ e, E = some e → q_good e) : q_good (q_sg g E) := by
  intro i h0 h1
  have b := q_mn_b hg 40 i h0 h1
  have t := q_th_good hg hE (i + (q_mn g 40 i : Int)) (by omega) b
  unfold q_sg
  generalize hn : q_mn g 40 i = n at b t ⊢
  refine ⟨?_, t.2.1, fun z => ⟨?_, ?_⟩⟩
  · show i ≤ (q_th g E (i + (n : Int))).2.1; omega
  · have := t.2.2 z
    show i < (q_th g E (i + (n : Int))).2.1; omega
  · have := t.2.2 z
    show ((((q_th g E (i + (n : Int))).2.2 ++ (if n % 2 = 1 then [2126] else [])).length : Nat) : Int) ≤ (q_th g E (i + (n : Int))).2.1 - i
    rw [List.length_append]
    by_cases c : n % 2 = 1
    · rw [if_pos c]
      show ((((q_th g E (i + (n : Int))).2.2).length + 1 : Nat) : Int) ≤ _
      omega
    · rw [if_neg c]
      show ((((q_th g E (i + (n : Int))).2.2).length + 0 : Nat) : Int) ≤ _
      omega
theorem q_lp_good {g : Int → Int} (hg : q_gb g) {part : Int → q_Q} (hp : q_good part) {a b : Int} (ha : ¬ a = -1) (hb : ¬ b = -1) : ∀ (k : Nat) (r : q_Q) (i : Int), 0 ≤ i → i ≤ r.2.1 → r.2.1 ≤ 40 → (r.1 = true → i < r.2.1 ∧ ((r.2.2).length : Int) ≤ r.2.1 - i) → i ≤ (q_lp g part a b k r).2.1 ∧ (q_lp g part a b k r).2.1 ≤ 40 ∧ ((q_lp g part a b k r).1 = true → i < (q_lp g part a b k r).2.1 ∧ (((q_lp g part a b k r).2.2).length : Int) ≤ (q_lp g part a b k r).2.1 - i) := by
  intro k
  induction k with
  | zero => intro r i h0 h1 h2 h3; exact ⟨h1, h2, h3⟩
  | succ k ih =>
    intro r i h0 h1 h2 h3
    unfold q_lp
    by_cases c : r.1 = true ∧ (g r.2.1 = a ∨ g r.2.1 = b)
    · rw [if_pos c]
      have bb := hg r.2.1 (by rcases c.2 with z | z <;> rw [z] <;> assumption)
      have pp := hp (r.2.1 + 1) (by omega) (by omega)
      have h4 := h3 c.1
      refine ih _ i h0 ?_ pp.2.1 (fun z => ⟨?_, ?_⟩)
      · show i ≤ (part (r.2.1 + 1)).2.1; omega
      · show i < (part (r.2.1 + 1)).2.1; omega
      · have := pp.2.2 z
        show (((r.2.2 ++ (part (r.2.1 + 1)).2.2 ++ [2000 + g r.2.1]).length : Nat) : Int) ≤ (part (r.2.1 + 1)).2.1 - i
        rw [List.length_append, List.length_append]
        show (((r.2.2).length + ((part (r.2.1 + 1)).2.2).length + 1 : Nat) : Int) ≤ _
        omega
    · rw [if_neg c]; exact ⟨h1, h2, h3⟩
theorem q_pr_good {g : Int → Int} (hg : q_gb g) {E : Option (Int → q_Q)} (hE : ∀ e, E = some e → q_good e) : q_good (q_pr g E) := by
  intro i h0 h1
  have s := q_sg_good hg hE i h0 h1
  exact q_lp_good hg (q_sg_good hg hE) (by decide) (by decide) 40 _ i h0 s.1 s.2.1 s.2.2
theorem q_su_good {g : Int → Int} (hg : q_gb g) {E : Option (Int → q_Q)} (hE : ∀ e, E = some e → q_good e) : q_good (q_su g E) := by
  intro i h0 h1
  have s := q_pr_good hg hE i h0 h1
  exact q_lp_good hg (q_pr_good hg hE) (by decide) (by decide) 40 _ i h0 s.1 s.2.1 s.2.2
theorem q_he_good {g : Int → Int} (hg : q_gb g) {E : Option (Int → q_Q)} (hE : ∀ e, E = some e → q_good e) : q_good (q_he g E) := by
  intro i h0 h1
  have s := q_su_good hg hE i h0 h1
  unfold q_he
  by_cases c : (q_su g E i).1 = true ∧ (g (q_su g E i).2.1 = 60 ∨ g (q_su g E i).2.1 = 62 ∨ g (q_su g E i).2.1 = 61)
  · rw [if_pos c]
    have bb := hg (q_su g E i).2.1 (by rcases c.2 with z | z | z <;> rw [z] <;> decide)
    have s2 := q_su_good hg hE ((q_su g E i).2.1 + 1) (by omega) (by omega)
    have s3 := s.2.2 c.1
    refine ⟨?_, s2.2.1, fun z => ⟨?_, ?_⟩⟩
    · show i ≤ (q_su g E ((q_su g E i).2.1 + 1)).2.1; omega
    · show i < (q_su g E ((q_su g E i).2.1 + 1)).2.1; omega
    · have := s2.2.2 z
      show ((((q_su g E i).2.2 ++ (q_su g E ((q_su g E i).2.1 + 1)).2.2 ++ [2000 + g (q_su g E i).2.1]).length : Nat) : Int) ≤ (q_su g E ((q_su g E i).2.1 + 1)).2.1 - i
      rw [List.length_append, List.length_append]
      show ((((q_su g E i).2.2).length + ((q_su g E ((q_su g E i).2.1 + 1)).2.2).length + 1 : Nat) : Int) ≤ _
      omega
  · rw [if_neg c]; exact s
theorem q_ex_good {g : Int → Int} (hg : q_gb g) : ∀ D, q_good (q_ex g D)
  | 0 => q_he_good hg (fun e h => by cases h)
  | D + 1 => q_he_good hg (fun e h => by cases h; exact q_ex_good hg D)
theorem q_E_good {g : Int → Int} (hg : q_gb g) (d : Nat) : ∀ e, q_E g d = some e → q_good e := by
  intro e h
  unfold q_E at h
  by_cases c : 4 ≤ d
  · rw [if_pos c] at h; cases h
  · rw [if_neg c] at h; cases h; exact q_ex_good hg _
/-! the stack machine -/
def ev1 (env : Nat → Int) (c : Int) (S : List Int) : List Int := if c = 2126 then (match S with
    | x :: S => z_neg x :: S
    | [] => []) else if 2000 ≤ c then (match S with
    | y :: x :: S => q_op (c - 2000) x y :: S
    | S => S) else (if c < 1000 then c else if c - 1000 < 7 then env (c - 1000).toNat else 0) :: S
def ev (env : Nat → Int) : List Int → List Int → List Int
  | [], S => S
  | c :: cs, S => ev env cs (ev1 env c S)
theorem ev_app (env : Nat → Int) : ∀ (a b S : List Int), ev env (a ++ b) S = ev env b (ev env a S)
  | [], b, S => rfl
  | c :: a, b, S => ev_app env a b (ev1 env c S)
/-- the code makes this number -/
def evs (env : Nat → Int) (c : List Int) (v : Int) : Prop := ∀ S, ev env c S = v :: S
theorem evs_op {env : Nat → Int} {a b : List Int} {c v w : Int} (ha : evs env a v) (hb : evs env b w) (hc : 0 ≤ c) (hc2 : ¬ c = 126) : evs env (a ++ b ++ [2000 + c]) (q_op c v w) := by
  intro S
  rw [ev_app, ev_app, ha, hb]
  show ev1 env (2000 + c) (w :: v :: S) = _
  unfold ev1
  rw [if_neg (by omega), if_pos (by omega)]
  simp only
  rw [show 2000 + c - 2000 = c by omega]
theorem z_neg_b (x : Int) : -2147483648 ≤ z_neg x ∧ z_neg x ≤ 2147483647 := i32_rng _
theorem z_neg_neg {x : Int} (h1 : -2147483648 ≤ x) (h2 : x ≤ 2147483647) : z_neg (z_neg x) = x := by
  unfold z_neg
  rw [Int32.ofInt_toInt, Int32.neg_neg, zr_of h1 h2]
def q_ng : Nat → Int → Int
  | 0, v => v
  | n + 1, v => z_neg (q_ng n v)
theorem q_ng_b {v : Int} (h1 : -2147483648 ≤ v) (h2 : v ≤ 2147483647) : ∀ n, -2147483648 ≤ q_ng n v ∧ q_ng n v ≤ 2147483647
  | 0 => ⟨h1, h2⟩
  | n + 1 => z_neg_b _
theorem q_ng_2 {v : Int} (h1 : -2147483648 ≤ v) (h2 : v ≤ 2147483647) : ∀ n, q_ng n v = (if n % 2 = 1 then z_neg v else v)
  | 0 => rfl
  | 1 => rfl
  | n + 2 => by
    show z_neg (z_neg (q_ng n v)) = _
    have b := q_ng_b h1 h2 n
    rw [z_neg_neg b.1 b.2, q_ng_2 h1 h2 n, show (n + 2) % 2 = n % 2 by omega]
theorem evs_ng {env : Nat → Int} {a : List Int} {v : Int} (ha : evs env a v) (h1 : -2147483648 ≤ v) (h2 : v ≤ 2147483647) (n : Nat) : evs env (a ++ (if n % 2 = 1 then [2126] else [])) (q_ng n v) := by
  intro S
  rw [ev_app, ha, q_ng_2 h1 h2]
  by_cases c : n % 2 = 1
  · rw [if_pos c, if_pos c]; rfl
  · rw [if_neg c, if_neg c]; rfl
end
section
/-! STRETCHES of the rule -/
theorem s_rrd_0  (m : z_M) : z_R 40 (m, 0, [(2, 116)], []) = (z_R 20 (m, 0, [(2, 1), (0, 40)], [])).bind fun qq => z_R 40 (qq.1, 9, [(2, 116)], qq.2.toList ++ []) :=
  have hK : kt_at 40 = kt_40 := rfl
  (z_R_run hK (n := 2) (g' := (m, 4, [(2, 116)], [(2, 1)])) rfl).trans ((z_R_run hK (n := 1) (g' := (m, 6, [(2, 116)], [(0, 40), (2, 1)])) rfl).trans (z_R_call hK rfl rfl rfl rfl rfl))
theorem s_rrd_9  (m : z_M) : z_R 40 (m, 9, [(2, 116)], []) = (z_R 41 (z_up m 116 2 0, 0, [(2, 116), (0, 0), (9, 0), (9, 0)], [])).bind fun qq => z_R 40 (qq.1, 19, [(2, 116)], qq.2.toList ++ []) :=
  have hK : kt_at 40 = kt_40 := rfl
  (z_R_run hK (n := 5) (g' := (z_up m 116 2 0, 16, [(2, 116)], [(0, 0), (2, 116)])) rfl).trans (z_R_call hK rfl rfl rfl rfl rfl)
theorem s_rrd_19  (m : z_M) (u : Int) : z_R 40 (m, 19, [(2, 116)], [(0, u)]) = if u = 0 then some (m, some (0, 0)) else (z_R 28 (m, 0, [(2, 1)], [])).bind fun qq => z_R 40 (qq.1, 29, [(2, 116)], qq.2.toList ++ []) :=
  have hK : kt_at 40 = kt_40 := rfl
  z_R_ifd hK (c := u = 0) (p1 := 36) (p2 := 22) rfl rfl rfl (fun h1 => (z_R_run hK (n := 1) (g' := (m, 37, [(2, 116)], [(0, 0)])) rfl).trans (z_R_ret hK rfl rfl rfl)) (fun h1 => (z_R_run hK (n := 2) (g' := (m, 26, [(2, 116)], [(2, 1)])) rfl).trans (z_R_call hK rfl rfl rfl rfl rfl))
theorem s_rrd_29  (m : z_M) (u : Int) : z_R 40 (m, 29, [(2, 116)], [(0, u)]) = if u = 0 then some (m, some (0, 0)) else some (m, some (0, 1)) :=
  have hK : kt_at 40 = kt_40 := rfl
  z_R_ifd hK (c := u = 0) (p1 := 36) (p2 := 32) rfl rfl rfl (fun h1 => (z_R_run hK (n := 1) (g' := (m, 37, [(2, 116)], [(0, 0)])) rfl).trans (z_R_ret hK rfl rfl rfl)) (fun h1 => (z_R_run hK (n := 2) (g' := (m, 37, [(2, 116)], [(0, 1)])) rfl).trans (z_R_ret hK rfl rfl rfl))
theorem s_rex_0  (m : z_M) (d : Int) (h_d : 0 ≤ d ∧ d ≤ 4) : z_R 41 (m, 0, [(2, 116), (0, d), (9, 0), (9, 0)], []) = (z_R 42 (m, 0, [(2, 116), (0, d), (0, 0), (9, 0), (9, 0), (9, 0)], [])).bind fun qq => z_R 41 (qq.1, 6, [(2, 116), (0, d), (9, 0), (9, 0)], qq.2.toList ++ []) :=
  have hK : kt_at 41 = kt_41 := rfl
  (z_R_run hK (n := 3) (g' := (m, 3, [(2, 116), (0, d), (9, 0), (9, 0)], [(0, 0), (0, d), (2, 116)])) rfl).trans (z_R_call hK rfl rfl rfl rfl rfl)
theorem s_rex_6  (m : z_M) (x1 : Int) (u : Int) (h_x1 : 0 ≤ x1 ∧ x1 ≤ 4) : z_R 41 (m, 6, [(2, 116), (0, x1), (9, 0), (9, 0)], [(0, u)]) = (z_R 24 (m, 0, [(2, 1)], [])).bind fun qq => z_R 41 (qq.1, 14, [(2, 116), (0, x1), (0, u), (9, 0)], qq.2.toList ++ []) :=
  have hK : kt_at 41 = kt_41 := rfl
  (z_R_run hK (n := 3) (g' := (m, 11, [(2, 116), (0, x1), (0, u), (9, 0)], [(2, 1)])) rfl).trans (z_R_call hK rfl rfl rfl rfl rfl)
theorem s_rex_14  (m : z_M) (x1 : Int) (x2 : Int) (u : Int) (h_x1 : 0 ≤ x1 ∧ x1 ≤ 4) : z_R 41 (m, 14, [(2, 116), (0, x1), (0, x2), (9, 0)], [(0, u)]) = if x2 = 0 then some (m, some (0, x2)) else if u = 60 then (z_R 26 (m, 0, [(2, 1), (0, 1)], [])).bind fun qq => z_R 41 (qq.1, 49, [(2, 116), (0, x1), (0, x2), (0, u)], qq.2.toList ++ []) else if u = 62 then (z_R 26 (m, 0, [(2, 1), (0, 1)], [])).bind fun qq => z_R 41 (qq.1, 49, [(2, 116), (0, x1), (0, x2), (0, u)], qq.2.toList ++ []) else if u = 61 then (z_R 26 (m, 0, [(2, 1), (0, 1)], [])).bind fun qq => z_R 41 (qq.1, 49, [(2, 116), (0, x1), (0, x2), (0, u)], qq.2.toList ++ []) else (z_R 26 (m, 0, [(2, 1), (0, 0)], [])).bind fun qq => z_R 41 (qq.1, 49, [(2, 116), (0, x1), (0, x2), (0, u)], qq.2.toList ++ []) :=
  have hK : kt_at 41 = kt_41 := rfl
  (z_R_run hK (n := 2) (g' := (m, 16, [(2, 116), (0, x1), (0, x2), (0, u)], [(0, x2)])) rfl).trans (z_R_ifd hK (c := x2 = 0) (p1 := 68) (p2 := 19) rfl rfl rfl (fun h1 => (z_R_run hK (n := 1) (g' := (m, 69, [(2, 116), (0, x1), (0, x2), (0, u)], [(0, x2)])) rfl).trans (z_R_ret hK rfl rfl rfl)) (fun h1 => (z_R_run hK (n := 2) (g' := (m, 23, [(2, 116), (0, x1), (0, x2), (0, u)], [(2, 1)])) rfl).trans ((z_R_run hK (n := 2) (g' := (m, 26, [(2, 116), (0, x1), (0, x2), (0, u)], [(0, 60), (0, u), (2, 1)])) rfl).trans (z_R_ifd hK (c := u = 60) (p1 := 41) (p2 := 29) rfl rfl rfl (fun h2 => (z_R_run hK (n := 2) (g' := (m, 46, [(2, 116), (0, x1), (0, x2), (0, u)], [(0, 1), (2, 1)])) rfl).trans (z_R_call hK rfl rfl rfl rfl rfl)) (fun h2 => (z_R_run hK (n := 2) (g' := (m, 32, [(2, 116), (0, x1), (0, x2), (0, u)], [(0, 62), (0, u), (2, 1)])) rfl).trans (z_R_ifd hK (c := u = 62) (p1 := 41) (p2 := 35) rfl rfl rfl (fun h3 => (z_R_run hK (n := 2) (g' := (m, 46, [(2, 116), (0, x1), (0, x2), (0, u)], [(0, 1), (2, 1)])) rfl).trans (z_R_call hK rfl rfl rfl rfl rfl)) (fun h3 => (z_R_run hK (n := 2) (g' := (m, 38, [(2, 116), (0, x1), (0, x2), (0, u)], [(0, 61), (0, u), (2, 1)])) rfl).trans (z_R_ifnd hK (c := u = 61) (p1 := 45) (p2 := 41) rfl rfl rfl (fun h4 => (z_R_run hK (n := 1) (g' := (m, 46, [(2, 116), (0, x1), (0, x2), (0, u)], [(0, 0), (2, 1)])) rfl).trans (z_R_call hK rfl rfl rfl rfl rfl)) (fun h4 => (z_R_run hK (n := 2) (g' := (m, 46, [(2, 116), (0, x1), (0, x2), (0, u)], [(0, 1), (2, 1)])) rfl).trans (z_R_call hK rfl rfl rfl rfl rfl))))))))))
theorem s_rex_49  (m : z_M) (x1 : Int) (x2 : Int) (x3 : Int) (u : Int) : z_R 41 (m, 49, [(2, 116), (0, x1), (0, x2), (0, x3)], [(0, u)]) = if u = 0 then some (m, some (0, x2)) else (z_R 42 (m, 0, [(2, 116), (0, x1), (0, 0), (9, 0), (9, 0), (9, 0)], [])).bind fun qq => z_R 41 (qq.1, 58, [(2, 116), (0, x1), (0, x2), (0, x3)], qq.2.toList ++ []) :=
  have hK : kt_at 41 = kt_41 := rfl
  z_R_ifd hK (c := u = 0) (p1 := 68) (p2 := 52) rfl rfl rfl (fun h1 => (z_R_run hK (n := 1) (g' := (m, 69, [(2, 116), (0, x1), (0, x2), (0, x3)], [(0, x2)])) rfl).trans (z_R_ret hK rfl rfl rfl)) (fun h1 => (z_R_run hK (n := 3) (g' := (m, 55, [(2, 116), (0, x1), (0, x2), (0, x3)], [(0, 0), (0, x1), (2, 116)])) rfl).trans (z_R_call hK rfl rfl rfl rfl rfl))
theorem s_rex_58  (m : z_M) (x1 : Int) (x2 : Int) (x3 : Int) (u : Int) : z_R 41 (m, 58, [(2, 116), (0, x1), (0, x2), (0, x3)], [(0, u)]) = (z_R 48 (m, 0, [(2, 116), (0, z_add 2000 x3)], [])).bind fun qq => z_R 41 (qq.1, 68, [(2, 116), (0, x1), (0, u), (0, x3)], qq.2.toList ++ []) :=
  have hK : kt_at 41 = kt_41 := rfl
  (z_R_run hK (n := 5) (g' := (m, 65, [(2, 116), (0, x1), (0, u), (0, x3)], [(0, z_add 2000 x3), (2, 116)])) rfl).trans (z_R_call hK rfl rfl rfl rfl rfl)
theorem s_rex_68  (m : z_M) (x1 : Int) (x2 : Int) (x3 : Int) : z_R 41 (m, 68, [(2, 116), (0, x1), (0, x2), (0, x3)], []) = some (m, some (0, x2)) :=
  have hK : kt_at 41 = kt_41 := rfl
  (z_R_run hK (n := 1) (g' := (m, 69, [(2, 116), (0, x1), (0, x2), (0, x3)], [(0, x2)])) rfl).trans (z_R_ret hK rfl rfl rfl)
theorem s_rch_0  (m : z_M) (d : Int) (b : Int) (h_d : 0 ≤ d ∧ d ≤ 4) : z_R 42 (m, 0, [(2, 116), (0, d), (0, b), (9, 0), (9, 0), (9, 0)], []) = (z_R 43 (m, 0, [(2, 116), (0, d), (0, b)], [])).bind fun qq => z_R 42 (qq.1, 6, [(2, 116), (0, d), (0, b), (9, 0), (9, 0), (9, 0)], qq.2.toList ++ []) :=
  have hK : kt_at 42 = kt_42 := rfl
  (z_R_run hK (n := 3) (g' := (m, 3, [(2, 116), (0, d), (0, b), (9, 0), (9, 0), (9, 0)], [(0, b), (0, d), (2, 116)])) rfl).trans (z_R_call hK rfl rfl rfl rfl rfl)
theorem s_rch_6  (m : z_M) (x1 : Int) (x2 : Int) (u : Int) : z_R 42 (m, 6, [(2, 116), (0, x1), (0, x2), (9, 0), (9, 0), (9, 0)], [(0, u)]) = (z_R 24 (m, 0, [(2, 1)], [])).bind fun qq => z_R 42 (qq.1, 14, [(2, 116), (0, x1), (0, x2), (0, u), (9, 0), (9, 0)], qq.2.toList ++ []) :=
  have hK : kt_at 42 = kt_42 := rfl
  (z_R_run hK (n := 3) (g' := (m, 11, [(2, 116), (0, x1), (0, x2), (0, u), (9, 0), (9, 0)], [(2, 1)])) rfl).trans (z_R_call hK rfl rfl rfl rfl rfl)
theorem s_rch_14  (m : z_M) (x1 : Int) (x2 : Int) (x3 : Int) (u : Int) : z_R 42 (m, 14, [(2, 116), (0, x1), (0, x2), (0, x3), (9, 0), (9, 0)], [(0, u)]) = z_R 42 (m, 19, [(2, 116), (0, x1), (0, x2), (0, x3), (0, u), (0, 0)], []) :=
  have hK : kt_at 42 = kt_42 := rfl
  (z_R_run hK (n := 3) (g' := (m, 19, [(2, 116), (0, x1), (0, x2), (0, x3), (0, u), (0, 0)], [])) rfl).trans (rfl)
theorem s_rch_19  (m : z_M) (x1 : Int) (x2 : Int) (x3 : Int) (x4 : Int) (x5 : Int) : z_R 42 (m, 19, [(2, 116), (0, x1), (0, x2), (0, x3), (0, x4), (0, x5)], []) = if 40 ≤ x5 then some (m, some (0, x3)) else if x3 = 0 then some (m, some (0, x3)) else (z_R 51 (m, 0, [(0, x4), (0, x2)], [])).bind fun qq => z_R 42 (qq.1, 40, [(2, 116), (0, x1), (0, x2), (0, x3), (0, x4), (0, x5)], qq.2.toList ++ [(2, 1)]) :=
  have hK : kt_at 42 = kt_42 := rfl
  (z_R_run hK (n := 2) (g' := (m, 23, [(2, 116), (0, x1), (0, x2), (0, x3), (0, x4), (0, x5)], [(0, 40), (0, x5)])) rfl).trans (z_R_ifd hK (c := 40 ≤ x5) (p1 := 78) (p2 := 26) rfl rfl rfl (fun h1 => (z_R_run hK (n := 1) (g' := (m, 79, [(2, 116), (0, x1), (0, x2), (0, x3), (0, x4), (0, x5)], [(0, x3)])) rfl).trans (z_R_ret hK rfl rfl rfl)) (fun h1 => (z_R_run hK (n := 1) (g' := (m, 27, [(2, 116), (0, x1), (0, x2), (0, x3), (0, x4), (0, x5)], [(0, x3)])) rfl).trans (z_R_ifd hK (c := x3 = 0) (p1 := 78) (p2 := 30) rfl rfl rfl (fun h2 => (z_R_run hK (n := 1) (g' := (m, 79, [(2, 116), (0, x1), (0, x2), (0, x3), (0, x4), (0, x5)], [(0, x3)])) rfl).trans (z_R_ret hK rfl rfl rfl)) (fun h2 => (z_R_run hK (n := 2) (g' := (m, 34, [(2, 116), (0, x1), (0, x2), (0, x3), (0, x4), (0, x5)], [(2, 1)])) rfl).trans ((z_R_run hK (n := 2) (g' := (m, 37, [(2, 116), (0, x1), (0, x2), (0, x3), (0, x4), (0, x5)], [(0, x2), (0, x4), (2, 1)])) rfl).trans (z_R_call hK rfl rfl rfl rfl rfl))))))
theorem s_rch_40  (m : z_M) (x1 : Int) (x2 : Int) (x3 : Int) (x4 : Int) (x5 : Int) (u : Int) : z_R 42 (m, 40, [(2, 116), (0, x1), (0, x2), (0, x3), (0, x4), (0, x5)], [(0, u), (2, 1)]) = (z_R 26 (m, 0, [(2, 1), (0, u)], [])).bind fun qq => z_R 42 (qq.1, 43, [(2, 116), (0, x1), (0, x2), (0, x3), (0, x4), (0, x5)], qq.2.toList ++ []) :=
  have hK : kt_at 42 = kt_42 := rfl
  z_R_call hK rfl rfl rfl rfl rfl
theorem s_rch_43  (m : z_M) (x1 : Int) (x2 : Int) (x3 : Int) (x4 : Int) (x5 : Int) (u : Int) : z_R 42 (m, 43, [(2, 116), (0, x1), (0, x2), (0, x3), (0, x4), (0, x5)], [(0, u)]) = if u = 0 then some (m, some (0, x3)) else (z_R 43 (m, 0, [(2, 116), (0, x1), (0, x2)], [])).bind fun qq => z_R 42 (qq.1, 52, [(2, 116), (0, x1), (0, x2), (0, x3), (0, x4), (0, x5)], qq.2.toList ++ []) :=
  have hK : kt_at 42 = kt_42 := rfl
  z_R_ifd hK (c := u = 0) (p1 := 78) (p2 := 46) rfl rfl rfl (fun h1 => (z_R_run hK (n := 1) (g' := (m, 79, [(2, 116), (0, x1), (0, x2), (0, x3), (0, x4), (0, x5)], [(0, x3)])) rfl).trans (z_R_ret hK rfl rfl rfl)) (fun h1 => (z_R_run hK (n := 3) (g' := (m, 49, [(2, 116), (0, x1), (0, x2), (0, x3), (0, x4), (0, x5)], [(0, x2), (0, x1), (2, 116)])) rfl).trans (z_R_call hK rfl rfl rfl rfl rfl))
theorem s_rch_52  (m : z_M) (x1 : Int) (x2 : Int) (x3 : Int) (x4 : Int) (x5 : Int) (u : Int) : z_R 42 (m, 52, [(2, 116), (0, x1), (0, x2), (0, x3), (0, x4), (0, x5)], [(0, u)]) = (z_R 48 (m, 0, [(2, 116), (0, z_add 2000 x4)], [])).bind fun qq => z_R 42 (qq.1, 63, [(2, 116), (0, x1), (0, x2), (0, u), (0, x4), (0, x5)], qq.2.toList ++ []) :=
  have hK : kt_at 42 = kt_42 := rfl
  (z_R_run hK (n := 5) (g' := (m, 60, [(2, 116), (0, x1), (0, x2), (0, u), (0, x4), (0, x5)], [(0, z_add 2000 x4), (2, 116)])) rfl).trans (z_R_call hK rfl rfl rfl rfl rfl)
theorem s_rch_63  (m : z_M) (x1 : Int) (x2 : Int) (x3 : Int) (x4 : Int) (x5 : Int) : z_R 42 (m, 63, [(2, 116), (0, x1), (0, x2), (0, x3), (0, x4), (0, x5)], []) = (z_R 24 (m, 0, [(2, 1)], [])).bind fun qq => z_R 42 (qq.1, 70, [(2, 116), (0, x1), (0, x2), (0, x3), (0, x4), (0, x5)], qq.2.toList ++ []) :=
  have hK : kt_at 42 = kt_42 := rfl
  (z_R_run hK (n := 2) (g' := (m, 67, [(2, 116), (0, x1), (0, x2), (0, x3), (0, x4), (0, x5)], [(2, 1)])) rfl).trans (z_R_call hK rfl rfl rfl rfl rfl)
theorem s_rch_70  (m : z_M) (x1 : Int) (x2 : Int) (x3 : Int) (x4 : Int) (x5 : Int) (u : Int) : z_R 42 (m, 70, [(2, 116), (0, x1), (0, x2), (0, x3), (0, x4), (0, x5)], [(0, u)]) = z_R 42 (m, 19, [(2, 116), (0, x1), (0, x2), (0, x3), (0, u), (0, z_add x5 1)], []) :=
  have hK : kt_at 42 = kt_42 := rfl
  (z_R_run hK (n := 3) (g' := (m, 19, [(2, 116), (0, x1), (0, x2), (0, x3), (0, u), (0, z_add x5 1)], [])) rfl).trans (rfl)
theorem s_rpt_0  (m : z_M) (d : Int) (b : Int) : z_R 43 (m, 0, [(2, 116), (0, d), (0, b)], []) = if b = 0 then (z_R 42 (m, 0, [(2, 116), (0, d), (0, 1), (9, 0), (9, 0), (9, 0)], [])).bind fun qq => z_R 43 (qq.1, 18, [(2, 116), (0, d), (0, b)], qq.2.toList ++ []) else (z_R 44 (m, 0, [(2, 116), (0, d), (9, 0), (9, 0)], [])).bind fun qq => z_R 43 (qq.1, 9, [(2, 116), (0, d), (0, b)], qq.2.toList ++ []) :=
  have hK : kt_at 43 = kt_43 := rfl
  (z_R_run hK (n := 1) (g' := (m, 1, [(2, 116), (0, d), (0, b)], [(0, b)])) rfl).trans (z_R_ifd hK (c := b = 0) (p1 := 12) (p2 := 4) rfl rfl rfl (fun h1 => (z_R_run hK (n := 3) (g' := (m, 15, [(2, 116), (0, d), (0, b)], [(0, 1), (0, d), (2, 116)])) rfl).trans (z_R_call hK rfl rfl rfl rfl rfl)) (fun h1 => (z_R_run hK (n := 2) (g' := (m, 6, [(2, 116), (0, d), (0, b)], [(0, d), (2, 116)])) rfl).trans (z_R_call hK rfl rfl rfl rfl rfl)))
theorem s_rpt_9  (m : z_M) (x1 : Int) (x2 : Int) (u : Int) : z_R 43 (m, 9, [(2, 116), (0, x1), (0, x2)], [(0, u)]) = some (m, some (0, u)) :=
  have hK : kt_at 43 = kt_43 := rfl
  (z_R_run hK (n := 1) (g' := (m, 18, [(2, 116), (0, x1), (0, x2)], [(0, u)])) rfl).trans (z_R_ret hK rfl rfl rfl)
theorem s_rpt_18  (m : z_M) (x1 : Int) (x2 : Int) (u : Int) : z_R 43 (m, 18, [(2, 116), (0, x1), (0, x2)], [(0, u)]) = some (m, some (0, u)) :=
  have hK : kt_at 43 = kt_43 := rfl
  z_R_ret hK rfl rfl rfl
theorem s_rsg_0  (m : z_M) (d : Int) : z_R 44 (m, 0, [(2, 116), (0, d), (9, 0), (9, 0)], []) = z_R 44 (m, 4, [(2, 116), (0, d), (0, 0), (0, 0)], []) :=
  have hK : kt_at 44 = kt_44 := rfl
  (z_R_run hK (n := 4) (g' := (m, 4, [(2, 116), (0, d), (0, 0), (0, 0)], [])) rfl).trans (rfl)
theorem s_rsg_4  (m : z_M) (x1 : Int) (x2 : Int) (x3 : Int) : z_R 44 (m, 4, [(2, 116), (0, x1), (0, x2), (0, x3)], []) = if 40 ≤ x3 then (z_R 45 (m, 0, [(2, 116), (0, x1), (9, 0), (9, 0)], [])).bind fun qq => z_R 44 (qq.1, 43, [(2, 116), (0, x1), (0, x2), (0, x3)], qq.2.toList ++ []) else (z_R 27 (m, 0, [(2, 1), (0, 45)], [])).bind fun qq => z_R 44 (qq.1, 19, [(2, 116), (0, x1), (0, x2), (0, x3)], qq.2.toList ++ []) :=
  have hK : kt_at 44 = kt_44 := rfl
  (z_R_run hK (n := 2) (g' := (m, 7, [(2, 116), (0, x1), (0, x2), (0, x3)], [(0, 40), (0, x3)])) rfl).trans (z_R_ifd hK (c := 40 ≤ x3) (p1 := 38) (p2 := 10) rfl rfl rfl (fun h1 => (z_R_run hK (n := 2) (g' := (m, 40, [(2, 116), (0, x1), (0, x2), (0, x3)], [(0, x1), (2, 116)])) rfl).trans (z_R_call hK rfl rfl rfl rfl rfl)) (fun h1 => (z_R_run hK (n := 2) (g' := (m, 14, [(2, 116), (0, x1), (0, x2), (0, x3)], [(2, 1)])) rfl).trans ((z_R_run hK (n := 1) (g' := (m, 16, [(2, 116), (0, x1), (0, x2), (0, x3)], [(0, 45), (2, 1)])) rfl).trans (z_R_call hK rfl rfl rfl rfl rfl))))
theorem s_rsg_19  (m : z_M) (x1 : Int) (x2 : Int) (x3 : Int) (u : Int) : z_R 44 (m, 19, [(2, 116), (0, x1), (0, x2), (0, x3)], [(0, u)]) = if u = 0 then (z_R 45 (m, 0, [(2, 116), (0, x1), (9, 0), (9, 0)], [])).bind fun qq => z_R 44 (qq.1, 43, [(2, 116), (0, x1), (0, x2), (0, x3)], qq.2.toList ++ []) else if x2 = 0 then z_R 44 (m, 4, [(2, 116), (0, x1), (0, 1), (0, z_add x3 1)], []) else z_R 44 (m, 4, [(2, 116), (0, x1), (0, 0), (0, z_add x3 1)], []) :=
  have hK : kt_at 44 = kt_44 := rfl
  z_R_ifd hK (c := u = 0) (p1 := 38) (p2 := 22) rfl rfl rfl (fun h1 => (z_R_run hK (n := 2) (g' := (m, 40, [(2, 116), (0, x1), (0, x2), (0, x3)], [(0, x1), (2, 116)])) rfl).trans (z_R_call hK rfl rfl rfl rfl rfl)) (fun h1 => (z_R_run hK (n := 1) (g' := (m, 23, [(2, 116), (0, x1), (0, x2), (0, x3)], [(0, x2)])) rfl).trans (z_R_ifnd hK (c := x2 = 0) (p1 := 30) (p2 := 26) rfl rfl rfl (fun h2 => (z_R_run hK (n := 4) (g' := (m, 4, [(2, 116), (0, x1), (0, 0), (0, z_add x3 1)], [])) rfl).trans (rfl)) (fun h2 => (z_R_run hK (n := 5) (g' := (m, 4, [(2, 116), (0, x1), (0, 1), (0, z_add x3 1)], [])) rfl).trans (rfl))))
theorem s_rsg_43  (m : z_M) (x1 : Int) (x2 : Int) (x3 : Int) (u : Int) : z_R 44 (m, 43, [(2, 116), (0, x1), (0, x2), (0, x3)], [(0, u)]) = if x2 = 0 then some (m, some (0, u)) else (z_R 48 (m, 0, [(2, 116), (0, 2126)], [])).bind fun qq => z_R 44 (qq.1, 55, [(2, 116), (0, x1), (0, x2), (0, u)], qq.2.toList ++ []) :=
  have hK : kt_at 44 = kt_44 := rfl
  (z_R_run hK (n := 2) (g' := (m, 45, [(2, 116), (0, x1), (0, x2), (0, u)], [(0, x2)])) rfl).trans (z_R_ifd hK (c := x2 = 0) (p1 := 55) (p2 := 48) rfl rfl rfl (fun h1 => (z_R_run hK (n := 1) (g' := (m, 56, [(2, 116), (0, x1), (0, x2), (0, u)], [(0, u)])) rfl).trans (z_R_ret hK rfl rfl rfl)) (fun h1 => (z_R_run hK (n := 2) (g' := (m, 52, [(2, 116), (0, x1), (0, x2), (0, u)], [(0, 2126), (2, 116)])) rfl).trans (z_R_call hK rfl rfl rfl rfl rfl)))
theorem s_rsg_55  (m : z_M) (x1 : Int) (x2 : Int) (x3 : Int) : z_R 44 (m, 55, [(2, 116), (0, x1), (0, x2), (0, x3)], []) = some (m, some (0, x3)) :=
  have hK : kt_at 44 = kt_44 := rfl
  (z_R_run hK (n := 1) (g' := (m, 56, [(2, 116), (0, x1), (0, x2), (0, x3)], [(0, x3)])) rfl).trans (z_R_ret hK rfl rfl rfl)
theorem s_rth_0  (m : z_M) (d : Int) : z_R 45 (m, 0, [(2, 116), (0, d), (9, 0), (9, 0)], []) = (z_R 24 (m, 0, [(2, 1)], [])).bind fun qq => z_R 45 (qq.1, 7, [(2, 116), (0, d), (9, 0), (9, 0)], qq.2.toList ++ []) :=
  have hK : kt_at 45 = kt_45 := rfl
  (z_R_run hK (n := 2) (g' := (m, 4, [(2, 116), (0, d), (9, 0), (9, 0)], [(2, 1)])) rfl).trans (z_R_call hK rfl rfl rfl rfl rfl)
theorem s_rth_7  (m : z_M) (x1 : Int) (u : Int) : z_R 45 (m, 7, [(2, 116), (0, x1), (9, 0), (9, 0)], [(0, u)]) = if u = 40 then (z_R 46 (m, 0, [(2, 116), (0, x1)], [])).bind fun qq => z_R 45 (qq.1, 19, [(2, 116), (0, x1), (0, u), (9, 0)], qq.2.toList ++ []) else (z_R 25 (m, 0, [(0, u)], [])).bind fun qq => z_R 45 (qq.1, 24, [(2, 116), (0, x1), (0, u), (9, 0)], qq.2.toList ++ []) :=
  have hK : kt_at 45 = kt_45 := rfl
  (z_R_run hK (n := 3) (g' := (m, 11, [(2, 116), (0, x1), (0, u), (9, 0)], [(0, 40), (0, u)])) rfl).trans (z_R_ifnd hK (c := u = 40) (p1 := 20) (p2 := 14) rfl rfl rfl (fun h1 => (z_R_run hK (n := 1) (g' := (m, 21, [(2, 116), (0, x1), (0, u), (9, 0)], [(0, u)])) rfl).trans (z_R_call hK rfl rfl rfl rfl rfl)) (fun h1 => (z_R_run hK (n := 2) (g' := (m, 16, [(2, 116), (0, x1), (0, u), (9, 0)], [(0, x1), (2, 116)])) rfl).trans (z_R_call hK rfl rfl rfl rfl rfl)))
theorem s_rth_19  (m : z_M) (x1 : Int) (x2 : Int) (u : Int) : z_R 45 (m, 19, [(2, 116), (0, x1), (0, x2), (9, 0)], [(0, u)]) = some (m, some (0, u)) :=
  have hK : kt_at 45 = kt_45 := rfl
  z_R_ret hK rfl rfl rfl
theorem s_rth_24  (m : z_M) (x1 : Int) (x2 : Int) (u : Int) : z_R 45 (m, 24, [(2, 116), (0, x1), (0, x2), (9, 0)], [(0, u)]) = if u = (-1) then if x2 = (-1) then (z_R 26 (m, 0, [(2, 1), (0, 0)], [])).bind fun qq => z_R 45 (qq.1, 67, [(2, 116), (0, x1), (0, x2), (0, (-1))], qq.2.toList ++ []) else if z_idx (z_i2c x2) < 0 then (z_R 26 (m, 0, [(2, 1), (0, 0)], [])).bind fun qq => z_R 45 (qq.1, 67, [(2, 116), (0, x1), (0, x2), (0, z_idx (z_i2c x2))], qq.2.toList ++ []) else (z_R 26 (m, 0, [(2, 1), (0, 1)], [])).bind fun qq => z_R 45 (qq.1, 67, [(2, 116), (0, x1), (0, x2), (0, z_idx (z_i2c x2))], qq.2.toList ++ []) else (z_R 47 (m, 0, [(2, 116), (9, 0), (9, 0), (9, 0)], [])).bind fun qq => z_R 45 (qq.1, 32, [(2, 116), (0, x1), (0, x2), (9, 0)], qq.2.toList ++ []) :=
  have hK : kt_at 45 = kt_45 := rfl
  (z_R_run hK (n := 1) (g' := (m, 25, [(2, 116), (0, x1), (0, x2), (9, 0)], [(0, (-1)), (0, u)])) rfl).trans (z_R_ifd hK (c := u = (-1)) (p1 := 34) (p2 := 28) rfl rfl rfl (fun h1 => (z_R_run hK (n := 2) (g' := (m, 36, [(2, 116), (0, x1), (0, x2), (9, 0)], [(0, (-1)), (0, x2)])) rfl).trans (z_R_ifnd hK (c := x2 = (-1)) (p1 := 43) (p2 := 39) rfl rfl rfl (fun h2 => (z_R_run hK (n := 7) (g' := (m, 55, [(2, 116), (0, x1), (0, x2), (0, z_idx (z_i2c x2))], [(2, 1)])) rfl).trans ((z_R_run hK (n := 1) (g' := (m, 56, [(2, 116), (0, x1), (0, x2), (0, z_idx (z_i2c x2))], [(0, z_idx (z_i2c x2)), (2, 1)])) rfl).trans (z_R_ifd hK (c := z_idx (z_i2c x2) < 0) (p1 := 63) (p2 := 59) rfl rfl rfl (fun h3 => (z_R_run hK (n := 1) (g' := (m, 64, [(2, 116), (0, x1), (0, x2), (0, z_idx (z_i2c x2))], [(0, 0), (2, 1)])) rfl).trans (z_R_call hK rfl rfl rfl rfl rfl)) (fun h3 => (z_R_run hK (n := 2) (g' := (m, 64, [(2, 116), (0, x1), (0, x2), (0, z_idx (z_i2c x2))], [(0, 1), (2, 1)])) rfl).trans (z_R_call hK rfl rfl rfl rfl rfl))))) (fun h2 => (z_R_run hK (n := 5) (g' := (m, 55, [(2, 116), (0, x1), (0, x2), (0, (-1))], [(2, 1)])) rfl).trans ((z_R_run hK (n := 3) (g' := (m, 64, [(2, 116), (0, x1), (0, x2), (0, (-1))], [(0, 0), (2, 1)])) rfl).trans (z_R_call hK rfl rfl rfl rfl rfl))))) (fun h1 => (z_R_run hK (n := 1) (g' := (m, 29, [(2, 116), (0, x1), (0, x2), (9, 0)], [(2, 116)])) rfl).trans (z_R_call hK rfl rfl rfl rfl rfl)))
theorem s_rth_32  (m : z_M) (x1 : Int) (x2 : Int) : z_R 45 (m, 32, [(2, 116), (0, x1), (0, x2), (9, 0)], []) = some (m, some (0, 1)) :=
  have hK : kt_at 45 = kt_45 := rfl
  (z_R_run hK (n := 1) (g' := (m, 33, [(2, 116), (0, x1), (0, x2), (9, 0)], [(0, 1)])) rfl).trans (z_R_ret hK rfl rfl rfl)
theorem s_rth_67  (m : z_M) (x1 : Int) (x2 : Int) (x3 : Int) (u : Int) : z_R 45 (m, 67, [(2, 116), (0, x1), (0, x2), (0, x3)], [(0, u)]) = if u = 0 then some (m, some (0, 0)) else (z_R 48 (m, 0, [(2, 116), (0, z_add 1000 x3)], [])).bind fun qq => z_R 45 (qq.1, 81, [(2, 116), (0, x1), (0, x2), (0, x3)], qq.2.toList ++ []) :=
  have hK : kt_at 45 = kt_45 := rfl
  z_R_ifnd hK (c := u = 0) (p1 := 72) (p2 := 70) rfl rfl rfl (fun h1 => (z_R_run hK (n := 4) (g' := (m, 78, [(2, 116), (0, x1), (0, x2), (0, x3)], [(0, z_add 1000 x3), (2, 116)])) rfl).trans (z_R_call hK rfl rfl rfl rfl rfl)) (fun h1 => (z_R_run hK (n := 1) (g' := (m, 71, [(2, 116), (0, x1), (0, x2), (0, x3)], [(0, 0)])) rfl).trans (z_R_ret hK rfl rfl rfl))
theorem s_rth_81  (m : z_M) (x1 : Int) (x2 : Int) (x3 : Int) : z_R 45 (m, 81, [(2, 116), (0, x1), (0, x2), (0, x3)], []) = some (m, some (0, 1)) :=
  have hK : kt_at 45 = kt_45 := rfl
  (z_R_run hK (n := 1) (g' := (m, 82, [(2, 116), (0, x1), (0, x2), (0, x3)], [(0, 1)])) rfl).trans (z_R_ret hK rfl rfl rfl)
theorem s_rbr_0  (m : z_M) (d : Int) (h_d : 0 ≤ d ∧ d ≤ 4) : z_R 46 (m, 0, [(2, 116), (0, d)], []) = if 4 ≤ d then (z_R 26 (m, 0, [(2, 1), (0, 0)], [])).bind fun qq => z_R 46 (qq.1, 17, [(2, 116), (0, d)], qq.2.toList ++ []) else (z_R 26 (m, 0, [(2, 1), (0, 1)], [])).bind fun qq => z_R 46 (qq.1, 17, [(2, 116), (0, d)], qq.2.toList ++ []) :=
  have hK : kt_at 46 = kt_46 := rfl
  (z_R_run hK (n := 2) (g' := (m, 4, [(2, 116), (0, d)], [(2, 1)])) rfl).trans ((z_R_run hK (n := 2) (g' := (m, 6, [(2, 116), (0, d)], [(0, 4), (0, d), (2, 1)])) rfl).trans (z_R_ifd hK (c := 4 ≤ d) (p1 := 13) (p2 := 9) rfl rfl rfl (fun h1 => (z_R_run hK (n := 1) (g' := (m, 14, [(2, 116), (0, d)], [(0, 0), (2, 1)])) rfl).trans (z_R_call hK rfl rfl rfl rfl rfl)) (fun h1 => (z_R_run hK (n := 2) (g' := (m, 14, [(2, 116), (0, d)], [(0, 1), (2, 1)])) rfl).trans (z_R_call hK rfl rfl rfl rfl rfl))))
theorem s_rbr_17  (m : z_M) (x1 : Int) (u : Int) : z_R 46 (m, 17, [(2, 116), (0, x1)], [(0, u)]) = if u = 0 then some (m, some (0, 0)) else (z_R 41 (m, 0, [(2, 116), (0, z_add x1 1), (9, 0), (9, 0)], [])).bind fun qq => z_R 46 (qq.1, 27, [(2, 116), (0, x1)], qq.2.toList ++ []) :=
  have hK : kt_at 46 = kt_46 := rfl
  z_R_ifd hK (c := u = 0) (p1 := 46) (p2 := 20) rfl rfl rfl (fun h1 => (z_R_run hK (n := 1) (g' := (m, 47, [(2, 116), (0, x1)], [(0, 0)])) rfl).trans (z_R_ret hK rfl rfl rfl)) (fun h1 => (z_R_run hK (n := 4) (g' := (m, 24, [(2, 116), (0, x1)], [(0, z_add x1 1), (2, 116)])) rfl).trans (z_R_call hK rfl rfl rfl rfl rfl))
theorem s_rbr_27  (m : z_M) (x1 : Int) (u : Int) : z_R 46 (m, 27, [(2, 116), (0, x1)], [(0, u)]) = if u = 0 then some (m, some (0, 0)) else (z_R 27 (m, 0, [(2, 1), (0, 41)], [])).bind fun qq => z_R 46 (qq.1, 39, [(2, 116), (0, x1)], qq.2.toList ++ []) :=
  have hK : kt_at 46 = kt_46 := rfl
  z_R_ifd hK (c := u = 0) (p1 := 46) (p2 := 30) rfl rfl rfl (fun h1 => (z_R_run hK (n := 1) (g' := (m, 47, [(2, 116), (0, x1)], [(0, 0)])) rfl).trans (z_R_ret hK rfl rfl rfl)) (fun h1 => (z_R_run hK (n := 2) (g' := (m, 34, [(2, 116), (0, x1)], [(2, 1)])) rfl).trans ((z_R_run hK (n := 1) (g' := (m, 36, [(2, 116), (0, x1)], [(0, 41), (2, 1)])) rfl).trans (z_R_call hK rfl rfl rfl rfl rfl)))
theorem s_rbr_39  (m : z_M) (x1 : Int) (u : Int) : z_R 46 (m, 39, [(2, 116), (0, x1)], [(0, u)]) = if u = 0 then some (m, some (0, 0)) else some (m, some (0, 1)) :=
  have hK : kt_at 46 = kt_46 := rfl
  z_R_ifd hK (c := u = 0) (p1 := 46) (p2 := 42) rfl rfl rfl (fun h1 => (z_R_run hK (n := 1) (g' := (m, 47, [(2, 116), (0, x1)], [(0, 0)])) rfl).trans (z_R_ret hK rfl rfl rfl)) (fun h1 => (z_R_run hK (n := 2) (g' := (m, 47, [(2, 116), (0, x1)], [(0, 1)])) rfl).trans (z_R_ret hK rfl rfl rfl))
theorem s_rnu_0  (m : z_M) : z_R 47 (m, 0, [(2, 116), (9, 0), (9, 0), (9, 0)], []) = (z_R 23 (m, 0, [(2, 1)], [])).bind fun qq => z_R 47 (qq.1, 9, [(2, 116), (0, 0), (9, 0), (9, 0)], qq.2.toList ++ []) :=
  have hK : kt_at 47 = kt_47 := rfl
  (z_R_run hK (n := 4) (g' := (m, 6, [(2, 116), (0, 0), (9, 0), (9, 0)], [(2, 1)])) rfl).trans (z_R_call hK rfl rfl rfl rfl rfl)
theorem s_rnu_9  (m : z_M) (x1 : Int) (u : Int) : z_R 47 (m, 9, [(2, 116), (0, x1), (9, 0), (9, 0)], [(0, u)]) = z_R 47 (m, 12, [(2, 116), (0, x1), (0, u), (0, 0)], []) :=
  have hK : kt_at 47 = kt_47 := rfl
  (z_R_run hK (n := 3) (g' := (m, 12, [(2, 116), (0, x1), (0, u), (0, 0)], [])) rfl).trans (rfl)
theorem s_rnu_12  (m : z_M) (x1 : Int) (x2 : Int) (x3 : Int) : z_R 47 (m, 12, [(2, 116), (0, x1), (0, x2), (0, x3)], []) = if 3 ≤ x3 then (z_R 48 (m, 0, [(2, 116), (0, x1)], [])).bind fun qq => z_R 47 (qq.1, 63, [(2, 116), (0, x1), (0, x2), (0, x3)], qq.2.toList ++ []) else if x2 = (-1) then (z_R 26 (m, 0, [(2, 1), (0, 0)], [])).bind fun qq => z_R 47 (qq.1, 34, [(2, 116), (0, x1), (0, x2), (0, x3)], qq.2.toList ++ []) else (z_R 26 (m, 0, [(2, 1), (0, 1)], [])).bind fun qq => z_R 47 (qq.1, 34, [(2, 116), (0, x1), (0, x2), (0, x3)], qq.2.toList ++ []) :=
  have hK : kt_at 47 = kt_47 := rfl
  (z_R_run hK (n := 2) (g' := (m, 14, [(2, 116), (0, x1), (0, x2), (0, x3)], [(0, 3), (0, x3)])) rfl).trans (z_R_ifd hK (c := 3 ≤ x3) (p1 := 58) (p2 := 17) rfl rfl rfl (fun h1 => (z_R_run hK (n := 2) (g' := (m, 60, [(2, 116), (0, x1), (0, x2), (0, x3)], [(0, x1), (2, 116)])) rfl).trans (z_R_call hK rfl rfl rfl rfl rfl)) (fun h1 => (z_R_run hK (n := 2) (g' := (m, 21, [(2, 116), (0, x1), (0, x2), (0, x3)], [(2, 1)])) rfl).trans ((z_R_run hK (n := 2) (g' := (m, 23, [(2, 116), (0, x1), (0, x2), (0, x3)], [(0, (-1)), (0, x2), (2, 1)])) rfl).trans (z_R_ifd hK (c := x2 = (-1)) (p1 := 30) (p2 := 26) rfl rfl rfl (fun h2 => (z_R_run hK (n := 1) (g' := (m, 31, [(2, 116), (0, x1), (0, x2), (0, x3)], [(0, 0), (2, 1)])) rfl).trans (z_R_call hK rfl rfl rfl rfl rfl)) (fun h2 => (z_R_run hK (n := 2) (g' := (m, 31, [(2, 116), (0, x1), (0, x2), (0, x3)], [(0, 1), (2, 1)])) rfl).trans (z_R_call hK rfl rfl rfl rfl rfl))))))
theorem s_rnu_34  (m : z_M) (x1 : Int) (x2 : Int) (x3 : Int) (u : Int) : z_R 47 (m, 34, [(2, 116), (0, x1), (0, x2), (0, x3)], [(0, u)]) = if u = 0 then (z_R 48 (m, 0, [(2, 116), (0, x1)], [])).bind fun qq => z_R 47 (qq.1, 63, [(2, 116), (0, x1), (0, x2), (0, x3)], qq.2.toList ++ []) else (z_R 23 (m, 0, [(2, 1)], [])).bind fun qq => z_R 47 (qq.1, 51, [(2, 116), (0, z_add (z_mul 10 x1) x2), (0, x2), (0, x3)], qq.2.toList ++ []) :=
  have hK : kt_at 47 = kt_47 := rfl
  z_R_ifd hK (c := u = 0) (p1 := 58) (p2 := 37) rfl rfl rfl (fun h1 => (z_R_run hK (n := 2) (g' := (m, 60, [(2, 116), (0, x1), (0, x2), (0, x3)], [(0, x1), (2, 116)])) rfl).trans (z_R_call hK rfl rfl rfl rfl rfl)) (fun h1 => (z_R_run hK (n := 8) (g' := (m, 48, [(2, 116), (0, z_add (z_mul 10 x1) x2), (0, x2), (0, x3)], [(2, 1)])) rfl).trans (z_R_call hK rfl rfl rfl rfl rfl))
theorem s_rnu_51  (m : z_M) (x1 : Int) (x2 : Int) (x3 : Int) (u : Int) : z_R 47 (m, 51, [(2, 116), (0, x1), (0, x2), (0, x3)], [(0, u)]) = z_R 47 (m, 12, [(2, 116), (0, x1), (0, u), (0, z_add x3 1)], []) :=
  have hK : kt_at 47 = kt_47 := rfl
  (z_R_run hK (n := 3) (g' := (m, 12, [(2, 116), (0, x1), (0, u), (0, z_add x3 1)], [])) rfl).trans (rfl)
theorem s_rnu_63  (m : z_M) (x1 : Int) (x2 : Int) (x3 : Int) : z_R 47 (m, 63, [(2, 116), (0, x1), (0, x2), (0, x3)], []) = some (m, none) :=
  have hK : kt_at 47 = kt_47 := rfl
  z_R_ret hK rfl rfl rfl
theorem s_rem__0  (m : z_M) (c : Int) (h_sz : 0 ≤ m 116 2 ∧ m 116 2 ≤ 40) : z_R 48 (m, 0, [(2, 116), (0, c)], []) = if 40 ≤ m 116 2 then some (m, none) else some (z_up (z_up m 117 (m 116 2).toNat c) 116 2 (m 116 2 + 1), none) :=
  have hK : kt_at 48 = kt_48 := rfl
  (z_R_run hK (n := 4) (g' := (m, 8, [(2, 116), (0, c)], [(2, 117), (0, m 116 2)])) rfl).trans ((z_R_run hK (n := 1) (g' := (m, 9, [(2, 116), (0, c)], [(0, 40), (0, m 116 2)])) rfl).trans (z_R_ifd hK (c := 40 ≤ m 116 2) (p1 := 32) (p2 := 12) rfl rfl rfl (fun h1 => z_R_ret hK rfl rfl rfl) (fun h1 => (z_R_run hK (n := 2) (g' := (m, 16, [(2, 116), (0, c)], [(2, 117)])) rfl).trans ((z_R_run hK (n := 3) (g' := (m, 21, [(2, 116), (0, c)], [(0, c), (0, m 116 2), (2, 117)])) rfl).trans (z_R_ixT hK (n := 40) (g' := (z_up m 117 (m 116 2).toNat c, 22, [(2, 116), (0, c)], [])) rfl rfl rfl (show 0 ≤ m 116 2 ∧ m 116 2 < 40 by omega) ((z_R_run hK (n := 3) (g' := (z_up m 117 (m 116 2).toNat c, 27, [(2, 116), (0, c)], [(0, (z_up m 117 (m 116 2).toNat c) 116 2), (2, 116)])) rfl).trans ((congrArg (fun vv => z_R 48 (z_up m 117 (m 116 2).toNat c, 27, [(2, 116), (0, c)], [(0, vv), (2, 116)])) (zu_p (by decide))).trans ((z_R_run hK (n := 2) (g' := (z_up m 117 (m 116 2).toNat c, 29, [(2, 116), (0, c)], [(0, z_add (m 116 2) 1), (2, 116)])) rfl).trans ((congrArg (fun vv => z_R 48 (z_up m 117 (m 116 2).toNat c, 29, [(2, 116), (0, c)], [(0, vv), (2, 116)])) (z_add_eq (by omega) (by omega))).trans ((z_R_run hK (n := 1) (g' := (z_up (z_up m 117 (m 116 2).toNat c) 116 2 (m 116 2 + 1), 32, [(2, 116), (0, c)], [])) rfl).trans (z_R_ret hK rfl rfl rfl)))))))))))
theorem s_rjo_0  (m : z_M) (s : Int) (b : Int) : z_R 51 (m, 0, [(0, s), (0, b)], []) = if b = 0 then if s = 43 then some (m, some (0, 1)) else if s = 45 then some (m, some (0, 1)) else some (m, some (0, 0)) else if s = 42 then some (m, some (0, 1)) else if s = 47 then some (m, some (0, 1)) else some (m, some (0, 0)) :=
  have hK : kt_at 51 = kt_51 := rfl
  (z_R_run hK (n := 1) (g' := (m, 1, [(0, s), (0, b)], [(0, b)])) rfl).trans (z_R_ifd hK (c := b = 0) (p1 := 24) (p2 := 4) rfl rfl rfl (fun h1 => (z_R_run hK (n := 2) (g' := (m, 27, [(0, s), (0, b)], [(0, 43), (0, s)])) rfl).trans (z_R_ifd hK (c := s = 43) (p1 := 36) (p2 := 30) rfl rfl rfl (fun h2 => (z_R_run hK (n := 2) (g' := (m, 41, [(0, s), (0, b)], [(0, 1)])) rfl).trans (z_R_ret hK rfl rfl rfl)) (fun h2 => (z_R_run hK (n := 2) (g' := (m, 33, [(0, s), (0, b)], [(0, 45), (0, s)])) rfl).trans (z_R_ifnd hK (c := s = 45) (p1 := 40) (p2 := 36) rfl rfl rfl (fun h3 => (z_R_run hK (n := 1) (g' := (m, 41, [(0, s), (0, b)], [(0, 0)])) rfl).trans (z_R_ret hK rfl rfl rfl)) (fun h3 => (z_R_run hK (n := 2) (g' := (m, 41, [(0, s), (0, b)], [(0, 1)])) rfl).trans (z_R_ret hK rfl rfl rfl)))))) (fun h1 => (z_R_run hK (n := 2) (g' := (m, 7, [(0, s), (0, b)], [(0, 42), (0, s)])) rfl).trans (z_R_ifd hK (c := s = 42) (p1 := 16) (p2 := 10) rfl rfl rfl (fun h4 => (z_R_run hK (n := 2) (g' := (m, 41, [(0, s), (0, b)], [(0, 1)])) rfl).trans (z_R_ret hK rfl rfl rfl)) (fun h4 => (z_R_run hK (n := 2) (g' := (m, 13, [(0, s), (0, b)], [(0, 47), (0, s)])) rfl).trans (z_R_ifnd hK (c := s = 47) (p1 := 20) (p2 := 16) rfl rfl rfl (fun h5 => (z_R_run hK (n := 2) (g' := (m, 41, [(0, s), (0, b)], [(0, 0)])) rfl).trans (z_R_ret hK rfl rfl rfl)) (fun h5 => (z_R_run hK (n := 2) (g' := (m, 41, [(0, s), (0, b)], [(0, 1)])) rfl).trans (z_R_ret hK rfl rfl rfl)))))))
theorem s_rul_0  (m : z_M) : z_R 39 (m, 0, [(2, 0), (9, 0)], []) = if m 1 1 = 0 then (z_R 4 (m, 0, [(2, 4)], [])).bind fun qq => z_R 39 (qq.1, 20, [(2, 0), (9, 0)], qq.2.toList ++ []) else (z_R 40 (m, 0, [(2, 116)], [])).bind fun qq => z_R 39 (qq.1, 29, [(2, 0), (9, 0)], qq.2.toList ++ []) :=
  have hK : kt_at 39 = kt_39 := rfl
  (z_R_run hK (n := 2) (g' := (m, 4, [(2, 0), (9, 0)], [(2, 1)])) rfl).trans ((z_R_run hK (n := 1) (g' := (m, 7, [(2, 0), (9, 0)], [(0, m 1 1)])) rfl).trans (z_R_ifnd hK (c := m 1 1 = 0) (p1 := 22) (p2 := 10) rfl rfl rfl (fun h1 => (z_R_run hK (n := 2) (g' := (m, 26, [(2, 0), (9, 0)], [(2, 116)])) rfl).trans (z_R_call hK rfl rfl rfl rfl rfl)) (fun h1 => (z_R_run hK (n := 2) (g' := (m, 14, [(2, 0), (9, 0)], [(2, 3)])) rfl).trans ((z_R_run hK (n := 1) (g' := (m, 17, [(2, 0), (9, 0)], [(2, 4)])) rfl).trans (z_R_call hK rfl rfl rfl rfl rfl)))))
theorem s_rul_20  (m : z_M) : z_R 39 (m, 20, [(2, 0), (9, 0)], []) = some (m, some (0, 0)) :=
  have hK : kt_at 39 = kt_39 := rfl
  (z_R_run hK (n := 1) (g' := (m, 21, [(2, 0), (9, 0)], [(0, 0)])) rfl).trans (z_R_ret hK rfl rfl rfl)
theorem s_rul_29  (m : z_M) (u : Int) : z_R 39 (m, 29, [(2, 0), (9, 0)], [(0, u)]) = (z_R 29 (m, 0, [(2, 1)], [])).bind fun qq => z_R 39 (qq.1, 37, [(2, 0), (0, u)], qq.2.toList ++ []) :=
  have hK : kt_at 39 = kt_39 := rfl
  (z_R_run hK (n := 3) (g' := (m, 34, [(2, 0), (0, u)], [(2, 1)])) rfl).trans (z_R_call hK rfl rfl rfl rfl rfl)
theorem s_rul_37  (m : z_M) (x1 : Int) : z_R 39 (m, 37, [(2, 0), (0, x1)], []) = if x1 = 0 then some (m, some (0, z_sub (-1) (m 1 2))) else (z_R 52 (m, 0, [(2, 4), (2, 117), (0, m 116 2)], [])).bind fun qq => z_R 39 (qq.1, 75, [(2, 0), (0, x1)], qq.2.toList ++ []) :=
  have hK : kt_at 39 = kt_39 := rfl
  (z_R_run hK (n := 1) (g' := (m, 38, [(2, 0), (0, x1)], [(0, x1)])) rfl).trans (z_R_ifnd hK (c := x1 = 0) (p1 := 51) (p2 := 41) rfl rfl rfl (fun h1 => (z_R_run hK (n := 2) (g' := (m, 55, [(2, 0), (0, x1)], [(2, 3)])) rfl).trans ((z_R_run hK (n := 1) (g' := (m, 58, [(2, 0), (0, x1)], [(2, 4)])) rfl).trans ((z_R_run hK (n := 2) (g' := (m, 62, [(2, 0), (0, x1)], [(2, 116), (2, 4)])) rfl).trans ((z_R_run hK (n := 1) (g' := (m, 65, [(2, 0), (0, x1)], [(2, 117), (2, 4)])) rfl).trans ((z_R_run hK (n := 2) (g' := (m, 69, [(2, 0), (0, x1)], [(2, 116), (2, 117), (2, 4)])) rfl).trans ((z_R_run hK (n := 1) (g' := (m, 72, [(2, 0), (0, x1)], [(0, m 116 2), (2, 117), (2, 4)])) rfl).trans (z_R_call hK rfl rfl rfl rfl rfl))))))) (fun h1 => (z_R_run hK (n := 3) (g' := (m, 46, [(2, 0), (0, x1)], [(2, 1), (0, (-1))])) rfl).trans ((z_R_run hK (n := 2) (g' := (m, 50, [(2, 0), (0, x1)], [(0, z_sub (-1) (m 1 2))])) rfl).trans (z_R_ret hK rfl rfl rfl))))
theorem s_rul_75  (m : z_M) (x1 : Int) : z_R 39 (m, 75, [(2, 0), (0, x1)], []) = some (m, some (0, 0)) :=
  have hK : kt_at 39 = kt_39 := rfl
  (z_R_run hK (n := 1) (g' := (m, 76, [(2, 0), (0, x1)], [(0, 0)])) rfl).trans (z_R_ret hK rfl rfl rfl)
theorem t_held_0  (m : z_M) (d : Int) : z_R 176 (m, 0, [(2, 251), (0, d), (9, 0)], []) = (z_R 177 (m, 0, [(2, 251), (0, d), (9, 0), (9, 0), (9, 0)], [])).bind fun qq => z_R 176 (qq.1, 5, [(2, 251), (0, d), (9, 0)], qq.2.toList ++ []) :=
  have hK : kt_at 176 = kt_176 := rfl
  (z_R_run hK (n := 2) (g' := (m, 2, [(2, 251), (0, d), (9, 0)], [(0, d), (2, 251)])) rfl).trans (z_R_call hK rfl rfl rfl rfl rfl)
theorem t_held_5  (m : z_M) (x1 : Int) (u : Int) : z_R 176 (m, 5, [(2, 251), (0, x1), (9, 0)], [(0, u)]) = (z_R 170 (m, 0, [(2, 251), (0, 60)], [])).bind fun qq => z_R 176 (qq.1, 12, [(2, 251), (0, x1), (0, u)], qq.2.toList ++ []) :=
  have hK : kt_at 176 = kt_176 := rfl
  (z_R_run hK (n := 3) (g' := (m, 9, [(2, 251), (0, x1), (0, u)], [(0, 60), (2, 251)])) rfl).trans (z_R_call hK rfl rfl rfl rfl rfl)
theorem t_held_12  (m : z_M) (x1 : Int) (x2 : Int) (u : Int) : z_R 176 (m, 12, [(2, 251), (0, x1), (0, x2)], [(0, u)]) = if u = 0 then (z_R 170 (m, 0, [(2, 251), (0, 62)], [])).bind fun qq => z_R 176 (qq.1, 36, [(2, 251), (0, x1), (0, x2)], qq.2.toList ++ []) else (z_R 177 (m, 0, [(2, 251), (0, x1), (9, 0), (9, 0), (9, 0)], [])).bind fun qq => z_R 176 (qq.1, 21, [(2, 251), (0, x1), (0, x2)], qq.2.toList ++ [(0, x2)]) :=
  have hK : kt_at 176 = kt_176 := rfl
  z_R_ifd hK (c := u = 0) (p1 := 30) (p2 := 15) rfl rfl rfl (fun h1 => (z_R_run hK (n := 2) (g' := (m, 33, [(2, 251), (0, x1), (0, x2)], [(0, 62), (2, 251)])) rfl).trans (z_R_call hK rfl rfl rfl rfl rfl)) (fun h1 => (z_R_run hK (n := 3) (g' := (m, 18, [(2, 251), (0, x1), (0, x2)], [(0, x1), (2, 251), (0, x2)])) rfl).trans (z_R_call hK rfl rfl rfl rfl rfl))
theorem t_held_21  (m : z_M) (x1 : Int) (x2 : Int) (s0 : Int) (u : Int) : z_R 176 (m, 21, [(2, 251), (0, x1), (0, x2)], [(0, u), (0, s0)]) = if u ≤ s0 then some (m, some (0, 0)) else some (m, some (0, 1)) :=
  have hK : kt_at 176 = kt_176 := rfl
  z_R_ifd hK (c := u ≤ s0) (p1 := 28) (p2 := 24) rfl rfl rfl (fun h1 => (z_R_run hK (n := 1) (g' := (m, 29, [(2, 251), (0, x1), (0, x2)], [(0, 0)])) rfl).trans (z_R_ret hK rfl rfl rfl)) (fun h1 => (z_R_run hK (n := 2) (g' := (m, 29, [(2, 251), (0, x1), (0, x2)], [(0, 1)])) rfl).trans (z_R_ret hK rfl rfl rfl))
theorem t_held_36  (m : z_M) (x1 : Int) (x2 : Int) (u : Int) : z_R 176 (m, 36, [(2, 251), (0, x1), (0, x2)], [(0, u)]) = if u = 0 then (z_R 170 (m, 0, [(2, 251), (0, 61)], [])).bind fun qq => z_R 176 (qq.1, 60, [(2, 251), (0, x1), (0, x2)], qq.2.toList ++ []) else (z_R 177 (m, 0, [(2, 251), (0, x1), (9, 0), (9, 0), (9, 0)], [])).bind fun qq => z_R 176 (qq.1, 45, [(2, 251), (0, x1), (0, x2)], qq.2.toList ++ [(0, x2)]) :=
  have hK : kt_at 176 = kt_176 := rfl
  z_R_ifd hK (c := u = 0) (p1 := 54) (p2 := 39) rfl rfl rfl (fun h1 => (z_R_run hK (n := 2) (g' := (m, 57, [(2, 251), (0, x1), (0, x2)], [(0, 61), (2, 251)])) rfl).trans (z_R_call hK rfl rfl rfl rfl rfl)) (fun h1 => (z_R_run hK (n := 3) (g' := (m, 42, [(2, 251), (0, x1), (0, x2)], [(0, x1), (2, 251), (0, x2)])) rfl).trans (z_R_call hK rfl rfl rfl rfl rfl))
theorem t_held_45  (m : z_M) (x1 : Int) (x2 : Int) (s0 : Int) (u : Int) : z_R 176 (m, 45, [(2, 251), (0, x1), (0, x2)], [(0, u), (0, s0)]) = if s0 ≤ u then some (m, some (0, 0)) else some (m, some (0, 1)) :=
  have hK : kt_at 176 = kt_176 := rfl
  z_R_ifd hK (c := s0 ≤ u) (p1 := 52) (p2 := 48) rfl rfl rfl (fun h1 => (z_R_run hK (n := 1) (g' := (m, 53, [(2, 251), (0, x1), (0, x2)], [(0, 0)])) rfl).trans (z_R_ret hK rfl rfl rfl)) (fun h1 => (z_R_run hK (n := 2) (g' := (m, 53, [(2, 251), (0, x1), (0, x2)], [(0, 1)])) rfl).trans (z_R_ret hK rfl rfl rfl))
theorem t_held_60  (m : z_M) (x1 : Int) (x2 : Int) (u : Int) : z_R 176 (m, 60, [(2, 251), (0, x1), (0, x2)], [(0, u)]) = if u = 0 then some (m, some (0, x2)) else (z_R 177 (m, 0, [(2, 251), (0, x1), (9, 0), (9, 0), (9, 0)], [])).bind fun qq => z_R 176 (qq.1, 69, [(2, 251), (0, x1), (0, x2)], qq.2.toList ++ [(0, x2)]) :=
  have hK : kt_at 176 = kt_176 := rfl
  z_R_ifd hK (c := u = 0) (p1 := 78) (p2 := 63) rfl rfl rfl (fun h1 => (z_R_run hK (n := 1) (g' := (m, 79, [(2, 251), (0, x1), (0, x2)], [(0, x2)])) rfl).trans (z_R_ret hK rfl rfl rfl)) (fun h1 => (z_R_run hK (n := 3) (g' := (m, 66, [(2, 251), (0, x1), (0, x2)], [(0, x1), (2, 251), (0, x2)])) rfl).trans (z_R_call hK rfl rfl rfl rfl rfl))
theorem t_held_69  (m : z_M) (x1 : Int) (x2 : Int) (s0 : Int) (u : Int) : z_R 176 (m, 69, [(2, 251), (0, x1), (0, x2)], [(0, u), (0, s0)]) = if s0 = u then some (m, some (0, 1)) else some (m, some (0, 0)) :=
  have hK : kt_at 176 = kt_176 := rfl
  z_R_ifnd hK (c := s0 = u) (p1 := 76) (p2 := 72) rfl rfl rfl (fun h1 => (z_R_run hK (n := 1) (g' := (m, 77, [(2, 251), (0, x1), (0, x2)], [(0, 0)])) rfl).trans (z_R_ret hK rfl rfl rfl)) (fun h1 => (z_R_run hK (n := 2) (g' := (m, 77, [(2, 251), (0, x1), (0, x2)], [(0, 1)])) rfl).trans (z_R_ret hK rfl rfl rfl))
theorem t_sum_0  (m : z_M) (d : Int) : z_R 177 (m, 0, [(2, 251), (0, d), (9, 0), (9, 0), (9, 0)], []) = (z_R 178 (m, 0, [(2, 251), (0, d), (9, 0), (9, 0), (9, 0)], [])).bind fun qq => z_R 177 (qq.1, 5, [(2, 251), (0, d), (9, 0), (9, 0), (9, 0)], qq.2.toList ++ []) :=
  have hK : kt_at 177 = kt_177 := rfl
  (z_R_run hK (n := 2) (g' := (m, 2, [(2, 251), (0, d), (9, 0), (9, 0), (9, 0)], [(0, d), (2, 251)])) rfl).trans (z_R_call hK rfl rfl rfl rfl rfl)
theorem t_sum_5  (m : z_M) (x1 : Int) (u : Int) : z_R 177 (m, 5, [(2, 251), (0, x1), (9, 0), (9, 0), (9, 0)], [(0, u)]) = z_R 177 (m, 6, [(2, 251), (0, x1), (0, u), (9, 0), (9, 0)], []) :=
  have hK : kt_at 177 = kt_177 := rfl
  (z_R_run hK (n := 1) (g' := (m, 6, [(2, 251), (0, x1), (0, u), (9, 0), (9, 0)], [])) rfl).trans (rfl)
theorem t_sum_6  (m : z_M) (x1 : Int) (x2 : Int) (v3 : z_V) (v4 : z_V) : z_R 177 (m, 6, [(2, 251), (0, x1), (0, x2), v3, v4], []) = (z_R 165 (m, 0, [(2, 251)], [])).bind fun qq => z_R 177 (qq.1, 10, [(2, 251), (0, x1), (0, x2), v3, v4], qq.2.toList ++ []) :=
  have hK : kt_at 177 = kt_177 := rfl
  (z_R_run hK (n := 1) (g' := (m, 7, [(2, 251), (0, x1), (0, x2), v3, v4], [(2, 251)])) rfl).trans (z_R_call hK rfl rfl rfl rfl rfl)
theorem t_sum_10  (m : z_M) (x1 : Int) (x2 : Int) (v3 : z_V) (v4 : z_V) (u : Int) : z_R 177 (m, 10, [(2, 251), (0, x1), (0, x2), v3, v4], [(0, u)]) = if u = 0 then some (m, some (0, x2)) else (z_R 168 (m, 0, [(2, 251)], [])).bind fun qq => z_R 177 (qq.1, 17, [(2, 251), (0, x1), (0, x2), v3, v4], qq.2.toList ++ []) :=
  have hK : kt_at 177 = kt_177 := rfl
  z_R_ifd hK (c := u = 0) (p1 := 82) (p2 := 13) rfl rfl rfl (fun h1 => (z_R_run hK (n := 1) (g' := (m, 83, [(2, 251), (0, x1), (0, x2), v3, v4], [(0, x2)])) rfl).trans (z_R_ret hK rfl rfl rfl)) (fun h1 => (z_R_run hK (n := 1) (g' := (m, 14, [(2, 251), (0, x1), (0, x2), v3, v4], [(2, 251)])) rfl).trans (z_R_call hK rfl rfl rfl rfl rfl))
theorem t_sum_17  (m : z_M) (x1 : Int) (x2 : Int) (v3 : z_V) (v4 : z_V) (u : Int) : z_R 177 (m, 17, [(2, 251), (0, x1), (0, x2), v3, v4], [(0, u)]) = if u = 43 then (z_R 168 (m, 0, [(2, 251)], [])).bind fun qq => z_R 177 (qq.1, 35, [(2, 251), (0, x1), (0, x2), v3, v4], qq.2.toList ++ []) else (z_R 168 (m, 0, [(2, 251)], [])).bind fun qq => z_R 177 (qq.1, 26, [(2, 251), (0, x1), (0, x2), v3, v4], qq.2.toList ++ []) :=
  have hK : kt_at 177 = kt_177 := rfl
  (z_R_run hK (n := 1) (g' := (m, 19, [(2, 251), (0, x1), (0, x2), v3, v4], [(0, 43), (0, u)])) rfl).trans (z_R_ifd hK (c := u = 43) (p1 := 31) (p2 := 22) rfl rfl rfl (fun h1 => (z_R_run hK (n := 1) (g' := (m, 32, [(2, 251), (0, x1), (0, x2), v3, v4], [(2, 251)])) rfl).trans (z_R_call hK rfl rfl rfl rfl rfl)) (fun h1 => (z_R_run hK (n := 1) (g' := (m, 23, [(2, 251), (0, x1), (0, x2), v3, v4], [(2, 251)])) rfl).trans (z_R_call hK rfl rfl rfl rfl rfl)))
theorem t_sum_26  (m : z_M) (x1 : Int) (x2 : Int) (v3 : z_V) (v4 : z_V) (u : Int) : z_R 177 (m, 26, [(2, 251), (0, x1), (0, x2), v3, v4], [(0, u)]) = if u = 45 then (z_R 168 (m, 0, [(2, 251)], [])).bind fun qq => z_R 177 (qq.1, 35, [(2, 251), (0, x1), (0, x2), v3, v4], qq.2.toList ++ []) else some (m, some (0, x2)) :=
  have hK : kt_at 177 = kt_177 := rfl
  (z_R_run hK (n := 1) (g' := (m, 28, [(2, 251), (0, x1), (0, x2), v3, v4], [(0, 45), (0, u)])) rfl).trans (z_R_ifnd hK (c := u = 45) (p1 := 82) (p2 := 31) rfl rfl rfl (fun h1 => (z_R_run hK (n := 1) (g' := (m, 83, [(2, 251), (0, x1), (0, x2), v3, v4], [(0, x2)])) rfl).trans (z_R_ret hK rfl rfl rfl)) (fun h1 => (z_R_run hK (n := 1) (g' := (m, 32, [(2, 251), (0, x1), (0, x2), v3, v4], [(2, 251)])) rfl).trans (z_R_call hK rfl rfl rfl rfl rfl)))
theorem t_sum_35  (m : z_M) (x1 : Int) (x2 : Int) (v3 : z_V) (v4 : z_V) (u : Int) : z_R 177 (m, 35, [(2, 251), (0, x1), (0, x2), v3, v4], [(0, u)]) = if u = 43 then (z_R 178 (z_up m 251 15 (z_add (m 251 15) 1), 0, [(2, 251), (0, x1), (9, 0), (9, 0), (9, 0)], [])).bind fun qq => z_R 177 (qq.1, 61, [(2, 251), (0, x1), (0, x2), (0, 1), v4], qq.2.toList ++ []) else (z_R 178 (z_up m 251 15 (z_add (m 251 15) 1), 0, [(2, 251), (0, x1), (9, 0), (9, 0), (9, 0)], [])).bind fun qq => z_R 177 (qq.1, 61, [(2, 251), (0, x1), (0, x2), (0, 0), v4], qq.2.toList ++ []) :=
  have hK : kt_at 177 = kt_177 := rfl
  (z_R_run hK (n := 1) (g' := (m, 37, [(2, 251), (0, x1), (0, x2), v3, v4], [(0, 43), (0, u)])) rfl).trans (z_R_ifnd hK (c := u = 43) (p1 := 44) (p2 := 40) rfl rfl rfl (fun h1 => (z_R_run hK (n := 10) (g' := (z_up m 251 15 (z_add (m 251 15) 1), 58, [(2, 251), (0, x1), (0, x2), (0, 0), v4], [(0, x1), (2, 251)])) rfl).trans (z_R_call hK rfl rfl rfl rfl rfl)) (fun h1 => (z_R_run hK (n := 11) (g' := (z_up m 251 15 (z_add (m 251 15) 1), 58, [(2, 251), (0, x1), (0, x2), (0, 1), v4], [(0, x1), (2, 251)])) rfl).trans (z_R_call hK rfl rfl rfl rfl rfl)))
theorem t_sum_61  (m : z_M) (x1 : Int) (x2 : Int) (x3 : Int) (v4 : z_V) (u : Int) : z_R 177 (m, 61, [(2, 251), (0, x1), (0, x2), (0, x3), v4], [(0, u)]) = if x3 = 0 then z_R 177 (m, 6, [(2, 251), (0, x1), (0, z_sub x2 u), (0, x3), (0, u)], []) else z_R 177 (m, 6, [(2, 251), (0, x1), (0, z_add x2 u), (0, x3), (0, u)], []) :=
  have hK : kt_at 177 = kt_177 := rfl
  (z_R_run hK (n := 2) (g' := (m, 64, [(2, 251), (0, x1), (0, x2), (0, x3), (0, u)], [(0, x3)])) rfl).trans (z_R_ifd hK (c := x3 = 0) (p1 := 74) (p2 := 67) rfl rfl rfl (fun h1 => (z_R_run hK (n := 5) (g' := (m, 6, [(2, 251), (0, x1), (0, z_sub x2 u), (0, x3), (0, u)], [])) rfl).trans (rfl)) (fun h1 => (z_R_run hK (n := 6) (g' := (m, 6, [(2, 251), (0, x1), (0, z_add x2 u), (0, x3), (0, u)], [])) rfl).trans (rfl)))
theorem t_prod_0  (m : z_M) (d : Int) : z_R 178 (m, 0, [(2, 251), (0, d), (9, 0), (9, 0), (9, 0)], []) = (z_R 179 (m, 0, [(2, 251), (0, d), (9, 0), (9, 0)], [])).bind fun qq => z_R 178 (qq.1, 5, [(2, 251), (0, d), (9, 0), (9, 0), (9, 0)], qq.2.toList ++ []) :=
  have hK : kt_at 178 = kt_178 := rfl
  (z_R_run hK (n := 2) (g' := (m, 2, [(2, 251), (0, d), (9, 0), (9, 0), (9, 0)], [(0, d), (2, 251)])) rfl).trans (z_R_call hK rfl rfl rfl rfl rfl)
theorem t_prod_5  (m : z_M) (x1 : Int) (u : Int) : z_R 178 (m, 5, [(2, 251), (0, x1), (9, 0), (9, 0), (9, 0)], [(0, u)]) = z_R 178 (m, 6, [(2, 251), (0, x1), (0, u), (9, 0), (9, 0)], []) :=
  have hK : kt_at 178 = kt_178 := rfl
  (z_R_run hK (n := 1) (g' := (m, 6, [(2, 251), (0, x1), (0, u), (9, 0), (9, 0)], [])) rfl).trans (rfl)
theorem t_prod_6  (m : z_M) (x1 : Int) (x2 : Int) (v3 : z_V) (v4 : z_V) : z_R 178 (m, 6, [(2, 251), (0, x1), (0, x2), v3, v4], []) = (z_R 165 (m, 0, [(2, 251)], [])).bind fun qq => z_R 178 (qq.1, 10, [(2, 251), (0, x1), (0, x2), v3, v4], qq.2.toList ++ []) :=
  have hK : kt_at 178 = kt_178 := rfl
  (z_R_run hK (n := 1) (g' := (m, 7, [(2, 251), (0, x1), (0, x2), v3, v4], [(2, 251)])) rfl).trans (z_R_call hK rfl rfl rfl rfl rfl)
theorem t_prod_10  (m : z_M) (x1 : Int) (x2 : Int) (v3 : z_V) (v4 : z_V) (u : Int) : z_R 178 (m, 10, [(2, 251), (0, x1), (0, x2), v3, v4], [(0, u)]) = if u = 0 then some (m, some (0, x2)) else (z_R 168 (m, 0, [(2, 251)], [])).bind fun qq => z_R 178 (qq.1, 17, [(2, 251), (0, x1), (0, x2), v3, v4], qq.2.toList ++ []) :=
  have hK : kt_at 178 = kt_178 := rfl
  z_R_ifd hK (c := u = 0) (p1 := 91) (p2 := 13) rfl rfl rfl (fun h1 => (z_R_run hK (n := 1) (g' := (m, 92, [(2, 251), (0, x1), (0, x2), v3, v4], [(0, x2)])) rfl).trans (z_R_ret hK rfl rfl rfl)) (fun h1 => (z_R_run hK (n := 1) (g' := (m, 14, [(2, 251), (0, x1), (0, x2), v3, v4], [(2, 251)])) rfl).trans (z_R_call hK rfl rfl rfl rfl rfl))
theorem t_prod_17  (m : z_M) (x1 : Int) (x2 : Int) (v3 : z_V) (v4 : z_V) (u : Int) : z_R 178 (m, 17, [(2, 251), (0, x1), (0, x2), v3, v4], [(0, u)]) = if u = 42 then (z_R 168 (m, 0, [(2, 251)], [])).bind fun qq => z_R 178 (qq.1, 35, [(2, 251), (0, x1), (0, x2), v3, v4], qq.2.toList ++ []) else (z_R 168 (m, 0, [(2, 251)], [])).bind fun qq => z_R 178 (qq.1, 26, [(2, 251), (0, x1), (0, x2), v3, v4], qq.2.toList ++ []) :=
  have hK : kt_at 178 = kt_178 := rfl
  (z_R_run hK (n := 1) (g' := (m, 19, [(2, 251), (0, x1), (0, x2), v3, v4], [(0, 42), (0, u)])) rfl).trans (z_R_ifd hK (c := u = 42) (p1 := 31) (p2 := 22) rfl rfl rfl (fun h1 => (z_R_run hK (n := 1) (g' := (m, 32, [(2, 251), (0, x1), (0, x2), v3, v4], [(2, 251)])) rfl).trans (z_R_call hK rfl rfl rfl rfl rfl)) (fun h1 => (z_R_run hK (n := 1) (g' := (m, 23, [(2, 251), (0, x1), (0, x2), v3, v4], [(2, 251)])) rfl).trans (z_R_call hK rfl rfl rfl rfl rfl)))
theorem t_prod_26  (m : z_M) (x1 : Int) (x2 : Int) (v3 : z_V) (v4 : z_V) (u : Int) : z_R 178 (m, 26, [(2, 251), (0, x1), (0, x2), v3, v4], [(0, u)]) = if u = 47 then (z_R 168 (m, 0, [(2, 251)], [])).bind fun qq => z_R 178 (qq.1, 35, [(2, 251), (0, x1), (0, x2), v3, v4], qq.2.toList ++ []) else some (m, some (0, x2)) :=
  have hK : kt_at 178 = kt_178 := rfl
  (z_R_run hK (n := 1) (g' := (m, 28, [(2, 251), (0, x1), (0, x2), v3, v4], [(0, 47), (0, u)])) rfl).trans (z_R_ifnd hK (c := u = 47) (p1 := 91) (p2 := 31) rfl rfl rfl (fun h1 => (z_R_run hK (n := 1) (g' := (m, 92, [(2, 251), (0, x1), (0, x2), v3, v4], [(0, x2)])) rfl).trans (z_R_ret hK rfl rfl rfl)) (fun h1 => (z_R_run hK (n := 1) (g' := (m, 32, [(2, 251), (0, x1), (0, x2), v3, v4], [(2, 251)])) rfl).trans (z_R_call hK rfl rfl rfl rfl rfl)))
theorem t_prod_35  (m : z_M) (x1 : Int) (x2 : Int) (v3 : z_V) (v4 : z_V) (u : Int) : z_R 178 (m, 35, [(2, 251), (0, x1), (0, x2), v3, v4], [(0, u)]) = if u = 42 then (z_R 179 (z_up m 251 15 (z_add (m 251 15) 1), 0, [(2, 251), (0, x1), (9, 0), (9, 0)], [])).bind fun qq => z_R 178 (qq.1, 61, [(2, 251), (0, x1), (0, x2), (0, 1), v4], qq.2.toList ++ []) else (z_R 179 (z_up m 251 15 (z_add (m 251 15) 1), 0, [(2, 251), (0, x1), (9, 0), (9, 0)], [])).bind fun qq => z_R 178 (qq.1, 61, [(2, 251), (0, x1), (0, x2), (0, 0), v4], qq.2.toList ++ []) :=
  have hK : kt_at 178 = kt_178 := rfl
  (z_R_run hK (n := 1) (g' := (m, 37, [(2, 251), (0, x1), (0, x2), v3, v4], [(0, 42), (0, u)])) rfl).trans (z_R_ifnd hK (c := u = 42) (p1 := 44) (p2 := 40) rfl rfl rfl (fun h1 => (z_R_run hK (n := 10) (g' := (z_up m 251 15 (z_add (m 251 15) 1), 58, [(2, 251), (0, x1), (0, x2), (0, 0), v4], [(0, x1), (2, 251)])) rfl).trans (z_R_call hK rfl rfl rfl rfl rfl)) (fun h1 => (z_R_run hK (n := 11) (g' := (z_up m 251 15 (z_add (m 251 15) 1), 58, [(2, 251), (0, x1), (0, x2), (0, 1), v4], [(0, x1), (2, 251)])) rfl).trans (z_R_call hK rfl rfl rfl rfl rfl)))
theorem t_prod_61  (m : z_M) (x1 : Int) (x2 : Int) (x3 : Int) (v4 : z_V) (u : Int) : z_R 178 (m, 61, [(2, 251), (0, x1), (0, x2), (0, x3), v4], [(0, u)]) = if x3 = 0 then if u = 0 then z_R 178 (m, 6, [(2, 251), (0, x1), (0, 0), (0, x3), (0, u)], []) else if u = 0 then none else z_R 178 (m, 6, [(2, 251), (0, x1), (0, z_div x2 u), (0, x3), (0, u)], []) else z_R 178 (m, 6, [(2, 251), (0, x1), (0, z_mul x2 u), (0, x3), (0, u)], []) :=
  have hK : kt_at 178 = kt_178 := rfl
  (z_R_run hK (n := 2) (g' := (m, 64, [(2, 251), (0, x1), (0, x2), (0, x3), (0, u)], [(0, x3)])) rfl).trans (z_R_ifd hK (c := x3 = 0) (p1 := 74) (p2 := 67) rfl rfl rfl (fun h1 => (z_R_run hK (n := 1) (g' := (m, 76, [(2, 251), (0, x1), (0, x2), (0, x3), (0, u)], [(0, u)])) rfl).trans (z_R_ifnd hK (c := u = 0) (p1 := 83) (p2 := 79) rfl rfl rfl (fun h2 => (z_R_run hK (n := 2) (g' := (m, 86, [(2, 251), (0, x1), (0, x2), (0, x3), (0, u)], [(0, u), (0, x2)])) rfl).trans (z_R_dvD hK (d := u) rfl rfl rfl (fun h3 => (z_R_run hK (n := 2) (g' := (m, 6, [(2, 251), (0, x1), (0, z_div x2 u), (0, x3), (0, u)], [])) rfl).trans (rfl)))) (fun h2 => (z_R_run hK (n := 4) (g' := (m, 6, [(2, 251), (0, x1), (0, 0), (0, x3), (0, u)], [])) rfl).trans (rfl)))) (fun h1 => (z_R_run hK (n := 6) (g' := (m, 6, [(2, 251), (0, x1), (0, z_mul x2 u), (0, x3), (0, u)], [])) rfl).trans (rfl)))
theorem t_thing_0  (m : z_M) (d : Int) : z_R 179 (m, 0, [(2, 251), (0, d), (9, 0), (9, 0)], []) = (z_R 170 (m, 0, [(2, 251), (0, 45)], [])).bind fun qq => z_R 179 (qq.1, 6, [(2, 251), (0, d), (9, 0), (9, 0)], qq.2.toList ++ []) :=
  have hK : kt_at 179 = kt_179 := rfl
  (z_R_run hK (n := 2) (g' := (m, 3, [(2, 251), (0, d), (9, 0), (9, 0)], [(0, 45), (2, 251)])) rfl).trans (z_R_call hK rfl rfl rfl rfl rfl)
theorem t_thing_6  (m : z_M) (x1 : Int) (u : Int) : z_R 179 (m, 6, [(2, 251), (0, x1), (9, 0), (9, 0)], [(0, u)]) = if u = 0 then (z_R 165 (m, 0, [(2, 251)], [])).bind fun qq => z_R 179 (qq.1, 20, [(2, 251), (0, x1), (9, 0), (9, 0)], qq.2.toList ++ []) else (z_R 179 (m, 0, [(2, 251), (0, x1), (9, 0), (9, 0)], [])).bind fun qq => z_R 179 (qq.1, 14, [(2, 251), (0, x1), (9, 0), (9, 0)], qq.2.toList ++ []) :=
  have hK : kt_at 179 = kt_179 := rfl
  z_R_ifd hK (c := u = 0) (p1 := 16) (p2 := 9) rfl rfl rfl (fun h1 => (z_R_run hK (n := 1) (g' := (m, 17, [(2, 251), (0, x1), (9, 0), (9, 0)], [(2, 251)])) rfl).trans (z_R_call hK rfl rfl rfl rfl rfl)) (fun h1 => (z_R_run hK (n := 2) (g' := (m, 11, [(2, 251), (0, x1), (9, 0), (9, 0)], [(0, x1), (2, 251)])) rfl).trans (z_R_call hK rfl rfl rfl rfl rfl))
theorem t_thing_14  (m : z_M) (x1 : Int) (u : Int) : z_R 179 (m, 14, [(2, 251), (0, x1), (9, 0), (9, 0)], [(0, u)]) = some (m, some (0, z_neg u)) :=
  have hK : kt_at 179 = kt_179 := rfl
  (z_R_run hK (n := 1) (g' := (m, 15, [(2, 251), (0, x1), (9, 0), (9, 0)], [(0, z_neg u)])) rfl).trans (z_R_ret hK rfl rfl rfl)
theorem t_thing_20  (m : z_M) (x1 : Int) (u : Int) : z_R 179 (m, 20, [(2, 251), (0, x1), (9, 0), (9, 0)], [(0, u)]) = if u = 0 then some (m, some (0, 0)) else (z_R 168 (m, 0, [(2, 251)], [])).bind fun qq => z_R 179 (qq.1, 29, [(2, 251), (0, x1), (9, 0), (9, 0)], qq.2.toList ++ []) :=
  have hK : kt_at 179 = kt_179 := rfl
  z_R_ifnd hK (c := u = 0) (p1 := 25) (p2 := 23) rfl rfl rfl (fun h1 => (z_R_run hK (n := 1) (g' := (m, 26, [(2, 251), (0, x1), (9, 0), (9, 0)], [(2, 251)])) rfl).trans (z_R_call hK rfl rfl rfl rfl rfl)) (fun h1 => (z_R_run hK (n := 1) (g' := (m, 24, [(2, 251), (0, x1), (9, 0), (9, 0)], [(0, 0)])) rfl).trans (z_R_ret hK rfl rfl rfl))
theorem t_thing_29  (m : z_M) (x1 : Int) (u : Int) : z_R 179 (m, 29, [(2, 251), (0, x1), (9, 0), (9, 0)], [(0, u)]) = if u = 40 then if 4 ≤ x1 then (z_R 162 (m, 0, [(0, u), (0, 48), (0, 57)], [])).bind fun qq => z_R 179 (qq.1, 75, [(2, 251), (0, x1), (0, u), (9, 0)], qq.2.toList ++ []) else (z_R 176 (z_up m 251 15 (z_add (m 251 15) 1), 0, [(2, 251), (0, z_add x1 1), (9, 0)], [])).bind fun qq => z_R 179 (qq.1, 58, [(2, 251), (0, x1), (0, u), (9, 0)], qq.2.toList ++ []) else (z_R 162 (m, 0, [(0, u), (0, 48), (0, 57)], [])).bind fun qq => z_R 179 (qq.1, 75, [(2, 251), (0, x1), (0, u), (9, 0)], qq.2.toList ++ []) :=
  have hK : kt_at 179 = kt_179 := rfl
  (z_R_run hK (n := 3) (g' := (m, 33, [(2, 251), (0, x1), (0, u), (9, 0)], [(0, 40), (0, u)])) rfl).trans (z_R_ifnd hK (c := u = 40) (p1 := 67) (p2 := 36) rfl rfl rfl (fun h1 => (z_R_run hK (n := 3) (g' := (m, 72, [(2, 251), (0, x1), (0, u), (9, 0)], [(0, 57), (0, 48), (0, u)])) rfl).trans (z_R_call hK rfl rfl rfl rfl rfl)) (fun h1 => (z_R_run hK (n := 2) (g' := (m, 38, [(2, 251), (0, x1), (0, u), (9, 0)], [(0, 4), (0, x1)])) rfl).trans (z_R_ifd hK (c := 4 ≤ x1) (p1 := 67) (p2 := 41) rfl rfl rfl (fun h2 => (z_R_run hK (n := 3) (g' := (m, 72, [(2, 251), (0, x1), (0, u), (9, 0)], [(0, 57), (0, 48), (0, u)])) rfl).trans (z_R_call hK rfl rfl rfl rfl rfl)) (fun h2 => (z_R_run hK (n := 10) (g' := (z_up m 251 15 (z_add (m 251 15) 1), 55, [(2, 251), (0, x1), (0, u), (9, 0)], [(0, z_add x1 1), (2, 251)])) rfl).trans (z_R_call hK rfl rfl rfl rfl rfl)))))
theorem t_thing_58  (m : z_M) (x1 : Int) (x2 : Int) (u : Int) : z_R 179 (m, 58, [(2, 251), (0, x1), (0, x2), (9, 0)], [(0, u)]) = (z_R 174 (m, 0, [(2, 251), (0, 41)], [])).bind fun qq => z_R 179 (qq.1, 65, [(2, 251), (0, x1), (0, x2), (0, u)], qq.2.toList ++ []) :=
  have hK : kt_at 179 = kt_179 := rfl
  (z_R_run hK (n := 3) (g' := (m, 62, [(2, 251), (0, x1), (0, x2), (0, u)], [(0, 41), (2, 251)])) rfl).trans (z_R_call hK rfl rfl rfl rfl rfl)
theorem t_thing_65  (m : z_M) (x1 : Int) (x2 : Int) (x3 : Int) : z_R 179 (m, 65, [(2, 251), (0, x1), (0, x2), (0, x3)], []) = some (m, some (0, x3)) :=
  have hK : kt_at 179 = kt_179 := rfl
  (z_R_run hK (n := 1) (g' := (m, 66, [(2, 251), (0, x1), (0, x2), (0, x3)], [(0, x3)])) rfl).trans (z_R_ret hK rfl rfl rfl)
theorem t_thing_75  (m : z_M) (x1 : Int) (x2 : Int) (u : Int) : z_R 179 (m, 75, [(2, 251), (0, x1), (0, x2), (9, 0)], [(0, u)]) = if u = 0 then (z_R 180 (m, 0, [(0, x2)], [])).bind fun qq => z_R 179 (qq.1, 88, [(2, 251), (0, x1), (0, x2), (9, 0)], qq.2.toList ++ []) else (z_R 166 (m, 0, [(2, 251), (0, 3), (9, 0), (9, 0)], [])).bind fun qq => z_R 179 (qq.1, 83, [(2, 251), (0, x1), (0, x2), (9, 0)], qq.2.toList ++ []) :=
  have hK : kt_at 179 = kt_179 := rfl
  z_R_ifd hK (c := u = 0) (p1 := 84) (p2 := 78) rfl rfl rfl (fun h1 => (z_R_run hK (n := 1) (g' := (m, 85, [(2, 251), (0, x1), (0, x2), (9, 0)], [(0, x2)])) rfl).trans (z_R_call hK rfl rfl rfl rfl rfl)) (fun h1 => (z_R_run hK (n := 2) (g' := (m, 80, [(2, 251), (0, x1), (0, x2), (9, 0)], [(0, 3), (2, 251)])) rfl).trans (z_R_call hK rfl rfl rfl rfl rfl))
theorem t_thing_83  (m : z_M) (x1 : Int) (x2 : Int) (u : Int) : z_R 179 (m, 83, [(2, 251), (0, x1), (0, x2), (9, 0)], [(0, u)]) = some (m, some (0, u)) :=
  have hK : kt_at 179 = kt_179 := rfl
  z_R_ret hK rfl rfl rfl
theorem t_thing_88  (m : z_M) (x1 : Int) (x2 : Int) (u : Int) : z_R 179 (m, 88, [(2, 251), (0, x1), (0, x2), (9, 0)], [(0, u)]) = if u = (-1) then (z_R 169 (m, 0, [(2, 251), (0, m 251 15)], [])).bind fun qq => z_R 179 (qq.1, 100, [(2, 251), (0, x1), (0, x2), (9, 0)], qq.2.toList ++ []) else if m 251 21 = 0 then some (z_up m 251 15 (z_add (m 251 15) 1), some (0, 0)) else (z_R 180 (z_up m 251 15 (z_add (m 251 15) 1), 0, [(0, x2)], [])).bind fun qq => z_R 179 (qq.1, 127, [(2, 251), (0, x1), (0, x2), (9, 0)], qq.2.toList ++ [(2, 259)]) :=
  have hK : kt_at 179 = kt_179 := rfl
  (z_R_run hK (n := 1) (g' := (m, 89, [(2, 251), (0, x1), (0, x2), (9, 0)], [(0, (-1)), (0, u)])) rfl).trans (z_R_ifnd hK (c := u = (-1)) (p1 := 102) (p2 := 92) rfl rfl rfl (fun h1 => (z_R_run hK (n := 8) (g' := (z_up m 251 15 (z_add (m 251 15) 1), 116, [(2, 251), (0, x1), (0, x2), (9, 0)], [(0, (z_up m 251 15 (z_add (m 251 15) 1)) 251 21)])) rfl).trans ((congrArg (fun vv => z_R 179 (z_up m 251 15 (z_add (m 251 15) 1), 116, [(2, 251), (0, x1), (0, x2), (9, 0)], [(0, vv)])) (zu_k (by decide))).trans (z_R_ifd hK (c := m 251 21 = 0) (p1 := 131) (p2 := 119) rfl rfl rfl (fun h2 => (z_R_run hK (n := 1) (g' := (z_up m 251 15 (z_add (m 251 15) 1), 132, [(2, 251), (0, x1), (0, x2), (9, 0)], [(0, 0)])) rfl).trans (z_R_ret hK rfl rfl rfl)) (fun h2 => (z_R_run hK (n := 2) (g' := (z_up m 251 15 (z_add (m 251 15) 1), 123, [(2, 251), (0, x1), (0, x2), (9, 0)], [(2, 259)])) rfl).trans ((z_R_run hK (n := 1) (g' := (z_up m 251 15 (z_add (m 251 15) 1), 124, [(2, 251), (0, x1), (0, x2), (9, 0)], [(0, x2), (2, 259)])) rfl).trans (z_R_call hK rfl rfl rfl rfl rfl)))))) (fun h1 => (z_R_run hK (n := 3) (g' := (m, 97, [(2, 251), (0, x1), (0, x2), (9, 0)], [(0, m 251 15), (2, 251)])) rfl).trans (z_R_call hK rfl rfl rfl rfl rfl)))
theorem t_thing_100  (m : z_M) (x1 : Int) (x2 : Int) : z_R 179 (m, 100, [(2, 251), (0, x1), (0, x2), (9, 0)], []) = some (m, some (0, 0)) :=
  have hK : kt_at 179 = kt_179 := rfl
  (z_R_run hK (n := 1) (g' := (m, 101, [(2, 251), (0, x1), (0, x2), (9, 0)], [(0, 0)])) rfl).trans (z_R_ret hK rfl rfl rfl)
theorem t_thing_127  (m : z_M) (x1 : Int) (x2 : Int) (u : Int) : z_R 179 (m, 127, [(2, 251), (0, x1), (0, x2), (9, 0)], [(0, u), (2, 259)]) = if 0 ≤ u ∧ u < 7 then some (m, some (0, m 259 (u).toNat)) else none :=
  have hK : kt_at 179 = kt_179 := rfl
  z_R_ixD hK (n := 7) (g' := (m, 128, [(2, 251), (0, x1), (0, x2), (9, 0)], [(0, m 259 (u).toNat)])) rfl rfl rfl  (fun h1 => (z_R_run hK (n := 1) (g' := (m, 132, [(2, 251), (0, x1), (0, x2), (9, 0)], [(0, m 259 (u).toNat)])) rfl).trans (z_R_ret hK rfl rfl rfl))
theorem t_letter_0  (m : z_M) (c : Int) : z_R 180 (m, 0, [(0, c)], []) = if c = 119 then some (m, some (0, 0)) else if c = 105 then some (m, some (0, 1)) else if c = 97 then some (m, some (0, 2)) else if c = 102 then some (m, some (0, 3)) else if c = 121 then some (m, some (0, 4)) else if c = 110 then some (m, some (0, 5)) else if c = 104 then some (m, some (0, 6)) else some (m, some (0, (-1))) :=
  have hK : kt_at 180 = kt_180 := rfl
  (z_R_run hK (n := 2) (g' := (m, 3, [(0, c)], [(0, 119), (0, c)])) rfl).trans (z_R_ifnd hK (c := c = 119) (p1 := 10) (p2 := 6) rfl rfl rfl (fun h1 => (z_R_run hK (n := 2) (g' := (m, 13, [(0, c)], [(0, 105), (0, c)])) rfl).trans (z_R_ifnd hK (c := c = 105) (p1 := 20) (p2 := 16) rfl rfl rfl (fun h2 => (z_R_run hK (n := 2) (g' := (m, 23, [(0, c)], [(0, 97), (0, c)])) rfl).trans (z_R_ifnd hK (c := c = 97) (p1 := 30) (p2 := 26) rfl rfl rfl (fun h3 => (z_R_run hK (n := 2) (g' := (m, 33, [(0, c)], [(0, 102), (0, c)])) rfl).trans (z_R_ifnd hK (c := c = 102) (p1 := 40) (p2 := 36) rfl rfl rfl (fun h4 => (z_R_run hK (n := 2) (g' := (m, 43, [(0, c)], [(0, 121), (0, c)])) rfl).trans (z_R_ifnd hK (c := c = 121) (p1 := 50) (p2 := 46) rfl rfl rfl (fun h5 => (z_R_run hK (n := 2) (g' := (m, 53, [(0, c)], [(0, 110), (0, c)])) rfl).trans (z_R_ifnd hK (c := c = 110) (p1 := 60) (p2 := 56) rfl rfl rfl (fun h6 => (z_R_run hK (n := 2) (g' := (m, 63, [(0, c)], [(0, 104), (0, c)])) rfl).trans (z_R_ifnd hK (c := c = 104) (p1 := 71) (p2 := 66) rfl rfl rfl (fun h7 => (z_R_run hK (n := 1) (g' := (m, 72, [(0, c)], [(0, (-1))])) rfl).trans (z_R_ret hK rfl rfl rfl)) (fun h7 => (z_R_run hK (n := 2) (g' := (m, 72, [(0, c)], [(0, 6)])) rfl).trans (z_R_ret hK rfl rfl rfl)))) (fun h6 => (z_R_run hK (n := 2) (g' := (m, 72, [(0, c)], [(0, 5)])) rfl).trans (z_R_ret hK rfl rfl rfl)))) (fun h5 => (z_R_run hK (n := 2) (g' := (m, 72, [(0, c)], [(0, 4)])) rfl).trans (z_R_ret hK rfl rfl rfl)))) (fun h4 => (z_R_run hK (n := 2) (g' := (m, 72, [(0, c)], [(0, 3)])) rfl).trans (z_R_ret hK rfl rfl rfl)))) (fun h3 => (z_R_run hK (n := 2) (g' := (m, 72, [(0, c)], [(0, 2)])) rfl).trans (z_R_ret hK rfl rfl rfl)))) (fun h2 => (z_R_run hK (n := 2) (g' := (m, 72, [(0, c)], [(0, 1)])) rfl).trans (z_R_ret hK rfl rfl rfl)))) (fun h1 => (z_R_run hK (n := 2) (g' := (m, 72, [(0, c)], [(0, 0)])) rfl).trans (z_R_ret hK rfl rfl rfl)))
theorem t_rule_0  (m : z_M) : z_R 175 (m, 0, [(2, 251), (9, 0), (9, 0)], []) = (z_R 164 (z_up m 251 11 0, 0, [(2, 251), (2, 254), (0, m 251 8), (0, 40)], [])).bind fun qq => z_R 175 (qq.1, 21, [(2, 251), (0, m 251 8), (9, 0)], qq.2.toList ++ []) :=
  have hK : kt_at 175 = kt_175 := rfl
  (z_R_run hK (n := 5) (g' := (z_up m 251 11 0, 9, [(2, 251), (9, 0), (9, 0)], [(0, (z_up m 251 11 0) 251 8)])) rfl).trans ((congrArg (fun vv => z_R 175 (z_up m 251 11 0, 9, [(2, 251), (9, 0), (9, 0)], [(0, vv)])) (zu_k (by decide))).trans ((z_R_run hK (n := 4) (g' := (z_up m 251 11 0, 15, [(2, 251), (0, m 251 8), (9, 0)], [(2, 254), (2, 251)])) rfl).trans ((z_R_run hK (n := 2) (g' := (z_up m 251 11 0, 18, [(2, 251), (0, m 251 8), (9, 0)], [(0, 40), (0, m 251 8), (2, 254), (2, 251)])) rfl).trans (z_R_call hK rfl rfl rfl rfl rfl))))
theorem t_rule_21  (m : z_M) (x1 : Int) : z_R 175 (m, 21, [(2, 251), (0, x1), (9, 0)], []) = if x1 ≤ 0 then z_R 175 (z_up (z_up m 251 8 0) 251 21 0, 73, [(2, 251), (0, x1), (0, 0)], []) else (z_R 176 (z_up (z_up m 251 8 0) 251 21 0, 0, [(2, 251), (0, 0), (9, 0)], [])).bind fun qq => z_R 175 (qq.1, 40, [(2, 251), (0, x1), (9, 0)], qq.2.toList ++ []) :=
  have hK : kt_at 175 = kt_175 := rfl
  (z_R_run hK (n := 7) (g' := (z_up (z_up m 251 8 0) 251 21 0, 32, [(2, 251), (0, x1), (9, 0)], [(0, x1)])) rfl).trans (z_R_ifd hK (c := x1 ≤ 0) (p1 := 71) (p2 := 35) rfl rfl rfl (fun h1 => (z_R_run hK (n := 2) (g' := (z_up (z_up m 251 8 0) 251 21 0, 73, [(2, 251), (0, x1), (0, 0)], [])) rfl).trans (rfl)) (fun h1 => (z_R_run hK (n := 2) (g' := (z_up (z_up m 251 8 0) 251 21 0, 37, [(2, 251), (0, x1), (9, 0)], [(0, 0), (2, 251)])) rfl).trans (z_R_call hK rfl rfl rfl rfl rfl)))
theorem t_rule_40  (m : z_M) (x1 : Int) (u : Int) : z_R 175 (m, 40, [(2, 251), (0, x1), (9, 0)], [(0, u)]) = if x1 ≤ m 251 15 then (z_R 165 (m, 0, [(2, 251)], [])).bind fun qq => z_R 175 (qq.1, 61, [(2, 251), (0, x1), (9, 0)], qq.2.toList ++ []) else (z_R 169 (m, 0, [(2, 251), (0, m 251 15)], [])).bind fun qq => z_R 175 (qq.1, 57, [(2, 251), (0, x1), (9, 0)], qq.2.toList ++ []) :=
  have hK : kt_at 175 = kt_175 := rfl
  (z_R_run hK (n := 4) (g' := (m, 46, [(2, 251), (0, x1), (9, 0)], [(0, x1), (0, m 251 15)])) rfl).trans (z_R_ifd hK (c := x1 ≤ m 251 15) (p1 := 57) (p2 := 49) rfl rfl rfl (fun h1 => (z_R_run hK (n := 1) (g' := (m, 58, [(2, 251), (0, x1), (9, 0)], [(2, 251)])) rfl).trans (z_R_call hK rfl rfl rfl rfl rfl)) (fun h1 => (z_R_run hK (n := 3) (g' := (m, 54, [(2, 251), (0, x1), (9, 0)], [(0, m 251 15), (2, 251)])) rfl).trans (z_R_call hK rfl rfl rfl rfl rfl)))
theorem t_rule_57  (m : z_M) (x1 : Int) : z_R 175 (m, 57, [(2, 251), (0, x1), (9, 0)], []) = (z_R 165 (m, 0, [(2, 251)], [])).bind fun qq => z_R 175 (qq.1, 61, [(2, 251), (0, x1), (9, 0)], qq.2.toList ++ []) :=
  have hK : kt_at 175 = kt_175 := rfl
  (z_R_run hK (n := 1) (g' := (m, 58, [(2, 251), (0, x1), (9, 0)], [(2, 251)])) rfl).trans (z_R_call hK rfl rfl rfl rfl rfl)
theorem t_rule_61  (m : z_M) (x1 : Int) (u : Int) : z_R 175 (m, 61, [(2, 251), (0, x1), (9, 0)], [(0, u)]) = if u = 0 then some (m, some (0, z_sub (-1) (m 251 16))) else z_R 175 (m, 73, [(2, 251), (0, x1), (0, 0)], []) :=
  have hK : kt_at 175 = kt_175 := rfl
  z_R_ifnd hK (c := u = 0) (p1 := 71) (p2 := 64) rfl rfl rfl (fun h1 => (z_R_run hK (n := 2) (g' := (m, 73, [(2, 251), (0, x1), (0, 0)], [])) rfl).trans (rfl)) (fun h1 => (z_R_run hK (n := 4) (g' := (m, 70, [(2, 251), (0, x1), (9, 0)], [(0, z_sub (-1) (m 251 16))])) rfl).trans (z_R_ret hK rfl rfl rfl))
theorem t_rule_73  (m : z_M) (x1 : Int) (x2 : Int) : z_R 175 (m, 73, [(2, 251), (0, x1), (0, x2)], []) = if x1 ≤ x2 then some (z_up m 251 20 x1, some (0, 0)) else if 0 ≤ x2 ∧ x2 < 80 then if 0 ≤ x2 ∧ x2 < 40 then z_R 175 (z_up m 258 (x2).toNat (z_by (m 254 (x2).toNat)), 73, [(2, 251), (0, x1), (0, x2 + 1)], []) else none else none :=
  have hK : kt_at 175 = kt_175 := rfl
  (z_R_run hK (n := 2) (g' := (m, 75, [(2, 251), (0, x1), (0, x2)], [(0, x1), (0, x2)])) rfl).trans (z_R_ifd hK (c := x1 ≤ x2) (p1 := 96) (p2 := 78) rfl rfl rfl (fun h1 => (z_R_run hK (n := 4) (g' := (z_up m 251 20 x1, 102, [(2, 251), (0, x1), (0, x2)], [(0, 0)])) rfl).trans (z_R_ret hK rfl rfl rfl)) (fun h1 => (z_R_run hK (n := 2) (g' := (m, 82, [(2, 251), (0, x1), (0, x2)], [(2, 258)])) rfl).trans ((z_R_run hK (n := 3) (g' := (m, 87, [(2, 251), (0, x1), (0, x2)], [(2, 254), (0, x2), (2, 258)])) rfl).trans ((z_R_run hK (n := 1) (g' := (m, 88, [(2, 251), (0, x1), (0, x2)], [(0, x2), (2, 254), (0, x2), (2, 258)])) rfl).trans (z_R_ixD hK (n := 80) (g' := (m, 89, [(2, 251), (0, x1), (0, x2)], [(0, m 254 (x2).toNat), (0, x2), (2, 258)])) rfl rfl rfl  (fun h2 => z_R_ixD hK (n := 40) (g' := (z_up m 258 (x2).toNat (z_by (m 254 (x2).toNat)), 90, [(2, 251), (0, x1), (0, x2)], [])) rfl rfl rfl (fun h3 => (z_R_run hK (n := 1) (g' := (z_up m 258 (x2).toNat (z_by (m 254 (x2).toNat)), 93, [(2, 251), (0, x1), (0, z_add x2 1)], [])) rfl).trans ((congrArg (fun vv => z_R 175 (z_up m 258 (x2).toNat (z_by (m 254 (x2).toNat)), 93, [(2, 251), (0, x1), (0, vv)], [])) (z_add_eq (by omega) (by omega))).trans ((z_R_run hK (n := 1) (g' := (z_up m 258 (x2).toNat (z_by (m 254 (x2).toNat)), 73, [(2, 251), (0, x1), (0, x2 + 1)], [])) rfl).trans (rfl))))))))))
end
