/-! WHAT HOLDS OF A STATE STAYS; HOURS -/
theorem hr_k_hi {w h : Int} {n : Nat} (hn : n ≤ 5) {j : Nat} (hj : j < 18 ∨ 35 ≤ j) : ∀ (f x : Nat) (A : Nat → Int) (g fb fm : Int), (hr_k w h n f x A g fb fm).1 j = A j := by
  intro f
  induction f with
  | zero => intro x A g fb fm; rfl
  | succ f ih =>
    intro x A g fb fm
    unfold hr_k
    by_cases c : u_hs w h (x : Int) = 0
    · rw [if_pos c]; exact ih _ _ _ _ _
    rw [if_neg c]
    by_cases c2 : A x = 0
    · rw [if_pos c2, ih, hr_p_hi (by omega) n 0 _ _ _ (by omega)]
      unfold hr_st
      by_cases c3 : A 34 = (x : Int)
      · rw [if_pos c3, u_up_ne (by omega)]
      · rw [if_neg c3]
    · rw [if_neg c2]; exact ih _ _ _ _ _
theorem hr_p_wh {r to : Int} (ht : -1 ≤ to ∧ to ≤ 8) {n : Nat} (hn : n ≤ 5) : ∀ (f x : Nat) (A : Nat → Int) (fb fm : Int), x + f ≤ 5 → (∀ p, p < n → -1 ≤ A (p + 18) ∧ A (p + 18) ≤ 8) → ∀ p, p < n → -1 ≤ (hr_p r to f x A fb fm).1 (p + 18) ∧ (hr_p r to f x A fb fm).1 (p + 18) ≤ 8 := by
  intro f
  induction f with
  | zero => intro x A fb fm hx hA p hp; exact hA p hp
  | succ f ih =>
    intro x A fb fm hx hA
    unfold hr_p
    by_cases c : A (x + 18) = r
    · rw [if_pos c]
      refine ih (x + 1) _ _ _ (by omega) (fun p hp => ?_)
      rw [u_up_ne (by omega)]
      unfold u_up
      by_cases c2 : p + 18 = x + 18
      · rw [if_pos c2]; exact ht
      · rw [if_neg c2]; exact hA p hp
    · rw [if_neg c]
      exact ih (x + 1) _ _ _ (by omega) hA
theorem hr_to_b (w h : Int) (x : Nat) : -1 ≤ hr_to w h x ∧ hr_to w h x ≤ 8 := by
  unfold hr_to
  by_cases c : u_hs w h ((x : Int) + 3) = 0
  · rw [if_pos c]; omega
  · have := u_hs_rng c
    rw [if_neg c]; omega
theorem hr_st_18 {r to : Int} {A : Nat → Int} {j : Nat} (hj : ¬ j = 34) : hr_st r to A j = A j := by
  unfold hr_st
  by_cases c : A 34 = r
  · rw [if_pos c, u_up_ne hj]
  · rw [if_neg c]
theorem hr_k_wh {w h : Int} {n : Nat} (hn : n ≤ 5) : ∀ (f x : Nat) (A : Nat → Int) (g fb fm : Int), (∀ p, p < n → -1 ≤ A (p + 18) ∧ A (p + 18) ≤ 8) → ∀ p, p < n → -1 ≤ (hr_k w h n f x A g fb fm).1 (p + 18) ∧ (hr_k w h n f x A g fb fm).1 (p + 18) ≤ 8 := by
  intro f
  induction f with
  | zero => intro x A g fb fm hA p hp; exact hA p hp
  | succ f ih =>
    intro x A g fb fm hA
    unfold hr_k
    by_cases c : u_hs w h (x : Int) = 0
    · rw [if_pos c]; exact ih _ _ _ _ _ hA
    rw [if_neg c]
    by_cases c2 : A x = 0
    · rw [if_pos c2]
      refine ih _ _ _ _ _ (hr_p_wh (hr_to_b w h x) hn n 0 _ _ _ (by omega) (fun p hp => ?_))
      rw [hr_st_18 (by omega)]
      exact hA p hp
    · rw [if_neg c2]; exact ih _ _ _ _ _ hA
theorem hr_F_ne {w h : Int} {j : Nat} : ∀ (f x : Nat) (A : Nat → Int), (∀ y, x ≤ y → y < x + f → ¬ j = y ∧ ¬ j = y + 9) → hr_F w h f x A j = A j := by
  intro f
  induction f with
  | zero => intro x A hj; rfl
  | succ f ih =>
    intro x A hj
    have := hj x (by omega) (by omega)
    unfold hr_F
    rw [ih (x + 1) _ (fun y h1 h2 => hj y (by omega) (by omega))]
    by_cases c : u_hs w h (x : Int) = 0
    · rw [if_pos c]
    · rw [if_neg c, hr_f_ne this.1 this.2]
theorem hr_f_0 {k : Nat} {A : Nat → Int} : hr_f k A k = z_add (A k) (hr_v (A 36) (A (k + 9)) (A k)) := by unfold hr_f; rw [u_up_self]
theorem hr_f_9 {k : Nat} {A : Nat → Int} : hr_f k A (k + 9) = z_sub (A (k + 9)) (hr_v (A 36) (A (k + 9)) (A k)) := by unfold hr_f; rw [u_up_ne (by omega), u_up_self]
theorem hr_F_at {w h : Int} : ∀ (f x : Nat) (A : Nat → Int), x + f ≤ 9 → ∀ k, x ≤ k → k < x + f → hr_F w h f x A k = (if u_hs w h (k : Int) = 0 then A k else z_add (A k) (hr_v (A 36) (A (k + 9)) (A k))) ∧ hr_F w h f x A (k + 9) = (if u_hs w h (k : Int) = 0 then A (k + 9) else z_sub (A (k + 9)) (hr_v (A 36) (A (k + 9)) (A k))) := by
  intro f
  induction f with
  | zero => intro x A hx k h1 h2; omega
  | succ f ih =>
    intro x A hx k h1 h2
    unfold hr_F
    by_cases hk : k = x
    · subst hk
      rw [hr_F_ne f (k + 1) _ (fun y h3 h4 => by omega), hr_F_ne f (k + 1) _ (fun y h3 h4 => by omega)]
      by_cases c : u_hs w h (k : Int) = 0
      · rw [if_pos c, if_pos c, if_pos c]; exact ⟨rfl, rfl⟩
      · rw [if_neg c, if_neg c, if_neg c]; exact ⟨hr_f_0, hr_f_9⟩
    · obtain ⟨i1, i2⟩ := ih (x + 1) (if u_hs w h (x : Int) = 0 then A else hr_f x A) (by omega) k (by omega) (by omega)
      have q : ∀ j, ¬ j = x → ¬ j = x + 9 → (if u_hs w h (x : Int) = 0 then A else hr_f x A) j = A j := fun j j1 j2 => by
        by_cases c : u_hs w h (x : Int) = 0
        · rw [if_pos c]
        · rw [if_neg c, hr_f_ne j1 j2]
      rw [q k (by omega) (by omega), q (k + 9) (by omega) (by omega), q 36 (by omega) (by omega)] at i1 i2
      exact ⟨i1, i2⟩
theorem hr_v_b {f w i : Int} (h1 : 0 ≤ f) (h2 : 0 ≤ w) (h3 : 0 ≤ i) (h4 : i ≤ 99) : 0 ≤ hr_v f w i ∧ hr_v f w i ≤ w ∧ hr_v f w i ≤ 99 - i := by
  unfold hr_v
  rw [z_sub_eq (by omega) (by omega)]
  by_cases c1 : w < f
  · rw [if_pos c1]
    by_cases c2 : 99 - i < w
    · rw [if_pos c2]; omega
    · rw [if_neg c2]; omega
  · rw [if_neg c1]
    by_cases c2 : 99 - i < f
    · rw [if_pos c2]; omega
    · rw [if_neg c2]; omega
theorem hr_K_hi {w h : Nat} (hw : w ≤ 3) (hh : h ≤ 3) {heat price : Int} {ml : hr_M} {wm : Nat → Int} {n : Nat} (hn : n ≤ 5) {A : Nat → Int} {j : Nat} (hj : 35 ≤ j) : (hr_K w h heat price ml wm n A).1 j = A j := by
  unfold hr_K
  rw [hr_k_hi hn (Or.inr hj), hr_F_hi (by omega) 9 0 _ (by decide), ← hr_dq_y hw hh, hr_dq_ne (by omega) (by omega) 9 _ (by decide), hr_o_ne n 0 A j (by omega) (by omega)]
theorem hr_A_35 {w h : Nat} (hw : w ≤ 3) (hh : h ≤ 3) {heat price : Int} {ml : hr_M} {wm : Nat → Int} {n : Nat} (hn : n ≤ 5) {A : Nat → Int} : hr_A w h heat price ml wm n A 35 = z_add (A 35) 1 := by
  unfold hr_A
  rw [u_up_self, hr_K_hi hw hh hn (by decide)]
theorem hr_dq_ne18 {w h : Nat} {e : Nat → Int} {j : Nat} (hj : 18 ≤ j) (h33 : ¬ j = 33) : ∀ (f : Nat) (A : Nat → Int), f ≤ 9 → hr_dq w h e f A j = A j := by
  intro f
  induction f with
  | zero => intro A hf; rfl
  | succ f ih =>
    intro A hf
    unfold hr_dq
    cases hq w h f with
    | true =>
      rw [cond_true, ih _ (by omega)]
      cases c : hq w h (f + 3) with
      | true =>
        have := (hq_t.mp c).1
        rw [hr_d1_ne (by omega) (by omega) (by omega) h33]
      | false => rw [cond_false, hr_d1_at0 rfl, if_neg (by omega), if_neg (by omega), if_neg h33]
    | false => rw [cond_false]; exact ih _ (by omega)
theorem hr_A_ok {w h : Nat} (hw : w ≤ 3) (hh : h ≤ 3) {heat price : Int} {ml : hr_M} {wm : Nat → Int} {n : Nat} (hn : n ≤ 5) (hheat : 0 ≤ heat ∧ heat ≤ 9) (hml : hr_mlok ml) (hwm : ∀ p, p < 5 → 0 ≤ wm p ∧ wm p ≤ 9) {A : Nat → Int} (hok : hr_ok n A) : hr_ok n (hr_A w h heat price ml wm n A) := by
  obtain ⟨o1, o2, o3, o4⟩ := hok
  have key : ∀ k, k < 9 → (0 ≤ (hr_K w h heat price ml wm n A).1 k ∧ (hr_K w h heat price ml wm n A).1 k ≤ 99) ∧ 0 ≤ (hr_K w h heat price ml wm n A).1 (k + 9) ∧ (hr_K w h heat price ml wm n A).1 (k + 9) ≤ 99 * ((k / 3 + 1 : Nat) : Int) := by
    intro k hk
    unfold hr_K
    rw [hr_k_hi hn (Or.inl (by omega)), hr_k_hi hn (Or.inl (by omega))]
    obtain ⟨f1, f2⟩ := hr_F_at (w := (w : Int)) (h := (h : Int)) 9 0 (hr_y w h (hr_me (w : Int) (h : Int) heat ml wm n A) h (hr_o wm price n 0 A)) (by decide) k (by omega) (by omega)
    rw [f1, f2]
    obtain ⟨d1, d2⟩ := hr_cl hw hh (hr_me (w : Int) (h : Int) heat ml wm n A) (hr_o wm price n 0 A) k hk
    rw [hr_dq_y hw hh, hr_o_ne n 0 A k (by omega) (by omega)] at d1
    rw [hr_dq_y hw hh, hr_o_ne n 0 A (k + 9) (by omega) (by omega), hr_o_ne n 0 A (k + 6) (by omega) (by omega)] at d2
    have d36 : hr_y w h (hr_me (w : Int) (h : Int) heat ml wm n A) h (hr_o wm price n 0 A) 36 = A 36 := by
      rw [← hr_dq_y hw hh, hr_dq_ne (by omega) (by omega) 9 _ (by decide), hr_o_ne n 0 A 36 (by omega) (by omega)]
    rw [d36, d1, d2]
    have p1 := o1 k hk
    have p2 := o2 k hk
    have hu := u_hs_q hw hh (r := k) (by omega)
    cases hc : hq w h k with
    | false =>
      rw [hc, cond_false] at hu
      rw [cond_false, cond_false, if_pos hu, if_pos hu]
      exact ⟨p1, p2⟩
    | true =>
      rw [hc, cond_true] at hu
      rw [cond_true, cond_true, if_neg (by omega), if_neg (by omega)]
      have em : hr_me (w : Int) (h : Int) heat ml wm n A k = ml (hr_W heat wm n A k) (A k) (A (k + 9)) (A 36) ((k : Int) / 3) (hr_C n A k) (A 35) := by
        unfold hr_me
        rw [if_neg (by omega)]
        exact hr_mN_eq hn hwm hheat A k
      have bm := hml (hr_W heat wm n A k) (A k) (A (k + 9)) (A 36) ((k : Int) / 3) (hr_C n A k) (A 35) p1.1
      rw [← em] at bm
      generalize hr_me (w : Int) (h : Int) heat ml wm n A k = ek at bm ⊢
      rw [z_sub_eq (x := A k) (by omega) (by omega)]
      have hwet : ∃ W, (bif Nat.ble 3 k then z_add ek (A (k + 6)) else ek) = W ∧ 0 ≤ W ∧ W ≤ 99 * ((k / 3 + 1 : Nat) : Int) := by
        cases h3 : Nat.ble 3 k with
        | true =>
          have h3' := Nat.le_of_ble_eq_true h3
          have p3 := o2 (k - 3) (by omega)
          rw [show k - 3 + 9 = k + 6 by omega] at p3
          refine ⟨ek + A (k + 6), by rw [cond_true, z_add_eq (by omega) (by omega)], by omega, by omega⟩
        | false =>
          refine ⟨ek, by rw [cond_false], by omega, by omega⟩
      obtain ⟨W, w1, w2, w3⟩ := hwet
      rw [w1]
      have bv := hr_v_b (f := A 36) (w := W) (i := A k - ek) o4.1 w2 (by omega) (by omega)
      rw [z_add_eq (by omega) (by omega), z_sub_eq (by omega) (by omega)]
      omega
  refine ⟨fun k hk => ?_, fun k hk => ?_, fun p hp => ?_, ?_⟩
  · unfold hr_A
    rw [u_up_ne (by omega)]
    exact (key k hk).1
  · unfold hr_A
    rw [u_up_ne (by omega)]
    exact (key k hk).2
  · unfold hr_A
    rw [u_up_ne (by omega)]
    unfold hr_K
    refine hr_k_wh hn 9 0 _ 0 0 0 (fun p hp => ?_) p hp
    rw [hr_F_hi (by omega) 9 0 _ (by decide), ← hr_dq_y hw hh, hr_dq_ne18 (by omega) (by omega) 9 _ (by decide), hr_o_ne n 0 A (p + 18) (by omega) (by omega)]
    exact o3 p hp
  · unfold hr_A
    rw [u_up_ne (by omega), hr_K_hi hw hh hn (by decide)]
    exact o4
/-- hours one behind the other: the State; what melted, gave, who fell, how often -/
def hr_H (w h : Nat) (heat price : Int) (ml : hr_M) (wmt : Int → Nat → Int) (n : Nat) : Nat → (Nat → Int) → Int → Int → Int → Int → (Nat → Int) × Int × Int × Int × Int
  | 0, A, M, G, F, T => (A, M, G, F, T)
  | f + 1, A, M, G, F, T => hr_H w h heat price ml wmt n f (hr_A w h heat price ml (wmt (A 35)) n A) (z_add M (hr_m w h heat ml (wmt (A 35)) n A)) (z_or G (hr_K w h heat price ml (wmt (A 35)) n A).2.1) (z_or F (hr_K w h heat price ml (wmt (A 35)) n A).2.2.1) (z_add T (hr_K w h heat price ml (wmt (A 35)) n A).2.2.2)
theorem c_cfg_LH {s : Nat} (hs : z_st s) {w h n : Nat} {heat price : Int} {ml : hr_M} {wmt : Int → Nat → Int} {m m' : z_M} (hc : c_cfg w h n heat price ml wmt m) (sm : z_same (c_LH s) m m') : c_cfg w h n heat price ml wmt m' := by
  have hs2 := hs.2
  exact c_cfg_sm hc sm (by (try unfold c_LH); (try unfold r_LH); (try unfold r_LHs); (repeat' (first | exact trivial | refine z_ofr_c ?_ ?_)) <;> omega) (by (try unfold c_LH); (try unfold r_LH); (try unfold r_LHs); (repeat' (first | exact trivial | refine z_of_c ?_ ?_)) <;> omega) (by (try unfold c_LH); (try unfold r_LH); (try unfold r_LHs); (repeat' (first | exact trivial | refine z_ofr_c ?_ ?_)) <;> omega) (by (try unfold c_LH); (try unfold r_LH); (try unfold r_LHs); (repeat' (first | exact trivial | refine z_ofr_c ?_ ?_)) <;> omega) (by (try unfold c_LH); (try unfold r_LH); (try unfold r_LHs); (repeat' (first | exact trivial | refine z_of_c ?_ ?_)) <;> omega) (by (try unfold c_LH); (try unfold r_LH); (try unfold r_LHs); (repeat' (first | exact trivial | refine z_of_c ?_ ?_)) <;> omega)
theorem r_cfg_LH {a : Nat} (ha2 : z_ab a) {w h n : Nat} {heat price : Int} {ml : hr_M} {wmt : Int → Nat → Int} {m m' : z_M} (hc : r_cfg w h n heat price ml wmt m) (sm : z_same (r_LH a) m m') : r_cfg w h n heat price ml wmt m' := by
  have ha3 := r_ne251 ha2
  exact r_cfg_sm hc sm (by (try unfold c_LH); (try unfold r_LH); (try unfold r_LHs); (repeat' (first | exact trivial | refine z_of_c ?_ ?_)) <;> omega) (by (try unfold c_LH); (try unfold r_LH); (try unfold r_LHs); (repeat' (first | exact trivial | refine z_of_c ?_ ?_)) <;> omega) (by (try unfold c_LH); (try unfold r_LH); (try unfold r_LHs); (repeat' (first | exact trivial | refine z_of_c ?_ ?_)) <;> omega) (by (try unfold c_LH); (try unfold r_LH); (try unfold r_LHs); (repeat' (first | exact trivial | refine z_of_c ?_ ?_)) <;> omega) (by (try unfold c_LH); (try unfold r_LH); (try unfold r_LHs); (repeat' (first | exact trivial | refine z_of_c ?_ ?_)) <;> omega) (by (try unfold c_LH); (try unfold r_LH); (try unfold r_LHs); (repeat' (first | exact trivial | refine z_of_c ?_ ?_)) <;> omega) (by (try unfold c_LH); (try unfold r_LH); (try unfold r_LHs); (repeat' (first | exact trivial | refine z_ofr_c ?_ ?_)) <;> omega) (by (try unfold c_LH); (try unfold r_LH); (try unfold r_LHs); (repeat' (first | exact trivial | refine z_ofr_c ?_ ?_)) <;> omega) (by (try unfold c_LH); (try unfold r_LH); (try unfold r_LHs); (repeat' (first | exact trivial | refine z_of_c ?_ ?_)) <;> omega)
theorem c_goOn1 {s : Nat} (hs : z_st s) {w h n : Nat} {heat price : Int} {ml : hr_M} {wmt : Int → Nat → Int} (hw : w ≤ 3) (hh : h ≤ 3) (hN : hr_nums n heat ml wmt) {N : Nat} (hN6 : N ≤ 1000000) : ∀ (f x : Nat) (m : z_M) (A : Nat → Int), x + f = N → c_cfg w h n heat price ml wmt m → cS m s n = A → hr_ok n A → 0 ≤ A 35 → A 35 + (f : Int) ≤ 2147483647 → z_w (m 24 6) = m 24 6 → z_w (m 24 9) = m 24 9 → ∃ m', z_R 67 (m, 2, [(2, 24), (2, ((s : Nat) : Int)), (0, (N : Int)), (0, (x : Int))], []) = some (m', none) ∧ (cS m' s n, m' 24 6, m' 24 7, m' 24 8, m' 24 9) = hr_H w h heat price ml wmt n f A (m 24 6) (m 24 7) (m 24 8) (m 24 9) ∧ z_same (c_LH s) m m' := by
  have hs2 := hs.2
  intro f
  induction f with
  | zero =>
    intro x m A hx hc hA hok ht ht2 h6 h9
    rw [s_goOn_2 hs m N x ⟨by omega, by omega⟩ ⟨by omega, by omega⟩, if_pos (by omega)]
    exact ⟨m, rfl, by rw [hA]; rfl, z_same.rf⟩
  | succ f ih =>
    intro x m A hx hc hA hok ht ht2 h6 h9
    obtain ⟨m1, a1, a2, a3, a4, a5, a6, a7, a8, a9⟩ := c_hour hs hw hh hN m hc hA hok ht (by omega) h6 h9
    rw [s_goOn_2 hs m N x ⟨by omega, by omega⟩ ⟨by omega, by omega⟩, if_neg (by omega), a1, zb_n, s_goOn_19 hs m1 N x ⟨by omega, by omega⟩, tc1]
    have hok' := hr_A_ok (price := price) hw hh hN.1 hN.2.1 hN.2.2.1 (hN.2.2.2 (A 35) ht) hok
    have e35 : hr_A w h heat price ml (wmt (A 35)) n A 35 = A 35 + 1 := by rw [hr_A_35 hw hh hN.1, z_add_eq (by omega) (by omega)]
    obtain ⟨m', b1, b2, b3⟩ := ih (x + 1) m1 (hr_A w h heat price ml (wmt (A 35)) n A) (by omega) (c_cfg_LH hs hc a9) a2 hok' (by omega) (by omega) (by rw [a3, z_add_w]; exact z_w_w) (by rw [a6, z_add_w]; exact z_w_w)
    refine ⟨m', b1, ?_, a9.tr b3⟩
    rw [b2, a3, a4, a5, a6]
    rfl
theorem c_goOn {s : Nat} (hs : z_st s) {w h n : Nat} {heat price : Int} {ml : hr_M} {wmt : Int → Nat → Int} (hw : w ≤ 3) (hh : h ≤ 3) (hN : hr_nums n heat ml wmt) {N : Nat} (hN6 : N ≤ 1000000) (m : z_M) {A : Nat → Int} (hc : c_cfg w h n heat price ml wmt m) (hA : cS m s n = A) (hok : hr_ok n A) (ht : 0 ≤ A 35) (ht2 : A 35 + (N : Int) ≤ 2147483647) (h6 : z_w (m 24 6) = m 24 6) (h9 : z_w (m 24 9) = m 24 9) : ∃ m', z_R 67 (m, 0, [(2, 24), (2, ((s : Nat) : Int)), (0, (N : Int)), (9, 0)], []) = some (m', none) ∧ (cS m' s n, m' 24 6, m' 24 7, m' 24 8, m' 24 9) = hr_H w h heat price ml wmt n N A (m 24 6) (m 24 7) (m 24 8) (m 24 9) ∧ z_same (c_LH s) m m' := by
  rw [s_goOn_0 hs m N ⟨by omega, by omega⟩, show (0 : Int) = ((0 : Nat) : Int) from rfl]
  exact c_goOn1 hs hw hh hN hN6 N 0 m A (by omega) hc hA hok ht ht2 h6 h9
abbrev r_LHs (a : Nat) : List (Nat × Nat × Nat) := [(259, 0, 6), (251, 12, 16), (251, 21, 21), (262, 0, 8), (251, 28, 35), (a, 0, 36)]
theorem r_cfg_LHs {a : Nat} (ha2 : z_ab a) {w h n : Nat} {heat price : Int} {ml : hr_M} {wmt : Int → Nat → Int} {m m' : z_M} (hc : r_cfg w h n heat price ml wmt m) (sm : z_same (r_LHs a) m m') : r_cfg w h n heat price ml wmt m' := by
  have ha3 := r_ne251 ha2
  exact r_cfg_sm hc sm (by (try unfold c_LH); (try unfold r_LH); (try unfold r_LHs); (repeat' (first | exact trivial | refine z_of_c ?_ ?_)) <;> omega) (by (try unfold c_LH); (try unfold r_LH); (try unfold r_LHs); (repeat' (first | exact trivial | refine z_of_c ?_ ?_)) <;> omega) (by (try unfold c_LH); (try unfold r_LH); (try unfold r_LHs); (repeat' (first | exact trivial | refine z_of_c ?_ ?_)) <;> omega) (by (try unfold c_LH); (try unfold r_LH); (try unfold r_LHs); (repeat' (first | exact trivial | refine z_of_c ?_ ?_)) <;> omega) (by (try unfold c_LH); (try unfold r_LH); (try unfold r_LHs); (repeat' (first | exact trivial | refine z_of_c ?_ ?_)) <;> omega) (by (try unfold c_LH); (try unfold r_LH); (try unfold r_LHs); (repeat' (first | exact trivial | refine z_of_c ?_ ?_)) <;> omega) (by (try unfold c_LH); (try unfold r_LH); (try unfold r_LHs); (repeat' (first | exact trivial | refine z_ofr_c ?_ ?_)) <;> omega) (by (try unfold c_LH); (try unfold r_LH); (try unfold r_LHs); (repeat' (first | exact trivial | refine z_ofr_c ?_ ?_)) <;> omega) (by (try unfold c_LH); (try unfold r_LH); (try unfold r_LHs); (repeat' (first | exact trivial | refine z_of_c ?_ ?_)) <;> omega)
theorem r_goHours1 {a : Nat} (ha : z_A 37 a) (ha2 : z_ab a) {w h n : Nat} {heat price : Int} {ml : hr_M} {wmt : Int → Nat → Int} (hw : w ≤ 3) (hh : h ≤ 3) (hN : hr_nums n heat ml wmt) {N : Nat} (hN6 : N ≤ 1000000) : ∀ (f x : Nat) (m : z_M) (A : Nat → Int), x + f = N → r_cfg w h n heat price ml wmt m → rS m a n = A → hr_ok n A → 0 ≤ A 35 → A 35 + (f : Int) ≤ 2147483647 → ∃ m', z_R 207 (m, 2, [(2, 251), (2, ((a : Nat) : Int)), (0, (N : Int)), (0, (x : Int))], []) = some (m', none) ∧ (rS m' a n, m' 251 32, m' 251 33, m' 251 34, m' 251 35) = hr_H w h heat price ml wmt n f A (m 251 32) (m 251 33) (m 251 34) (m 251 35) ∧ z_same (r_LHs a) m m' := by
  have ha3 := r_ne251 ha2
  intro f
  induction f with
  | zero =>
    intro x m A hx hc hA hok ht ht2
    rw [t_hrs_2 ha ha2 m N x ⟨by omega, by omega⟩ ⟨by omega, by omega⟩, if_pos (by omega)]
    exact ⟨m, rfl, by rw [hA]; rfl, z_same.rf⟩
  | succ f ih =>
    intro x m A hx hc hA hok ht ht2
    obtain ⟨m1, a1, a2, a3, a4, a5, a6, a7⟩ := r_hour ha ha2 hw hh hN m hc hA hok ht (by omega)
    rw [t_hrs_2 ha ha2 m N x ⟨by omega, by omega⟩ ⟨by omega, by omega⟩, if_neg (by omega), a1, zb_n, t_hrs_12 ha ha2 m1 N x ⟨by omega, by omega⟩, tc1, a3, a4, a5, a6]
    have hok' := hr_A_ok (price := price) hw hh hN.1 hN.2.1 hN.2.2.1 (hN.2.2.2 (A 35) ht) hok
    have e35 : hr_A w h heat price ml (wmt (A 35)) n A 35 = A 35 + 1 := by rw [hr_A_35 hw hh hN.1, z_add_eq (by omega) (by omega)]
    have s1 : z_same (r_LHs a) m m1 := a7.subo (by (try unfold c_LH); (try unfold r_LH); (try unfold r_LHs); (repeat' (first | exact trivial | refine z_sbo_c ?_ ?_)) <;> (intro k h1 h2; first | exact z_on_h rfl (by omega) (by omega) | exact z_on_t (z_on_h rfl (by omega) (by omega)) | exact z_on_t (z_on_t (z_on_h rfl (by omega) (by omega))) | exact z_on_t (z_on_t (z_on_t (z_on_h rfl (by omega) (by omega)))) | exact z_on_t (z_on_t (z_on_t (z_on_t (z_on_h rfl (by omega) (by omega))))) | exact z_on_t (z_on_t (z_on_t (z_on_t (z_on_t (z_on_h rfl (by omega) (by omega)))))) | exact z_on_t (z_on_t (z_on_t (z_on_t (z_on_t (z_on_t (z_on_h rfl (by omega) (by omega))))))) | exact z_on_t (z_on_t (z_on_t (z_on_t (z_on_t (z_on_t (z_on_t (z_on_h rfl (by omega) (by omega)))))))) | exact z_on_t (z_on_t (z_on_t (z_on_t (z_on_t (z_on_t (z_on_t (z_on_t (z_on_h rfl (by omega) (by omega))))))))) | exact z_on_t (z_on_t (z_on_t (z_on_t (z_on_t (z_on_t (z_on_t (z_on_t (z_on_t (z_on_h rfl (by omega) (by omega)))))))))) | exact z_on_t (z_on_t (z_on_t (z_on_t (z_on_t (z_on_t (z_on_t (z_on_t (z_on_t (z_on_t (z_on_h rfl (by omega) (by omega))))))))))) | exact z_on_t (z_on_t (z_on_t (z_on_t (z_on_t (z_on_t (z_on_t (z_on_t (z_on_t (z_on_t (z_on_t (z_on_h rfl (by omega) (by omega)))))))))))) | exact z_on_t (z_on_t (z_on_t (z_on_t (z_on_t (z_on_t (z_on_t (z_on_t (z_on_t (z_on_t (z_on_t (z_on_t (z_on_h rfl (by omega) (by omega)))))))))))))))
    rw [a7.of (p := 251) (k := 32) (by (try unfold c_LH); (try unfold r_LH); (try unfold r_LHs); (repeat' (first | exact trivial | refine z_of_c ?_ ?_)) <;> omega), a7.of (p := 251) (k := 33) (by (try unfold c_LH); (try unfold r_LH); (try unfold r_LHs); (repeat' (first | exact trivial | refine z_of_c ?_ ?_)) <;> omega), a7.of (p := 251) (k := 34) (by (try unfold c_LH); (try unfold r_LH); (try unfold r_LHs); (repeat' (first | exact trivial | refine z_of_c ?_ ?_)) <;> omega), a7.of (p := 251) (k := 35) (by (try unfold c_LH); (try unfold r_LH); (try unfold r_LHs); (repeat' (first | exact trivial | refine z_of_c ?_ ?_)) <;> omega)]
    have s2 : z_same (r_LHs a) m (z_up (z_up (z_up (z_up m1 251 32 (z_add (m 251 32) (hr_m w h heat ml (wmt (A 35)) n A))) 251 33 (z_or (m 251 33) (hr_K w h heat price ml (wmt (A 35)) n A).2.1)) 251 34 (z_or (m 251 34) (hr_K w h heat price ml (wmt (A 35)) n A).2.2.1)) 251 35 (z_add (m 251 35) (hr_K w h heat price ml (wmt (A 35)) n A).2.2.2)) := (((s1.upo (by (try unfold c_LH); (try unfold r_LH); (try unfold r_LHs); first | exact z_on_h rfl (by omega) (by omega) | exact z_on_t (z_on_h rfl (by omega) (by omega)) | exact z_on_t (z_on_t (z_on_h rfl (by omega) (by omega))) | exact z_on_t (z_on_t (z_on_t (z_on_h rfl (by omega) (by omega)))) | exact z_on_t (z_on_t (z_on_t (z_on_t (z_on_h rfl (by omega) (by omega))))) | exact z_on_t (z_on_t (z_on_t (z_on_t (z_on_t (z_on_h rfl (by omega) (by omega)))))) | exact z_on_t (z_on_t (z_on_t (z_on_t (z_on_t (z_on_t (z_on_h rfl (by omega) (by omega))))))) | exact z_on_t (z_on_t (z_on_t (z_on_t (z_on_t (z_on_t (z_on_t (z_on_h rfl (by omega) (by omega)))))))) | exact z_on_t (z_on_t (z_on_t (z_on_t (z_on_t (z_on_t (z_on_t (z_on_t (z_on_h rfl (by omega) (by omega))))))))) | exact z_on_t (z_on_t (z_on_t (z_on_t (z_on_t (z_on_t (z_on_t (z_on_t (z_on_t (z_on_h rfl (by omega) (by omega)))))))))) | exact z_on_t (z_on_t (z_on_t (z_on_t (z_on_t (z_on_t (z_on_t (z_on_t (z_on_t (z_on_t (z_on_h rfl (by omega) (by omega))))))))))) | exact z_on_t (z_on_t (z_on_t (z_on_t (z_on_t (z_on_t (z_on_t (z_on_t (z_on_t (z_on_t (z_on_t (z_on_h rfl (by omega) (by omega)))))))))))) | exact z_on_t (z_on_t (z_on_t (z_on_t (z_on_t (z_on_t (z_on_t (z_on_t (z_on_t (z_on_t (z_on_t (z_on_t (z_on_h rfl (by omega) (by omega))))))))))))))).upo (by (try unfold c_LH); (try unfold r_LH); (try unfold r_LHs); first | exact z_on_h rfl (by omega) (by omega) | exact z_on_t (z_on_h rfl (by omega) (by omega)) | exact z_on_t (z_on_t (z_on_h rfl (by omega) (by omega))) | exact z_on_t (z_on_t (z_on_t (z_on_h rfl (by omega) (by omega)))) | exact z_on_t (z_on_t (z_on_t (z_on_t (z_on_h rfl (by omega) (by omega))))) | exact z_on_t (z_on_t (z_on_t (z_on_t (z_on_t (z_on_h rfl (by omega) (by omega)))))) | exact z_on_t (z_on_t (z_on_t (z_on_t (z_on_t (z_on_t (z_on_h rfl (by omega) (by omega))))))) | exact z_on_t (z_on_t (z_on_t (z_on_t (z_on_t (z_on_t (z_on_t (z_on_h rfl (by omega) (by omega)))))))) | exact z_on_t (z_on_t (z_on_t (z_on_t (z_on_t (z_on_t (z_on_t (z_on_t (z_on_h rfl (by omega) (by omega))))))))) | exact z_on_t (z_on_t (z_on_t (z_on_t (z_on_t (z_on_t (z_on_t (z_on_t (z_on_t (z_on_h rfl (by omega) (by omega)))))))))) | exact z_on_t (z_on_t (z_on_t (z_on_t (z_on_t (z_on_t (z_on_t (z_on_t (z_on_t (z_on_t (z_on_h rfl (by omega) (by omega))))))))))) | exact z_on_t (z_on_t (z_on_t (z_on_t (z_on_t (z_on_t (z_on_t (z_on_t (z_on_t (z_on_t (z_on_t (z_on_h rfl (by omega) (by omega)))))))))))) | exact z_on_t (z_on_t (z_on_t (z_on_t (z_on_t (z_on_t (z_on_t (z_on_t (z_on_t (z_on_t (z_on_t (z_on_t (z_on_h rfl (by omega) (by omega))))))))))))))).upo (by (try unfold c_LH); (try unfold r_LH); (try unfold r_LHs); first | exact z_on_h rfl (by omega) (by omega) | exact z_on_t (z_on_h rfl (by omega) (by omega)) | exact z_on_t (z_on_t (z_on_h rfl (by omega) (by omega))) | exact z_on_t (z_on_t (z_on_t (z_on_h rfl (by omega) (by omega)))) | exact z_on_t (z_on_t (z_on_t (z_on_t (z_on_h rfl (by omega) (by omega))))) | exact z_on_t (z_on_t (z_on_t (z_on_t (z_on_t (z_on_h rfl (by omega) (by omega)))))) | exact z_on_t (z_on_t (z_on_t (z_on_t (z_on_t (z_on_t (z_on_h rfl (by omega) (by omega))))))) | exact z_on_t (z_on_t (z_on_t (z_on_t (z_on_t (z_on_t (z_on_t (z_on_h rfl (by omega) (by omega)))))))) | exact z_on_t (z_on_t (z_on_t (z_on_t (z_on_t (z_on_t (z_on_t (z_on_t (z_on_h rfl (by omega) (by omega))))))))) | exact z_on_t (z_on_t (z_on_t (z_on_t (z_on_t (z_on_t (z_on_t (z_on_t (z_on_t (z_on_h rfl (by omega) (by omega)))))))))) | exact z_on_t (z_on_t (z_on_t (z_on_t (z_on_t (z_on_t (z_on_t (z_on_t (z_on_t (z_on_t (z_on_h rfl (by omega) (by omega))))))))))) | exact z_on_t (z_on_t (z_on_t (z_on_t (z_on_t (z_on_t (z_on_t (z_on_t (z_on_t (z_on_t (z_on_t (z_on_h rfl (by omega) (by omega)))))))))))) | exact z_on_t (z_on_t (z_on_t (z_on_t (z_on_t (z_on_t (z_on_t (z_on_t (z_on_t (z_on_t (z_on_t (z_on_t (z_on_h rfl (by omega) (by omega))))))))))))))).upo (by (try unfold c_LH); (try unfold r_LH); (try unfold r_LHs); first | exact z_on_h rfl (by omega) (by omega) | exact z_on_t (z_on_h rfl (by omega) (by omega)) | exact z_on_t (z_on_t (z_on_h rfl (by omega) (by omega))) | exact z_on_t (z_on_t (z_on_t (z_on_h rfl (by omega) (by omega)))) | exact z_on_t (z_on_t (z_on_t (z_on_t (z_on_h rfl (by omega) (by omega))))) | exact z_on_t (z_on_t (z_on_t (z_on_t (z_on_t (z_on_h rfl (by omega) (by omega)))))) | exact z_on_t (z_on_t (z_on_t (z_on_t (z_on_t (z_on_t (z_on_h rfl (by omega) (by omega))))))) | exact z_on_t (z_on_t (z_on_t (z_on_t (z_on_t (z_on_t (z_on_t (z_on_h rfl (by omega) (by omega)))))))) | exact z_on_t (z_on_t (z_on_t (z_on_t (z_on_t (z_on_t (z_on_t (z_on_t (z_on_h rfl (by omega) (by omega))))))))) | exact z_on_t (z_on_t (z_on_t (z_on_t (z_on_t (z_on_t (z_on_t (z_on_t (z_on_t (z_on_h rfl (by omega) (by omega)))))))))) | exact z_on_t (z_on_t (z_on_t (z_on_t (z_on_t (z_on_t (z_on_t (z_on_t (z_on_t (z_on_t (z_on_h rfl (by omega) (by omega))))))))))) | exact z_on_t (z_on_t (z_on_t (z_on_t (z_on_t (z_on_t (z_on_t (z_on_t (z_on_t (z_on_t (z_on_t (z_on_h rfl (by omega) (by omega)))))))))))) | exact z_on_t (z_on_t (z_on_t (z_on_t (z_on_t (z_on_t (z_on_t (z_on_t (z_on_t (z_on_t (z_on_t (z_on_t (z_on_h rfl (by omega) (by omega))))))))))))))
    generalize hm2 : z_up (z_up (z_up (z_up m1 251 32 (z_add (m 251 32) (hr_m w h heat ml (wmt (A 35)) n A))) 251 33 (z_or (m 251 33) (hr_K w h heat price ml (wmt (A 35)) n A).2.1)) 251 34 (z_or (m 251 34) (hr_K w h heat price ml (wmt (A 35)) n A).2.2.1)) 251 35 (z_add (m 251 35) (hr_K w h heat price ml (wmt (A 35)) n A).2.2.2) = m2 at s2 ⊢
    have g32 : m2 251 32 = z_add (m 251 32) (hr_m w h heat ml (wmt (A 35)) n A) := by rw [← hm2, zu_k (by decide), zu_k (by decide), zu_k (by decide), zu_self]
    have g33 : m2 251 33 = z_or (m 251 33) (hr_K w h heat price ml (wmt (A 35)) n A).2.1 := by rw [← hm2, zu_k (by decide), zu_k (by decide), zu_self]
    have g34 : m2 251 34 = z_or (m 251 34) (hr_K w h heat price ml (wmt (A 35)) n A).2.2.1 := by rw [← hm2, zu_k (by decide), zu_self]
    have g35 : m2 251 35 = z_add (m 251 35) (hr_K w h heat price ml (wmt (A 35)) n A).2.2.2 := by rw [← hm2, zu_self]
    have ga : m2 a = m1 a := by rw [← hm2, zu_rowne (by omega), zu_rowne (by omega), zu_rowne (by omega), zu_rowne (by omega)]
    obtain ⟨m', b1, b2, b3⟩ := ih (x + 1) m2 (hr_A w h heat price ml (wmt (A 35)) n A) (by omega) (r_cfg_LHs ha2 hc s2) ((rS_row ga).trans a2) hok' (by omega) (by omega)
    refine ⟨m', b1, ?_, s2.tr b3⟩
    rw [b2, g32, g33, g34, g35]
    rfl
theorem r_goHours {a : Nat} (ha : z_A 37 a) (ha2 : z_ab a) {w h n : Nat} {heat price : Int} {ml : hr_M} {wmt : Int → Nat → Int} (hw : w ≤ 3) (hh : h ≤ 3) (hN : hr_nums n heat ml wmt) {N : Nat} (hN6 : N ≤ 1000000) (m : z_M) {A : Nat → Int} (hc : r_cfg w h n heat price ml wmt m) (hA : rS m a n = A) (hok : hr_ok n A) (ht : 0 ≤ A 35) (ht2 : A 35 + (N : Int) ≤ 2147483647) : ∃ m', z_R 207 (m, 0, [(2, 251), (2, ((a : Nat) : Int)), (0, (N : Int)), (9, 0)], []) = some (m', none) ∧ (rS m' a n, m' 251 32, m' 251 33, m' 251 34, m' 251 35) = hr_H w h heat price ml wmt n N A (m 251 32) (m 251 33) (m 251 34) (m 251 35) ∧ z_same (r_LHs a) m m' := by
  rw [t_hrs_0 ha ha2 m N ⟨by omega, by omega⟩, show (0 : Int) = ((0 : Nat) : Int) from rfl]
  exact r_goHours1 ha ha2 hw hh hN hN6 N 0 m A (by omega) hc hA hok ht ht2
