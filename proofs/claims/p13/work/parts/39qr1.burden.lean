/-! burden, of what both are in -/
/-- those who are somewhere, from x on -/
def o_ls (A : Nat → Int) : Nat → Nat → List Nat
  | 0, _ => []
  | f + 1, x => if A (x + 18) = -1 then o_ls A f (x + 1) else x :: o_ls A f (x + 1)
/-- the first of those with the most -/
def o_bu (S : Nat → Int) : List Nat → Int → Int → Int
  | [], b, _ => b
  | p :: l, b, v => if v < S p then o_bu S l (p : Int) (S p) else o_bu S l b v
theorem o_bu_nn {S : Nat → Int} : ∀ (l : List Nat) (b v : Int), 0 ≤ b → 0 ≤ o_bu S l b v := by
  intro l
  induction l with
  | nil => intro b v h; exact h
  | cons p l ih =>
    intro b v h
    unfold o_bu
    by_cases c : v < S p
    · rw [if_pos c]; exact ih _ _ (by omega)
    · rw [if_neg c]; exact ih _ _ h
theorem o_ls_len {A : Nat → Int} : ∀ (f x : Nat), (o_ls A f x).length ≤ f ∧ ∀ p ∈ o_ls A f x, p < x + f := by
  intro f
  induction f with
  | zero => intro x; exact ⟨Nat.le_refl _, fun p hp => absurd hp List.not_mem_nil⟩
  | succ f ih =>
    intro x
    obtain ⟨i1, i2⟩ := ih (x + 1)
    unfold o_ls
    by_cases c : A (x + 18) = -1
    · rw [if_pos c]
      exact ⟨by omega, fun p hp => by have := i2 p hp; omega⟩
    · rw [if_neg c]
      refine ⟨Nat.succ_le_succ i1, fun p hp => ?_⟩
      rcases List.mem_cons.mp hp with e | e
      · omega
      · have := i2 p e
        omega
/-- for how many hours they stand without p -/
def o_S (w h n : Nat) (heat price : Int) (cs : List Int) (D A : Nat → Int) (p : Nat) : Int := s_sta w h n heat price cs D (s_F w h A) 100 100 0 (u_up A (p + 18) (-1))
def o_bud (w h n : Nat) (heat price : Int) (cs : List Int) (D A : Nat → Int) (l : List Nat) (b v : Int) : Int := if o_bu (o_S w h n heat price cs D A) l b v = -1 then -2 else o_bu (o_S w h n heat price cs D A) l b v
section
variable {w h n : Nat} {heat price : Int} {D A : Nat → Int} {c : Nat} {U : Nat → Nat → Int} {kn : Nat → Int} {KS : Nat → Nat → Int} {cs : List Int} {m : z_M}
theorem s_F_18 {p : Nat} {v : Int} : s_F w h (u_up A (p + 18) v) = s_F w h A := s_bt_cg 9 0 0 (fun y _ h2 => by rw [u_up_ne (by omega)])
theorem o_S_nn {p : Nat} : 0 ≤ o_S w h n heat price cs D A p := by
  rcases s_sta_x (w := w) (h := h) (n := n) (heat := heat) (price := price) (cs := cs) (D := D) (F := s_F w h A) (N := 100) 100 0 (u_up A (p + 18) (-1)) rfl with z | z
  · unfold o_S
    rw [z]
    decide
  · exact z.1
theorem C_bur1 (hN : w_N w h n heat D) (hok : hr_ok n A) (ht : 0 ≤ A 35 ∧ A 35 ≤ 1073741824) : ∀ (f x : Nat) (b v : Int) (v4 : z_V) (m : z_M), x + f = n → C_is w h n heat price D A c U kn KS cs m → z_w (m 24 6) = m 24 6 → z_w (m 24 9) = m 24 9 → ∃ m1, z_R 115 (m, 6, [(2, 0), (0, v), (0, b), (0, (x : Int)), v4], []) = some (m1, some (0, o_bud w h n heat price cs D A (o_ls A f x) b v)) ∧ C_is w h n heat price D A c U kn KS cs m1 := by
  have h5 := hN.1.2.2
  -- the State without one, laid beside
  have lay : ∀ (m : z_M), C_is w h n heat price D A c U kn KS cs m → ∃ m2, z_R 61 (m, 0, [(2, 18), (2, 12)], []) = some (m2, none) ∧ C_is w h n heat price D A c U kn KS cs m2 ∧ cS m2 18 n = A ∧ m2 24 6 = m 24 6 ∧ m2 24 9 = m 24 9 := by
    intro m hi
    obtain ⟨m2, b1, b2, b3⟩ := c_become z_st_12 z_st_18 (by decide) m
    exact ⟨m2, b1, C_fr hi fun p k hk => by
      have hk' := hk
      unfold C_hit at hk'
      have hk' := of_decide_eq_true hk'
      exact b3.of (by (repeat' (first | exact trivial | refine z_of_c ?_ ?_)) <;> omega), (cS_cR b2).trans hi.2.2.1, b3.of (by (repeat' (first | exact trivial | refine z_of_c ?_ ?_)) <;> omega), b3.of (by (repeat' (first | exact trivial | refine z_of_c ?_ ?_)) <;> omega)⟩
  intro f
  induction f with
  | zero =>
    intro x b v v4 m hx hi k6 k9
    have e11 := hi.1.2.2.1
    rw [b_bur_6 m v b x v4 (by omega), e11, if_pos (by omega)]
    show ∃ m1, _ = some (m1, some (0, if b = -1 then -2 else b)) ∧ _
    by_cases z : b = -1
    · rw [if_pos z, if_pos z]
      exact ⟨m, rfl, hi⟩
    · obtain ⟨m2, b1, b2, b3, b4, b5⟩ := lay m hi
      obtain ⟨m3, c1, c2, -, -⟩ := C_stand hN hok ht b2 b3 (by rw [b4]; exact k6) (by rw [b5]; exact k9) (N := 100) (by decide)
      have c1 : z_R 96 (m2, 0, [(2, 24), (2, 18), (0, 100)], []) = some (m3, some (0, s_sta w h n heat price cs D (s_F w h A) 100 100 0 A)) := c1
      rw [if_neg z, if_neg z, b1, zb_n, b_bur_102, c1, zb_v, b_bur_118, c_tell2, zb_n, b_bur_122]
      exact ⟨_, rfl, C_tell2 c2 _ _⟩
  | succ f ih =>
    intro x b v v4 m hx hi k6 k9
    have e11 := hi.1.2.2.1
    have e15 : m 15 x = A (x + 18) := C_A3 hi (by omega) h5
    rw [b_bur_6 m v b x v4 (by omega), e11, if_neg (by omega), if_pos (show 0 ≤ (x : Int) ∧ (x : Int) < 5 by omega), Int.toNat_natCast, e15, tc1]
    unfold o_ls
    by_cases z : A (x + 18) = -1
    · rw [if_pos z, if_pos z]
      exact ih (x + 1) b v v4 m (by omega) hi k6 k9
    · obtain ⟨m2, b1, b2, b3, b4, b5⟩ := lay m hi
      have hC3 : C_is w h n heat price D A c U kn KS cs (z_up m2 21 x (-1)) := C_upn b2 (by
        have : ∀ x, x < 5 → C_hit 21 x x = false := by decide +kernel
        exact this x (by omega))
      have hA3 : cS (z_up m2 21 x (-1)) 18 n = u_up A (x + 18) (-1) := by
        have e := cS_up3 (m := m2) (s := 18) (j := x) (v := -1) (n := (n : Int)) (by omega) (by omega)
        rw [b3] at e
        exact e
      have j6 : (z_up m2 21 x (-1)) 24 6 = m 24 6 := (zu_p (by decide)).trans b4
      have j9 : (z_up m2 21 x (-1)) 24 9 = m 24 9 := (zu_p (by decide)).trans b5
      rw [if_neg z, if_neg z, b1, zb_n, b_bur_41, if_pos (show 0 ≤ (x : Int) ∧ (x : Int) < 5 by omega), Int.toNat_natCast]
      generalize z_up m2 21 x (-1) = m3 at hC3 hA3 j6 j9 ⊢
      have hok3 : hr_ok n (u_up A (x + 18) (-1)) := hr_ok_up hok (by omega) (fun z => by omega) (fun p h1 h2 => by decide)
      have h35 : u_up A (x + 18) (-1) 35 = A 35 := u_up_ne (by omega)
      obtain ⟨m4, c1, c2, c3, c4⟩ := C_stand hN hok3 (by rw [h35]; exact ht) hC3 hA3 (by rw [j6]; exact k6) (by rw [j9]; exact k9) (N := 100) (by decide)
      rw [s_F_18] at c1
      have c1 : z_R 96 (m3, 0, [(2, 24), (2, 18), (0, 100)], []) = some (m4, some (0, o_S w h n heat price cs D A x)) := c1
      rw [c1, zb_v, b_bur_64, z_add_eq (x := (x : Int)) (y := 1) (by omega) (by omega), tc1]
      have eo : ∀ b v, o_bu (o_S w h n heat price cs D A) (x :: o_ls A f (x + 1)) b v = if v < o_S w h n heat price cs D A x then o_bu (o_S w h n heat price cs D A) (o_ls A f (x + 1)) (x : Int) (o_S w h n heat price cs D A x) else o_bu (o_S w h n heat price cs D A) (o_ls A f (x + 1)) b v := fun _ _ => rfl
      have eb : o_bud w h n heat price cs D A (x :: o_ls A f (x + 1)) b v = if v < o_S w h n heat price cs D A x then o_bud w h n heat price cs D A (o_ls A f (x + 1)) (x : Int) (o_S w h n heat price cs D A x) else o_bud w h n heat price cs D A (o_ls A f (x + 1)) b v := by
        unfold o_bud
        rw [eo]
        by_cases y : v < o_S w h n heat price cs D A x
        · rw [if_pos y, if_pos y]
        · rw [if_neg y, if_neg y]
      rw [eb]
      by_cases y : o_S w h n heat price cs D A x ≤ v
      · rw [if_pos y, if_neg (show ¬ v < o_S w h n heat price cs D A x by omega)]
        exact ih (x + 1) b v _ m4 (by omega) c2 c3 c4
      · rw [if_neg y, if_pos (show v < o_S w h n heat price cs D A x by omega)]
        exact ih (x + 1) x _ _ m4 (by omega) c2 c3 c4
theorem C_burden (hi : C_is w h n heat price D A c U kn KS cs m) (hN : w_N w h n heat D) (hok : hr_ok n A) (ht : 0 ≤ A 35 ∧ A 35 ≤ 1073741824) (k6 : z_w (m 24 6) = m 24 6) (k9 : z_w (m 24 9) = m 24 9) : ∃ m1, z_R 115 (m, 0, [(2, 0), (9, 0), (9, 0), (9, 0), (9, 0)], []) = some (m1, some (0, o_bud w h n heat price cs D A (o_ls A n 0) (-1) (-1))) ∧ C_is w h n heat price D A c U kn KS cs m1 := by
  rw [b_bur_0]
  exact C_bur1 hN hok ht n 0 (-1) (-1) (9, 0) m (by omega) hi k6 k9
/-! the reference -/
def o_hl (m : z_M) : Nat → List Nat → Prop
  | _, [] => True
  | k, p :: l => m 265 k = (p : Int) ∧ o_hl m (k + 1) l
theorem o_hl_fr {m' : z_M} : ∀ (l : List Nat) (k : Nat), o_hl m k l → (∀ j, m' 265 j = m 265 j) → o_hl m' k l := by
  intro l
  induction l with
  | nil => intro k _ _; trivial
  | cons p l ih => intro k hc hf; exact ⟨(hf k).trans hc.1, ih (k + 1) hc.2 hf⟩
theorem R_fl1 (h5 : n ≤ 5) : ∀ (f x k : Nat) (m : z_M), x + f = n → k ≤ x → R_is w h n heat price D A c U kn KS cs m → m 251 39 = (k : Int) → ∃ m1, z_R 228 (m, 7, [(2, 251), (0, (x : Int))], []) = some (m1, none) ∧ m1 251 39 = ((k + (o_ls A f x).length : Nat) : Int) ∧ o_hl m1 k (o_ls A f x) ∧ (∀ p j, ¬ (p = 251 ∧ j = 39) → ¬ (p = 265 ∧ k ≤ j) → m1 p j = m p j) := by
  intro f
  induction f with
  | zero =>
    intro x k m hx hk hi h39
    have e3 := hi.1.2.2.1
    rw [b_fl_7 m x (by omega), e3, if_pos (by omega)]
    exact ⟨m, rfl, h39, trivial, fun _ _ _ _ => rfl⟩
  | succ f ih =>
    intro x k m hx hk hi h39
    have e3 := hi.1.2.2.1
    have e18 : m 252 (x + 18) = A (x + 18) := R_A hi (by omega) (a_vis_p (b := 18) (p := x) (by omega) (by omega) (by omega) (by omega))
    rw [b_fl_7 m x (by omega), e3, if_neg (by omega), z_add_eq (x := 18) (y := (x : Int)) (by omega) (by omega), if_pos (show 0 ≤ 18 + (x : Int) ∧ 18 + (x : Int) < 37 by omega), show (18 + (x : Int)).toNat = x + 18 by omega, e18, z_add_eq (x := (x : Int)) (y := 1) (by omega) (by omega), tc1]
    unfold o_ls
    by_cases z : A (x + 18) = -1
    · rw [if_pos z, if_pos z]
      exact ih (x + 1) k m (by omega) (by omega) hi h39
    · rw [if_neg z, if_neg z, h39, if_pos (show 0 ≤ (k : Int) ∧ (k : Int) < 5 by omega), Int.toNat_natCast, tc1]
      have hR1 : R_is w h n heat price D A c U kn KS cs (z_up (z_up m 265 k (x : Int)) 251 39 ((k + 1 : Nat) : Int)) := R_upn (R_upn hi (by
        have : ∀ k, k < 5 → R_hit 265 k k = false := by decide +kernel
        exact this k (by omega))) (by decide)
      have g39 : (z_up (z_up m 265 k (x : Int)) 251 39 ((k + 1 : Nat) : Int)) 251 39 = ((k + 1 : Nat) : Int) := zu_self
      have g265 : (z_up (z_up m 265 k (x : Int)) 251 39 ((k + 1 : Nat) : Int)) 265 k = (x : Int) := (zu_p (by decide)).trans zu_self
      have gf : ∀ p j, ¬ (p = 251 ∧ j = 39) → ¬ (p = 265 ∧ k ≤ j) → (z_up (z_up m 265 k (x : Int)) 251 39 ((k + 1 : Nat) : Int)) p j = m p j := fun p j n1 n2 => by rw [X_up n1, X_up (fun z => n2 ⟨z.1, by omega⟩)]
      generalize z_up (z_up m 265 k (x : Int)) 251 39 ((k + 1 : Nat) : Int) = m0 at hR1 g39 g265 gf ⊢
      obtain ⟨m1, a1, a2, a3, a4⟩ := ih (x + 1) (k + 1) m0 (by omega) (by omega) hR1 g39
      refine ⟨m1, a1, ?_, ⟨(a4 265 k (by omega) (by omega)).trans g265, a3⟩, fun p j n1 n2 => (a4 p j n1 (fun z => n2 ⟨z.1, by omega⟩)).trans (gf p j n1 n2)⟩
      rw [a2]
      show ((k + 1 + (o_ls A f (x + 1)).length : Nat) : Int) = ((k + ((o_ls A f (x + 1)).length + 1) : Nat) : Int)
      omega
theorem R_bur1 {x1 : Int} (hN : w_N w h n heat D) (hok : hr_ok n A) (ht : 0 ≤ A 35 ∧ A 35 ≤ 1073741824) : ∀ (l : List Nat) (k : Nat) (b v : Int) (v5 : z_V) (m : z_M), k + l.length ≤ 5 → (∀ p ∈ l, p < n) → R_is w h n heat price D A c U kn KS cs m → m 251 39 = ((k + l.length : Nat) : Int) → o_hl m k l → ∃ m1, z_R 238 (m, 37, [(2, 251), (0, x1), (0, b), (0, v), (0, (k : Int)), v5], []) = some (m1, some (0, o_bu (o_S w h n heat price cs D A) l b v)) ∧ R_is w h n heat price D A c U kn KS cs m1 := by
  have h5 := hN.1.2.2
  intro l
  induction l with
  | nil =>
    intro k b v v5 m hk hp hi h39 hl
    have h39 : m 251 39 = (k : Int) := h39
    rw [b_tbu_37, h39, if_pos (Int.le_refl _), t_tell0, zb_n, b_tbu_111, t_tell1, zb_n, b_tbu_117]
    exact ⟨_, rfl, R_upn (R_upn (R_upn (R_upn (R_upn hi (by decide)) (by decide)) (by decide)) (by decide)) (by decide)⟩
  | cons p l ih =>
    intro k b v v5 m hk hp hi h39 hl
    have hk : k + (l.length + 1) ≤ 5 := hk
    have h39 : m 251 39 = ((k + (l.length + 1) : Nat) : Int) := h39
    have hpn := hp p List.mem_cons_self
    obtain ⟨m2, b1, b2, b3⟩ := R_lt hi
    have f2 : ∀ q j, ¬ (q = 264) → m2 q j = m q j := fun q j hq => by
      obtain ⟨m2', d1, -, d3⟩ := t_layd (a := 252) (q := 264) (B := 0) t_lay264_0 t_lay264_2 (by decide) (b := 0) (by decide) m
      have d1 : z_R 198 (m, 0, [(2, 252), (2, 264), (0, 0), (9, 0)], []) = some (m2', none) := d1
      have e : z_R 219 (m, 0, [(2, 251)], []) = some (m2', none) := by rw [q_lt_0, d1, zb_n, q_lt_12]
      rw [b1] at e
      have e := congrArg Prod.fst (Option.some.inj e)
      have e : m2 = m2' := e
      rw [e]
      exact d3 q j (fun z => hq z.1)
    have g265 : m2 265 k = (p : Int) := (f2 265 k (by decide)).trans hl.1
    have hR3 : R_is w h n heat price D A c U kn KS cs (z_up m2 264 (p + 18) (-1)) := R_upn b2 (by
      have : ∀ p, p < 5 → R_hit 264 (p + 18) (p + 18) = false := by decide +kernel
      exact this p (by omega))
    have hA3 : rS (z_up m2 264 (p + 18) (-1)) 264 n = u_up A (p + 18) (-1) := by rw [rS_up (by omega) (a_vis_p (b := 18) (p := p) (by omega) (by omega) (by omega) (by omega)), b3]
    have f3 : ∀ q j, ¬ (q = 264) → (z_up m2 264 (p + 18) (-1)) q j = m q j := fun q j hq => (zu_p hq).trans (f2 q j hq)
    rw [b_tbu_37, h39, if_neg (by omega), b1, zb_n, b_tbu_50, if_pos (show 0 ≤ (k : Int) ∧ (k : Int) < 5 by omega), Int.toNat_natCast, g265, z_add_eq (x := 18) (y := (p : Int)) (by omega) (by omega), if_pos (show 0 ≤ 18 + (p : Int) ∧ 18 + (p : Int) < 37 by omega), show (18 + (p : Int)).toNat = p + 18 by omega]
    generalize z_up m2 264 (p + 18) (-1) = m3 at hR3 hA3 f3 ⊢
    have hok3 : hr_ok n (u_up A (p + 18) (-1)) := hr_ok_up hok (by omega) (fun z => by omega) (fun p h1 h2 => by decide)
    have h35 : u_up A (p + 18) (-1) 35 = A 35 := u_up_ne (by omega)
    obtain ⟨v0, hv0⟩ := q_iceq 9 0 0 m3 (by decide)
    have hv := R_ice (w := w) (h := h) (n := n) hR3.1.1 hR3.1.2.1 hR3.2.2.1 9 0 0 (by decide) (by decide +kernel)
    have hv : z_R 222 (m3, 4, [(2, 251), (0, 0), (0, 0)], []) = some (m3, some (0, s_F w h A)) := hv
    obtain ⟨m4, c1, c2⟩ := R_sta1 (F := s_F w h A) (N := 100) (by decide) hN 100 0 m3 (u_up A (p + 18) (-1)) (by decide) hR3 hA3 hok3 (by rw [h35]; exact ht.1) (by rw [h35]; omega)
    have c1 : z_R 221 (m3, 7, [(2, 251), (0, 100), (0, s_F w h A), (0, 0)], []) = some (m4, some (0, o_S w h n heat price cs D A p)) := c1
    have c3 : z_R 221 (m3, 0, [(2, 251), (0, 100), (9, 0), (9, 0)], []) = some (m4, some (0, o_S w h n heat price cs D A p)) := by rw [q_sta_0, q_ice_0, hv, zb_v, q_sta_4, c1]
    have hR4 := R_off264 hR3 c2
    have f4 : ∀ j, m4 265 j = m 265 j := fun j => (c2.of (by (repeat' (first | exact trivial | refine z_of_c ?_ ?_)) <;> omega)).trans (f3 265 j (by decide))
    have g39 : m4 251 39 = ((k + 1 + l.length : Nat) : Int) := by
      rw [c2.of (p := 251) (k := 39) (by (repeat' (first | exact trivial | refine z_of_c ?_ ?_)) <;> omega), f3 251 39 (by decide), h39]
      omega
    rw [c3, zb_v, b_tbu_72, if_pos (show 0 ≤ (k : Int) ∧ (k : Int) < 5 by omega), Int.toNat_natCast, f4 k, hl.1, z_add_eq (x := (k : Int)) (y := 1) (by omega) (by omega), tc1]
    unfold o_bu
    by_cases y : v < o_S w h n heat price cs D A p
    · rw [if_pos y, if_pos y]
      exact ih (k + 1) p _ _ m4 (by omega) (fun q hq => hp q (List.mem_cons_of_mem _ hq)) hR4 g39 (o_hl_fr l (k + 1) hl.2 f4)
    · rw [if_neg y, if_neg y]
      exact ih (k + 1) b v _ m4 (by omega) (fun q hq => hp q (List.mem_cons_of_mem _ hq)) hR4 g39 (o_hl_fr l (k + 1) hl.2 f4)
theorem R_burden (hi : R_is w h n heat price D A c U kn KS cs m) (hN : w_N w h n heat D) (hok : hr_ok n A) (ht : 0 ≤ A 35 ∧ A 35 ≤ 1073741824) : ∃ m1, z_R 238 (m, 0, [(2, 251), (9, 0), (9, 0), (9, 0), (9, 0), (9, 0)], []) = some (m1, some (0, o_bud w h n heat price cs D A (o_ls A n 0) (-1) (-1))) ∧ R_is w h n heat price D A c U kn KS cs m1 := by
  have hu := R_upn (p0 := 251) (k0 := 39) (v := 0) (R_upn (p0 := 251) (k0 := 11) (v := 0) hi (by decide)) (by decide)
  have g0 : (z_up (z_up m 251 11 0) 251 39 0) 251 39 = ((0 : Nat) : Int) := zu_self
  rw [b_tbu_0, b_fl_0]
  generalize z_up (z_up m 251 11 0) 251 39 0 = m0 at hu g0 ⊢
  obtain ⟨m1, a1, a2, a3, a4⟩ := R_fl1 hN.1.2.2 n 0 0 m0 (by omega) (Nat.le_refl _) hu g0
  have a1 : z_R 228 (m0, 7, [(2, 251), (0, 0)], []) = some (m1, none) := a1
  rw [Nat.zero_add] at a2
  have hR1 : R_is w h n heat price D A c U kn KS cs m1 := R_fr hu fun p k hk => by
    have hk' := hk
    unfold R_hit at hk'
    have hk' := of_decide_eq_true hk'
    exact a4 p k (by omega) (by omega)
  have hlen := o_ls_len (A := A) n 0
  have h5 := hN.1.2.2
  rw [a1, zb_n, b_tbu_9, a2]
  generalize hL : o_ls A n 0 = L at a2 a3 hlen ⊢
  cases L with
  | nil =>
    have e : o_bud w h n heat price cs D A [] (-1) (-1) = -2 := if_pos rfl
    rw [if_pos (show ((([] : List Nat).length : Nat) : Int) = 0 from rfl), e]
    exact ⟨m1, rfl, hR1⟩
  | cons p l =>
    have hS := o_S_nn (w := w) (h := h) (n := n) (heat := heat) (price := price) (cs := cs) (D := D) (A := A) (p := p)
    have e0 : o_bu (o_S w h n heat price cs D A) (p :: l) (-1) (-1) = o_bu (o_S w h n heat price cs D A) l (p : Int) (o_S w h n heat price cs D A p) := if_pos (by omega)
    have e1 := o_bu_nn (S := o_S w h n heat price cs D A) l (p : Int) (o_S w h n heat price cs D A p) (by omega)
    have e : o_bud w h n heat price cs D A (p :: l) (-1) (-1) = o_bu (o_S w h n heat price cs D A) (p :: l) (-1) (-1) := if_neg (by rw [e0]; omega)
    obtain ⟨m2, b1, b2, b3⟩ := R_lt hR1
    have f2 : ∀ q j, ¬ (q = 264) → m2 q j = m1 q j := fun q j hq => by
      obtain ⟨m2', d1, -, d3⟩ := t_layd (a := 252) (q := 264) (B := 0) t_lay264_0 t_lay264_2 (by decide) (b := 0) (by decide) m1
      have d1 : z_R 198 (m1, 0, [(2, 252), (2, 264), (0, 0), (9, 0)], []) = some (m2', none) := d1
      have e : z_R 219 (m1, 0, [(2, 251)], []) = some (m2', none) := by rw [q_lt_0, d1, zb_n, q_lt_12]
      rw [b1] at e
      have e := congrArg Prod.fst (Option.some.inj e)
      have e : m2 = m2' := e
      rw [e]
      exact d3 q j (fun z => hq z.1)
    have hv := R_ice (w := w) (h := h) (n := n) b2.1.1 b2.1.2.1 b2.2.2.1 9 0 0 (by decide) (by decide +kernel)
    have hv : z_R 222 (m2, 4, [(2, 251), (0, 0), (0, 0)], []) = some (m2, some (0, s_F w h A)) := hv
    obtain ⟨m3, c1, c2⟩ := R_sta1 (F := s_F w h A) (N := 100) (by decide) hN 100 0 m2 A (by decide) b2 b3 hok ht.1 (by omega)
    have c1 : z_R 221 (m2, 7, [(2, 251), (0, 100), (0, s_F w h A), (0, 0)], []) = some (m3, some (0, s_sta w h n heat price cs D (s_F w h A) 100 100 0 A)) := c1
    have c3 : z_R 221 (m2, 0, [(2, 251), (0, 100), (9, 0), (9, 0)], []) = some (m3, some (0, s_sta w h n heat price cs D (s_F w h A) 100 100 0 A)) := by rw [q_sta_0, q_ice_0, hv, zb_v, q_sta_4, c1]
    have hR3 := R_off264 b2 c2
    have f3 : ∀ j, m3 265 j = m1 265 j := fun j => (c2.of (by (repeat' (first | exact trivial | refine z_of_c ?_ ?_)) <;> omega)).trans (f2 265 j (by decide))
    have g39 : m3 251 39 = (((p :: l).length : Nat) : Int) := by rw [c2.of (p := 251) (k := 39) (by (repeat' (first | exact trivial | refine z_of_c ?_ ?_)) <;> omega), f2 251 39 (by decide), a2]
    obtain ⟨m4, d1, d2⟩ := R_bur1 (x1 := s_sta w h n heat price cs D (s_F w h A) 100 100 0 A) hN hok ht (p :: l) 0 (-1) (-1) (9, 0) m3 (by omega) (fun q hq => by have := hlen.2 q hq; omega) hR3 (by rw [Nat.zero_add]; exact g39) (o_hl_fr (p :: l) 0 a3 f3)
    have d1 : z_R 238 (m3, 37, [(2, 251), (0, s_sta w h n heat price cs D (s_F w h A) 100 100 0 A), (0, -1), (0, -1), (0, 0), (9, 0)], []) = some (m4, some (0, o_bu (o_S w h n heat price cs D A) (p :: l) (-1) (-1))) := d1
    have hn0 : ¬ (((p :: l).length : Nat) : Int) = 0 := by
      show ¬ ((l.length + 1 : Nat) : Int) = 0
      omega
    rw [if_neg hn0, b1, zb_n, b_tbu_23, c3, zb_v, b_tbu_29, d1, e]
    exact ⟨m4, rfl, d2⟩
end
theorem core_burden : l_rel2 Rel_C (855, 128, 115, 0, false, 860, 131, 238) := by
  intro M1 M2 M3 σ σ1 σ2 as v1 v2 C1 C2 ρ1 ρ2 ha hR hh hM1 hC1 hp1 hE1 hC2 hp2 hE2
  obtain rfl := as_nil ha
  have hE1 : z_R 115 (z_m σ, 0, [(2, 0), (9, 0), (9, 0), (9, 0), (9, 0)], []) = some (z_m σ1, some (0, v1.toInt)) := z_R_iff.mpr hE1
  have hE2 : z_R 238 (z_m σ1, 0, [(2, 251), (9, 0), (9, 0), (9, 0), (9, 0), (9, 0)], []) = some (z_m σ2, some (0, v2.toInt)) := z_R_iff.mpr hE2
  have hT := T_two (y1 := 115) (y2 := 238) (by decide +kernel) (by decide +kernel) hC1 hC2 hp1 hp2 hR.1
  obtain ⟨w, h, n, heat, price, D, A, c, U, kn, KS, cs, cC, cR, cW⟩ := hR.2
  obtain ⟨b1, b2, -, -, hok, b35, -, b7⟩ := core_b hh hM1 cR
  have hN : w_N w h n heat D := ⟨b1, b2, b7⟩
  have kk := core_24 hh
  have f1 := R_off2_ok (y := 115) (by decide +kernel) hC1 hp1
  have f2 := C_off_ok (y := 238) (by decide +kernel) hC2 hp2
  have cR1 := R_fr cR f1
  have z := core_do cR1 (fun q => C_fr q f2) (C_burden cC hN hok b35 kk.1 kk.2) (fun q => R_burden q hN hok b35) hE1 hE2
  exact ⟨⟨hT, Core_mk z.1.1 z.1.2 cW⟩, fun _ => z.2⟩
