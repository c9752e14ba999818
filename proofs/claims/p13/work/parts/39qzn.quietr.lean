/-! QUIET: what both answer -/
/-- what is to be answered -/
def q_an (w h n : Nat) (heat price : Int) (cs : List Int) (D A : Nat → Int) (N : Nat) (v : Int) : Prop := (v = -2 ∧ ∀ S, (∀ j, S j = true → j < 6 * n) → q_full w h n heat price cs D A N S → 3 < qc S 30) ∨ ∃ S, (∀ j, S j = true → j < 6 * n) ∧ q_full w h n heat price cs D A N S ∧ qc S 30 ≤ 3 ∧ v = ((qc S 30 : Nat) : Int) ∧ ∀ S', (∀ j, S' j = true → j < 6 * n) → q_full w h n heat price cs D A N S' → qc S 30 ≤ qc S' 30
theorem q_an_1 {w h n : Nat} {heat price : Int} {cs : List Int} {D A : Nat → Int} {N : Nat} {v v' : Int} (h1 : q_an w h n heat price cs D A N v) (h2 : q_an w h n heat price cs D A N v') : v = v' := by
  rcases h1 with ⟨a1, a2⟩ | ⟨S, a1, a2, a3, a4, a5⟩
  · rcases h2 with ⟨b1, b2⟩ | ⟨S', b1, b2, b3, b4, b5⟩
    · rw [a1, b1]
    · have := a2 S' b1 b2
      omega
  · rcases h2 with ⟨b1, b2⟩ | ⟨S', b1, b2, b3, b4, b5⟩
    · have := b2 S a1 a2
      omega
    · have := a5 S' b1 b2
      have := b5 S a1 a2
      omega
section
variable {w h n : Nat} {heat price : Int} {D A : Nat → Int} {c : Nat} {U : Nat → Nat → Int} {kn : Nat → Int} {KS : Nat → Nat → Int} {cs : List Int} {m m0 : z_M}
/-- the fewest of a column -/
theorem q_few (hi : C_is w h n heat price D A c U kn KS cs m0) (hw : w ≤ 3 ∧ h ≤ 3 ∧ n ≤ 5) (hh : 0 ≤ heat ∧ heat ≤ 9) (hD : q_D D) (hok : hr_ok n A) (ht : 0 ≤ A 35 ∧ A 35 ≤ 1073741824) {N : Nat} (hN : N ≤ 40) {b : Nat} (hb : b < 3) {L : Int} (hL : z_w L = L) (hW : q_W w h n heat price cs D A N b L) {left : Nat} (hl : left + qc (zb L) 30 = 3) : ∀ (f few : Nat) (m : z_M), few + f = left + 1 → q_I m0 n N A m → m 140 5 = L → (∀ k', k' < few → ∀ Y, q_X n D A N b 0 k' Y → ¬ q_T w h n heat price cs D A N b (fun j => zb L j || Y j)) → ∃ m1 v v5 v6, z_R 111 (m, 55, [(2, 140), (2, 12), (0, (N : Int)), (0, 0), (0, (b : Int)), (0, (left : Int)), (0, (few : Int))], []) = z_R 111 (m1, 23, [(2, 140), (2, 12), (0, (N : Int)), (0, v), (0, ((b + 1 : Nat) : Int)), v5, v6], []) ∧ q_I m0 n N A m1 ∧ ((v = 1 ∧ z_w (m1 140 5) = m1 140 5 ∧ q_W w h n heat price cs D A N (b + 1) (m1 140 5)) ∨ (v = 0 ∧ ∀ k', k' ≤ left → ∀ Y, q_X n D A N b 0 k' Y → ¬ q_T w h n heat price cs D A N b (fun j => zb L j || Y j))) := by
  intro f
  induction f with
  | zero =>
    intro few m hf hv h5 hno
    rw [qt_sea_55, if_pos (by omega), z_add_eq (x := (b : Int)) (y := 1) (by omega) (by omega), tc1]
    exact ⟨m, 0, _, _, rfl, hv, Or.inr ⟨rfl, fun k' hk' => hno k' (by omega)⟩⟩
  | succ f ih =>
    intro few m hf hv h5 hno
    obtain ⟨m1, v, a1, a2, a3, a4⟩ := q_cho (cs := cs) hi hw hh hD hok ht hN hb few (by omega) 0 m (by decide) hv (by rw [h5]; exact hL) (fun j _ hM => by
      rw [h5]
      cases y : zb L j
      · rfl
      · have := (hW.1 j y).2
        rw [(q_M_U hM).2] at this
        cases this)
    have a1 : z_R 112 (m, 0, [(2, 140), (0, (b : Int)), (0, 0), (0, (few : Int)), (9, 0)], []) = some (m1, some (0, v)) := a1
    rw [qt_sea_55, if_neg (by omega), if_pos (show (0 : Int) = 0 from rfl), a1, zb_v, qt_sea_75, z_add_eq (x := (few : Int)) (y := 1) (by omega) (by omega), tc1]
    rw [h5] at a4
    rcases a4 with ⟨v1, X, x1, x2, x3⟩ | ⟨v0, e5, t⟩
    · have hW1 := q_W_s hw hh hD hok ht hN hW x1 (by omega) x2 x3 hno
      rw [v1, qt_sea_55, z_add_eq (x := (b : Int)) (y := 1) (by omega) (by omega), tc1]
      by_cases y : (left : Int) < ((few + 1 : Nat) : Int)
      · rw [if_pos y]
        exact ⟨m1, 1, _, _, rfl, a2, Or.inl ⟨rfl, a3, hW1⟩⟩
      · rw [if_neg y, if_neg (show ¬ (1 : Int) = 0 by decide)]
        exact ⟨m1, 1, _, _, rfl, a2, Or.inl ⟨rfl, a3, hW1⟩⟩
    · rw [v0]
      refine ih (few + 1) m1 (by omega) a2 e5 (fun k' hk' => ?_)
      by_cases e : k' = few
      · rw [e]
        exact t
      · exact hno k' (by omega)
theorem q_seaL (hi : C_is w h n heat price D A c U kn KS cs m0) (hw : w ≤ 3 ∧ h ≤ 3 ∧ n ≤ 5) (hh : 0 ≤ heat ∧ heat ≤ 9) (hD : q_D D) (hok : hr_ok n A) (ht : 0 ≤ A 35 ∧ A 35 ≤ 1073741824) {N : Nat} (hN : N ≤ 40) : ∀ (f b : Nat) (v5 v6 : z_V) (m : z_M), b + f = w → q_I m0 n N A m → z_w (m 140 5) = m 140 5 → q_W w h n heat price cs D A N b (m 140 5) → ∃ m1 v, z_R 111 (m, 23, [(2, 140), (2, 12), (0, (N : Int)), (0, 1), (0, (b : Int)), v5, v6], []) = some (m1, some (0, v)) ∧ C_is w h n heat price D A c U kn KS cs m1 ∧ ((v = 1 ∧ q_W w h n heat price cs D A N w (m1 140 5)) ∨ (v = 0 ∧ ∀ S, q_full w h n heat price cs D A N S → 3 < qc S 30)) := by
  have fin : ∀ m : z_M, q_I m0 n N A m → C_is w h n heat price D A c U kn KS cs (z_up m 24 5 0) := fun m hv => C_frq hi zu_self (fun p k hk hn => (if_neg hn).trans (hv.1 p k hk hn))
  intro f
  induction f with
  | zero =>
    intro b v5 v6 m hb hv hL hW
    obtain rfl : b = w := by omega
    rw [qt_sea_23, (q_I_n hi hv).1, if_pos (Int.le_refl _)]
    refine ⟨_, 1, rfl, fin m hv, Or.inl ⟨rfl, ?_⟩⟩
    rw [show (z_up m 24 5 0) 140 5 = m 140 5 from zu_p (by decide)]
    exact hW
  | succ f ih =>
    intro b v5 v6 m hb hv hL hW
    have e32 : qc (zb (m 140 5)) 32 = qc (zb (m 140 5)) 30 := qc_32 (fun j hj => (hW.1 j hj).1)
    have h3 := hW.2.2.1
    rw [qt_sea_23, (q_I_n hi hv).1, if_neg (by omega), if_neg (show ¬ (1 : Int) = 0 by decide), t_bc_0, zb_v, qt_sea_49, pc32, e32, z_sub_eq (x := 3) (by omega) (by omega), show (3 : Int) - ((qc (zb (m 140 5)) 30 : Nat) : Int) = ((3 - qc (zb (m 140 5)) 30 : Nat) : Int) by omega]
    obtain ⟨m1, v, w5, w6, a1, a2, a3⟩ := q_few (cs := cs) hi hw hh hD hok ht hN (b := b) (by omega) hL hW (left := 3 - qc (zb (m 140 5)) 30) (by omega) (3 - qc (zb (m 140 5)) 30 + 1) 0 m (by omega) hv rfl (fun k' hk' => absurd hk' (Nat.not_lt_zero k'))
    have a1 : z_R 111 (m, 55, [(2, 140), (2, 12), (0, (N : Int)), (0, 0), (0, (b : Int)), (0, ((3 - qc (zb (m 140 5)) 30 : Nat) : Int)), (0, 0)], []) = z_R 111 (m1, 23, [(2, 140), (2, 12), (0, (N : Int)), (0, v), (0, ((b + 1 : Nat) : Int)), w5, w6], []) := a1
    rw [a1]
    rcases a3 with ⟨v1, hL1, hW1⟩ | ⟨v0, hno⟩
    · rw [v1]
      exact ih (b + 1) w5 w6 m1 (by omega) a2 hL1 hW1
    · have e : z_R 111 (m1, 23, [(2, 140), (2, 12), (0, (N : Int)), (0, v), (0, ((b + 1 : Nat) : Int)), w5, w6], []) = some (z_up m1 24 5 0, some (0, 0)) := by
        rw [v0, qt_sea_23]
        by_cases y : m1 3 8 ≤ ((b + 1 : Nat) : Int)
        · rw [if_pos y]
        · rw [if_neg y, if_pos (show (0 : Int) = 0 from rfl)]
      rw [e]
      refine ⟨_, 0, rfl, fin m1 a2, Or.inr ⟨rfl, fun S hS => ?_⟩⟩
      obtain ⟨t0, t1, t2⟩ := q_full_T.mp hS
      have tb : ∀ b', b' < 3 → q_T w h n heat price cs D A N b' S := fun b' hb' => by
        rcases (show b' = 0 ∨ b' = 1 ∨ b' = 2 by omega) with rfl | rfl | rfl
        · exact t0
        · exact t1
        · exact t2
      have h1 := hW.2.2.2 S (fun b' hb' => tb b' (by omega))
      have hq : 3 - qc (zb (m 140 5)) 30 < qc (fun j => (S j && q_M n D A N b j) && decide (j < 30)) 30 := Decidable.byContradiction fun y => by
        refine hno (qc (fun j => (S j && q_M n D A N b j) && decide (j < 30)) 30) (by omega) (fun j => (S j && q_M n D A N b j) && decide (j < 30)) ⟨fun j hj => ?_, rfl⟩ ?_
        · obtain ⟨y1, y2⟩ := Bool.and_eq_true _ _ |>.mp hj
          exact ⟨Nat.zero_le j, of_decide_eq_true y2, (Bool.and_eq_true _ _ |>.mp y1).2⟩
        · refine (q_T_cg hw hh hD hok ht hN (fun d hd hM => ?_)).mp (tb b (by omega))
          have e0 : zb (m 140 5) d = false := by
            cases z : zb (m 140 5) d
            · rfl
            · have := (hW.1 d z).2
              rw [(q_M_U hM).2] at this
              cases this
          show S d = (zb (m 140 5) d || ((S d && q_M n D A N b d) && decide (d < 30)))
          rw [e0, hM, decide_eq_true hd]
          simp
      have e2 : qc (fun j => S j && q_U n D A N b j) 30 + qc (fun j => (S j && q_M n D A N b j) && decide (j < 30)) 30 ≤ qc S 30 := by
        rw [← qc_or 30 (fun j _ ⟨z1, z2⟩ => by
          have y1 := (Bool.and_eq_true _ _ |>.mp z1).2
          have y2 := (q_M_U (Bool.and_eq_true _ _ |>.mp (Bool.and_eq_true _ _ |>.mp z2).1).2).2
          rw [y1] at y2
          cases y2)]
        refine qc_le 30 fun j _ hj => ?_
        rcases Bool.or_eq_true _ _ |>.mp hj with z | z
        · exact (Bool.and_eq_true _ _ |>.mp z).1
        · exact (Bool.and_eq_true _ _ |>.mp (Bool.and_eq_true _ _ |>.mp z).1).1
      omega
theorem q_rowC {L : Int} {N : Int} (hL3 : qc (zb L) 30 ≤ 3) (hLj : ∀ j, zb L j = true → j < 30) : ∀ (f d : Nat) (m : z_M), d + f = 30 → m 0 13 = ((qc (zb L) d : Nat) : Int) → m 140 5 = L → C_is w h n heat price D A c U kn KS cs m → ∃ m1, z_R 110 (m, 37, [(2, 0), (0, N), (0, (d : Int))], []) = some (m1, some (0, ((qc (zb L) 30 : Nat) : Int))) ∧ C_is w h n heat price D A c U kn KS cs m1 := by
  have mono : ∀ d, d ≤ 30 → qc (zb L) d ≤ qc (zb L) 30 := fun d hd => by
    have : ∀ e, qc (zb L) d ≤ qc (zb L) (d + e) := fun e => by
      induction e with
      | zero => exact Nat.le_refl _
      | succ e ih => exact Nat.le_trans ih (Nat.le_add_right _ _)
    have := this (30 - d)
    rw [show d + (30 - d) = 30 by omega] at this
    exact this
  intro f
  induction f with
  | zero =>
    intro d m hd h13 h5 hi
    rw [qt_qui_37, if_pos (by omega), h5, t_bc_0, zb_v, qt_qui_79, pc32, qc_32 hLj]
    exact ⟨m, rfl, hi⟩
  | succ f ih =>
    intro d m hd h13 h5 hi
    have e := zb_test32 (a := L) (k := d) (by omega)
    have hm := mono d (by omega)
    rw [qt_qui_37, if_neg (by omega), h5, z_add_eq (x := (d : Int)) (y := 1) (by omega) (by omega), tc1]
    cases y : zb L d
    · rw [if_pos (e.mpr y)]
      refine ih (d + 1) m (by omega) ?_ h5 hi
      rw [h13]
      show _ = ((qc (zb L) d + (if zb L d = true then 1 else 0) : Nat) : Int)
      rw [y, if_neg Bool.false_ne_true, Nat.add_zero]
    · rw [if_neg (fun z => by rw [e.mp z] at y; cases y), c_add (j := qc (zb L) d) m _ (by omega) h13, zb_n, qt_qui_63, z_add_eq (x := (d : Int)) (y := 1) (by omega) (by omega), tc1]
      refine ih (d + 1) _ (by omega) ?_ (by rw [zu_p (by decide), zu_p (by decide)]; exact h5) (C_upn (C_upn hi (by unfold C_hit; exact decide_eq_false (by omega))) (by decide))
      rw [zu_self]
      show _ = ((qc (zb L) d + (if zb L d = true then 1 else 0) : Nat) : Int)
      rw [y, if_pos rfl]
theorem C_quiet (hi : C_is w h n heat price D A c U kn KS cs m) (hw : w ≤ 3 ∧ h ≤ 3 ∧ n ≤ 5) (hh : 0 ≤ heat ∧ heat ≤ 9) (hD : q_D D) (hok : hr_ok n A) (ht : 0 ≤ A 35 ∧ A 35 ≤ 1073741824) (a : Int) : ∃ m1 v, z_R 110 (m, 0, [(2, 0), (0, a), (9, 0)], []) = some (m1, some (0, v)) ∧ C_is w h n heat price D A c U kn KS cs m1 ∧ ((¬ (1 ≤ a ∧ a ≤ 40) ∧ v = -1) ∨ ((1 ≤ a ∧ a ≤ 40) ∧ q_an w h n heat price cs D A a.toNat v)) := by
  rw [qt_qui_0]
  by_cases c1 : a < 1
  · rw [if_pos c1]
    exact ⟨m, -1, rfl, hi, Or.inl ⟨by omega, rfl⟩⟩
  rw [if_neg c1]
  by_cases c2 : a ≤ 40
  · obtain ⟨N, rfl⟩ : ∃ N : Nat, a = (N : Int) := ⟨a.toNat, by omega⟩
    have hs1 : z_st 141 := ⟨by decide, by omega⟩
    obtain ⟨m2, b1, b2, b3⟩ := c_become z_st_12 hs1 (by decide) m
    have b1 : z_R 61 (m, 0, [(2, 141), (2, 12)], []) = some (m2, none) := b1
    have hC2 : C_is w h n heat price D A c U kn KS cs m2 := C_fr hi fun p k hk => by
      have hk' := hk
      unfold C_hit at hk'
      have hk' := of_decide_eq_true hk'
      exact b3.of (by (repeat' (first | exact trivial | refine z_of_c ?_ ?_)) <;> omega)
    rw [if_pos c2, qt_sea_0, b1, zb_n, qt_sea_8, Int.toNat_natCast]
    have hv : q_I m2 n N A (z_up (z_up m2 140 4 (N : Int)) 140 5 0) := ⟨fun p k hk _ => by
      have hk' := hk
      unfold C_hit at hk'
      have hk' := of_decide_eq_true hk'
      rw [zu_p (by omega), zu_p (by omega)], by rw [zu_k (by decide), zu_self], by
      rw [cS_fr (m := m2) (fun j k hj _ => by rw [zu_p (by omega), zu_p (by omega)])]
      exact (cS_cR b2).trans hi.2.2.1⟩
    have g5 : (z_up (z_up m2 140 4 (N : Int)) 140 5 0) 140 5 = 0 := zu_self
    have z0 : zb 0 = fun _ => false := funext zb_0
    have hW : q_W w h n heat price cs D A N 0 ((z_up (z_up m2 140 4 (N : Int)) 140 5 0) 140 5) := by
      rw [g5]
      unfold q_W
      rw [z0, qc_0]
      exact ⟨fun j hj => (by cases hj), fun b' hb' => absurd hb' (Nat.not_lt_zero b'), by decide, fun S _ => Nat.zero_le _⟩
    obtain ⟨m3, v, d1, d2, d3⟩ := q_seaL (cs := cs) hC2 hw hh hD hok ht (N := N) (by omega) w 0 (9, 0) (9, 0) (z_up (z_up m2 140 4 (N : Int)) 140 5 0) (by omega) hv (by rw [g5]; decide +kernel) hW
    have d1 : z_R 111 (z_up (z_up m2 140 4 (N : Int)) 140 5 0, 23, [(2, 140), (2, 12), (0, (N : Int)), (0, 1), (0, 0), (9, 0), (9, 0)], []) = some (m3, some (0, v)) := d1
    rw [d1, zb_v, qt_qui_25]
    rcases d3 with ⟨v1, hW3⟩ | ⟨v0, hno⟩
    · rw [v1, if_neg (show ¬ (1 : Int) = 0 by decide), s_tell0_0, zb_n, qt_qui_35]
      obtain ⟨m4, e1, e2⟩ := q_rowC (L := m3 140 5) (N := (N : Int)) hW3.2.2.1 (fun j hj => (hW3.1 j hj).1) 30 0 (z_up m3 0 13 0) (by decide) zu_self (zu_p (by decide)) (C_upn d2 (by decide))
      have e1 : z_R 110 (z_up m3 0 13 0, 37, [(2, 0), (0, (N : Int)), (0, 0)], []) = some (m4, some (0, ((qc (zb (m3 140 5)) 30 : Nat) : Int))) := e1
      rw [e1]
      refine ⟨m4, _, rfl, e2, Or.inr ⟨by omega, Or.inr ⟨zb (m3 140 5), fun j hj => ?_, ?_, hW3.2.2.1, rfl, fun S' _ hS' => ?_⟩⟩⟩
      · have := (hW3.1 j hj).2
        unfold q_U q_m0 at this
        exact (of_decide_eq_true (Bool.and_eq_true _ _ |>.mp this).1).1
      · have tb : ∀ b', b' < 3 → q_T w h n heat price cs D A N b' (zb (m3 140 5)) := fun b' hb' => by
          by_cases y : b' < w
          · exact hW3.2.1 b' y
          · refine q_T_no (fun r hr hrc => ?_)
            rw [u_hs_eq hw.1 hw.2.1 (by omega), if_neg (by omega)]
        exact q_full_T.mpr ⟨tb 0 (by decide), tb 1 (by decide), tb 2 (by decide)⟩
      · obtain ⟨t0, t1, t2⟩ := q_full_T.mp hS'
        refine Nat.le_trans (hW3.2.2.2 S' (fun b' hb' => ?_)) (qc_le 30 fun j _ hj => (Bool.and_eq_true _ _ |>.mp hj).1)
        have hw3 := hw.1
        rcases (show b' = 0 ∨ b' = 1 ∨ b' = 2 by omega) with rfl | rfl | rfl
        · exact t0
        · exact t1
        · exact t2
    · rw [v0, if_pos (show (0 : Int) = 0 from rfl)]
      exact ⟨m3, -2, rfl, d2, Or.inr ⟨by omega, Or.inl ⟨rfl, fun S _ hS => hno S hS⟩⟩⟩
  · rw [if_neg c2]
    exact ⟨m, -1, rfl, hi, Or.inl ⟨by omega, rfl⟩⟩
/-! the reference -/
theorem qS_or {D : Nat → Int} {S S' : Nat → Bool} : qS (qS D S) S' = qS D (fun j => S j || S' j) := by
  funext j
  unfold qS
  show _ = (if (S j || S' j) = true then 0 else D j)
  cases S j <;> cases S' j <;> rfl
theorem R_lo2 (hi : R_is w h n heat price D A c U kn KS cs m) {a : Int} (ha : a = -1 ∨ (0 ≤ a ∧ a < 30)) : ∃ m1 v, z_R 235 (m, 0, [(2, 251), (0, a), (9, 0)], []) = some (m1, some (0, v)) ∧ R_is w h n heat price (qS D (q_1 a)) A c U kn KS cs m1 ∧ ∀ m2, R_is w h n heat price (qS D (q_1 a)) A c U kn KS cs m2 → ∃ m3, z_R 236 (m2, 0, [(2, 251), (0, a), (0, v)], []) = some (m3, none) ∧ R_is w h n heat price D A c U kn KS cs m3 := by
  rw [q_lo_0]
  by_cases c1 : a = -1
  · have e : ∀ j, j < 30 → D j = qS D (q_1 a) j := fun j _ => by
      unfold qS
      rw [c1, q_1_no, if_neg Bool.false_ne_true]
    rw [if_pos c1]
    exact ⟨m, 0, rfl, R_Dcg hi e, fun m2 h2 => ⟨m2, by rw [q_tu_0, if_pos c1], R_Dcg h2 (fun j hj => (e j hj).symm)⟩⟩
  · have hb : 0 ≤ a ∧ a < 30 := by omega
    have e : ∀ j, j < 30 → u_up D a.toNat 0 j = qS D (q_1 a) j := fun j _ => by
      unfold u_up qS q_1
      by_cases y : j = a.toNat
      · rw [if_pos y, decide_eq_true (show (j : Int) = a by omega), if_pos rfl]
      · rw [if_neg y, decide_eq_false (show ¬ (j : Int) = a by omega), if_neg Bool.false_ne_true]
    rw [if_neg c1, if_pos hb]
    refine ⟨_, _, rfl, R_Dcg (R_dz hi (by omega) 0) e, fun m2 h2 => ?_⟩
    rw [q_tu_0, if_neg c1, if_pos hb]
    refine ⟨_, rfl, R_Dcg (R_dz h2 (a := a.toNat) (by omega) (m 253 a.toNat)) fun j hj => ?_⟩
    unfold u_up
    by_cases y : j = a.toNat
    · rw [if_pos y, y]
      exact hi.2.1 a.toNat (by omega)
    · rw [if_neg y]
      unfold qS q_1
      rw [decide_eq_false (show ¬ (j : Int) = a by omega), if_neg Bool.false_ne_true]
theorem R_isq2 (hw : w ≤ 3 ∧ h ≤ 3 ∧ n ≤ 5) (hh : 0 ≤ heat ∧ heat ≤ 9) (hD : q_D D) (hok : hr_ok n A) (ht : 0 ≤ A 35 ∧ A 35 ≤ 1073741824) (hi : R_is w h n heat price D A c U kn KS cs m) {N : Nat} (hN6 : N ≤ 40) {a b d : Int} (ha : a = -1 ∨ (0 ≤ a ∧ a < 30)) (hb : b = -1 ∨ (0 ≤ b ∧ b < 30)) (hd : d = -1 ∨ (0 ≤ d ∧ d < 30)) : ∃ m1 v, z_R 234 (m, 0, [(2, 251), (0, (N : Int)), (0, a), (0, b), (0, d), (9, 0), (9, 0), (9, 0), (9, 0)], []) = some (m1, some (0, v)) ∧ R_is w h n heat price D A c U kn KS cs m1 ∧ ((v = 1 ∧ q_full w h n heat price cs D A N (q_3 a b d)) ∨ (v = 0 ∧ ¬ q_full w h n heat price cs D A N (q_3 a b d))) := by
  obtain ⟨m1, v1, a1, a3, a4⟩ := R_lo2 hi ha
  obtain ⟨m2, v2, b1, b3, b4⟩ := R_lo2 a3 hb
  obtain ⟨m3, v3, c1, c3, c4⟩ := R_lo2 b3 hd
  obtain ⟨m4, d1, d2, d3⟩ := R_lt c3
  have eD : qS (qS (qS D (q_1 a)) (q_1 b)) (q_1 d) = qS D (q_3 a b d) := by
    rw [qS_or, qS_or]
    congr 1
  have hq : q_D (qS (qS (qS D (q_1 a)) (q_1 b)) (q_1 d)) := q_D_S (q_D_S (q_D_S hD _) _) _
  obtain ⟨m5, e1, e2⟩ := R_stand (q_D_N hw hh hq) hok ht d2 d3 (N := N) (by omega)
  obtain ⟨m6, f1, f2⟩ := c4 m5 e2
  obtain ⟨m7, g1, g2⟩ := b4 m6 f2
  obtain ⟨m8, k1, k2⟩ := a4 m7 g2
  rw [eD] at e1
  rw [q_isq_0, a1, zb_v, q_isq_5, b1, zb_v, q_isq_12, c1, zb_v, q_isq_20, d1, zb_n, q_isq_26, e1, zb_v, q_isq_31]
  unfold q_full
  by_cases z : s_sta w h n heat price cs (qS D (q_3 a b d)) (s_F w h A) N N 0 A = (N : Int)
  · rw [if_pos z, f1, zb_n, q_isq_50, g1, zb_n, q_isq_57, k1, zb_n, q_isq_64]
    exact ⟨m8, _, rfl, k2, Or.inl ⟨rfl, z⟩⟩
  · rw [if_neg z, f1, zb_n, q_isq_50, g1, zb_n, q_isq_57, k1, zb_n, q_isq_64]
    exact ⟨m8, _, rfl, k2, Or.inr ⟨rfl, z⟩⟩
theorem qc_31 {a : Nat} (ha : a < 30) : qc (q_3 (a : Int) (-1) (-1)) 30 = 1 := by
  rw [qc_cg (S' := q_1 (a : Int)) 30 (fun j _ => by unfold q_3; rw [q_1_no, Bool.or_false, Bool.or_false]), qc_1, if_pos ha]
theorem qc_32b {a b : Nat} (hab : a < b) (hb : b < 30) : qc (q_3 (a : Int) (b : Int) (-1)) 30 = 2 := by
  rw [qc_cg (S' := fun j => q_1 (a : Int) j || q_1 (b : Int) j) 30 (fun j _ => by unfold q_3; rw [q_1_no, Bool.or_false]), qc_or 30 (fun j _ ⟨z1, z2⟩ => by
    have := of_decide_eq_true z1
    have := of_decide_eq_true z2
    omega), qc_1, qc_1, if_pos (by omega), if_pos hb]
theorem qc_33 {a b d : Nat} (hab : a < b) (hb : b < d) (hd : d < 30) : qc (q_3 (a : Int) (b : Int) (d : Int)) 30 = 3 := by
  show qc (fun j => q_1 (a : Int) j || (fun j => q_1 (b : Int) j || q_1 (d : Int) j) j) 30 = 3
  rw [qc_or 30 (fun j _ ⟨z1, z2⟩ => by
    have := of_decide_eq_true z1
    rcases Bool.or_eq_true _ _ |>.mp z2 with z | z
    · have := of_decide_eq_true z
      omega
    · have := of_decide_eq_true z
      omega), qc_or 30 (fun j _ ⟨z1, z2⟩ => by
    have := of_decide_eq_true z1
    have := of_decide_eq_true z2
    omega), qc_1, qc_1, qc_1, if_pos (by omega), if_pos (by omega), if_pos hd]
theorem q_3_lt {a b d : Int} {L : Nat} (ha : a < (L : Int)) (hb : b < (L : Int)) (hd : d < (L : Int)) : ∀ j, q_3 a b d j = true → j < L := fun j hj => by
  unfold q_3 at hj
  rcases Bool.or_eq_true _ _ |>.mp hj with z | z
  · have := of_decide_eq_true z
    omega
  · rcases Bool.or_eq_true _ _ |>.mp z with z | z
    · have := of_decide_eq_true z
      omega
    · have := of_decide_eq_true z
      omega
def q_res (w h n : Nat) (heat price : Int) (D A : Nat → Int) (c : Nat) (U : Nat → Nat → Int) (kn : Nat → Int) (KS : Nat → Nat → Int) (cs : List Int) (N : Nat) (X : Option z_Q) : Prop := ∃ m1 v, X = some (m1, some (0, v)) ∧ R_is w h n heat price D A c U kn KS cs m1 ∧ q_an w h n heat price cs D A N v
theorem R_quiet2 (hw : w ≤ 3 ∧ h ≤ 3 ∧ n ≤ 5) (hh : 0 ≤ heat ∧ heat ≤ 9) (hD : q_D D) (hok : hr_ok n A) (ht : 0 ≤ A 35 ∧ A 35 ≤ 1073741824) (hi : R_is w h n heat price D A c U kn KS cs m) (a : Int) : ∃ m1 v, z_R 233 (m, 0, [(2, 251), (0, a), (9, 0), (9, 0), (9, 0), (9, 0)], []) = some (m1, some (0, v)) ∧ R_is w h n heat price D A c U kn KS cs m1 ∧ ((¬ (1 ≤ a ∧ a ≤ 40) ∧ v = -1) ∨ ((1 ≤ a ∧ a ≤ 40) ∧ q_an w h n heat price cs D A a.toNat v)) := by
  rw [q_tqu_0]
  have hu := R_upn (p0 := 251) (k0 := 11) (v := 0) hi (by decide)
  by_cases ok : ¬ (1 ≤ a ∧ a ≤ 40)
  · rw [if_neg ok]
    exact ⟨_, _, rfl, hu, Or.inl ⟨ok, rfl⟩⟩
  have ok : 1 ≤ a ∧ a ≤ 40 := Decidable.not_not.mp ok
  obtain ⟨N, rfl⟩ : ∃ N : Nat, a = (N : Int) := ⟨a.toNat, by omega⟩
  have hN6 : N ≤ 40 := by omega
  have n5 := hw.2.2
  have e3 : m 251 3 = (n : Int) := hi.1.2.2.1
  have hL : z_mul 6 (m 251 3) = ((6 * n : Nat) : Int) := by rw [e3, z_mul_eq (by omega) (by omega)]; omega
  rw [if_pos ok, hL, Int.toNat_natCast]
  generalize z_up m 251 11 0 = m0 at hu ⊢
  obtain ⟨L, hLn⟩ : ∃ L : Nat, 6 * n = L := ⟨_, rfl⟩
  have hL30 : L ≤ 30 := by omega
  suffices hs : q_res w h n heat price D A c U kn KS cs N ((z_R 234 (m0, 0, [(2, 251), (0, (N : Int)), (0, (-1)), (0, (-1)), (0, (-1)), (9, 0), (9, 0), (9, 0), (9, 0)], [])).bind fun qq => z_R 233 (qq.1, 33, [(2, 251), (0, (N : Int)), (0, ((6 * n : Nat) : Int)), (9, 0), (9, 0), (9, 0)], qq.2.toList ++ [])) by
    obtain ⟨m1, v, a1, a2, a3⟩ := hs
    exact ⟨m1, v, a1, a2, Or.inr ⟨ok, a3⟩⟩
  have found : ∀ (q : Int) (k : Nat) (x y z : Int) (m1 : z_M), q = (k : Int) → k ≤ 3 → (∀ j, q_3 x y z j = true → j < 6 * n) → qc (q_3 x y z) 30 = k → q_full w h n heat price cs D A N (q_3 x y z) → (∀ S, (∀ j, S j = true → j < 6 * n) → q_full w h n heat price cs D A N S → k ≤ qc S 30) → q_an w h n heat price cs D A N q := fun q k x y z m1 hq hk h1 h2 h3 h4 => Or.inr ⟨q_3 x y z, h1, h3, by omega, by rw [h2]; exact hq, fun S' s1 s2 => by rw [h2]; exact h4 S' s1 s2⟩
  rw [hLn] at found ⊢
  -- sets of three
  have l154 : ∀ (x y : Nat), x < y → y < L → (∀ S, (∀ j, S j = true → j < L) → q_full w h n heat price cs D A N S → 3 ≤ qc S 30) → (∀ m x5, R_is w h n heat price D A c U kn KS cs m → (∀ z, y < z → z < L → ¬ q_full w h n heat price cs D A N (q_3 (x : Int) (y : Int) (z : Int))) → q_res w h n heat price D A c U kn KS cs N (z_R 233 (m, 142, [(2, 251), (0, (N : Int)), (0, (L : Int)), (0, (x : Int)), (0, ((y + 1 : Nat) : Int)), (0, x5)], []))) → ∀ (f z : Nat) (m : z_M), z + f = L → y < z → R_is w h n heat price D A c U kn KS cs m → (∀ z', y < z' → z' < z → ¬ q_full w h n heat price cs D A N (q_3 (x : Int) (y : Int) (z' : Int))) → q_res w h n heat price D A c U kn KS cs N (z_R 233 (m, 154, [(2, 251), (0, (N : Int)), (0, (L : Int)), (0, (x : Int)), (0, (y : Int)), (0, (z : Int))], [])) := by
    intro x y hx hy h3 nx f
    induction f with
    | zero =>
      intro z m hz hyz hi hno
      rw [q_tqu_154, if_pos (by omega), z_add_eq (by omega) (by omega), tc1]
      exact nx m _ hi (fun z' h1 h2 => hno z' h1 (by omega))
    | succ f ih =>
      intro z m hz hyz hi hno
      obtain ⟨m1, v, a1, a2, a3⟩ := R_isq2 hw hh hD hok ht hi hN6 (a := (x : Int)) (b := (y : Int)) (d := (z : Int)) (Or.inr (by omega)) (Or.inr (by omega)) (Or.inr (by omega))
      rw [q_tqu_154, if_neg (by omega), a1, zb_v, q_tqu_170]
      rcases a3 with ⟨v1, t⟩ | ⟨v0, t⟩
      · obtain ⟨m2, b1, b2⟩ := R_tq a2 (q := 3) (by decide) (x : Int) (y : Int) (z : Int)
        rw [v1, if_neg (show ¬ (1 : Int) = 0 by decide), b1, zb_v, q_tqu_183]
        exact ⟨m2, _, rfl, b2, found 3 3 x y z m2 rfl (by decide) (q_3_lt (by omega) (by omega) (by omega)) (qc_33 hx hyz (by omega)) t h3⟩
      · rw [v0, if_pos (show (0 : Int) = 0 from rfl), z_add_eq (by omega) (by omega), tc1]
        refine ih (z + 1) m1 (by omega) (by omega) a2 (fun z' h1 h2 => ?_)
        by_cases e : z' = z
        · rw [e]
          exact t
        · exact hno z' h1 (by omega)
  have l142 : ∀ (x : Nat), x < L → (∀ S, (∀ j, S j = true → j < L) → q_full w h n heat price cs D A N S → 3 ≤ qc S 30) → (∀ m v4 v5, R_is w h n heat price D A c U kn KS cs m → (∀ y z, x < y → y < z → z < L → ¬ q_full w h n heat price cs D A N (q_3 (x : Int) (y : Int) (z : Int))) → q_res w h n heat price D A c U kn KS cs N (z_R 233 (m, 132, [(2, 251), (0, (N : Int)), (0, (L : Int)), (0, ((x + 1 : Nat) : Int)), v4, v5], []))) → ∀ (f y : Nat) (v5 : z_V) (m : z_M), y + f = L → x < y → R_is w h n heat price D A c U kn KS cs m → (∀ y' z, x < y' → y' < y → y' < z → z < L → ¬ q_full w h n heat price cs D A N (q_3 (x : Int) (y' : Int) (z : Int))) → q_res w h n heat price D A c U kn KS cs N (z_R 233 (m, 142, [(2, 251), (0, (N : Int)), (0, (L : Int)), (0, (x : Int)), (0, (y : Int)), v5], [])) := by
    intro x hx h3 nx f
    induction f with
    | zero =>
      intro y v5 m hy hxy hi hno
      rw [q_tqu_142, if_pos (by omega), z_add_eq (by omega) (by omega), tc1]
      exact nx m _ _ hi (fun y' z h1 h2 h4 => hno y' z h1 (by omega) h2 h4)
    | succ f ih =>
      intro y v5 m hy hxy hi hno
      rw [q_tqu_142, if_neg (by omega), z_add_eq (x := (y : Int)) (by omega) (by omega), tc1]
      refine l154 x y hxy (by omega) h3 (fun m x5 hm hz => ih (y + 1) _ m (by omega) (by omega) hm (fun y' z h1 h2 h4 h5 => ?_)) (L - (y + 1)) (y + 1) m (by omega) (by omega) hi (fun z' h1 h2 => by omega)
      by_cases e : y' = y
      · rw [e]
        exact hz z (by omega) h5
      · exact hno y' z h1 (by omega) h4 h5
  have l132 : (∀ S, (∀ j, S j = true → j < L) → q_full w h n heat price cs D A N S → 3 ≤ qc S 30) → ∀ (f x : Nat) (v4 v5 : z_V) (m : z_M), x + f = L → R_is w h n heat price D A c U kn KS cs m → (∀ x' y z, x' < x → x' < y → y < z → z < L → ¬ q_full w h n heat price cs D A N (q_3 (x' : Int) (y : Int) (z : Int))) → q_res w h n heat price D A c U kn KS cs N (z_R 233 (m, 132, [(2, 251), (0, (N : Int)), (0, (L : Int)), (0, (x : Int)), v4, v5], [])) := by
    intro h3 f
    induction f with
    | zero =>
      intro x v4 v5 m hx hi hno
      rw [q_tqu_132, if_pos (by omega)]
      refine ⟨m, _, rfl, hi, Or.inl ⟨rfl, fun S s1 s2 => ?_⟩⟩
      have s1 : ∀ j, S j = true → j < L := fun j hj => by have := s1 j hj; omega
      have := h3 S s1 s2
      refine Decidable.byContradiction fun y => ?_
      obtain ⟨a, b, d, h1, h2, h4, e⟩ := qc_is3 hL30 s1 (by omega)
      rw [e] at s2
      exact hno a b d (by omega) h1 h2 h4 s2
    | succ f ih =>
      intro x v4 v5 m hx hi hno
      rw [q_tqu_132, if_neg (by omega), z_add_eq (by omega) (by omega), tc1]
      refine l142 x (by omega) h3 (fun m v4 v5 hm hy => ih (x + 1) v4 v5 m (by omega) hm (fun x' y z h1 h2 h4 h5 => ?_)) (L - (x + 1)) (x + 1) _ m (by omega) (by omega) hi (fun y' z h1 h2 => by omega)
      by_cases e : x' = x
      · rw [e]
        exact hy y z (by omega) h4 h5
      · exact hno x' y z (by omega) h2 h4 h5
  -- sets of two
  have l90 : ∀ (x : Nat), x < L → (∀ S, (∀ j, S j = true → j < L) → q_full w h n heat price cs D A N S → 2 ≤ qc S 30) → (∀ m v4, R_is w h n heat price D A c U kn KS cs m → (∀ y, x < y → y < L → ¬ q_full w h n heat price cs D A N (q_3 (x : Int) (y : Int) (-1))) → q_res w h n heat price D A c U kn KS cs N (z_R 233 (m, 80, [(2, 251), (0, (N : Int)), (0, (L : Int)), (0, ((x + 1 : Nat) : Int)), v4, (9, 0)], []))) → ∀ (f y : Nat) (m : z_M), y + f = L → x < y → R_is w h n heat price D A c U kn KS cs m → (∀ y', x < y' → y' < y → ¬ q_full w h n heat price cs D A N (q_3 (x : Int) (y' : Int) (-1))) → q_res w h n heat price D A c U kn KS cs N (z_R 233 (m, 90, [(2, 251), (0, (N : Int)), (0, (L : Int)), (0, (x : Int)), (0, (y : Int)), (9, 0)], [])) := by
    intro x hx h2 nx f
    induction f with
    | zero =>
      intro y m hy hxy hi hno
      rw [q_tqu_90, if_pos (by omega), z_add_eq (by omega) (by omega), tc1]
      exact nx m _ hi (fun y' h1 h4 => hno y' h1 (by omega))
    | succ f ih =>
      intro y m hy hxy hi hno
      obtain ⟨m1, v, a1, a2, a3⟩ := R_isq2 hw hh hD hok ht hi hN6 (a := (x : Int)) (b := (y : Int)) (d := -1) (Or.inr (by omega)) (Or.inr (by omega)) (Or.inl rfl)
      rw [q_tqu_90, if_neg (by omega), a1, zb_v, q_tqu_105]
      rcases a3 with ⟨v1, t⟩ | ⟨v0, t⟩
      · obtain ⟨m2, b1, b2⟩ := R_tq a2 (q := 2) (by decide) (x : Int) (y : Int) 0
        rw [v1, if_neg (show ¬ (1 : Int) = 0 by decide), b1, zb_v, q_tqu_117]
        exact ⟨m2, _, rfl, b2, found 2 2 x y (-1) m2 rfl (by decide) (q_3_lt (by omega) (by omega) (by omega)) (qc_32b hxy (by omega)) t h2⟩
      · rw [v0, if_pos (show (0 : Int) = 0 from rfl), z_add_eq (by omega) (by omega), tc1]
        refine ih (y + 1) m1 (by omega) (by omega) a2 (fun y' h1 h4 => ?_)
        by_cases e : y' = y
        · rw [e]
          exact t
        · exact hno y' h1 (by omega)
  have l80 : (∀ S, (∀ j, S j = true → j < L) → q_full w h n heat price cs D A N S → 2 ≤ qc S 30) → ∀ (f x : Nat) (v4 : z_V) (m : z_M), x + f = L → R_is w h n heat price D A c U kn KS cs m → (∀ x' y, x' < x → x' < y → y < L → ¬ q_full w h n heat price cs D A N (q_3 (x' : Int) (y : Int) (-1))) → q_res w h n heat price D A c U kn KS cs N (z_R 233 (m, 80, [(2, 251), (0, (N : Int)), (0, (L : Int)), (0, (x : Int)), v4, (9, 0)], [])) := by
    intro h2 f
    induction f with
    | zero =>
      intro x v4 m hx hi hno
      rw [q_tqu_80, if_pos (by omega)]
      refine l132 (fun S s1 s2 => ?_) L 0 _ _ m (by omega) hi (fun x' y z h1 => absurd h1 (Nat.not_lt_zero x'))
      have := h2 S s1 s2
      refine Decidable.byContradiction fun y => ?_
      obtain ⟨a, b, h1, h4, e⟩ := qc_is2 hL30 s1 (by omega)
      rw [e] at s2
      exact hno a b (by omega) h1 h4 s2
    | succ f ih =>
      intro x v4 m hx hi hno
      rw [q_tqu_80, if_neg (by omega), z_add_eq (by omega) (by omega), tc1]
      refine l90 x (by omega) h2 (fun m v4 hm hy => ih (x + 1) v4 m (by omega) hm (fun x' y h1 h4 h5 => ?_)) (L - (x + 1)) (x + 1) m (by omega) (by omega) hi (fun y' h1 h4 => by omega)
      by_cases e : x' = x
      · rw [e]
        exact hy y (by omega) h5
      · exact hno x' y (by omega) h4 h5
  -- sets of one
  have l47 : (∀ S, (∀ j, S j = true → j < L) → q_full w h n heat price cs D A N S → 1 ≤ qc S 30) → ∀ (f x : Nat) (m : z_M), x + f = L → R_is w h n heat price D A c U kn KS cs m → (∀ x', x' < x → ¬ q_full w h n heat price cs D A N (q_3 (x' : Int) (-1) (-1))) → q_res w h n heat price D A c U kn KS cs N (z_R 233 (m, 47, [(2, 251), (0, (N : Int)), (0, (L : Int)), (0, (x : Int)), (9, 0), (9, 0)], [])) := by
    intro h1 f
    induction f with
    | zero =>
      intro x m hx hi hno
      rw [q_tqu_47, if_pos (by omega)]
      refine l80 (fun S s1 s2 => ?_) L 0 _ m (by omega) hi (fun x' y h1 => absurd h1 (Nat.not_lt_zero x'))
      have := h1 S s1 s2
      refine Decidable.byContradiction fun y => ?_
      obtain ⟨a, h4, e⟩ := qc_is1 hL30 s1 (by omega)
      rw [e] at s2
      exact hno a (by omega) s2
    | succ f ih =>
      intro x m hx hi hno
      obtain ⟨m1, v, a1, a2, a3⟩ := R_isq2 hw hh hD hok ht hi hN6 (a := (x : Int)) (b := -1) (d := -1) (Or.inr (by omega)) (Or.inl rfl) (Or.inl rfl)
      rw [q_tqu_47, if_neg (by omega), a1, zb_v, q_tqu_60]
      rcases a3 with ⟨v1, t⟩ | ⟨v0, t⟩
      · obtain ⟨m2, b1, b2⟩ := R_tq a2 (q := 1) (by decide) (x : Int) 0 0
        rw [v1, if_neg (show ¬ (1 : Int) = 0 by decide), b1, zb_v, q_tqu_71]
        exact ⟨m2, _, rfl, b2, found 1 1 x (-1) (-1) m2 rfl (by decide) (q_3_lt (by omega) (by omega) (by omega)) (qc_31 (by omega)) t h1⟩
      · rw [v0, if_pos (show (0 : Int) = 0 from rfl), z_add_eq (by omega) (by omega), tc1]
        refine ih (x + 1) m1 (by omega) a2 (fun x' h4 => ?_)
        by_cases e : x' = x
        · rw [e]
          exact t
        · exact hno x' (by omega)
  have e0 : q_3 (-1) (-1) (-1) = fun _ => false := funext fun j => by
    unfold q_3
    rw [q_1_no]
    rfl
  obtain ⟨m1, v, a1, a2, a3⟩ := R_isq2 hw hh hD hok ht hu hN6 (a := -1) (b := -1) (d := -1) (Or.inl rfl) (Or.inl rfl) (Or.inl rfl)
  rw [a1, zb_v, q_tqu_33]
  rcases a3 with ⟨v1, t⟩ | ⟨v0, t⟩
  · obtain ⟨m2, b1, b2⟩ := R_tq a2 (q := 0) (by decide) 0 0 0
    rw [v1, if_neg (show ¬ (1 : Int) = 0 by decide), b1, zb_v, q_tqu_44]
    refine ⟨m2, _, rfl, b2, found 0 0 (-1) (-1) (-1) m2 rfl (by decide) (q_3_lt (by omega) (by omega) (by omega)) ?_ t (fun S _ _ => Nat.zero_le _)⟩
    rw [e0]
    exact qc_0 30
  · rw [v0, if_pos (show (0 : Int) = 0 from rfl)]
    refine l47 (fun S s1 s2 => ?_) L 0 m1 (by omega) a2 (fun x' h1 => absurd h1 (Nat.not_lt_zero x'))
    refine Decidable.byContradiction fun y => ?_
    have eS : S = q_3 (-1) (-1) (-1) := by
      rw [e0]
      funext j
      by_cases hj : j < 30
      · exact qc_no 30 (by omega) j hj
      · cases z : S j
        · rfl
        · have := s1 j z
          omega
    rw [eS] at s2
    exact t s2
end
theorem core_quiet2 : l_rel2 Rel_C (836, 124, 110, 1, false, 847, 127, 233) := by
  intro M1 M2 M3 σ σ1 σ2 as v1 v2 C1 C2 ρ1 ρ2 ha hR hh hM1 hC1 hp1 hE1 hC2 hp2 hE2
  obtain ⟨a, rfl⟩ := as_one ha
  have hE1 : z_R 110 (z_m σ, 0, [(2, 0), (0, a.toInt), (9, 0)], []) = some (z_m σ1, some (0, v1.toInt)) := z_R_iff.mpr hE1
  have hE2 : z_R 233 (z_m σ1, 0, [(2, 251), (0, a.toInt), (9, 0), (9, 0), (9, 0), (9, 0)], []) = some (z_m σ2, some (0, v2.toInt)) := z_R_iff.mpr hE2
  have hT := T_two (y1 := 110) (y2 := 233) (by decide +kernel) (by decide +kernel) hC1 hC2 hp1 hp2 hR.1
  obtain ⟨w, h, n, heat, price, D, A, c, U, kn, KS, cs, cC, cR, cW⟩ := hR.2
  obtain ⟨b1, b2, -, b4, hok, b35, -, -⟩ := core_b hh hM1 cR
  have f1 := R_off2_ok (y := 110) (by decide +kernel) hC1 hp1
  have f2 := C_off_ok (y := 233) (by decide +kernel) hC2 hp2
  have cR1 := R_fr cR f1
  obtain ⟨m1, v, d1, d2, d3⟩ := C_quiet cC b1 b2 b4 hok b35 a.toInt
  obtain ⟨e1, e2⟩ := R_inj d1 hE1
  subst e1
  obtain ⟨m2, v', g1, g2, g3⟩ := R_quiet2 b1 b2 b4 hok b35 cR1 a.toInt
  obtain ⟨k1, k2⟩ := R_inj g1 hE2
  subst k1
  refine ⟨⟨hT, Core_mk (C_fr d2 f2) g2 cW⟩, fun _ => Int32.toInt_inj.mp ?_⟩
  rw [← e2, ← k2]
  rcases d3 with ⟨n1, n2⟩ | ⟨n1, n2⟩
  · rcases g3 with ⟨o1, o2⟩ | ⟨o1, o2⟩
    · rw [n2, o2]
    · exact absurd o1 n1
  · rcases g3 with ⟨o1, o2⟩ | ⟨o1, o2⟩
    · exact absurd n1 o1
    · exact q_an_1 n2 o2
