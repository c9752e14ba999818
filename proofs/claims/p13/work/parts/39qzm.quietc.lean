/-! QUIET: as the class searches, column by column -/
def q_I (m0 : z_M) (n N : Nat) (A : Nat → Int) (m : z_M) : Prop := (∀ p k, C_hit p k k = true → ¬ (p = 24 ∧ k = 5) → m p k = m0 p k) ∧ m 140 4 = (N : Int) ∧ cS m 141 n = A
theorem zb_m1 {k : Nat} (hk : k < 32) : zb (-1) k = true := by
  have : ∀ k, k < 32 → zb (-1) k = true := by decide +kernel
  exact this k hk
theorem zb_xor (a b : Int) (k : Nat) : zb (z_xor a b) k = (zb a k ^^ zb b k) := by
  unfold zb z_xor
  rw [Int32.ofInt_toInt, Int32.toBitVec_xor, BitVec.getLsbD_xor]
section
variable {w h n : Nat} {heat price : Int} {D A : Nat → Int} {c : Nat} {U : Nat → Nat → Int} {kn : Nat → Int} {KS : Nat → Nat → Int} {cs : List Int} {m m0 : z_M}
theorem q_I_n (hi : C_is w h n heat price D A c U kn KS cs m0) {N : Nat} {B : Nat → Int} (hv : q_I m0 n N B m) : m 3 8 = (w : Int) ∧ m 3 9 = (h : Int) ∧ m 3 11 = (n : Int) ∧ ∀ j, j < 30 → m 8 j = D j := by
  obtain ⟨⟨a1, a2, a3, -⟩, b, -⟩ := hi
  have e3 : ∀ k, 8 ≤ k → m 3 k = m0 3 k := fun k hk => hv.1 3 k (by
    unfold C_hit
    exact decide_eq_true (Or.inr (Or.inr (Or.inr (Or.inr (Or.inl ⟨rfl, hk⟩)))))) (by omega)
  exact ⟨(e3 8 (by decide)).trans a1, (e3 9 (by decide)).trans a2, (e3 11 (by decide)).trans a3, fun j hj => (hv.1 8 j hit_8 (by omega)).trans (b j hj)⟩
/-- what the class holds, while doings are left off -/
theorem q_cfg (hi : C_is w h n heat price D A c U kn KS cs m0) (hf : ∀ p k, C_hit p k k = true → ¬ (p = 24 ∧ k = 5) → m p k = m0 p k) {L : Int} (hL : m 24 5 = L) : c_cfg w h n heat price (c_ml cs) (wmD (qS D (zb L))) m := by
  have hc := C_cfg hi
  obtain ⟨a1, a2, a3, a4, a5, a6, a7, a8⟩ := hc
  have e3 : ∀ k, 8 ≤ k → m 3 k = m0 3 k := fun k hk => hf 3 k (by
    unfold C_hit
    exact decide_eq_true (Or.inr (Or.inr (Or.inr (Or.inr (Or.inl ⟨rfl, hk⟩)))))) (by omega)
  refine ⟨(e3 8 (by decide)).trans a1, (e3 9 (by decide)).trans a2, (e3 11 (by decide)).trans a3, (e3 12 (by decide)).trans a4, (e3 13 (by decide)).trans a5, fun t ht p hp => ?_, fun m2 z1 z2 => a7 m2 (z1.trans (funext fun k => hf 5 k (by unfold C_hit; exact decide_eq_true (Or.inr (Or.inr (Or.inr (Or.inl rfl))))) (by omega))) (z2.trans (hf 4 3 (by decide) (by decide))), fun r hr => by rw [e3 10 (by decide)]; exact a8 r hr⟩
  have hm : 0 ≤ t % 6 ∧ t % 6 < 6 := ⟨Int.emod_nonneg _ (by decide), Int.emod_lt_of_pos _ (by decide)⟩
  obtain ⟨q, hq⟩ : ∃ q : Nat, t % 6 = (q : Int) := ⟨(t % 6).toNat, by omega⟩
  have ej : (6 * (p : Int) + (q : Int)) = ((6 * p + q : Nat) : Int) := by omega
  have h4 : m 24 4 = -1 := (hf 24 4 (by decide) (by decide)).trans hi.1.2.2.2.2.2.2.1
  have h8 : m 8 (6 * p + q) = D (6 * p + q) := (hf 8 _ hit_8 (by omega)).trans (hi.2.1 _ (by omega))
  unfold cw wmD qS
  rw [hL, hq, ej, Int.toNat_natCast, Int.toNat_natCast, h4, h8, if_neg (show ¬ (p : Int) = -1 by omega)]
  have e := zb_test32 (a := L) (k := 6 * p + q) (by omega)
  cases y : zb L (6 * p + q)
  · rw [if_pos (e.mpr y), if_neg Bool.false_ne_true]
  · rw [if_neg (fun z => by rw [e.mp z] at y; cases y), if_pos rfl]
theorem q_mat (hi : C_is w h n heat price D A c U kn KS cs m0) (hw : w ≤ 3 ∧ h ≤ 3 ∧ n ≤ 5) (hok : hr_ok n A) (ht : 0 ≤ A 35 ∧ A 35 ≤ 1073741824) {N : Nat} (hN : N ≤ 40) (hv : q_I m0 n N A m) {b d : Nat} (hd : d < 30) : z_R 113 (m, 0, [(2, 140), (0, (b : Int)), (0, (d : Int)), (9, 0), (9, 0)], []) = some (m, some (0, if q_M n D A N b d = true then 1 else 0)) := by
  obtain ⟨k1, k2, k3, k4⟩ := q_I_n hi hv
  have n5 := hw.2.2
  have e7 : m 141 7 = A 35 := by
    rw [← hv.2.2]
    exact (cS_at0 (s := 141) (j := 7) (by decide)).symm
  have e8 := k4 d hd
  rw [qt_mat_0 m _ _ ⟨by omega, by omega⟩ (by rw [e7]; exact ht) (by rw [k3]; omega), k3, e7, Int.toNat_natCast, e8]
  have ed : ((d : Int) / 6) = ((d / 6 : Nat) : Int) := by omega
  have em : ((d : Int) % 6) = ((d % 6 : Nat) : Int) := by omega
  rw [ed, em]
  unfold q_M q_m0
  by_cases c1 : (n : Int) ≤ ((d / 6 : Nat) : Int)
  · rw [if_pos c1, decide_eq_false (show ¬ (d < 6 * n ∧ _) by omega), Bool.false_and, if_neg Bool.false_ne_true]
  rw [if_neg c1]
  by_cases c2 : D d = 0
  · rw [if_pos c2, decide_eq_false (fun z => z.2.1 c2), Bool.false_and, if_neg Bool.false_ne_true]
  rw [if_neg c2, qt_fm m (by omega) (by omega), zb_v, qt_mat_51, if_pos (by omega), Int.toNat_natCast]
  have e3 : m 144 (d / 6) = A (d / 6 + 18) := by
    rw [← hv.2.2]
    exact (cS_at3 (s := 141) (j := d / 6) (by omega) (by omega)).symm
  rw [e3, hv.2.1]
  by_cases c3 : A (d / 6 + 18) = -1
  · rw [if_pos c3, decide_eq_false (fun z => z.2.2.1 c3), Bool.false_and, if_neg Bool.false_ne_true]
  have hp := hok.2.2.1 (d / 6) (by omega)
  rw [if_neg c3, z_rem_nn (by omega) (by omega) (by decide) (by decide)]
  by_cases c4 : A (d / 6 + 18) % 3 = (b : Int)
  · rw [if_pos c4, decide_eq_true c4, Bool.and_true]
    by_cases c5 : (N : Int) ≤ (((d % 6 : Nat) : Int) - A 35) % 6
    · rw [if_pos c5, decide_eq_false (fun z => by omega), if_neg Bool.false_ne_true]
    · rw [if_neg c5, decide_eq_true ⟨by omega, c2, c3, by omega⟩, if_pos rfl]
  · rw [if_neg c4, decide_eq_false c4, Bool.and_false, if_neg Bool.false_ne_true]
/-- the last step: does it stand -/
theorem q_cho0 (hi : C_is w h n heat price D A c U kn KS cs m0) (hw : w ≤ 3 ∧ h ≤ 3 ∧ n ≤ 5) (hh : 0 ≤ heat ∧ heat ≤ 9) (hD : q_D D) (hok : hr_ok n A) (ht : 0 ≤ A 35 ∧ A 35 ≤ 1073741824) {N : Nat} (hN : N ≤ 40) (hv : q_I m0 n N A m) {b : Nat} (hb : b < 3) {x2 x3 : Int} (hx : ¬ 0 < x3) : ∃ m1 v, z_R 112 (m, 0, [(2, 140), (0, (b : Int)), (0, x2), (0, x3), (9, 0)], []) = some (m1, some (0, v)) ∧ q_I m0 n N A m1 ∧ m1 140 5 = m 140 5 ∧ ((v = 1 ∧ q_T w h n heat price cs D A N b (zb (m 140 5))) ∨ (v = 0 ∧ ¬ q_T w h n heat price cs D A N b (zb (m 140 5)))) := by
  have hs1 : z_st 141 := ⟨by decide, by omega⟩
  have hs2 : z_st 147 := ⟨by decide, by omega⟩
  obtain ⟨m2, b1, b2, b3⟩ := c_become hs1 hs2 (by decide) m
  have b1 : z_R 61 (m, 0, [(2, 147), (2, 141)], []) = some (m2, none) := b1
  rw [qt_cho_0, if_neg hx, b1, zb_n, qt_cho_15]
  have e140 : ∀ k, m2 140 k = m 140 k := fun k => b3.of (by (repeat' (first | exact trivial | refine z_of_c ?_ ?_)) <;> omega)
  have f2 : ∀ p k, C_hit p k k = true → ¬ (p = 24 ∧ k = 5) → (z_up m2 24 5 (m2 140 5)) p k = m0 p k := fun p k hk hn => by
    have hk' := hk
    unfold C_hit at hk'
    have hk' := of_decide_eq_true hk'
    rw [show (z_up m2 24 5 (m2 140 5)) p k = m2 p k from if_neg hn]
    exact (show m2 p k = m p k from b3.of (by (repeat' (first | exact trivial | refine z_of_c ?_ ?_)) <;> omega)).trans (hv.1 p k hk hn)
  have g140 : ∀ k, (z_up m2 24 5 (m2 140 5)) 140 k = m 140 k := fun k => (zu_p (by decide)).trans (e140 k)
  have g5 : (z_up m2 24 5 (m2 140 5)) 24 5 = m 140 5 := zu_self.trans (e140 5)
  have gA : cS (z_up m2 24 5 (m2 140 5)) 147 n = A := by
    rw [cS_fr (m := m2) (fun j k hj _ => zu_p (by omega))]
    exact (cS_cR b2).trans hv.2.2
  have gA1 : cS (z_up m2 24 5 (m2 140 5)) 141 n = A := by
    rw [cS_fr (m := m) (fun j k hj hk => ?_)]
    · exact hv.2.2
    · rw [zu_p (by omega)]
      exact b3.of (by (repeat' (first | exact trivial | refine z_of_c ?_ ?_)) <;> omega)
  have g4 : m2 140 4 = m 140 4 := b3.of (by (repeat' (first | exact trivial | refine z_of_c ?_ ?_)) <;> omega)
  generalize z_up m2 24 5 (m2 140 5) = m3 at f2 g140 g5 gA gA1 ⊢
  have hcf := q_cfg hi f2 g5
  obtain ⟨m4, d1, d2⟩ := sc_st (A := A) (D := qS D (zb (m 140 5))) (N := N) hs2 hb (by omega) (q_D_N hw hh (q_D_S hD (zb (m 140 5)))) hcf gA ag_rf hok ht.1 (by omega) (fun _ _ _ _ _ => rfl)
  have d1 : z_R 97 (m3, 0, [(2, 24), (2, 147), (0, (N : Int)), (0, z_and (m3 3 10) (z_shl 73 (b : Int))), (9, 0), (9, 0)], []) = some (m4, some (0, s_stc w h n heat price cs (qS D (zb (m 140 5))) (s_fl A) b N N 0 A)) := d1
  have k4 : ∀ k, m4 140 k = m 140 k := fun k => (d2.of (by (repeat' (first | exact trivial | refine z_of_c ?_ ?_)) <;> omega)).trans (g140 k)
  have hv4 : q_I m0 n N A m4 := by
    refine ⟨fun p k hk hn => ?_, (k4 4).trans hv.2.1, ?_⟩
    · have hk' := hk
      unfold C_hit at hk'
      have hk' := of_decide_eq_true hk'
      exact (show m4 p k = m3 p k from d2.of (by (repeat' (first | exact trivial | refine z_of_c ?_ ?_)) <;> omega)).trans (f2 p k hk hn)
    · rw [cS_fr (m := m3) (fun j k hj hk => d2.of (by (repeat' (first | exact trivial | refine z_of_c ?_ ?_)) <;> omega))]
      exact gA1
  rw [sc_roc_0, zb_v, qt_cho_46, g4, hv.2.1, d1, zb_v, qt_cho_49, k4 4, hv.2.1]
  unfold q_T
  by_cases z : s_stc w h n heat price cs (qS D (zb (m 140 5))) (s_fl A) b N N 0 A = (N : Int)
  · rw [if_pos z]
    exact ⟨m4, 1, rfl, hv4, k4 5, Or.inl ⟨rfl, z⟩⟩
  · rw [if_neg z]
    exact ⟨m4, 0, rfl, hv4, k4 5, Or.inr ⟨rfl, z⟩⟩
/-- so many doings of a column, from one on -/
def q_X (n : Nat) (D A : Nat → Int) (N b a k : Nat) (X : Nat → Bool) : Prop := (∀ j, X j = true → a ≤ j ∧ j < 30 ∧ q_M n D A N b j = true) ∧ qc X 30 = k
theorem q_cho (hi : C_is w h n heat price D A c U kn KS cs m0) (hw : w ≤ 3 ∧ h ≤ 3 ∧ n ≤ 5) (hh : 0 ≤ heat ∧ heat ≤ 9) (hD : q_D D) (hok : hr_ok n A) (ht : 0 ≤ A 35 ∧ A 35 ≤ 1073741824) {N : Nat} (hN : N ≤ 40) {b : Nat} (hb : b < 3) : ∀ (k : Nat), k ≤ 3 → ∀ (a : Nat) (m : z_M), a ≤ 30 → q_I m0 n N A m → z_w (m 140 5) = m 140 5 → (∀ j, a ≤ j → q_M n D A N b j = true → zb (m 140 5) j = false) → ∃ m1 v, z_R 112 (m, 0, [(2, 140), (0, (b : Int)), (0, (a : Int)), (0, (k : Int)), (9, 0)], []) = some (m1, some (0, v)) ∧ q_I m0 n N A m1 ∧ z_w (m1 140 5) = m1 140 5 ∧ ((v = 1 ∧ ∃ X, q_X n D A N b a k X ∧ (∀ j, zb (m1 140 5) j = (zb (m 140 5) j || X j)) ∧ q_T w h n heat price cs D A N b (zb (m1 140 5))) ∨ (v = 0 ∧ m1 140 5 = m 140 5 ∧ ∀ X, q_X n D A N b a k X → ¬ q_T w h n heat price cs D A N b (fun j => zb (m 140 5) j || X j))) := by
  intro k
  induction k with
  | zero =>
    intro hk a m ha hv hL hM
    obtain ⟨m1, v, a1, a2, a3, a4⟩ := q_cho0 hi hw hh hD hok ht hN hv hb (x2 := (a : Int)) (x3 := ((0 : Nat) : Int)) (by omega)
    refine ⟨m1, v, a1, a2, by rw [a3]; exact hL, ?_⟩
    rcases a4 with ⟨v1, t⟩ | ⟨v0, t⟩
    · refine Or.inl ⟨v1, fun _ => false, ⟨fun j hj => (by cases hj), qc_0 30⟩, fun j => by rw [a3, Bool.or_false], ?_⟩
      rw [a3]
      exact t
    · refine Or.inr ⟨v0, a3, fun X hX z => t ?_⟩
      refine (q_T_cg hw hh hD hok ht hN (fun d hd _ => ?_)).mp z
      rw [qc_no 30 hX.2 d hd, Bool.or_false]
  | succ k ih =>
    intro hk a m ha hv hL hM
    have lp : ∀ (f d : Nat) (m : z_M), d + f = 30 → a ≤ d → q_I m0 n N A m → z_w (m 140 5) = m 140 5 → (∀ j, a ≤ j → q_M n D A N b j = true → zb (m 140 5) j = false) → ∃ m1 v, z_R 112 (m, 65, [(2, 140), (0, (b : Int)), (0, (a : Int)), (0, ((k + 1 : Nat) : Int)), (0, (d : Int))], []) = some (m1, some (0, v)) ∧ q_I m0 n N A m1 ∧ z_w (m1 140 5) = m1 140 5 ∧ ((v = 1 ∧ ∃ X, q_X n D A N b d (k + 1) X ∧ (∀ j, zb (m1 140 5) j = (zb (m 140 5) j || X j)) ∧ q_T w h n heat price cs D A N b (zb (m1 140 5))) ∨ (v = 0 ∧ m1 140 5 = m 140 5 ∧ ∀ X, q_X n D A N b d (k + 1) X → ¬ q_T w h n heat price cs D A N b (fun j => zb (m 140 5) j || X j))) := by
      intro f
      induction f with
      | zero =>
        intro d m hd had hv hL hM
        rw [qt_cho_65, if_pos (by omega)]
        refine ⟨m, 0, rfl, hv, hL, Or.inr ⟨rfl, rfl, fun X hX _ => ?_⟩⟩
        have e : qc X 30 = 0 := by
          rw [qc_cg (S' := fun _ => false) 30 (fun j hj => by
            cases y : X j
            · rfl
            · have := hX.1 j y
              omega)]
          exact qc_0 30
        have := hX.2
        omega
      | succ f ihf =>
        intro d m hd had hv hL hM
        rw [qt_cho_65, if_neg (by omega), q_mat hi hw hok ht hN hv (by omega), zb_v, qt_cho_79, z_add_eq (x := (d : Int)) (y := 1) (by omega) (by omega), tc1]
        by_cases y : q_M n D A N b d = true
        · have n5 := hw.2.2
          have hz : zb (m 140 5) d = false := hM d had y
          rw [if_pos y, if_neg (show ¬ (1 : Int) = 0 by decide), z_sub_eq (x := ((k + 1 : Nat) : Int)) (y := 1) (by omega) (by omega), show ((k + 1 : Nat) : Int) - 1 = (k : Int) by omega]
          have bl : ∀ j, zb (z_or (m 140 5) (z_shl 1 (d : Int))) j = (zb (m 140 5) j || q_1 (d : Int) j) := fun j => by
            by_cases hj : j < 32
            · rw [zb_or, zb_shl (by omega) hj]
              congr 1
              exact decide_eq_decide.mpr ⟨fun z => by omega, fun z => by omega⟩
            · rw [zb_32 (by omega), zb_32 (a := m 140 5) (by omega)]
              exact (decide_eq_false (by omega)).symm
          have hv2 : q_I m0 n N A (z_up m 140 5 (z_or (m 140 5) (z_shl 1 (d : Int)))) := ⟨fun p q hk hn => by
            have hk' := hk
            unfold C_hit at hk'
            have hk' := of_decide_eq_true hk'
            rw [zu_p (by omega)]
            exact hv.1 p q hk hn, (zu_k (by decide)).trans hv.2.1, by rw [cS_fr (m := m) (fun j q hj _ => zu_p (by omega))]; exact hv.2.2⟩
          have g5 : (z_up m 140 5 (z_or (m 140 5) (z_shl 1 (d : Int)))) 140 5 = z_or (m 140 5) (z_shl 1 (d : Int)) := zu_self
          generalize z_up m 140 5 (z_or (m 140 5) (z_shl 1 (d : Int))) = m2 at hv2 g5 ⊢
          obtain ⟨m3, v, a1, a2, a3, a4⟩ := ih (by omega) (d + 1) m2 (by omega) hv2 (by rw [g5]; exact z_or_w) (fun j hj hjM => by
            rw [g5, bl, hM j (by omega) hjM, Bool.false_or]
            exact decide_eq_false (by omega))
          rw [a1, zb_v, qt_cho_107]
          have un : ∀ X, q_X n D A N b (d + 1) k X → q_X n D A N b d (k + 1) (fun j => X j || q_1 (d : Int) j) := fun X hX => by
            refine ⟨fun j hj => ?_, ?_⟩
            · rcases Bool.or_eq_true _ _ |>.mp hj with z | z
              · have := hX.1 j z
                exact ⟨by omega, this.2⟩
              · have := of_decide_eq_true z
                obtain rfl : j = d := by omega
                exact ⟨Nat.le_refl _, by omega, y⟩
            · rw [qc_or 30 (fun j _ ⟨z1, z2⟩ => by
                have := (hX.1 j z1).1
                have := of_decide_eq_true z2
                omega), hX.2, qc_1, if_pos (by omega)]
          rcases a4 with ⟨v1, X, x1, x2, x3⟩ | ⟨v0, e3, t⟩
          · rw [v1, if_neg (show ¬ (1 : Int) = 0 by decide)]
            refine ⟨m3, 1, rfl, a2, a3, Or.inl ⟨rfl, _, un X x1, fun j => ?_, x3⟩⟩
            rw [x2 j, g5, bl, Bool.or_assoc, Bool.or_comm (q_1 (d : Int) j)]
          · have e5 : z_and (m3 140 5) (z_xor (z_shl 1 (d : Int)) (-1)) = m 140 5 := by
              rw [e3, g5]
              refine zb_ext z_and_w hL fun j hj => ?_
              rw [zb_and, bl, zb_xor, zb_shl (by omega) hj, zb_m1 hj]
              by_cases e : j = d
              · rw [decide_eq_true e, e, hz]
                simp
              · rw [decide_eq_false e, show q_1 (d : Int) j = false from decide_eq_false (by omega)]
                simp
            rw [v0, if_pos (show (0 : Int) = 0 from rfl), e5, z_add_eq (x := (d : Int)) (y := 1) (by omega) (by omega), tc1]
            have hv4 : q_I m0 n N A (z_up m3 140 5 (m 140 5)) := ⟨fun p q hk hn => by
              have hk' := hk
              unfold C_hit at hk'
              have hk' := of_decide_eq_true hk'
              rw [zu_p (by omega)]
              exact a2.1 p q hk hn, (zu_k (by decide)).trans a2.2.1, by rw [cS_fr (m := m3) (fun j q hj _ => zu_p (by omega))]; exact a2.2.2⟩
            have k5 : (z_up m3 140 5 (m 140 5)) 140 5 = m 140 5 := zu_self
            obtain ⟨m4, v', c1, c2, c3, c4⟩ := ihf (d + 1) (z_up m3 140 5 (m 140 5)) (by omega) (by omega) hv4 (by rw [k5]; exact hL) (by rw [k5]; exact hM)
            refine ⟨m4, v', c1, c2, c3, ?_⟩
            rw [k5] at c4
            rcases c4 with ⟨v1, X, x1, x2, x3⟩ | ⟨v0', e4, t4⟩
            · exact Or.inl ⟨v1, X, ⟨fun j hj => ⟨by have := (x1.1 j hj).1; omega, (x1.1 j hj).2⟩, x1.2⟩, x2, x3⟩
            · refine Or.inr ⟨v0', e4, fun X hX z => ?_⟩
              by_cases hXd : X d = true
              · refine t (fun j => X j && !(q_1 (d : Int) j)) ⟨fun j hj => ?_, ?_⟩ ?_
                · obtain ⟨y1, y2⟩ := Bool.and_eq_true _ _ |>.mp hj
                  have := hX.1 j y1
                  have y2 : q_1 (d : Int) j = false := by
                    cases yy : q_1 (d : Int) j
                    · rfl
                    · rw [yy] at y2
                      cases y2
                  have y2 := of_decide_eq_false y2
                  exact ⟨by omega, this.2⟩
                · have e1 := qc_out (S := X) (a := d) (by omega) hXd
                  have e2 := hX.2
                  omega
                · refine (q_T_cg hw hh hD hok ht hN (fun j hj _ => ?_)).mp z
                  show (zb (m 140 5) j || X j) = (zb (m2 140 5) j || (X j && !(q_1 (d : Int) j)))
                  rw [g5, bl]
                  by_cases e : j = d
                  · have : q_1 (d : Int) j = true := decide_eq_true (by omega)
                    rw [this, e, hXd]
                    simp
                  · have : q_1 (d : Int) j = false := decide_eq_false (by omega)
                    rw [this]
                    simp
              · refine t4 X ⟨fun j hj => ?_, hX.2⟩ z
                have := hX.1 j hj
                have e : ¬ j = d := fun e => hXd (by rw [← e]; exact hj)
                exact ⟨by omega, this.2⟩
        · rw [if_neg y, if_pos (show (0 : Int) = 0 from rfl)]
          obtain ⟨m4, v', c1, c2, c3, c4⟩ := ihf (d + 1) m (by omega) (by omega) hv hL hM
          refine ⟨m4, v', c1, c2, c3, ?_⟩
          rcases c4 with ⟨v1, X, x1, x2, x3⟩ | ⟨v0, e4, t4⟩
          · exact Or.inl ⟨v1, X, ⟨fun j hj => ⟨by have := (x1.1 j hj).1; omega, (x1.1 j hj).2⟩, x1.2⟩, x2, x3⟩
          · refine Or.inr ⟨v0, e4, fun X hX => t4 X ⟨fun j hj => ?_, hX.2⟩⟩
            have := hX.1 j hj
            have e : ¬ j = d := fun e => y (by rw [← e]; exact this.2.2)
            exact ⟨by omega, this.2⟩
    rw [qt_cho_0, if_pos (by omega)]
    exact lp (30 - a) a m (by omega) (Nat.le_refl a) hv hL hM
/-- what is found, up to a column: the fewest -/
def q_W (w h n : Nat) (heat price : Int) (cs : List Int) (D A : Nat → Int) (N b : Nat) (L : Int) : Prop := (∀ j, zb L j = true → j < 30 ∧ q_U n D A N b j = true) ∧ (∀ b', b' < b → q_T w h n heat price cs D A N b' (zb L)) ∧ qc (zb L) 30 ≤ 3 ∧ ∀ S, (∀ b', b' < b → q_T w h n heat price cs D A N b' S) → qc (zb L) 30 ≤ qc (fun j => S j && q_U n D A N b j) 30
/-- one column more -/
theorem q_W_s (hw : w ≤ 3 ∧ h ≤ 3 ∧ n ≤ 5) (hh : 0 ≤ heat ∧ heat ≤ 9) (hD : q_D D) (hok : hr_ok n A) (ht : 0 ≤ A 35 ∧ A 35 ≤ 1073741824) {N b : Nat} (hN : N ≤ 40) {L L1 : Int} (hW : q_W w h n heat price cs D A N b L) {X : Nat → Bool} {k : Nat} (hX : q_X n D A N b 0 k X) (hk : qc (zb L) 30 + k ≤ 3) (hL1 : ∀ j, zb L1 j = (zb L j || X j)) (hT : q_T w h n heat price cs D A N b (zb L1)) (hmin : ∀ k', k' < k → ∀ Y, q_X n D A N b 0 k' Y → ¬ q_T w h n heat price cs D A N b (fun j => zb L j || Y j)) : q_W w h n heat price cs D A N (b + 1) L1 := by
  obtain ⟨w1, w2, w3, w4⟩ := hW
  have n5 := hw.2.2
  have hU : ∀ d, q_U n D A N (b + 1) d = (q_U n D A N b d || q_M n D A N b d) := fun d => q_U_s (fun hd => (hok.2.2.1 (d / 6) (by omega)).1)
  have eL1 : zb L1 = fun j => zb L j || X j := funext hL1
  have dis : ∀ j, j < 30 → ¬ (zb L j = true ∧ X j = true) := fun j _ ⟨z1, z2⟩ => by
    have e1 := (w1 j z1).2
    have e2 := (q_M_U (hX.1 j z2).2.2).2
    rw [e1] at e2
    cases e2
  have ec : qc (zb L1) 30 = qc (zb L) 30 + k := by
    rw [eL1, qc_or 30 dis, hX.2]
  refine ⟨fun j hj => ?_, fun b' hb' => ?_, by omega, fun S hS => ?_⟩
  · rw [hL1] at hj
    rw [hU]
    rcases Bool.or_eq_true _ _ |>.mp hj with z | z
    · exact ⟨(w1 j z).1, by rw [(w1 j z).2]; rfl⟩
    · exact ⟨(hX.1 j z).2.1, by rw [(hX.1 j z).2.2, Bool.or_true]⟩
  · by_cases e : b' = b
    · rw [e]
      exact hT
    · refine (q_T_cg hw hh hD hok ht hN (fun d hd hM => ?_)).mp (w2 b' (by omega))
      rw [hL1]
      cases y : X d
      · rw [Bool.or_false]
      · have m1 := (hX.1 d y).2.2
        unfold q_M at hM m1
        have z1 := of_decide_eq_true (Bool.and_eq_true _ _ |>.mp hM).2
        have z2 := of_decide_eq_true (Bool.and_eq_true _ _ |>.mp m1).2
        omega
  · have h1 := w4 S (fun b' hb' => hS b' (by omega))
    have e : qc (fun j => S j && q_U n D A N (b + 1) j) 30 = qc (fun j => S j && q_U n D A N b j) 30 + qc (fun j => (S j && q_M n D A N b j) && decide (j < 30)) 30 := by
      rw [← qc_or 30 (fun j _ ⟨z1, z2⟩ => by
        have y1 := (Bool.and_eq_true _ _ |>.mp z1).2
        have y2 := (q_M_U (Bool.and_eq_true _ _ |>.mp (Bool.and_eq_true _ _ |>.mp z2).1).2).2
        rw [y1] at y2
        cases y2)]
      refine qc_cg 30 fun j hj => ?_
      show (S j && q_U n D A N (b + 1) j) = ((S j && q_U n D A N b j) || ((S j && q_M n D A N b j) && decide (j < 30)))
      rw [hU, decide_eq_true hj, Bool.and_true]
      cases S j <;> simp
    have hk2 : k ≤ qc (fun j => (S j && q_M n D A N b j) && decide (j < 30)) 30 := Decidable.byContradiction fun y => by
      refine hmin (qc (fun j => (S j && q_M n D A N b j) && decide (j < 30)) 30) (by omega) (fun j => (S j && q_M n D A N b j) && decide (j < 30)) ⟨fun j hj => ?_, rfl⟩ ?_
      · obtain ⟨y1, y2⟩ := Bool.and_eq_true _ _ |>.mp hj
        exact ⟨Nat.zero_le j, of_decide_eq_true y2, (Bool.and_eq_true _ _ |>.mp y1).2⟩
      · refine (q_T_cg hw hh hD hok ht hN (fun d hd hM => ?_)).mp (hS b (by omega))
        have e0 : zb L d = false := by
          cases z : zb L d
          · rfl
          · have := (w1 d z).2
            rw [(q_M_U hM).2] at this
            cases this
        show S d = (zb L d || ((S d && q_M n D A N b d) && decide (d < 30)))
        rw [e0, hM, decide_eq_true hd]
        simp
    omega
end
