section
/-! hearth, of what both are in -/
theorem hr_ms_b {e : Nat → Int} (he : ∀ k, k < 9 → 0 ≤ e k ∧ e k ≤ 99) : ∀ (f x : Nat) (t : Int), x + f = 9 → 0 ≤ t → t ≤ 99 * (x : Int) → 0 ≤ hr_ms e f x t ∧ hr_ms e f x t ≤ 891 := by
  intro f
  induction f with
  | zero => intro x t hx h0 h1; exact ⟨h0, show t ≤ 891 by omega⟩
  | succ f ih =>
    intro x t hx h0 h1
    have b := he x (by omega)
    unfold hr_ms
    rw [z_add_eq (by omega) (by omega)]
    exact ih (x + 1) _ (by omega) (by omega) (by omega)
theorem hr_m_b {w h n : Nat} {heat : Int} {ml : hr_M} {wm A : Nat → Int} (hml : hr_mlok ml) (hok : hr_ok n A) : 0 ≤ hr_m w h heat ml wm n A ∧ hr_m w h heat ml wm n A ≤ 891 := by
  refine hr_ms_b (fun k hk => ?_) 9 0 0 (by decide) (Int.le_refl _) (by decide)
  have b := hok.1 k hk
  unfold hr_me
  by_cases c : u_hs (w : Int) (h : Int) (k : Int) = 0
  · rw [if_pos c]; decide
  · rw [if_neg c]
    unfold hr_mN hr_mB
    have := hml (hr_wb heat wm n A k (hr_b k n 0 A 0)) (A k) (A (k + 9)) (A 36) ((k : Int) / 3) (hr_pc (hr_b k n 0 A 0)) (A 35) b.1
    omega
theorem hr_H_b {w h n : Nat} (hw : w ≤ 3) (hh : h ≤ 3) {heat price : Int} {ml : hr_M} {wmt : Int → Nat → Int} (hN : hr_nums n heat ml wmt) {N : Nat} (hN6 : N ≤ 1000) : ∀ (f k : Nat) (A : Nat → Int) (M G F T : Int), k + f = N → hr_ok n A → 0 ≤ A 35 → A 35 + (f : Int) ≤ 2147483647 → 0 ≤ M → M ≤ 891 * (k : Int) → 0 ≤ (hr_H w h heat price ml wmt n f A M G F T).2.1 ∧ (hr_H w h heat price ml wmt n f A M G F T).2.1 ≤ 891000 := by
  intro f
  induction f with
  | zero => intro k A M G F T hk hok ht ht2 h0 h1; exact ⟨h0, show M ≤ 891000 by omega⟩
  | succ f ih =>
    intro k A M G F T hk hok ht ht2 h0 h1
    have ht2' : A 35 + ((f : Int) + 1) ≤ 2147483647 := by omega
    have b := hr_m_b (w := w) (h := h) (heat := heat) (wm := wmt (A 35)) hN.2.2.1 hok
    have hok' := hr_A_ok (price := price) hw hh hN.1 hN.2.1 hN.2.2.1 (hN.2.2.2 (A 35) ht) hok
    have e35 : hr_A w h heat price ml (wmt (A 35)) n A 35 = A 35 + 1 := by rw [hr_A_35 hw hh hN.1, z_add_eq (by omega) (by omega)]
    unfold hr_H
    rw [z_add_eq (x := M) (by omega) (by omega)]
    exact ih (k + 1) _ _ _ _ _ (by omega) hok' (by omega) (by omega) (by omega) (by omega)
/-- what melts in N hours, the stove at r -/
def y_M (w h n : Nat) (heat price : Int) (cs : List Int) (D A : Nat → Int) (N : Nat) (r : Int) : Int := (hr_R w h heat price cs D n N (u_up A 34 r)).2.1
/-- the ROOM with the least -/
def y_b (w h : Nat) (F : Int → Int) : Nat → Nat → Int → Int → Int
  | 0, _, b, _ => b
  | f + 1, x, b, l => if u_hs (w : Int) (h : Int) (x : Int) = 0 then y_b w h F f (x + 1) b l else if b = -1 ∨ F (x : Int) < l then y_b w h F f (x + 1) (x : Int) (F (x : Int)) else y_b w h F f (x + 1) b l
theorem y_b_nn {w h : Nat} {F : Int → Int} : ∀ (f x : Nat) (b l : Int), 0 ≤ b → 0 ≤ y_b w h F f x b l := by
  intro f
  induction f with
  | zero => intro x b l h0; exact h0
  | succ f ih =>
    intro x b l h0
    unfold y_b
    by_cases c : u_hs (w : Int) (h : Int) (x : Int) = 0
    · rw [if_pos c]; exact ih _ _ _ h0
    · rw [if_neg c]
      by_cases d : b = -1 ∨ F (x : Int) < l
      · rw [if_pos d]; exact ih _ _ _ (by omega)
      · rw [if_neg d]; exact ih _ _ _ h0
theorem y_b_no {w h : Nat} {F : Int → Int} (hx : ∀ x : Nat, x < 9 → u_hs (w : Int) (h : Int) (x : Int) = 0) : ∀ (f x : Nat) (b l : Int), x + f ≤ 9 → y_b w h F f x b l = b := by
  intro f
  induction f with
  | zero => intro x b l h0; rfl
  | succ f ih =>
    intro x b l h0
    unfold y_b
    rw [if_pos (hx x (by omega))]
    exact ih _ _ _ (by omega)
def y_A (w h n : Nat) (heat price : Int) (cs : List Int) (D A : Nat → Int) (a : Int) : Int := if 1 ≤ a ∧ a ≤ 60 then (if y_b w h (y_M w h n heat price cs D A a.toNat) 9 0 (-1) 0 = -1 then -2 else y_b w h (y_M w h n heat price cs D A a.toNat) 9 0 (-1) 0) else -1
section
variable {w h n : Nat} {heat price : Int} {D A : Nat → Int} {c : Nat} {U : Nat → Nat → Int} {kn : Nat → Int} {KS : Nat → Nat → Int} {cs : List Int} {m : z_M}
theorem y_M_b (hN : w_N w h n heat D) (hok : hr_ok n A) (ht : 0 ≤ A 35 ∧ A 35 ≤ 1073741824) {N : Nat} (hN6 : N ≤ 60) (r : Int) : 0 ≤ y_M w h n heat price cs D A N r ∧ y_M w h n heat price cs D A N r ≤ 891000 := by
  have h5 := hN.1.2.2
  have hok' : hr_ok n (u_up A 34 r) := hr_ok_up hok (by decide) (fun z => absurd z (by decide)) (fun p h1 h2 => by omega)
  have h35 : u_up A 34 r 35 = A 35 := u_up_ne (by decide)
  exact hr_H_b hN.1.1 hN.1.2.1 ⟨h5, hN.2.1, c_ml_ok cs, hN.2.2⟩ (N := N) (by omega) N 0 (u_up A 34 r) 0 0 0 0 (by omega) hok' (by rw [h35]; exact ht.1) (by rw [h35]; omega) (Int.le_refl _) (by omega)
theorem C_mws (hi : C_is w h n heat price D A c U kn KS cs m) (hN : w_N w h n heat D) (hok : hr_ok n A) (ht : 0 ≤ A 35 ∧ A 35 ≤ 1073741824) {N : Nat} (hN6 : N ≤ 60) (r : Int) : ∃ m1, z_R 134 (m, 0, [(2, 0), (0, r), (0, (N : Int))], []) = some (m1, some (0, y_M w h n heat price cs D A N r)) ∧ C_is w h n heat price D A c U kn KS cs m1 := by
  have h5 := hN.1.2.2
  obtain ⟨m2, b1, b2, b3⟩ := c_become z_st_12 z_st_18 (by decide) m
  have b1 : z_R 61 (m, 0, [(2, 18), (2, 12)], []) = some (m2, none) := b1
  have hC2 : C_is w h n heat price D A c U kn KS cs m2 := C_fr hi fun p k hk => by
    have hk' := hk
    unfold C_hit at hk'
    have hk' := of_decide_eq_true hk'
    exact b3.of (by (repeat' (first | exact trivial | refine z_of_c ?_ ?_)) <;> omega)
  have hA2 : cS m2 18 n = A := (cS_cR b2).trans hi.2.2.1
  have hC3 : C_is w h n heat price D A c U kn KS cs (z_up (z_up (z_up (z_up (z_up m2 18 6 r) 24 6 0) 24 7 0) 24 8 0) 24 9 0) := C_upn (C_upn (C_upn (C_upn (C_upn hC2 (by decide)) (by decide)) (by decide)) (by decide)) (by decide)
  have e34 : cS (z_up m2 18 6 r) 18 n = u_up (cS m2 18 n) 34 r := cS_up0 (j := 6) (by decide)
  have hB3 : cS (z_up (z_up (z_up (z_up (z_up m2 18 6 r) 24 6 0) 24 7 0) 24 8 0) 24 9 0) 18 n = u_up A 34 r := by rw [cS_off (by omega), cS_off (by omega), cS_off (by omega), cS_off (by omega), e34, hA2]
  have k6 : (z_up (z_up (z_up (z_up (z_up m2 18 6 r) 24 6 0) 24 7 0) 24 8 0) 24 9 0) 24 6 = 0 := by rw [zu_k (by decide), zu_k (by decide), zu_k (by decide), zu_self]
  have k7 : (z_up (z_up (z_up (z_up (z_up m2 18 6 r) 24 6 0) 24 7 0) 24 8 0) 24 9 0) 24 7 = 0 := by rw [zu_k (by decide), zu_k (by decide), zu_self]
  have k8 : (z_up (z_up (z_up (z_up (z_up m2 18 6 r) 24 6 0) 24 7 0) 24 8 0) 24 9 0) 24 8 = 0 := by rw [zu_k (by decide), zu_self]
  have k9 : (z_up (z_up (z_up (z_up (z_up m2 18 6 r) 24 6 0) 24 7 0) 24 8 0) 24 9 0) 24 9 = 0 := zu_self
  rw [y_mws_0, b1, zb_n, y_mws_11]
  generalize z_up (z_up (z_up (z_up (z_up m2 18 6 r) 24 6 0) 24 7 0) 24 8 0) 24 9 0 = m3 at hC3 hB3 k6 k7 k8 k9 ⊢
  have hok' : hr_ok n (u_up A 34 r) := hr_ok_up hok (by decide) (fun z => absurd z (by decide)) (fun p h1 h2 => by omega)
  have h35 : u_up A 34 r 35 = A 35 := u_up_ne (by decide)
  obtain ⟨m4, c1, c2, c3⟩ := c_goOn z_st_18 hN.1.1 hN.1.2.1 (price := price) ⟨h5, hN.2.1, c_ml_ok cs, hN.2.2⟩ (N := N) (by omega) m3 (C_cfg hC3) hB3 hok' (by rw [h35]; exact ht.1) (by rw [h35]; omega) (by rw [k6]; decide +kernel) (by rw [k9]; decide +kernel)
  have c1 : z_R 67 (m3, 0, [(2, 24), (2, 18), (0, (N : Int)), (9, 0)], []) = some (m4, none) := c1
  rw [k6, k7, k8, k9] at c2
  have c4 : m4 24 6 = y_M w h n heat price cs D A N r := congrArg (fun z => z.2.1) c2
  rw [c1, zb_n, y_mws_38, c4]
  refine ⟨m4, rfl, C_fr hC3 fun p k hk => ?_⟩
  have hk' := hk
  unfold C_hit at hk'
  have hk' := of_decide_eq_true hk'
  exact c3.of (by (repeat' (first | exact trivial | refine z_of_c ?_ ?_)) <;> omega)
theorem C_hea1 (hN : w_N w h n heat D) (hok : hr_ok n A) (ht : 0 ≤ A 35 ∧ A 35 ≤ 1073741824) {N : Nat} (hN6 : N ≤ 60) : ∀ (f x : Nat) (b l : Int) (v5 : z_V) (m : z_M), x + f = 9 → C_is w h n heat price D A c U kn KS cs m → ∃ m1, z_R 133 (m, 20, [(2, 0), (0, (N : Int)), (0, b), (0, l), (0, (x : Int)), v5], []) = some (m1, some (0, if y_b w h (y_M w h n heat price cs D A N) f x b l = -1 then -2 else y_b w h (y_M w h n heat price cs D A N) f x b l)) ∧ C_is w h n heat price D A c U kn KS cs m1 := by
  intro f
  induction f with
  | zero =>
    intro x b l v5 m hx hi
    show ∃ m1, _ = some (m1, some (0, if b = -1 then -2 else b)) ∧ _
    rw [y_hea_20, if_pos (by omega)]
    by_cases z : b = -1
    · rw [if_pos z, if_pos z]
      exact ⟨m, rfl, hi⟩
    · obtain ⟨m1, a1, a2⟩ := C_mws hi hN hok ht hN6 (-1)
      rw [if_neg z, if_neg z, a1, zb_v, y_hea_88, c_tell2, zb_n, y_hea_92]
      exact ⟨_, rfl, C_tell2 a2 _ _⟩
  | succ f ih =>
    intro x b l v5 m hx hi
    rw [y_hea_20, if_neg (by omega), hi.1.1, hi.1.2.1]
    unfold y_b
    by_cases z : u_hs (w : Int) (h : Int) (x : Int) = 0
    · rw [if_neg (not_not_intro z), if_pos z, z_add_eq (x := (x : Int)) (y := 1) (by omega) (by omega), tc1]
      exact ih (x + 1) b l v5 m (by omega) hi
    · obtain ⟨m1, a1, a2⟩ := C_mws hi hN hok ht hN6 (x : Int)
      rw [if_pos z, if_neg z, a1, zb_v, y_hea_46, z_add_eq (x := (x : Int)) (y := 1) (by omega) (by omega), tc1]
      by_cases c1 : b = -1
      · rw [if_pos c1, if_pos (Or.inl c1)]
        exact ih (x + 1) _ _ _ m1 (by omega) a2
      · rw [if_neg c1]
        by_cases c2 : l ≤ y_M w h n heat price cs D A N (x : Int)
        · rw [if_pos c2, if_neg (show ¬ (b = -1 ∨ y_M w h n heat price cs D A N (x : Int) < l) by omega)]
          exact ih (x + 1) _ _ _ m1 (by omega) a2
        · rw [if_neg c2, if_pos (show b = -1 ∨ y_M w h n heat price cs D A N (x : Int) < l by omega)]
          exact ih (x + 1) _ _ _ m1 (by omega) a2
theorem C_hearth (hi : C_is w h n heat price D A c U kn KS cs m) (hN : w_N w h n heat D) (hok : hr_ok n A) (ht : 0 ≤ A 35 ∧ A 35 ≤ 1073741824) (a : Int) : ∃ m1, z_R 133 (m, 0, [(2, 0), (0, a), (9, 0), (9, 0), (9, 0), (9, 0)], []) = some (m1, some (0, y_A w h n heat price cs D A a)) ∧ C_is w h n heat price D A c U kn KS cs m1 := by
  rw [y_hea_0]
  by_cases c1 : a < 1
  · have e : y_A w h n heat price cs D A a = -1 := if_neg (by omega)
    rw [if_pos c1, e]
    exact ⟨m, rfl, hi⟩
  rw [if_neg c1]
  by_cases c2 : a ≤ 60
  · obtain ⟨N, rfl⟩ : ∃ N : Nat, a = (N : Int) := ⟨a.toNat, by omega⟩
    have e : y_A w h n heat price cs D A (N : Int) = if y_b w h (y_M w h n heat price cs D A (N : Int).toNat) 9 0 (-1) 0 = -1 then -2 else y_b w h (y_M w h n heat price cs D A (N : Int).toNat) 9 0 (-1) 0 := if_pos (by omega)
    rw [Int.toNat_natCast] at e
    rw [if_pos c2, e]
    exact C_hea1 hN hok ht (N := N) (by omega) 9 0 (-1) 0 (9, 0) m (by decide) hi
  · have e : y_A w h n heat price cs D A a = -1 := if_neg (by omega)
    rw [if_neg c2, e]
    exact ⟨m, rfl, hi⟩
/-! the reference -/
theorem R_mwi (hi : R_is w h n heat price D A c U kn KS cs m) (hN : w_N w h n heat D) (hok : hr_ok n A) (ht : 0 ≤ A 35 ∧ A 35 ≤ 1073741824) {N : Nat} (hN6 : N ≤ 60) (r : Int) : ∃ m1, z_R 250 (m, 0, [(2, 251), (0, r), (0, (N : Int))], []) = some (m1, some (0, y_M w h n heat price cs D A N r)) ∧ R_is w h n heat price D A c U kn KS cs m1 ∧ m1 251 10 = m 251 10 := by
  have h5 := hN.1.2.2
  obtain ⟨m2, b1, b2, b3⟩ := R_lt hi
  have g10 : m2 251 10 = m 251 10 := by
    obtain ⟨m2', d1, -, d3⟩ := t_layd (a := 252) (q := 264) (B := 0) t_lay264_0 t_lay264_2 (by decide) (b := 0) (by decide) m
    have d1 : z_R 198 (m, 0, [(2, 252), (2, 264), (0, 0), (9, 0)], []) = some (m2', none) := d1
    have e : z_R 219 (m, 0, [(2, 251)], []) = some (m2', none) := by rw [q_lt_0, d1, zb_n, q_lt_12]
    rw [b1] at e
    have e := congrArg Prod.fst (Option.some.inj e)
    have e : m2 = m2' := e
    rw [e]
    exact d3 251 10 (by omega)
  have hR3 : R_is w h n heat price D A c U kn KS cs (z_up (z_up (z_up (z_up (z_up m2 264 34 r) 251 32 0) 251 33 0) 251 34 0) 251 35 0) := R_upn (R_upn (R_upn (R_upn (R_upn b2 (by decide)) (by decide)) (by decide)) (by decide)) (by decide)
  have hB3 : rS (z_up (z_up (z_up (z_up (z_up m2 264 34 r) 251 32 0) 251 33 0) 251 34 0) 251 35 0) 264 n = u_up A 34 r := by rw [rS_row (zu_rowne (by decide)), rS_row (zu_rowne (by decide)), rS_row (zu_rowne (by decide)), rS_row (zu_rowne (by decide)), rS_up (by decide) (a_vis_hi (by decide)), b3]
  have k6 : (z_up (z_up (z_up (z_up (z_up m2 264 34 r) 251 32 0) 251 33 0) 251 34 0) 251 35 0) 251 32 = 0 := by rw [zu_k (by decide), zu_k (by decide), zu_k (by decide), zu_self]
  have k7 : (z_up (z_up (z_up (z_up (z_up m2 264 34 r) 251 32 0) 251 33 0) 251 34 0) 251 35 0) 251 33 = 0 := by rw [zu_k (by decide), zu_k (by decide), zu_self]
  have k8 : (z_up (z_up (z_up (z_up (z_up m2 264 34 r) 251 32 0) 251 33 0) 251 34 0) 251 35 0) 251 34 = 0 := by rw [zu_k (by decide), zu_self]
  have k9 : (z_up (z_up (z_up (z_up (z_up m2 264 34 r) 251 32 0) 251 33 0) 251 34 0) 251 35 0) 251 35 = 0 := zu_self
  have k10 : (z_up (z_up (z_up (z_up (z_up m2 264 34 r) 251 32 0) 251 33 0) 251 34 0) 251 35 0) 251 10 = m 251 10 := by rw [zu_k (by decide), zu_k (by decide), zu_k (by decide), zu_k (by decide), zu_p (by decide), g10]
  rw [y_mwi_0, b1, zb_n, y_mwi_4]
  generalize z_up (z_up (z_up (z_up (z_up m2 264 34 r) 251 32 0) 251 33 0) 251 34 0) 251 35 0 = m3 at hR3 hB3 k6 k7 k8 k9 k10 ⊢
  have hok' : hr_ok n (u_up A 34 r) := hr_ok_up hok (by decide) (fun z => absurd z (by decide)) (fun p h1 h2 => by omega)
  have h35 : u_up A 34 r 35 = A 35 := u_up_ne (by decide)
  obtain ⟨m4, c1, c2, c3⟩ := r_goHours z_A_264 (Or.inr rfl) hN.1.1 hN.1.2.1 (price := price) ⟨h5, hN.2.1, c_ml_ok cs, hN.2.2⟩ (N := N) (by omega) m3 (R_cfg hR3) hB3 hok' (by rw [h35]; exact ht.1) (by rw [h35]; omega)
  have c1 : z_R 207 (m3, 0, [(2, 251), (2, 264), (0, (N : Int)), (9, 0)], []) = some (m4, none) := c1
  rw [k6, k7, k8, k9] at c2
  have c4 : m4 251 32 = y_M w h n heat price cs D A N r := congrArg (fun z => z.2.1) c2
  rw [c1, zb_n, y_mwi_25, c4]
  exact ⟨m4, rfl, R_off264 hR3 c3, (c3.of (p := 251) (k := 10) (by (repeat' (first | exact trivial | refine z_of_c ?_ ?_)) <;> omega)).trans k10⟩
theorem R_hea1 (hN : w_N w h n heat D) (hok : hr_ok n A) (ht : 0 ≤ A 35 ∧ A 35 ≤ 1073741824) {N : Nat} (hN6 : N ≤ 60) : ∀ (f x : Nat) (b l l' : Int) (v5 : z_V) (m : z_M), x + f = 9 → ((b = -1 ∧ l' = 1000000) ∨ (0 ≤ b ∧ l' = l)) → R_is w h n heat price D A c U kn KS cs m → ∃ m1, z_R 249 (m, 36, [(2, 251), (0, (N : Int)), (0, b), (0, l'), (0, (x : Int)), v5], []) = some (m1, some (0, y_b w h (y_M w h n heat price cs D A N) f x b l)) ∧ R_is w h n heat price D A c U kn KS cs m1 := by
  intro f
  induction f with
  | zero =>
    intro x b l l' v5 m hx hb hi
    have hR1 := R_upn (p0 := 251) (k0 := 10) (v := 1) (R_upn (p0 := 255) (k0 := 0) (v := z_i2l l') (R_upn (p0 := 251) (k0 := 10) (v := 0) hi (by decide)) (by decide)) (by decide)
    have g10 : (z_up (z_up (z_up m 251 10 0) 255 0 (z_i2l l')) 251 10 1) 251 10 = ((1 : Nat) : Int) := zu_self
    rw [y_the_36, if_pos (by omega), t_tell0, zb_n, y_the_96]
    generalize z_up (z_up (z_up m 251 10 0) 255 0 (z_i2l l')) 251 10 1 = m0 at hR1 g10 ⊢
    obtain ⟨m1, a1, a2, a3⟩ := R_mwi hR1 hN hok ht hN6 (-1)
    rw [a1, zb_v, y_the_103, t_tell (j := 1) _ _ (by decide) (a3.trans g10), zb_n, y_the_107]
    exact ⟨_, rfl, R_upn (R_upn a2 (by decide)) (by decide)⟩
  | succ f ih =>
    intro x b l l' v5 m hx hb hi
    rw [y_the_36, if_neg (by omega), hi.1.1, hi.1.2.1]
    unfold y_b
    by_cases z : u_hs (w : Int) (h : Int) (x : Int) = 0
    · rw [if_neg (not_not_intro z), if_pos z, z_add_eq (x := (x : Int)) (y := 1) (by omega) (by omega), tc1]
      exact ih (x + 1) b l l' v5 m (by omega) hb hi
    · obtain ⟨m1, a1, a2, -⟩ := R_mwi hi hN hok ht hN6 (x : Int)
      have bM := y_M_b (price := price) (cs := cs) hN hok ht hN6 (x : Int)
      rw [if_pos z, if_neg z, a1, zb_v, y_the_62, z_add_eq (x := (x : Int)) (y := 1) (by omega) (by omega), tc1]
      by_cases c1 : y_M w h n heat price cs D A N (x : Int) < l'
      · rw [if_pos c1, if_pos (show b = -1 ∨ y_M w h n heat price cs D A N (x : Int) < l by omega)]
        exact ih (x + 1) _ _ _ _ m1 (by omega) (Or.inr ⟨by omega, rfl⟩) a2
      · rw [if_neg c1, if_neg (show ¬ (b = -1 ∨ y_M w h n heat price cs D A N (x : Int) < l) by omega)]
        exact ih (x + 1) _ _ _ _ m1 (by omega) hb a2
theorem R_hearth (hi : R_is w h n heat price D A c U kn KS cs m) (hN : w_N w h n heat D) (hok : hr_ok n A) (ht : 0 ≤ A 35 ∧ A 35 ≤ 1073741824) (h0 : w = 0 ↔ h = 0) (a : Int) : ∃ m1, z_R 249 (m, 0, [(2, 251), (0, a), (9, 0), (9, 0), (9, 0), (9, 0)], []) = some (m1, some (0, y_A w h n heat price cs D A a)) ∧ R_is w h n heat price D A c U kn KS cs m1 := by
  have hu := R_upn (p0 := 251) (k0 := 11) (v := 0) hi (by decide)
  rw [y_the_0, hi.1.1]
  generalize z_up m 251 11 0 = m0 at hu ⊢
  by_cases c1 : 1 ≤ a ∧ a ≤ 60
  · obtain ⟨N, rfl⟩ : ∃ N : Nat, a = (N : Int) := ⟨a.toNat, by omega⟩
    have e : y_A w h n heat price cs D A (N : Int) = if y_b w h (y_M w h n heat price cs D A (N : Int).toNat) 9 0 (-1) 0 = -1 then -2 else y_b w h (y_M w h n heat price cs D A (N : Int).toNat) 9 0 (-1) 0 := if_pos c1
    rw [Int.toNat_natCast] at e
    rw [if_pos c1, e]
    by_cases c2 : (w : Int) = 0
    · have eb : y_b w h (y_M w h n heat price cs D A N) 9 0 (-1) 0 = -1 := y_b_no (fun x hx => by
        rw [u_hs_eq hN.1.1 hN.1.2.1 (by omega), if_neg (by omega)]) 9 0 (-1) 0 (by decide)
      rw [if_pos c2, eb, if_pos rfl]
      exact ⟨m0, rfl, hu⟩
    · have hx0 : ¬ u_hs (w : Int) (h : Int) ((0 : Nat) : Int) = 0 := by
        rw [u_hs_eq hN.1.1 hN.1.2.1 (by omega), if_pos (by omega)]
        decide
      have eb : 0 ≤ y_b w h (y_M w h n heat price cs D A N) 9 0 (-1) 0 := by
        show 0 ≤ y_b w h (y_M w h n heat price cs D A N) (8 + 1) 0 (-1) 0
        unfold y_b
        rw [if_neg hx0, if_pos (Or.inl rfl)]
        exact y_b_nn 8 1 _ _ (by decide)
      rw [if_neg c2, if_neg (by omega)]
      exact R_hea1 hN hok ht (N := N) (by omega) 9 0 (-1) 0 1000000 (9, 0) m0 (by decide) (Or.inl ⟨rfl, rfl⟩) hu
  · have e : y_A w h n heat price cs D A a = -1 := if_neg c1
    rw [if_neg c1, e]
    exact ⟨m0, rfl, hu⟩
end
theorem core_hearth : l_rel2 Rel_C (999, 152, 133, 1, true, 1009, 155, 249) := by
  intro M1 M2 M3 σ σ1 σ2 as v1 v2 C1 C2 ρ1 ρ2 ha hR hh hM1 hC1 hp1 hE1 hC2 hp2 hE2
  obtain ⟨a, rfl⟩ := as_one ha
  have hE1 : z_R 133 (z_m σ, 0, [(2, 0), (0, a.toInt), (9, 0), (9, 0), (9, 0), (9, 0)], []) = some (z_m σ1, some (0, v1.toInt)) := z_R_iff.mpr hE1
  have hE2 : z_R 249 (z_m σ1, 0, [(2, 251), (0, a.toInt), (9, 0), (9, 0), (9, 0), (9, 0)], []) = some (z_m σ2, some (0, v2.toInt)) := z_R_iff.mpr hE2
  have hT := T_two (y1 := 133) (y2 := 249) (by decide +kernel) (by decide +kernel) hC1 hC2 hp1 hp2 hR.1
  obtain ⟨w, h, n, heat, price, D, A, c, U, kn, KS, cs, cC, cR, cW⟩ := hR.2
  obtain ⟨b1, b2, -, -, hok, b35, -, b7⟩ := core_b hh hM1 cR
  have hN : w_N w h n heat D := ⟨b1, b2, b7⟩
  have f1 := R_off2_ok (y := 133) (by decide +kernel) hC1 hp1
  have f2 := C_off_ok (y := 249) (by decide +kernel) hC2 hp2
  have cR1 := R_fr cR f1
  have z := core_do cR1 (fun q => C_fr q f2) (C_hearth cC hN hok b35 a.toInt) (fun q => R_hearth q hN hok b35 cW.1 a.toInt) hE1 hE2
  exact ⟨⟨hT, Core_mk z.1.1 z.1.2 cW⟩, fun _ => z.2⟩
end
section
/-! WHAT IS KEPT: both texts alike, and both are in one and the same -/
def Rel_0 (σ : m_H) : Prop := Rel_C σ
theorem rel_start : ∀ σ, xs_is σ → Rel_0 σ := core_start
theorem rel_off {c : l_C} (h : ((core_offb c.2.2.1 && core_offb c.2.2.2.2.2.2.2) && (rel_offb c.2.2.1 && (rel_offb c.2.2.2.2.2.2.2 && !c.2.2.2.2.1))) = true) : l_rel2 Rel_0 c := by
  obtain ⟨h1, h2⟩ := Bool.and_eq_true _ _ |>.mp h
  exact core_q (R_off h2) h1
theorem rel_sign : l_rel2 Rel_0 (219, 26, 14, 1, false, 230, 30, 160) := core_q R_sign (by decide +kernel)
theorem rel_end : l_rel2 Rel_0 (244, 31, 16, 1, false, 255, 35, 161) := core_q R_end (by decide +kernel)
theorem rel_quiet : l_rel2 Rel_0 (836, 124, 110, 1, false, 847, 127, 233) := core_quiet rfl
theorem rel_cases : ∀ c ∈ law_cs, l_rel2 Rel_0 c := by
  unfold law_cs
  refine List.forall_mem_cons.mpr ⟨rel_sign, ?_⟩
  refine List.forall_mem_cons.mpr ⟨rel_end, ?_⟩
  refine List.forall_mem_cons.mpr ⟨core_house, ?_⟩
  refine List.forall_mem_cons.mpr ⟨core_people, ?_⟩
  refine List.forall_mem_cons.mpr ⟨core_rule, ?_⟩
  refine List.forall_mem_cons.mpr ⟨core_set, ?_⟩
  refine List.forall_mem_cons.mpr ⟨core_doing, ?_⟩
  refine List.forall_mem_cons.mpr ⟨core_sheet, ?_⟩
  refine List.forall_mem_cons.mpr ⟨core_move, ?_⟩
  refine List.forall_mem_cons.mpr ⟨core_stove, ?_⟩
  refine List.forall_mem_cons.mpr ⟨core_hour, ?_⟩
  refine List.forall_mem_cons.mpr ⟨core_hours, ?_⟩
  refine List.forall_mem_cons.mpr ⟨core_pay, ?_⟩
  refine List.forall_mem_cons.mpr ⟨core_winter, ?_⟩
  refine List.forall_mem_cons.mpr ⟨core_undo, ?_⟩
  refine List.forall_mem_cons.mpr ⟨rel_off (by decide +kernel), ?_⟩
  refine List.forall_mem_cons.mpr ⟨rel_off (by decide +kernel), ?_⟩
  refine List.forall_mem_cons.mpr ⟨rel_off (by decide +kernel), ?_⟩
  refine List.forall_mem_cons.mpr ⟨rel_off (by decide +kernel), ?_⟩
  refine List.forall_mem_cons.mpr ⟨rel_off (by decide +kernel), ?_⟩
  refine List.forall_mem_cons.mpr ⟨rel_off (by decide +kernel), ?_⟩
  refine List.forall_mem_cons.mpr ⟨rel_quiet, ?_⟩
  refine List.forall_mem_cons.mpr ⟨rel_off (by decide +kernel), ?_⟩
  refine List.forall_mem_cons.mpr ⟨rel_off (by decide +kernel), ?_⟩
  refine List.forall_mem_cons.mpr ⟨rel_off (by decide +kernel), ?_⟩
  refine List.forall_mem_cons.mpr ⟨rel_off (by decide +kernel), ?_⟩
  refine List.forall_mem_cons.mpr ⟨rel_off (by decide +kernel), ?_⟩
  refine List.forall_mem_cons.mpr ⟨rel_off (by decide +kernel), ?_⟩
  refine List.forall_mem_cons.mpr ⟨core_hearth, ?_⟩
  refine List.forall_mem_cons.mpr ⟨rel_off (by decide +kernel), ?_⟩
  refine List.forall_mem_cons.mpr ⟨rel_off (by decide +kernel), ?_⟩
  refine List.forall_mem_cons.mpr ⟨rel_off (by decide +kernel), ?_⟩
  refine List.forall_mem_cons.mpr ⟨rel_off (by decide +kernel), ?_⟩
  refine List.forall_mem_cons.mpr ⟨core_season, ?_⟩
  refine List.forall_mem_cons.mpr ⟨core_keep, ?_⟩
  refine List.forall_mem_cons.mpr ⟨core_again, ?_⟩
  refine List.forall_mem_cons.mpr ⟨rel_off (by decide +kernel), ?_⟩
  exact fun _ h => absurd h List.not_mem_nil
theorem rel_5 : l_rel3 Rel_0 181 2 := core_q3 (R3_off (by decide +kernel)) (by decide +kernel)
theorem rel_6 : l_rel3 Rel_0 190 2 := core_q3 (R3_off (by decide +kernel)) (by decide +kernel)
theorem rel_39 : l_rel3 Rel_0 261 1 := core_q3 (R3_off (by decide +kernel)) (by decide +kernel)
end
