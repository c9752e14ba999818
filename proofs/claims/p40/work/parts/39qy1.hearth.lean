section
/-! hearth, of what both are in -/
theorem hr_ms_b {e : Nat → Int} (he : ∀ k, k < 9 → 0 ≤ e k ∧ e k ≤ 99) : ∀ (f x : Nat) (t : Int), x + f = 9 → 0 ≤ t → t ≤ 99 * (x : Int) → 0 ≤ hr_ms e f x t ∧ hr_ms e f x t ≤ 891 := by
  intro f
  induction f with
  | zero => intro x t hx h0 h1; exact ⟨h0, show t ≤ 891 by omega⟩
  | succ f ih =>
    intro x t hx h0 h1
    have b := he x (by omega)
    unfold hr_ms
    rw [z_add_eq (by omega) (by omega)]
    exact ih (x + 1) _ (by omega) (by omega) (by omega)
theorem hr_m_b {w h n : Nat} {heat : Int} {ml : hr_M} {wm A : Nat → Int} (hml : hr_mlok ml) (hok : hr_ok n A) : 0 ≤ hr_m w h heat ml wm n A ∧ hr_m w h heat ml wm n A ≤ 891 := by
  refine hr_ms_b (fun k hk => ?_) 9 0 0 (by decide) (Int.le_refl _) (by decide)
  have b := hok.1 k hk
  unfold hr_me
  by_cases c : u_hs (w : Int) (h : Int) (k : Int) = 0
  · rw [if_pos c]; decide
  · rw [if_neg c]
    unfold hr_mN hr_mB
    have := hml (hr_wb heat wm n A k (hr_b k n 0 A 0)) (A k) (A (k + 9)) (A 36) ((k : Int) / 3) (hr_pc (hr_b k n 0 A 0)) (A 35) b.1
    omega
theorem hr_H_b {w h n : Nat} (hw : w ≤ 3) (hh : h ≤ 3) {heat price : Int} {ml : hr_M} {wmt : Int → Nat → Int} (hN : hr_nums n heat ml wmt) {N : Nat} (hN6 : N ≤ 1000) : ∀ (f k : Nat) (A : Nat → Int) (M G F T : Int), k + f = N → hr_ok n A → 0 ≤ A 35 → A 35 + (f : Int) ≤ 2147483647 → 0 ≤ M → M ≤ 891 * (k : Int) → 0 ≤ (hr_H w h heat price ml wmt n f A M G F T).2.1 ∧ (hr_H w h heat price ml wmt n f A M G F T).2.1 ≤ 891000 := by
  intro f
  induction f with
  | zero => intro k A M G F T hk hok ht ht2 h0 h1; exact ⟨h0, show M ≤ 891000 by omega⟩
  | succ f ih =>
    intro k A M G F T hk hok ht ht2 h0 h1
    have ht2' : A 35 + ((f : Int) + 1) ≤ 2147483647 := by omega
    have b := hr_m_b (w := w) (h := h) (heat := heat) (wm := wmt (A 35)) hN.2.2.1 hok
    have hok' := hr_A_ok (price := price) hw hh hN.1 hN.2.1 hN.2.2.1 (hN.2.2.2 (A 35) ht) hok
    have e35 : hr_A w h heat price ml (wmt (A 35)) n A 35 = A 35 + 1 := by rw [hr_A_35 hw hh hN.1, z_add_eq (by omega) (by omega)]
    unfold hr_H
    rw [z_add_eq (x := M) (by omega) (by omega)]
    exact ih (k + 1) _ _ _ _ _ (by omega) hok' (by omega) (by omega) (by omega) (by omega)
/-- what melts in N hours, the stove at r -/
def y_M (w h n : Nat) (heat price : Int) (cs : List Int) (D A : Nat → Int) (N : Nat) (r : Int) : Int := (hr_R w h heat price cs D n N (u_up A 34 r)).2.1
/-- the ROOM with the least -/
def y_b (w h : Nat) (F : Int → Int) : Nat → Nat → Int → Int → Int
  | 0, _, b, _ => b
  | f + 1, x, b, l => if u_hs (w : Int) (h : Int) (x : Int) = 0 then y_b w h F f (x + 1) b l else if b = -1 ∨ F (x : Int) < l then y_b w h F f (x + 1) (x : Int) (F (x : Int)) else y_b w h F f (x + 1) b l
theorem y_b_nn {w h : Nat} {F : Int → Int} : ∀ (f x : Nat) (b l : Int), 0 ≤ b → 0 ≤ y_b w h F f x b l := by
  intro f
  induction f with
  | zero => intro x b l h0; exact h0
  | succ f ih =>
    intro x b l h0
    unfold y_b
    by_cases c : u_hs (w : Int) (h : Int) (x : Int) = 0
    · rw [if_pos c]; exact ih _ _ _ h0
    · rw [if_neg c]
      by_cases d : b = -1 ∨ F (x : Int) < l
      · rw [if_pos d]; exact ih _ _ _ (by omega)
      · rw [if_neg d]; exact ih _ _ _ h0
theorem y_b_no {w h : Nat} {F : Int → Int} (hx : ∀ x : Nat, x < 9 → u_hs (w : Int) (h : Int) (x : Int) = 0) : ∀ (f x : Nat) (b l : Int), x + f ≤ 9 → y_b w h F f x b l = b := by
  intro f
  induction f with
  | zero => intro x b l h0; rfl
  | succ f ih =>
    intro x b l h0
    unfold y_b
    rw [if_pos (hx x (by omega))]
    exact ih _ _ _ (by omega)
def y_A (w h n : Nat) (heat price : Int) (cs : List Int) (D A : Nat → Int) (a : Int) : Int := if 1 ≤ a ∧ a ≤ 60 then (if y_b w h (y_M w h n heat price cs D A a.toNat) 9 0 (-1) 0 = -1 then -2 else y_b w h (y_M w h n heat price cs D A a.toNat) 9 0 (-1) 0) else -1
section
variable {w h n : Nat} {heat price : Int} {D A : Nat → Int} {c : Nat} {U : Nat → Nat → Int} {kn : Nat → Int} {KS : Nat → Nat → Int} {cs : List Int} {m : z_M}
theorem y_M_b (hN : w_N w h n heat D) (hok : hr_ok n A) (ht : 0 ≤ A 35 ∧ A 35 ≤ 1073741824) {N : Nat} (hN6 : N ≤ 60) (r : Int) : 0 ≤ y_M w h n heat price cs D A N r ∧ y_M w h n heat price cs D A N r ≤ 891000 := by
  have h5 := hN.1.2.2
  have hok' : hr_ok n (u_up A 34 r) := hr_ok_up hok (by decide) (fun z => absurd z (by decide)) (fun p h1 h2 => by omega)
  have h35 : u_up A 34 r 35 = A 35 := u_up_ne (by decide)
  exact hr_H_b hN.1.1 hN.1.2.1 ⟨h5, hN.2.1, c_ml_ok cs, hN.2.2⟩ (N := N) (by omega) N 0 (u_up A 34 r) 0 0 0 0 (by omega) hok' (by rw [h35]; exact ht.1) (by rw [h35]; omega) (Int.le_refl _) (by omega)
theorem C_mws (hi : C_is w h n heat price D A c U kn KS cs m) (hN : w_N w h n heat D) (hok : hr_ok n A) (ht : 0 ≤ A 35 ∧ A 35 ≤ 1073741824) {N : Nat} (hN6 : N ≤ 60) (r : Int) : ∃ m1, z_R 134 (m, 0, [(2, 0), (0, r), (0, (N : Int))], []) = some (m1, some (0, y_M w h n heat price cs D A N r)) ∧ C_is w h n heat price D A c U kn KS cs m1 := by
  have h5 := hN.1.2.2
  obtain ⟨m2, b1, b2, b3⟩ := c_become z_st_12 z_st_18 (by decide) m
  have b1 : z_R 61 (m, 0, [(2, 18), (2, 12)], []) = some (m2, none) := b1
  have hC2 : C_is w h n heat price D A c U kn KS cs m2 := C_fr hi fun p k hk => by
    have hk' := hk
    unfold C_hit at hk'
    have hk' := of_decide_eq_true hk'
    exact b3.of (by (repeat' (first | exact trivial | refine z_of_c ?_ ?_)) <;> omega)
  have hA2 : cS m2 18 n = A := (cS_cR b2).trans hi.2.2.1
  have hC3 : C_is w h n heat price D A c U kn KS cs (z_up (z_up (z_up (z_up (z_up m2 18 6 r) 24 6 0) 24 7 0) 24 8 0) 24 9 0) := C_upn (C_upn (C_upn (C_upn (C_upn hC2 (by decide)) (by decide)) (by decide)) (by decide)) (by decide)
  have e34 : cS (z_up m2 18 6 r) 18 n = u_up (cS m2 18 n) 34 r := cS_up0 (j := 6) (by decide)
  have hB3 : cS (z_up (z_up (z_up (z_up (z_up m2 18 6 r) 24 6 0) 24 7 0) 24 8 0) 24 9 0) 18 n = u_up A 34 r := by rw [cS_off (by omega), cS_off (by omega), cS_off (by omega), cS_off (by omega), e34, hA2]
  have k6 : (z_up (z_up (z_up (z_up (z_up m2 18 6 r) 24 6 0) 24 7 0) 24 8 0) 24 9 0) 24 6 = 0 := by rw [zu_k (by decide), zu_k (by decide), zu_k (by decide), zu_self]
  have k7 : (z_up (z_up (z_up (z_up (z_up m2 18 6 r) 24 6 0) 24 7 0) 24 8 0) 24 9 0) 24 7 = 0 := by rw [zu_k (by decide), zu_k (by decide), zu_self]
  have k8 : (z_up (z_up (z_up (z_up (z_up m2 18 6 r) 24 6 0) 24 7 0) 24 8 0) 24 9 0) 24 8 = 0 := by rw [zu_k (by decide), zu_self]
  have k9 : (z_up (z_up (z_up (z_up (z_up m2 18 6 r) 24 6 0) 24 7 0) 24 8 0) 24 9 0) 24 9 = 0 := zu_self
  rw [y_mws_0, b1, zb_n, y_mws_11]
  generalize z_up (z_up (z_up (z_up (z_up m2 18 6 r) 24 6 0) 24 7 0) 24 8 0) 24 9 0 = m3 at hC3 hB3 k6 k7 k8 k9 ⊢
  have hok' : hr_ok n (u_up A 34 r) := hr_ok_up hok (by decide) (fun z => absurd z (by decide)) (fun p h1 h2 => by omega)
  have h35 : u_up A 34 r 35 = A 35 := u_up_ne (by decide)
  obtain ⟨m4, c1, c2, c3⟩ := c_goOn z_st_18 hN.1.1 hN.1.2.1 (price := price) ⟨h5, hN.2.1, c_ml_ok cs, hN.2.2⟩ (N := N) (by omega) m3 (C_cfg hC3) hB3 hok' (by rw [h35]; exact ht.1) (by rw [h35]; omega) (by rw [k6]; decide +kernel) (by rw [k9]; decide +kernel)
  have c1 : z_R 67 (m3, 0, [(2, 24), (2, 18), (0, (N : Int)), (9, 0)], []) = some (m4, none) := c1
  rw [k6, k7, k8, k9] at c2
  have c4 : m4 24 6 = y_M w h n heat price cs D A N r := congrArg (fun z => z.2.1) c2
  rw [c1, zb_n, y_mws_38, c4]
  refine ⟨m4, rfl, C_fr hC3 fun p k hk => ?_⟩
  have hk' := hk
  unfold C_hit at hk'
  have hk' := of_decide_eq_true hk'
  exact c3.of (by (repeat' (first | exact trivial | refine z_of_c ?_ ?_)) <;> omega)
theorem C_hea1 (hN : w_N w h n heat D) (hok : hr_ok n A) (ht : 0 ≤ A 35 ∧ A 35 ≤ 1073741824) {N : Nat} (hN6 : N ≤ 60) : ∀ (f x : Nat) (b l : Int) (v5 : z_V) (m : z_M), x + f = 9 → C_is w h n heat price D A c U kn KS cs m → ∃ m1, z_R 133 (m, 20, [(2, 0), (0, (N : Int)), (0, b), (0, l), (0, (x : Int)), v5], []) = some (m1, some (0, if y_b w h (y_M w h n heat price cs D A N) f x b l = -1 then -2 else y_b w h (y_M w h n heat price cs D A N) f x b l)) ∧ C_is w h n heat price D A c U kn KS cs m1 := by
  intro f
  induction f with
  | zero =>
    intro x b l v5 m hx hi
    show ∃ m1, _ = some (m1, some (0, if b = -1 then -2 else b)) ∧ _
    rw [y_hea_20, if_pos (by omega)]
    by_cases z : b = -1
    · rw [if_pos z, if_pos z]
      exact ⟨m, rfl, hi⟩
    · obtain ⟨m1, a1, a2⟩ := C_mws hi hN hok ht hN6 (-1)
      rw [if_neg z, if_neg z, a1, zb_v, y_hea_88, c_tell2, zb_n, y_hea_92]
      exact ⟨_, rfl, C_tell2 a2 _ _⟩
  | succ f ih =>
    intro x b l v5 m hx hi
    rw [y_hea_20, if_neg (by omega), hi.1.1, hi.1.2.1]
    unfold y_b
    by_cases z : u_hs (w : Int) (h : Int) (x : Int) = 0
    · rw [if_neg (not_not_intro z), if_pos z, z_add_eq (x := (x : Int)) (y := 1) (by omega) (by omega), tc1]
      exact ih (x + 1) b l v5 m (by omega) hi
    · obtain ⟨m1, a1, a2⟩ := C_mws hi hN hok ht hN6 (x : Int)
      rw [if_pos z, if_neg z, a1, zb_v, y_hea_46, z_add_eq (x := (x : Int)) (y := 1) (by omega) (by omega), tc1]
      by_cases c1 : b = -1
      · rw [if_pos c1, if_pos (Or.inl c1)]
        exact ih (x + 1) _ _ _ m1 (by omega) a2
      · rw [if_neg c1]
        by_cases c2 : l ≤ y_M w h n heat price cs D A N (x : Int)
        · rw [if_pos c2, if_neg (show ¬ (b = -1 ∨ y_M w h n heat price cs D A N (x : Int) < l) by omega)]
          exact ih (x + 1) _ _ _ m1 (by omega) a2
        · rw [if_neg c2, if_pos (show b = -1 ∨ y_M w h n heat price cs D A N (x : Int) < l by omega)]
          exact ih (x + 1) _ _ _ m1 (by omega) a2
theorem C_hearth (hi : C_is w h n heat price D A c U kn KS cs m) (hN : w_N w h n heat D) (hok : hr_ok n A) (ht : 0 ≤ A 35 ∧ A 35 ≤ 1073741824) (a : Int) : ∃ m1, z_R 133 (m, 0, [(2, 0), (0, a), (9, 0), (9, 0), (9, 0), (9, 0)], []) = some (m1, some (0, y_A w h n heat price cs D A a)) ∧ C_is w h n heat price D A c U kn KS cs m1 := by
  rw [y_hea_0]
  by_cases c1 : a < 1
  · have e : y_A w h n heat price cs D A a = -1 := if_neg (by omega)
    rw [if_pos c1, e]
    exact ⟨m, rfl, hi⟩
  rw [if_neg c1]
  by_cases c2 : a ≤ 60
  · obtain ⟨N, rfl⟩ : ∃ N : Nat, a = (N : Int) := ⟨a.toNat, by omega⟩
    have e : y_A w h n heat price cs D A (N : Int) = if y_b w h (y_M w h n heat price cs D A (N : Int).toNat) 9 0 (-1) 0 = -1 then -2 else y_b w h (y_M w h n heat price cs D A (N : Int).toNat) 9 0 (-1) 0 := if_pos (by omega)
    rw [Int.toNat_natCast] at e
    rw [if_pos c2, e]
    exact C_hea1 hN hok ht (N := N) (by omega) 9 0 (-1) 0 (9, 0) m (by decide) hi
  · have e : y_A w h n heat price cs D A a = -1 := if_neg (by omega)
    rw [if_neg c2, e]
    exact ⟨m, rfl, hi⟩
/-! the reference -/
theorem R_mwi (hi : R_is w h n heat price D A c U kn KS cs m) (hN : w_N w h n heat D) (hok : hr_ok n A) (ht : 0 ≤ A 35 ∧ A 35 ≤ 1073741824) {N : Nat} (hN6 : N ≤ 60) (r : Int) : ∃ m1, z_R 250 (m, 0, [(2, 251), (0, r), (0, (N : Int))], []) = some (m1, some (0, y_M w h n heat price cs D A N r)) ∧ R_is w h n heat price D A c U kn KS cs m1 ∧ m1 251 10 = m 251 10 := by
  have h5 := hN.1.2.2
  obtain ⟨m2, b1, b2, b3⟩ := R_lt hi
  have g10 : m2 251 10 = m 251 10 := by
    obtain ⟨m2', d1, -, d3⟩ := t_layd (a := 252) (q := 264) (B := 0) t_lay264_0 t_lay264_2 (by decide) (b := 0) (by decide) m
    have d1 : z_R 198 (m, 0, [(2, 252), (2, 264), (0, 0), (9, 0)], []) = some (m2', none) := d1
    have e : z_R 219 (m, 0, [(2, 251)], []) = some (m2', none) := by rw [q_lt_0, d1, zb_n, q_lt_12]
    rw [b1] at e
    have e := congrArg Prod.fst (Option.some.inj e)
    have e : m2 = m2' := e
    rw [e]
    exact d3 251 10 (by omega)
  have hR3 : R_is w h n heat price D A c U kn KS cs (z_up (z_up (z_up (z_up (z_up m2 264 34 r) 251 32 0) 251 33 0) 251 34 0) 251 35 0) := R_upn (R_upn (R_upn (R_upn (R_upn b2 (by decide)) (by decide)) (by decide)) (by decide)) (by decide)
  have hB3 : rS (z_up (z_up (z_up (z_up (z_up m2 264 34 r) 251 32 0) 251 33 0) 251 34 0) 251 35 0) 264 n = u_up A 34 r := by rw [rS_row (zu_rowne (by decide)), rS_row (zu_rowne (by decide)), rS_row (zu_rowne (by decide)), rS_row (zu_rowne (by decide)), rS_up (by decide) (a_vis_hi (by decide)), b3]
  have k6 : (z_up (z_up (z_up (z_up (z_up m2 264 34 r) 251 32 0) 251 33 0) 251 34 0) 251 35 0) 251 32 = 0 := by rw [zu_k (by decide), zu_k (by decide), zu_k (by decide), zu_self]
  have k7 : (z_up (z_up (z_up (z_up (z_up m2 264 34 r) 251 32 0) 251 33 0) 251 34 0) 251 35 0) 251 33 = 0 := by rw [zu_k (by decide), zu_k (by decide), zu_self]
  have k8 : (z_up (z_up (z_up (z_up (z_up m2 264 34 r) 251 32 0) 251 33 0) 251 34 0) 251 35 0) 251 34 = 0 := by rw [zu_k (by decide), zu_self]
  have k9 : (z_up (z_up (z_up (z_up (z_up m2 264 34 r) 251 32 0) 251 33 0) 251 34 0) 251 35 0) 251 35 = 0 := zu_self
  have k10 : (z_up (z_up (z_up (z_up (z_up m2 264 34 r) 251 32 0) 251 33 0) 251 34 0) 251 35 0) 251 10 = m 251 10 := by rw [zu_k (by decide), zu_k (by decide), zu_k (by decide), zu_k (by decide), zu_p (by decide), g10]
  rw [y_mwi_0, b1, zb_n, y_mwi_4]
  generalize z_up (z_up (z_up (z_up (z_up m2 264 34 r) 251 32 0) 251 33 0) 251 34 0) 251 35 0 = m3 at hR3 hB3 k6 k7 k8 k9 k10 ⊢
  have hok' : hr_ok n (u_up A 34 r) := hr_ok_up hok (by decide) (fun z => absurd z (by decide)) (fun p h1 h2 => by omega)
  have h35 : u_up A 34 r 35 = A 35 := u_up_ne (by decide)
  obtain ⟨m4, c1, c2, c3⟩ := r_goHours z_A_264 (Or.inr rfl) hN.1.1 hN.1.2.1 (price := price) ⟨h5, hN.2.1, c_ml_ok cs, hN.2.2⟩ (N := N) (by omega) m3 (R_cfg hR3) hB3 hok' (by rw [h35]; exact ht.1) (by rw [h35]; omega)
  have c1 : z_R 207 (m3, 0, [(2, 251), (2, 264), (0, (N : Int)), (9, 0)], []) = some (m4, none) := c1
  rw [k6, k7, k8, k9] at c2
  have c4 : m4 251 32 = y_M w h n heat price cs D A N r := congrArg (fun z => z.2.1) c2
  rw [c1, zb_n, y_mwi_25, c4]
  exact ⟨m4, rfl, R_off264 hR3 c3, (c3.of (p := 251) (k := 10) (by (repeat' (first | exact trivial | refine z_of_c ?_ ?_)) <;> omega)).trans k10⟩
theorem R_hea1 (hN : w_N w h n heat D) (hok : hr_ok n A) (ht : 0 ≤ A 35 ∧ A 35 ≤ 1073741824) {N : Nat} (hN6 : N ≤ 60) : ∀ (f x : Nat) (b l l' : Int) (v5 : z_V) (m : z_M), x + f = 9 → ((b = -1 ∧ l' = 1000000) ∨ (0 ≤ b ∧ l' = l)) → R_is w h n heat price D A c U kn KS cs m → ∃ m1, z_R 249 (m, 36, [(2, 251), (0, (N : Int)), (0, b), (0, l'), (0, (x : Int)), v5], []) = some (m1, some (0, y_b w h (y_M w h n heat price cs D A N) f x b l)) ∧ R_is w h n heat price D A c U kn KS cs m1 := by
  intro f
  induction f with
  | zero =>
    intro x b l l' v5 m hx hb hi
    have hR1 := R_upn (p0 := 251) (k0 := 10) (v := 1) (R_upn (p0 := 255) (k0 := 0) (v := z_i2l l') (R_upn (p0 := 251) (k0 := 10) (v := 0) hi (by decide)) (by decide)) (by decide)
    have g10 : (z_up (z_up (z_up m 251 10 0) 255 0 (z_i2l l')) 251 10 1) 251 10 = ((1 : Nat) : Int) := zu_self
    rw [y_the_36, if_pos (by omega), t_tell0, zb_n, y_the_96]
    generalize z_up (z_up (z_up m 251 10 0) 255 0 (z_i2l l')) 251 10 1 = m0 at hR1 g10 ⊢
    obtain ⟨m1, a1, a2, a3⟩ := R_mwi hR1 hN hok ht hN6 (-1)
    rw [a1, zb_v, y_the_103, t_tell (j := 1) _ _ (by decide) (a3.trans g10), zb_n, y_the_107]
    exact ⟨_, rfl, R_upn (R_upn a2 (by decide)) (by decide)⟩
  | succ f ih =>
    intro x b l l' v5 m hx hb hi
    rw [y_the_36, if_neg (by omega), hi.1.1, hi.1.2.1]
    unfold y_b
    by_cases z : u_hs (w : Int) (h : Int) (x : Int) = 0
    · rw [if_neg (not_not_intro z), if_pos z, z_add_eq (x := (x : Int)) (y := 1) (by omega) (by omega), tc1]
      exact ih (x + 1) b l l' v5 m (by omega) hb hi
    · obtain ⟨m1, a1, a2, -⟩ := R_mwi hi hN hok ht hN6 (x : Int)
      have bM := y_M_b (price := price) (cs := cs) hN hok ht hN6 (x : Int)
      rw [if_pos z, if_neg z, a1, zb_v, y_the_62, z_add_eq (x := (x : Int)) (y := 1) (by omega) (by omega), tc1]
      by_cases c1 : y_M w h n heat price cs D A N (x : Int) < l'
      · rw [if_pos c1, if_pos (show b = -1 ∨ y_M w h n heat price cs D A N (x : Int) < l by omega)]
        exact ih (x + 1) _ _ _ _ m1 (by omega) (Or.inr ⟨by omega, rfl⟩) a2
      · rw [if_neg c1, if_neg (show ¬ (b = -1 ∨ y_M w h n heat price cs D A N (x : Int) < l) by omega)]
        exact ih (x + 1) _ _ _ _ m1 (by omega) hb a2
theorem R_hearth (hi : R_is w h n heat price D A c U kn KS cs m) (hN : w_N w h n heat D) (hok : hr_ok n A) (ht : 0 ≤ A 35 ∧ A 35 ≤ 1073741824) (h0 : w = 0 ↔ h = 0) (a : Int) : ∃ m1, z_R 249 (m, 0, [(2, 251), (0, a), (9, 0), (9, 0), (9, 0), (9, 0)], []) = some (m1, some (0, y_A w h n heat price cs D A a)) ∧ R_is w h n heat price D A c U kn KS cs m1 := by
  have hu := R_upn (p0 := 251) (k0 := 11) (v := 0) hi (by decide)
  rw [y_the_0, hi.1.1]
  generalize z_up m 251 11 0 = m0 at hu ⊢
  by_cases c1 : 1 ≤ a ∧ a ≤ 60
  · obtain ⟨N, rfl⟩ : ∃ N : Nat, a = (N : Int) := ⟨a.toNat, by omega⟩
    have e : y_A w h n heat price cs D A (N : Int) = if y_b w h (y_M w h n heat price cs D A (N : Int).toNat) 9 0 (-1) 0 = -1 then -2 else y_b w h (y_M w h n heat price cs D A (N : Int).toNat) 9 0 (-1) 0 := if_pos c1
    rw [Int.toNat_natCast] at e
    rw [if_pos c1, e]
    by_cases c2 : (w : Int) = 0
    · have eb : y_b w h (y_M w h n heat price cs D A N) 9 0 (-1) 0 = -1 := y_b_no (fun x hx => by
        rw [u_hs_eq hN.1.1 hN.1.2.1 (by omega), if_neg (by omega)]) 9 0 (-1) 0 (by decide)
      rw [if_pos c2, eb, if_pos rfl]
      exact ⟨m0, rfl, hu⟩
    · have hx0 : ¬ u_hs (w : Int) (h : Int) ((0 : Nat) : Int) = 0 := by
        rw [u_hs_eq hN.1.1 hN.1.2.1 (by omega), if_pos (by omega)]
        decide
      have eb : 0 ≤ y_b w h (y_M w h n heat price cs D A N) 9 0 (-1) 0 := by
        show 0 ≤ y_b w h (y_M w h n heat price cs D A N) (8 + 1) 0 (-1) 0
        unfold y_b
        rw [if_neg hx0, if_pos (Or.inl rfl)]
        exact y_b_nn 8 1 _ _ (by decide)
      rw [if_neg c2, if_neg (by omega)]
      exact R_hea1 hN hok ht (N := N) (by omega) 9 0 (-1) 0 1000000 (9, 0) m0 (by decide) (Or.inl ⟨rfl, rfl⟩) hu
  · have e : y_A w h n heat price cs D A a = -1 := if_neg c1
    rw [if_neg c1, e]
    exact ⟨m0, rfl, hu⟩
end
theorem core_hearth : l_rel2 Rel_C (999, 152, 133, 1, false, 1010, 155, 249) := by
  intro M1 M2 M3 σ σ1 σ2 as v1 v2 C1 C2 ρ1 ρ2 ha hR hh hM1 hC1 hp1 hE1 hC2 hp2 hE2
  obtain ⟨a, rfl⟩ := as_one ha
  have hE1 : z_R 133 (z_m σ, 0, [(2, 0), (0, a.toInt), (9, 0), (9, 0), (9, 0), (9, 0)], []) = some (z_m σ1, some (0, v1.toInt)) := z_R_iff.mpr hE1
  have hE2 : z_R 249 (z_m σ1, 0, [(2, 251), (0, a.toInt), (9, 0), (9, 0), (9, 0), (9, 0)], []) = some (z_m σ2, some (0, v2.toInt)) := z_R_iff.mpr hE2
  have hT := T_two (y1 := 133) (y2 := 249) (by decide +kernel) (by decide +kernel) hC1 hC2 hp1 hp2 hR.1
  obtain ⟨w, h, n, heat, price, D, A, c, U, kn, KS, cs, cC, cR, cW⟩ := hR.2
  obtain ⟨b1, b2, -, -, hok, b35, -, b7⟩ := core_b hh hM1 cR
  have hN : w_N w h n heat D := ⟨b1, b2, b7⟩
  have f1 := R_off2_ok (y := 133) (by decide +kernel) hC1 hp1
  have f2 := C_off_ok (y := 249) (by decide +kernel) hC2 hp2
  have cR1 := R_fr cR f1
  have z := core_do cR1 (fun q => C_fr q f2) (C_hearth cC hN hok b35 a.toInt) (fun q => R_hearth q hN hok b35 cW.1 a.toInt) hE1 hE2
  exact ⟨⟨hT, Core_mk z.1.1 z.1.2 cW⟩, fun _ => z.2⟩
end
section
/-! STRETCHES of rests, with bounds done -/
theorem z_rst_0  (m : z_M) (a : Int) (b : Int) (v : Int) : z_R 135 (m, 0, [(2, 0), (0, a), (0, b), (0, v), (9, 0), (9, 0), (9, 0), (9, 0), (9, 0), (9, 0)], []) = if 0 ≤ a ∧ a < m 3 11 then if 0 ≤ b ∧ b < m 3 11 then if a = b then some (m, some (0, (-1))) else if v < 0 then some (m, some (0, (-1))) else if v ≤ 99 then if 0 ≤ a ∧ a < 5 then if ¬ u_hs (m 3 8) (m 3 9) (m 15 (a).toNat) = 0 then if 0 ≤ b ∧ b < 5 then if m 15 (b).toNat = m 15 (a).toNat then z_R 135 (m, 88, [(2, 0), (0, a), (0, b), (0, v), (0, m 15 (a).toNat), (0, 0), (0, (-1)), (0, 0), (9, 0), (9, 0)], []) else some (m, some (0, (-2))) else none else some (m, some (0, (-2))) else none else some (m, some (0, (-1))) else some (m, some (0, (-1))) else some (m, some (0, (-1))) :=
  have hK : kt_at 135 = kt_135 := rfl
  (z_R_run hK (n := 2) (g' := (m, 4, [(2, 0), (0, a), (0, b), (0, v), (9, 0), (9, 0), (9, 0), (9, 0), (9, 0), (9, 0)], [(2, 3)])) rfl).trans ((z_R_run hK (n := 1) (g' := (m, 5, [(2, 0), (0, a), (0, b), (0, v), (9, 0), (9, 0), (9, 0), (9, 0), (9, 0), (9, 0)], [(0, a), (2, 3)])) rfl).trans (z_R_cif hK rfl rfl rfl rfl rfl (c_ifknows _ _ rfl) (fun h1 => (z_R_run hK (n := 3) (g' := (m, 15, [(2, 0), (0, a), (0, b), (0, v), (9, 0), (9, 0), (9, 0), (9, 0), (9, 0), (9, 0)], [(2, 3)])) rfl).trans ((z_R_run hK (n := 1) (g' := (m, 16, [(2, 0), (0, a), (0, b), (0, v), (9, 0), (9, 0), (9, 0), (9, 0), (9, 0), (9, 0)], [(0, b), (2, 3)])) rfl).trans (z_R_cif hK rfl rfl rfl rfl rfl (c_ifknows _ _ rfl) (fun h2 => (z_R_run hK (n := 3) (g' := (m, 24, [(2, 0), (0, a), (0, b), (0, v), (9, 0), (9, 0), (9, 0), (9, 0), (9, 0), (9, 0)], [(0, b), (0, a)])) rfl).trans (z_R_ifd hK (c := a = b) (p1 := 37) (p2 := 27) rfl rfl rfl (fun h3 => (z_R_run hK (n := 1) (g' := (m, 38, [(2, 0), (0, a), (0, b), (0, v), (9, 0), (9, 0), (9, 0), (9, 0), (9, 0), (9, 0)], [(0, (-1))])) rfl).trans (z_R_ret hK rfl rfl rfl)) (fun h3 => (z_R_run hK (n := 1) (g' := (m, 28, [(2, 0), (0, a), (0, b), (0, v), (9, 0), (9, 0), (9, 0), (9, 0), (9, 0), (9, 0)], [(0, v)])) rfl).trans (z_R_ifd hK (c := v < 0) (p1 := 37) (p2 := 31) rfl rfl rfl (fun h4 => (z_R_run hK (n := 1) (g' := (m, 38, [(2, 0), (0, a), (0, b), (0, v), (9, 0), (9, 0), (9, 0), (9, 0), (9, 0), (9, 0)], [(0, (-1))])) rfl).trans (z_R_ret hK rfl rfl rfl)) (fun h4 => (z_R_run hK (n := 2) (g' := (m, 34, [(2, 0), (0, a), (0, b), (0, v), (9, 0), (9, 0), (9, 0), (9, 0), (9, 0), (9, 0)], [(0, 99), (0, v)])) rfl).trans (z_R_ifd hK (c := v ≤ 99) (p1 := 39) (p2 := 37) rfl rfl rfl (fun h5 => (z_R_run hK (n := 2) (g' := (m, 43, [(2, 0), (0, a), (0, b), (0, v), (9, 0), (9, 0), (9, 0), (9, 0), (9, 0), (9, 0)], [(2, 12)])) rfl).trans ((z_R_run hK (n := 1) (g' := (m, 46, [(2, 0), (0, a), (0, b), (0, v), (9, 0), (9, 0), (9, 0), (9, 0), (9, 0), (9, 0)], [(2, 15)])) rfl).trans ((z_R_run hK (n := 1) (g' := (m, 47, [(2, 0), (0, a), (0, b), (0, v), (9, 0), (9, 0), (9, 0), (9, 0), (9, 0), (9, 0)], [(0, a), (2, 15)])) rfl).trans (z_R_ixD hK (n := 5) (g' := (m, 48, [(2, 0), (0, a), (0, b), (0, v), (9, 0), (9, 0), (9, 0), (9, 0), (9, 0), (9, 0)], [(0, m 15 (a).toNat)])) rfl rfl rfl  (fun h6 => (z_R_run hK (n := 3) (g' := (m, 54, [(2, 0), (0, a), (0, b), (0, v), (0, m 15 (a).toNat), (9, 0), (9, 0), (9, 0), (9, 0), (9, 0)], [(2, 3)])) rfl).trans ((z_R_run hK (n := 1) (g' := (m, 56, [(2, 0), (0, a), (0, b), (0, v), (0, m 15 (a).toNat), (9, 0), (9, 0), (9, 0), (9, 0), (9, 0)], [(0, m 15 (a).toNat), (2, 3)])) rfl).trans (z_R_cif hK rfl rfl rfl rfl rfl (c_ifhas _ _ rfl rfl) (fun h7 => have h10 := u_hs_rng h7; (z_R_run hK (n := 3) (g' := (m, 66, [(2, 0), (0, a), (0, b), (0, v), (0, m 15 (a).toNat), (9, 0), (9, 0), (9, 0), (9, 0), (9, 0)], [(2, 12)])) rfl).trans ((z_R_run hK (n := 1) (g' := (m, 69, [(2, 0), (0, a), (0, b), (0, v), (0, m 15 (a).toNat), (9, 0), (9, 0), (9, 0), (9, 0), (9, 0)], [(2, 15)])) rfl).trans ((z_R_run hK (n := 1) (g' := (m, 70, [(2, 0), (0, a), (0, b), (0, v), (0, m 15 (a).toNat), (9, 0), (9, 0), (9, 0), (9, 0), (9, 0)], [(0, b), (2, 15)])) rfl).trans (z_R_ixD hK (n := 5) (g' := (m, 71, [(2, 0), (0, a), (0, b), (0, v), (0, m 15 (a).toNat), (9, 0), (9, 0), (9, 0), (9, 0), (9, 0)], [(0, m 15 (b).toNat)])) rfl rfl rfl  (fun h8 => (z_R_run hK (n := 1) (g' := (m, 73, [(2, 0), (0, a), (0, b), (0, v), (0, m 15 (a).toNat), (9, 0), (9, 0), (9, 0), (9, 0), (9, 0)], [(0, m 15 (a).toNat), (0, m 15 (b).toNat)])) rfl).trans (z_R_ifd hK (c := m 15 (b).toNat = m 15 (a).toNat) (p1 := 79) (p2 := 76) rfl rfl rfl (fun h9 => (z_R_run hK (n := 6) (g' := (m, 88, [(2, 0), (0, a), (0, b), (0, v), (0, m 15 (a).toNat), (0, 0), (0, (-1)), (0, 0), (9, 0), (9, 0)], [])) rfl).trans (rfl)) (fun h9 => (z_R_run hK (n := 1) (g' := (m, 78, [(2, 0), (0, a), (0, b), (0, v), (0, m 15 (a).toNat), (9, 0), (9, 0), (9, 0), (9, 0), (9, 0)], [(0, (-2))])) rfl).trans (z_R_ret hK rfl rfl rfl)))))))) (fun h7 => (z_R_run hK (n := 2) (g' := (m, 78, [(2, 0), (0, a), (0, b), (0, v), (0, m 15 (a).toNat), (9, 0), (9, 0), (9, 0), (9, 0), (9, 0)], [(0, (-2))])) rfl).trans (z_R_ret hK rfl rfl rfl))))))))) (fun h5 => (z_R_run hK (n := 1) (g' := (m, 38, [(2, 0), (0, a), (0, b), (0, v), (9, 0), (9, 0), (9, 0), (9, 0), (9, 0), (9, 0)], [(0, (-1))])) rfl).trans (z_R_ret hK rfl rfl rfl)))))))) (fun h2 => (z_R_run hK (n := 2) (g' := (m, 38, [(2, 0), (0, a), (0, b), (0, v), (9, 0), (9, 0), (9, 0), (9, 0), (9, 0), (9, 0)], [(0, (-1))])) rfl).trans (z_R_ret hK rfl rfl rfl))))) (fun h1 => (z_R_run hK (n := 2) (g' := (m, 38, [(2, 0), (0, a), (0, b), (0, v), (9, 0), (9, 0), (9, 0), (9, 0), (9, 0), (9, 0)], [(0, (-1))])) rfl).trans (z_R_ret hK rfl rfl rfl))))
theorem z_rst_88  (m : z_M) (x1 : Int) (x2 : Int) (x3 : Int) (x4 : Int) (x5 : Int) (x6 : Int) (x7 : Int) (v8 : z_V) (v9 : z_V) : z_R 135 (m, 88, [(2, 0), (0, x1), (0, x2), (0, x3), (0, x4), (0, x5), (0, x6), (0, x7), v8, v9], []) = if 4 ≤ x7 then (z_R 78 (m, 0, [(2, 0)], [])).bind fun qq => z_R 135 (qq.1, 201, [(2, 0), (0, x1), (0, x2), (0, x3), (0, x4), (0, x5), (0, x6), (0, x7), v8, v9], qq.2.toList ++ []) else (z_R 136 (m, 0, [(2, 0), (0, x1), (0, x2), (0, x3), (0, x7), (0, 0), (9, 0), (9, 0), (9, 0), (9, 0)], [])).bind fun qq => z_R 135 (qq.1, 104, [(2, 0), (0, x1), (0, x2), (0, x3), (0, x4), (0, x5), (0, x6), (0, x7), v8, v9], qq.2.toList ++ []) :=
  have hK : kt_at 135 = kt_135 := rfl
  (z_R_run hK (n := 2) (g' := (m, 91, [(2, 0), (0, x1), (0, x2), (0, x3), (0, x4), (0, x5), (0, x6), (0, x7), v8, v9], [(0, 4), (0, x7)])) rfl).trans (z_R_ifd hK (c := 4 ≤ x7) (p1 := 197) (p2 := 94) rfl rfl rfl (fun h1 => (z_R_run hK (n := 1) (g' := (m, 198, [(2, 0), (0, x1), (0, x2), (0, x3), (0, x4), (0, x5), (0, x6), (0, x7), v8, v9], [(2, 0)])) rfl).trans (z_R_call hK rfl rfl rfl rfl rfl)) (fun h1 => (z_R_run hK (n := 6) (g' := (m, 101, [(2, 0), (0, x1), (0, x2), (0, x3), (0, x4), (0, x5), (0, x6), (0, x7), v8, v9], [(0, 0), (0, x7), (0, x3), (0, x2), (0, x1), (2, 0)])) rfl).trans (z_R_call hK rfl rfl rfl rfl rfl)))
theorem z_rst_104  (m : z_M) (x1 : Int) (x2 : Int) (x3 : Int) (x4 : Int) (x5 : Int) (x6 : Int) (x7 : Int) (v8 : z_V) (v9 : z_V) (u : Int) : z_R 135 (m, 104, [(2, 0), (0, x1), (0, x2), (0, x3), (0, x4), (0, x5), (0, x6), (0, x7), v8, v9], [(0, u)]) = (z_R 136 (m, 0, [(2, 0), (0, x1), (0, x2), (0, x3), (0, z_xor x7 1), (0, 0), (9, 0), (9, 0), (9, 0), (9, 0)], [])).bind fun qq => z_R 135 (qq.1, 116, [(2, 0), (0, x1), (0, x2), (0, x3), (0, x4), (0, x5), (0, x6), (0, x7), v8, v9], qq.2.toList ++ [(0, u)]) :=
  have hK : kt_at 135 = kt_135 := rfl
  (z_R_run hK (n := 8) (g' := (m, 113, [(2, 0), (0, x1), (0, x2), (0, x3), (0, x4), (0, x5), (0, x6), (0, x7), v8, v9], [(0, 0), (0, z_xor x7 1), (0, x3), (0, x2), (0, x1), (2, 0), (0, u)])) rfl).trans (z_R_call hK rfl rfl rfl rfl rfl)
theorem z_rst_116  (m : z_M) (x1 : Int) (x2 : Int) (x3 : Int) (x4 : Int) (x5 : Int) (x6 : Int) (x7 : Int) (v8 : z_V) (v9 : z_V) (s0 : Int) (u : Int) : z_R 135 (m, 116, [(2, 0), (0, x1), (0, x2), (0, x3), (0, x4), (0, x5), (0, x6), (0, x7), v8, v9], [(0, u), (0, s0)]) = if s0 < u then (z_R 136 (m, 0, [(2, 0), (0, x1), (0, x2), (0, x3), (0, x7), (0, 1), (9, 0), (9, 0), (9, 0), (9, 0)], [])).bind fun qq => z_R 135 (qq.1, 136, [(2, 0), (0, x1), (0, x2), (0, x3), (0, x4), (0, x5), (0, x6), (0, x7), (0, 0), v9], qq.2.toList ++ []) else (z_R 136 (m, 0, [(2, 0), (0, x1), (0, x2), (0, x3), (0, x7), (0, 1), (9, 0), (9, 0), (9, 0), (9, 0)], [])).bind fun qq => z_R 135 (qq.1, 136, [(2, 0), (0, x1), (0, x2), (0, x3), (0, x4), (0, x5), (0, x6), (0, x7), (0, 1), v9], qq.2.toList ++ []) :=
  have hK : kt_at 135 = kt_135 := rfl
  z_R_ifd hK (c := s0 < u) (p1 := 123) (p2 := 119) rfl rfl rfl (fun h1 => (z_R_run hK (n := 8) (g' := (m, 133, [(2, 0), (0, x1), (0, x2), (0, x3), (0, x4), (0, x5), (0, x6), (0, x7), (0, 0), v9], [(0, 1), (0, x7), (0, x3), (0, x2), (0, x1), (2, 0)])) rfl).trans (z_R_call hK rfl rfl rfl rfl rfl)) (fun h1 => (z_R_run hK (n := 9) (g' := (m, 133, [(2, 0), (0, x1), (0, x2), (0, x3), (0, x4), (0, x5), (0, x6), (0, x7), (0, 1), v9], [(0, 1), (0, x7), (0, x3), (0, x2), (0, x1), (2, 0)])) rfl).trans (z_R_call hK rfl rfl rfl rfl rfl))
theorem z_rst_136  (m : z_M) (x1 : Int) (x2 : Int) (x3 : Int) (x4 : Int) (x5 : Int) (x6 : Int) (x7 : Int) (x8 : Int) (v9 : z_V) (u : Int) : z_R 135 (m, 136, [(2, 0), (0, x1), (0, x2), (0, x3), (0, x4), (0, x5), (0, x6), (0, x7), (0, x8), v9], [(0, u)]) = (z_R 136 (m, 0, [(2, 0), (0, x1), (0, x2), (0, x3), (0, z_xor x7 2), (0, 1), (9, 0), (9, 0), (9, 0), (9, 0)], [])).bind fun qq => z_R 135 (qq.1, 148, [(2, 0), (0, x1), (0, x2), (0, x3), (0, x4), (0, x5), (0, x6), (0, x7), (0, x8), v9], qq.2.toList ++ [(0, u)]) :=
  have hK : kt_at 135 = kt_135 := rfl
  (z_R_run hK (n := 8) (g' := (m, 145, [(2, 0), (0, x1), (0, x2), (0, x3), (0, x4), (0, x5), (0, x6), (0, x7), (0, x8), v9], [(0, 1), (0, z_xor x7 2), (0, x3), (0, x2), (0, x1), (2, 0), (0, u)])) rfl).trans (z_R_call hK rfl rfl rfl rfl rfl)
theorem z_rst_148  (m : z_M) (x1 : Int) (x2 : Int) (x3 : Int) (x4 : Int) (x5 : Int) (x6 : Int) (x7 : Int) (x8 : Int) (v9 : z_V) (s0 : Int) (u : Int) : z_R 135 (m, 148, [(2, 0), (0, x1), (0, x2), (0, x3), (0, x4), (0, x5), (0, x6), (0, x7), (0, x8), v9], [(0, u), (0, s0)]) = if s0 < u then if x8 = 0 then z_R 135 (m, 88, [(2, 0), (0, x1), (0, x2), (0, x3), (0, x4), (0, x5), (0, x6), (0, z_add x7 1), (0, x8), (0, 0)], []) else z_R 135 (m, 88, [(2, 0), (0, x1), (0, x2), (0, x3), (0, x4), (0, x5), (0, x6), (0, z_add x7 1), (0, x8), (0, 0)], []) else if x8 = 0 then z_R 135 (m, 88, [(2, 0), (0, x1), (0, x2), (0, x3), (0, x4), (0, x5), (0, x6), (0, z_add x7 1), (0, x8), (0, 1)], []) else if x5 = 0 then z_R 135 (m, 88, [(2, 0), (0, x1), (0, x2), (0, x3), (0, x4), (0, z_or x5 (z_shl 1 x7)), (0, x7), (0, z_add x7 1), (0, x8), (0, 1)], []) else z_R 135 (m, 88, [(2, 0), (0, x1), (0, x2), (0, x3), (0, x4), (0, z_or x5 (z_shl 1 x7)), (0, x6), (0, z_add x7 1), (0, x8), (0, 1)], []) :=
  have hK : kt_at 135 = kt_135 := rfl
  z_R_ifd hK (c := s0 < u) (p1 := 155) (p2 := 151) rfl rfl rfl (fun h1 => (z_R_run hK (n := 3) (g' := (m, 160, [(2, 0), (0, x1), (0, x2), (0, x3), (0, x4), (0, x5), (0, x6), (0, x7), (0, x8), (0, 0)], [(0, x8)])) rfl).trans (z_R_ifd hK (c := x8 = 0) (p1 := 191) (p2 := 163) rfl rfl rfl (fun h2 => (z_R_run hK (n := 2) (g' := (m, 88, [(2, 0), (0, x1), (0, x2), (0, x3), (0, x4), (0, x5), (0, x6), (0, z_add x7 1), (0, x8), (0, 0)], [])) rfl).trans (rfl)) (fun h2 => (z_R_run hK (n := 4) (g' := (m, 88, [(2, 0), (0, x1), (0, x2), (0, x3), (0, x4), (0, x5), (0, x6), (0, z_add x7 1), (0, x8), (0, 0)], [])) rfl).trans (rfl)))) (fun h1 => (z_R_run hK (n := 4) (g' := (m, 160, [(2, 0), (0, x1), (0, x2), (0, x3), (0, x4), (0, x5), (0, x6), (0, x7), (0, x8), (0, 1)], [(0, x8)])) rfl).trans (z_R_ifd hK (c := x8 = 0) (p1 := 191) (p2 := 163) rfl rfl rfl (fun h3 => (z_R_run hK (n := 2) (g' := (m, 88, [(2, 0), (0, x1), (0, x2), (0, x3), (0, x4), (0, x5), (0, x6), (0, z_add x7 1), (0, x8), (0, 1)], [])) rfl).trans (rfl)) (fun h3 => (z_R_run hK (n := 3) (g' := (m, 170, [(2, 0), (0, x1), (0, x2), (0, x3), (0, x4), (0, x5), (0, x6), (0, x7), (0, x8), (0, 1)], [(0, x5)])) rfl).trans (z_R_ifnd hK (c := x5 = 0) (p1 := 178) (p2 := 173) rfl rfl rfl (fun h4 => (z_R_run hK (n := 10) (g' := (m, 88, [(2, 0), (0, x1), (0, x2), (0, x3), (0, x4), (0, z_or x5 (z_shl 1 x7)), (0, x6), (0, z_add x7 1), (0, x8), (0, 1)], [])) rfl).trans (rfl)) (fun h4 => (z_R_run hK (n := 11) (g' := (m, 88, [(2, 0), (0, x1), (0, x2), (0, x3), (0, x4), (0, z_or x5 (z_shl 1 x7)), (0, x7), (0, z_add x7 1), (0, x8), (0, 1)], [])) rfl).trans (rfl))))))
theorem z_rst_201  (m : z_M) (x1 : Int) (x2 : Int) (x3 : Int) (x4 : Int) (x5 : Int) (x6 : Int) (x7 : Int) (v8 : z_V) (v9 : z_V) : z_R 135 (m, 201, [(2, 0), (0, x1), (0, x2), (0, x3), (0, x4), (0, x5), (0, x6), (0, x7), v8, v9], []) = if x5 = 0 then some (m, some (0, x5)) else (z_R 136 (m, 0, [(2, 0), (0, x1), (0, x2), (0, x3), (0, x6), (0, 0), (9, 0), (9, 0), (9, 0), (9, 0)], [])).bind fun qq => z_R 135 (qq.1, 217, [(2, 0), (0, x1), (0, x2), (0, x3), (0, x4), (0, x5), (0, x6), (0, x7), v8, v9], qq.2.toList ++ [(2, 0)]) :=
  have hK : kt_at 135 = kt_135 := rfl
  (z_R_run hK (n := 1) (g' := (m, 203, [(2, 0), (0, x1), (0, x2), (0, x3), (0, x4), (0, x5), (0, x6), (0, x7), v8, v9], [(0, x5)])) rfl).trans (z_R_ifd hK (c := x5 = 0) (p1 := 236) (p2 := 206) rfl rfl rfl (fun h1 => (z_R_run hK (n := 1) (g' := (m, 238, [(2, 0), (0, x1), (0, x2), (0, x3), (0, x4), (0, x5), (0, x6), (0, x7), v8, v9], [(0, x5)])) rfl).trans (z_R_ret hK rfl rfl rfl)) (fun h1 => (z_R_run hK (n := 7) (g' := (m, 214, [(2, 0), (0, x1), (0, x2), (0, x3), (0, x4), (0, x5), (0, x6), (0, x7), v8, v9], [(0, 0), (0, x6), (0, x3), (0, x2), (0, x1), (2, 0), (2, 0)])) rfl).trans (z_R_call hK rfl rfl rfl rfl rfl)))
theorem z_rst_217  (m : z_M) (x1 : Int) (x2 : Int) (x3 : Int) (x4 : Int) (x5 : Int) (x6 : Int) (x7 : Int) (v8 : z_V) (v9 : z_V) (u : Int) : z_R 135 (m, 217, [(2, 0), (0, x1), (0, x2), (0, x3), (0, x4), (0, x5), (0, x6), (0, x7), v8, v9], [(0, u), (2, 0)]) = (z_R 79 (m, 0, [(2, 0), (1, z_i2l u), (9, 0)], [])).bind fun qq => z_R 135 (qq.1, 221, [(2, 0), (0, x1), (0, x2), (0, x3), (0, x4), (0, x5), (0, x6), (0, x7), v8, v9], qq.2.toList ++ []) :=
  have hK : kt_at 135 = kt_135 := rfl
  (z_R_run hK (n := 1) (g' := (m, 218, [(2, 0), (0, x1), (0, x2), (0, x3), (0, x4), (0, x5), (0, x6), (0, x7), v8, v9], [(1, z_i2l u), (2, 0)])) rfl).trans (z_R_call hK rfl rfl rfl rfl rfl)
theorem z_rst_221  (m : z_M) (x1 : Int) (x2 : Int) (x3 : Int) (x4 : Int) (x5 : Int) (x6 : Int) (x7 : Int) (v8 : z_V) (v9 : z_V) : z_R 135 (m, 221, [(2, 0), (0, x1), (0, x2), (0, x3), (0, x4), (0, x5), (0, x6), (0, x7), v8, v9], []) = (z_R 136 (m, 0, [(2, 0), (0, x1), (0, x2), (0, x3), (0, x6), (0, 1), (9, 0), (9, 0), (9, 0), (9, 0)], [])).bind fun qq => z_R 135 (qq.1, 232, [(2, 0), (0, x1), (0, x2), (0, x3), (0, x4), (0, x5), (0, x6), (0, x7), v8, v9], qq.2.toList ++ [(2, 0)]) :=
  have hK : kt_at 135 = kt_135 := rfl
  (z_R_run hK (n := 7) (g' := (m, 229, [(2, 0), (0, x1), (0, x2), (0, x3), (0, x4), (0, x5), (0, x6), (0, x7), v8, v9], [(0, 1), (0, x6), (0, x3), (0, x2), (0, x1), (2, 0), (2, 0)])) rfl).trans (z_R_call hK rfl rfl rfl rfl rfl)
theorem z_rst_232  (m : z_M) (x1 : Int) (x2 : Int) (x3 : Int) (x4 : Int) (x5 : Int) (x6 : Int) (x7 : Int) (v8 : z_V) (v9 : z_V) (u : Int) : z_R 135 (m, 232, [(2, 0), (0, x1), (0, x2), (0, x3), (0, x4), (0, x5), (0, x6), (0, x7), v8, v9], [(0, u), (2, 0)]) = (z_R 79 (m, 0, [(2, 0), (1, z_i2l u), (9, 0)], [])).bind fun qq => z_R 135 (qq.1, 236, [(2, 0), (0, x1), (0, x2), (0, x3), (0, x4), (0, x5), (0, x6), (0, x7), v8, v9], qq.2.toList ++ []) :=
  have hK : kt_at 135 = kt_135 := rfl
  (z_R_run hK (n := 1) (g' := (m, 233, [(2, 0), (0, x1), (0, x2), (0, x3), (0, x4), (0, x5), (0, x6), (0, x7), v8, v9], [(1, z_i2l u), (2, 0)])) rfl).trans (z_R_call hK rfl rfl rfl rfl rfl)
theorem z_rst_236  (m : z_M) (x1 : Int) (x2 : Int) (x3 : Int) (x4 : Int) (x5 : Int) (x6 : Int) (x7 : Int) (v8 : z_V) (v9 : z_V) : z_R 135 (m, 236, [(2, 0), (0, x1), (0, x2), (0, x3), (0, x4), (0, x5), (0, x6), (0, x7), v8, v9], []) = some (m, some (0, x5)) :=
  have hK : kt_at 135 = kt_135 := rfl
  (z_R_run hK (n := 1) (g' := (m, 238, [(2, 0), (0, x1), (0, x2), (0, x3), (0, x4), (0, x5), (0, x6), (0, x7), v8, v9], [(0, x5)])) rfl).trans (z_R_ret hK rfl rfl rfl)
theorem z_gai_0  (m : z_M) (a : Int) (b : Int) (v : Int) (y : Int) (z : Int) (h_y : 0 ≤ y ∧ y ≤ 3) (h_z : 0 ≤ z ∧ z ≤ 1) : z_R 136 (m, 0, [(2, 0), (0, a), (0, b), (0, v), (0, y), (0, z), (9, 0), (9, 0), (9, 0), (9, 0)], []) = if 0 ≤ a ∧ a < 5 then (z_R 121 (m, 0, [(2, 24), (2, 12), (0, m 15 (a).toNat)], [])).bind fun qq => z_R 136 (qq.1, 24, [(2, 0), (0, a), (0, b), (0, v), (0, y), (0, z), (0, m 15 (a).toNat), (9, 0), (9, 0), (9, 0)], qq.2.toList ++ []) else none :=
  have hK : kt_at 136 = kt_136 := rfl
  (z_R_run hK (n := 2) (g' := (m, 4, [(2, 0), (0, a), (0, b), (0, v), (0, y), (0, z), (9, 0), (9, 0), (9, 0), (9, 0)], [(2, 12)])) rfl).trans ((z_R_run hK (n := 1) (g' := (m, 7, [(2, 0), (0, a), (0, b), (0, v), (0, y), (0, z), (9, 0), (9, 0), (9, 0), (9, 0)], [(2, 15)])) rfl).trans ((z_R_run hK (n := 1) (g' := (m, 8, [(2, 0), (0, a), (0, b), (0, v), (0, y), (0, z), (9, 0), (9, 0), (9, 0), (9, 0)], [(0, a), (2, 15)])) rfl).trans (z_R_ixD hK (n := 5) (g' := (m, 9, [(2, 0), (0, a), (0, b), (0, v), (0, y), (0, z), (9, 0), (9, 0), (9, 0), (9, 0)], [(0, m 15 (a).toNat)])) rfl rfl rfl  (fun h1 => (z_R_run hK (n := 3) (g' := (m, 15, [(2, 0), (0, a), (0, b), (0, v), (0, y), (0, z), (0, m 15 (a).toNat), (9, 0), (9, 0), (9, 0)], [(2, 24)])) rfl).trans ((z_R_run hK (n := 2) (g' := (m, 19, [(2, 0), (0, a), (0, b), (0, v), (0, y), (0, z), (0, m 15 (a).toNat), (9, 0), (9, 0), (9, 0)], [(2, 12), (2, 24)])) rfl).trans ((z_R_run hK (n := 1) (g' := (m, 21, [(2, 0), (0, a), (0, b), (0, v), (0, y), (0, z), (0, m 15 (a).toNat), (9, 0), (9, 0), (9, 0)], [(0, m 15 (a).toNat), (2, 12), (2, 24)])) rfl).trans (z_R_call hK rfl rfl rfl rfl rfl)))))))
theorem z_gai_24  (m : z_M) (x1 : Int) (x2 : Int) (x3 : Int) (x4 : Int) (x5 : Int) (x6 : Int) (u : Int) : z_R 136 (m, 24, [(2, 0), (0, x1), (0, x2), (0, x3), (0, x4), (0, x5), (0, x6), (9, 0), (9, 0), (9, 0)], [(0, u)]) = if z_and x4 1 = 0 then (z_R 70 (m, 0, [(2, 24), (0, x1), (0, m 12 7), (9, 0)], [])).bind fun qq => z_R 136 (qq.1, 50, [(2, 0), (0, x1), (0, x2), (0, x3), (0, x4), (0, x5), (0, x6), (0, u), (9, 0), (9, 0)], qq.2.toList ++ [(0, u)]) else if z_and x4 2 = 0 then (z_R 70 (m, 0, [(2, 24), (0, x2), (0, m 12 7), (9, 0)], [])).bind fun qq => z_R 136 (qq.1, 77, [(2, 0), (0, x1), (0, x2), (0, x3), (0, x4), (0, x5), (0, x6), (0, u), (9, 0), (9, 0)], qq.2.toList ++ [(0, u)]) else (z_R 100 (m, 0, [(2, 3), (2, 12), (0, x6), (9, 0), (9, 0)], [])).bind fun qq => z_R 136 (qq.1, 93, [(2, 0), (0, x1), (0, x2), (0, x3), (0, x4), (0, x5), (0, x6), (0, u), (9, 0), (9, 0)], qq.2.toList ++ []) :=
  have hK : kt_at 136 = kt_136 := rfl
  (z_R_run hK (n := 4) (g' := (m, 30, [(2, 0), (0, x1), (0, x2), (0, x3), (0, x4), (0, x5), (0, x6), (0, u), (9, 0), (9, 0)], [(0, z_and x4 1)])) rfl).trans (z_R_ifnd hK (c := z_and x4 1 = 0) (p1 := 53) (p2 := 33) rfl rfl rfl (fun h1 => (z_R_run hK (n := 3) (g' := (m, 57, [(2, 0), (0, x1), (0, x2), (0, x3), (0, x4), (0, x5), (0, x6), (0, u), (9, 0), (9, 0)], [(0, z_and x4 2)])) rfl).trans (z_R_ifnd hK (c := z_and x4 2 = 0) (p1 := 80) (p2 := 60) rfl rfl rfl (fun h2 => (z_R_run hK (n := 2) (g' := (m, 84, [(2, 0), (0, x1), (0, x2), (0, x3), (0, x4), (0, x5), (0, x6), (0, u), (9, 0), (9, 0)], [(2, 3)])) rfl).trans ((z_R_run hK (n := 2) (g' := (m, 88, [(2, 0), (0, x1), (0, x2), (0, x3), (0, x4), (0, x5), (0, x6), (0, u), (9, 0), (9, 0)], [(2, 12), (2, 3)])) rfl).trans ((z_R_run hK (n := 1) (g' := (m, 90, [(2, 0), (0, x1), (0, x2), (0, x3), (0, x4), (0, x5), (0, x6), (0, u), (9, 0), (9, 0)], [(0, x6), (2, 12), (2, 3)])) rfl).trans (z_R_call hK rfl rfl rfl rfl rfl)))) (fun h2 => (z_R_run hK (n := 3) (g' := (m, 66, [(2, 0), (0, x1), (0, x2), (0, x3), (0, x4), (0, x5), (0, x6), (0, u), (9, 0), (9, 0)], [(2, 24), (0, u)])) rfl).trans ((z_R_run hK (n := 3) (g' := (m, 71, [(2, 0), (0, x1), (0, x2), (0, x3), (0, x4), (0, x5), (0, x6), (0, u), (9, 0), (9, 0)], [(2, 12), (0, x2), (2, 24), (0, u)])) rfl).trans ((z_R_run hK (n := 1) (g' := (m, 74, [(2, 0), (0, x1), (0, x2), (0, x3), (0, x4), (0, x5), (0, x6), (0, u), (9, 0), (9, 0)], [(0, m 12 7), (0, x2), (2, 24), (0, u)])) rfl).trans (z_R_call hK rfl rfl rfl rfl rfl)))))) (fun h1 => (z_R_run hK (n := 3) (g' := (m, 39, [(2, 0), (0, x1), (0, x2), (0, x3), (0, x4), (0, x5), (0, x6), (0, u), (9, 0), (9, 0)], [(2, 24), (0, u)])) rfl).trans ((z_R_run hK (n := 3) (g' := (m, 44, [(2, 0), (0, x1), (0, x2), (0, x3), (0, x4), (0, x5), (0, x6), (0, u), (9, 0), (9, 0)], [(2, 12), (0, x1), (2, 24), (0, u)])) rfl).trans ((z_R_run hK (n := 1) (g' := (m, 47, [(2, 0), (0, x1), (0, x2), (0, x3), (0, x4), (0, x5), (0, x6), (0, u), (9, 0), (9, 0)], [(0, m 12 7), (0, x1), (2, 24), (0, u)])) rfl).trans (z_R_call hK rfl rfl rfl rfl rfl)))))
theorem z_gai_50  (m : z_M) (x1 : Int) (x2 : Int) (x3 : Int) (x4 : Int) (x5 : Int) (x6 : Int) (x7 : Int) (s0 : Int) (u : Int) : z_R 136 (m, 50, [(2, 0), (0, x1), (0, x2), (0, x3), (0, x4), (0, x5), (0, x6), (0, x7), (9, 0), (9, 0)], [(0, u), (0, s0)]) = if z_and x4 2 = 0 then (z_R 70 (m, 0, [(2, 24), (0, x2), (0, m 12 7), (9, 0)], [])).bind fun qq => z_R 136 (qq.1, 77, [(2, 0), (0, x1), (0, x2), (0, x3), (0, x4), (0, x5), (0, x6), (0, z_sub s0 u), (9, 0), (9, 0)], qq.2.toList ++ [(0, z_sub s0 u)]) else (z_R 100 (m, 0, [(2, 3), (2, 12), (0, x6), (9, 0), (9, 0)], [])).bind fun qq => z_R 136 (qq.1, 93, [(2, 0), (0, x1), (0, x2), (0, x3), (0, x4), (0, x5), (0, x6), (0, z_sub s0 u), (9, 0), (9, 0)], qq.2.toList ++ []) :=
  have hK : kt_at 136 = kt_136 := rfl
  (z_R_run hK (n := 5) (g' := (m, 57, [(2, 0), (0, x1), (0, x2), (0, x3), (0, x4), (0, x5), (0, x6), (0, z_sub s0 u), (9, 0), (9, 0)], [(0, z_and x4 2)])) rfl).trans (z_R_ifnd hK (c := z_and x4 2 = 0) (p1 := 80) (p2 := 60) rfl rfl rfl (fun h1 => (z_R_run hK (n := 2) (g' := (m, 84, [(2, 0), (0, x1), (0, x2), (0, x3), (0, x4), (0, x5), (0, x6), (0, z_sub s0 u), (9, 0), (9, 0)], [(2, 3)])) rfl).trans ((z_R_run hK (n := 2) (g' := (m, 88, [(2, 0), (0, x1), (0, x2), (0, x3), (0, x4), (0, x5), (0, x6), (0, z_sub s0 u), (9, 0), (9, 0)], [(2, 12), (2, 3)])) rfl).trans ((z_R_run hK (n := 1) (g' := (m, 90, [(2, 0), (0, x1), (0, x2), (0, x3), (0, x4), (0, x5), (0, x6), (0, z_sub s0 u), (9, 0), (9, 0)], [(0, x6), (2, 12), (2, 3)])) rfl).trans (z_R_call hK rfl rfl rfl rfl rfl)))) (fun h1 => (z_R_run hK (n := 3) (g' := (m, 66, [(2, 0), (0, x1), (0, x2), (0, x3), (0, x4), (0, x5), (0, x6), (0, z_sub s0 u), (9, 0), (9, 0)], [(2, 24), (0, z_sub s0 u)])) rfl).trans ((z_R_run hK (n := 3) (g' := (m, 71, [(2, 0), (0, x1), (0, x2), (0, x3), (0, x4), (0, x5), (0, x6), (0, z_sub s0 u), (9, 0), (9, 0)], [(2, 12), (0, x2), (2, 24), (0, z_sub s0 u)])) rfl).trans ((z_R_run hK (n := 1) (g' := (m, 74, [(2, 0), (0, x1), (0, x2), (0, x3), (0, x4), (0, x5), (0, x6), (0, z_sub s0 u), (9, 0), (9, 0)], [(0, m 12 7), (0, x2), (2, 24), (0, z_sub s0 u)])) rfl).trans (z_R_call hK rfl rfl rfl rfl rfl)))))
theorem z_gai_77  (m : z_M) (x1 : Int) (x2 : Int) (x3 : Int) (x4 : Int) (x5 : Int) (x6 : Int) (x7 : Int) (s0 : Int) (u : Int) : z_R 136 (m, 77, [(2, 0), (0, x1), (0, x2), (0, x3), (0, x4), (0, x5), (0, x6), (0, x7), (9, 0), (9, 0)], [(0, u), (0, s0)]) = (z_R 100 (m, 0, [(2, 3), (2, 12), (0, x6), (9, 0), (9, 0)], [])).bind fun qq => z_R 136 (qq.1, 93, [(2, 0), (0, x1), (0, x2), (0, x3), (0, x4), (0, x5), (0, x6), (0, z_sub s0 u), (9, 0), (9, 0)], qq.2.toList ++ []) :=
  have hK : kt_at 136 = kt_136 := rfl
  (z_R_run hK (n := 4) (g' := (m, 84, [(2, 0), (0, x1), (0, x2), (0, x3), (0, x4), (0, x5), (0, x6), (0, z_sub s0 u), (9, 0), (9, 0)], [(2, 3)])) rfl).trans ((z_R_run hK (n := 2) (g' := (m, 88, [(2, 0), (0, x1), (0, x2), (0, x3), (0, x4), (0, x5), (0, x6), (0, z_sub s0 u), (9, 0), (9, 0)], [(2, 12), (2, 3)])) rfl).trans ((z_R_run hK (n := 1) (g' := (m, 90, [(2, 0), (0, x1), (0, x2), (0, x3), (0, x4), (0, x5), (0, x6), (0, z_sub s0 u), (9, 0), (9, 0)], [(0, x6), (2, 12), (2, 3)])) rfl).trans (z_R_call hK rfl rfl rfl rfl rfl)))
theorem z_gai_93  (m : z_M) (x1 : Int) (x2 : Int) (x3 : Int) (x4 : Int) (x5 : Int) (x6 : Int) (x7 : Int) (u : Int) : z_R 136 (m, 93, [(2, 0), (0, x1), (0, x2), (0, x3), (0, x4), (0, x5), (0, x6), (0, x7), (9, 0), (9, 0)], [(0, u)]) = (z_R 101 (m, 0, [(0, u)], [])).bind fun qq => z_R 136 (qq.1, 96, [(2, 0), (0, x1), (0, x2), (0, x3), (0, x4), (0, x5), (0, x6), (0, x7), (9, 0), (9, 0)], qq.2.toList ++ []) :=
  have hK : kt_at 136 = kt_136 := rfl
  z_R_call hK rfl rfl rfl rfl rfl
theorem z_gai_96  (m : z_M) (x1 : Int) (x2 : Int) (x3 : Int) (x4 : Int) (x5 : Int) (x6 : Int) (x7 : Int) (u : Int) : z_R 136 (m, 96, [(2, 0), (0, x1), (0, x2), (0, x3), (0, x4), (0, x5), (0, x6), (0, x7), (9, 0), (9, 0)], [(0, u)]) = (z_R 120 (m, 0, [(2, 24), (2, 12), (0, x6), (0, x7), (0, u)], [])).bind fun qq => z_R 136 (qq.1, 115, [(2, 0), (0, x1), (0, x2), (0, x3), (0, x4), (0, x5), (0, x6), (0, x7), (0, u), (9, 0)], qq.2.toList ++ []) :=
  have hK : kt_at 136 = kt_136 := rfl
  (z_R_run hK (n := 3) (g' := (m, 102, [(2, 0), (0, x1), (0, x2), (0, x3), (0, x4), (0, x5), (0, x6), (0, x7), (0, u), (9, 0)], [(2, 24)])) rfl).trans ((z_R_run hK (n := 2) (g' := (m, 106, [(2, 0), (0, x1), (0, x2), (0, x3), (0, x4), (0, x5), (0, x6), (0, x7), (0, u), (9, 0)], [(2, 12), (2, 24)])) rfl).trans ((z_R_run hK (n := 3) (g' := (m, 112, [(2, 0), (0, x1), (0, x2), (0, x3), (0, x4), (0, x5), (0, x6), (0, x7), (0, u), (9, 0)], [(0, u), (0, x7), (0, x6), (2, 12), (2, 24)])) rfl).trans (z_R_call hK rfl rfl rfl rfl rfl)))
theorem z_gai_115  (m : z_M) (x1 : Int) (x2 : Int) (x3 : Int) (x4 : Int) (x5 : Int) (x6 : Int) (x7 : Int) (x8 : Int) (u : Int) : z_R 136 (m, 115, [(2, 0), (0, x1), (0, x2), (0, x3), (0, x4), (0, x5), (0, x6), (0, x7), (0, x8), (9, 0)], [(0, u)]) = if z_and (z_shr x4 x5) 1 = 0 then some (m, some (0, z_sub 0 u)) else some (m, some (0, z_sub x3 u)) :=
  have hK : kt_at 136 = kt_136 := rfl
  (z_R_run hK (n := 6) (g' := (m, 124, [(2, 0), (0, x1), (0, x2), (0, x3), (0, x4), (0, x5), (0, x6), (0, x7), (0, x8), (0, u)], [(0, z_and (z_shr x4 x5) 1)])) rfl).trans (z_R_ifd hK (c := z_and (z_shr x4 x5) 1 = 0) (p1 := 131) (p2 := 127) rfl rfl rfl (fun h1 => (z_R_run hK (n := 3) (g' := (m, 135, [(2, 0), (0, x1), (0, x2), (0, x3), (0, x4), (0, x5), (0, x6), (0, x7), (0, x8), (0, u)], [(0, z_sub 0 u)])) rfl).trans (z_R_ret hK rfl rfl rfl)) (fun h1 => (z_R_run hK (n := 4) (g' := (m, 135, [(2, 0), (0, x1), (0, x2), (0, x3), (0, x4), (0, x5), (0, x6), (0, x7), (0, x8), (0, u)], [(0, z_sub x3 u)])) rfl).trans (z_R_ret hK rfl rfl rfl)))
theorem z_trs_0  (m : z_M) (a : Int) (b : Int) (v : Int) (h_n : 0 ≤ m 251 3 ∧ m 251 3 ≤ 5) : z_R 251 (m, 0, [(2, 251), (0, a), (0, b), (0, v), (9, 0), (9, 0), (9, 0), (9, 0), (9, 0), (9, 0)], []) = if 0 ≤ a ∧ a < m 251 3 then if 0 ≤ b ∧ b < m 251 3 then if a = b then some (z_up m 251 11 0, some (0, (-1))) else if 0 ≤ v ∧ v ≤ 99 then if m 252 (a + 18).toNat = (-1) then some (z_up m 251 11 0, some (0, (-2))) else if m 252 (b + 18).toNat = m 252 (a + 18).toNat then (z_R 183 (z_up m 251 11 0, 0, [(2, 251), (2, 252), (0, m 252 (a + 18).toNat), (9, 0), (9, 0)], [])).bind fun qq => z_R 251 (qq.1, 82, [(2, 251), (0, a), (0, b), (0, v), (0, m 252 (a + 18).toNat), (9, 0), (9, 0), (9, 0), (9, 0), (9, 0)], qq.2.toList ++ []) else some (z_up m 251 11 0, some (0, (-2))) else some (z_up m 251 11 0, some (0, (-1))) else some (z_up m 251 11 0, some (0, (-1))) else some (z_up m 251 11 0, some (0, (-1))) :=
  have hK : kt_at 251 = kt_251 := rfl
  (z_R_run hK (n := 5) (g' := (z_up m 251 11 0, 7, [(2, 251), (0, a), (0, b), (0, v), (9, 0), (9, 0), (9, 0), (9, 0), (9, 0), (9, 0)], [(0, a), (2, 251)])) rfl).trans (z_R_cif hK rfl rfl rfl rfl rfl (t_ifperson _ _ (zu_k (by decide)) h_n) (fun h1 => (z_R_run hK (n := 3) (g' := (z_up m 251 11 0, 15, [(2, 251), (0, a), (0, b), (0, v), (9, 0), (9, 0), (9, 0), (9, 0), (9, 0), (9, 0)], [(0, b), (2, 251)])) rfl).trans (z_R_cif hK rfl rfl rfl rfl rfl (t_ifperson _ _ (zu_k (by decide)) h_n) (fun h2 => (z_R_run hK (n := 3) (g' := (z_up m 251 11 0, 23, [(2, 251), (0, a), (0, b), (0, v), (9, 0), (9, 0), (9, 0), (9, 0), (9, 0), (9, 0)], [(0, b), (0, a)])) rfl).trans (z_R_ifd hK (c := a = b) (p1 := 36) (p2 := 26) rfl rfl rfl (fun h3 => (z_R_run hK (n := 1) (g' := (z_up m 251 11 0, 37, [(2, 251), (0, a), (0, b), (0, v), (9, 0), (9, 0), (9, 0), (9, 0), (9, 0), (9, 0)], [(0, (-1))])) rfl).trans (z_R_ret hK rfl rfl rfl)) (fun h3 => (z_R_run hK (n := 3) (g' := (z_up m 251 11 0, 30, [(2, 251), (0, a), (0, b), (0, v), (9, 0), (9, 0), (9, 0), (9, 0), (9, 0), (9, 0)], [(0, 99), (0, 0), (0, v)])) rfl).trans (z_R_cif hK rfl rfl rfl rfl rfl (t_ifin _ _ _ _) (fun h4 => (z_R_run hK (n := 3) (g' := (z_up m 251 11 0, 42, [(2, 251), (0, a), (0, b), (0, v), (9, 0), (9, 0), (9, 0), (9, 0), (9, 0), (9, 0)], [(2, 252)])) rfl).trans ((z_R_run hK (n := 3) (g' := (z_up m 251 11 0, 46, [(2, 251), (0, a), (0, b), (0, v), (9, 0), (9, 0), (9, 0), (9, 0), (9, 0), (9, 0)], [(0, z_add 18 a), (2, 252)])) rfl).trans ((congrArg (fun vv => z_R 251 (z_up m 251 11 0, 46, [(2, 251), (0, a), (0, b), (0, v), (9, 0), (9, 0), (9, 0), (9, 0), (9, 0), (9, 0)], [(0, vv), (2, 252)])) ((z_add_eq (by omega) (by omega)).trans (by omega))).trans (z_R_ixT hK (n := 37) (g' := (z_up m 251 11 0, 47, [(2, 251), (0, a), (0, b), (0, v), (9, 0), (9, 0), (9, 0), (9, 0), (9, 0), (9, 0)], [(0, (z_up m 251 11 0) 252 (a + 18).toNat)])) rfl rfl rfl  (show 0 ≤ a + 18 ∧ a + 18 < 37 by omega) ((congrArg (fun vv => z_R 251 (z_up m 251 11 0, 47, [(2, 251), (0, a), (0, b), (0, v), (9, 0), (9, 0), (9, 0), (9, 0), (9, 0), (9, 0)], [(0, vv)])) (zu_p (by decide))).trans ((z_R_run hK (n := 3) (g' := (z_up m 251 11 0, 52, [(2, 251), (0, a), (0, b), (0, v), (0, m 252 (a + 18).toNat), (9, 0), (9, 0), (9, 0), (9, 0), (9, 0)], [(0, (-1)), (0, m 252 (a + 18).toNat)])) rfl).trans (z_R_ifd hK (c := m 252 (a + 18).toNat = (-1)) (p1 := 69) (p2 := 55) rfl rfl rfl (fun h5 => (z_R_run hK (n := 1) (g' := (z_up m 251 11 0, 71, [(2, 251), (0, a), (0, b), (0, v), (0, m 252 (a + 18).toNat), (9, 0), (9, 0), (9, 0), (9, 0), (9, 0)], [(0, (-2))])) rfl).trans (z_R_ret hK rfl rfl rfl)) (fun h5 => (z_R_run hK (n := 2) (g' := (z_up m 251 11 0, 59, [(2, 251), (0, a), (0, b), (0, v), (0, m 252 (a + 18).toNat), (9, 0), (9, 0), (9, 0), (9, 0), (9, 0)], [(2, 252)])) rfl).trans ((z_R_run hK (n := 3) (g' := (z_up m 251 11 0, 63, [(2, 251), (0, a), (0, b), (0, v), (0, m 252 (a + 18).toNat), (9, 0), (9, 0), (9, 0), (9, 0), (9, 0)], [(0, z_add 18 b), (2, 252)])) rfl).trans ((congrArg (fun vv => z_R 251 (z_up m 251 11 0, 63, [(2, 251), (0, a), (0, b), (0, v), (0, m 252 (a + 18).toNat), (9, 0), (9, 0), (9, 0), (9, 0), (9, 0)], [(0, vv), (2, 252)])) ((z_add_eq (by omega) (by omega)).trans (by omega))).trans (z_R_ixT hK (n := 37) (g' := (z_up m 251 11 0, 64, [(2, 251), (0, a), (0, b), (0, v), (0, m 252 (a + 18).toNat), (9, 0), (9, 0), (9, 0), (9, 0), (9, 0)], [(0, (z_up m 251 11 0) 252 (b + 18).toNat)])) rfl rfl rfl  (show 0 ≤ b + 18 ∧ b + 18 < 37 by omega) ((congrArg (fun vv => z_R 251 (z_up m 251 11 0, 64, [(2, 251), (0, a), (0, b), (0, v), (0, m 252 (a + 18).toNat), (9, 0), (9, 0), (9, 0), (9, 0), (9, 0)], [(0, vv)])) (zu_p (by decide))).trans ((z_R_run hK (n := 1) (g' := (z_up m 251 11 0, 66, [(2, 251), (0, a), (0, b), (0, v), (0, m 252 (a + 18).toNat), (9, 0), (9, 0), (9, 0), (9, 0), (9, 0)], [(0, m 252 (a + 18).toNat), (0, m 252 (b + 18).toNat)])) rfl).trans (z_R_ifd hK (c := m 252 (b + 18).toNat = m 252 (a + 18).toNat) (p1 := 72) (p2 := 69) rfl rfl rfl (fun h6 => (z_R_run hK (n := 3) (g' := (z_up m 251 11 0, 77, [(2, 251), (0, a), (0, b), (0, v), (0, m 252 (a + 18).toNat), (9, 0), (9, 0), (9, 0), (9, 0), (9, 0)], [(2, 252), (2, 251)])) rfl).trans ((z_R_run hK (n := 1) (g' := (z_up m 251 11 0, 79, [(2, 251), (0, a), (0, b), (0, v), (0, m 252 (a + 18).toNat), (9, 0), (9, 0), (9, 0), (9, 0), (9, 0)], [(0, m 252 (a + 18).toNat), (2, 252), (2, 251)])) rfl).trans (z_R_call hK rfl rfl rfl rfl rfl))) (fun h6 => (z_R_run hK (n := 1) (g' := (z_up m 251 11 0, 71, [(2, 251), (0, a), (0, b), (0, v), (0, m 252 (a + 18).toNat), (9, 0), (9, 0), (9, 0), (9, 0), (9, 0)], [(0, (-2))])) rfl).trans (z_R_ret hK rfl rfl rfl)))))))))))))))) (fun h4 => (z_R_run hK (n := 2) (g' := (z_up m 251 11 0, 37, [(2, 251), (0, a), (0, b), (0, v), (9, 0), (9, 0), (9, 0), (9, 0), (9, 0), (9, 0)], [(0, (-1))])) rfl).trans (z_R_ret hK rfl rfl rfl)))))) (fun h2 => (z_R_run hK (n := 2) (g' := (z_up m 251 11 0, 37, [(2, 251), (0, a), (0, b), (0, v), (9, 0), (9, 0), (9, 0), (9, 0), (9, 0), (9, 0)], [(0, (-1))])) rfl).trans (z_R_ret hK rfl rfl rfl)))) (fun h1 => (z_R_run hK (n := 2) (g' := (z_up m 251 11 0, 37, [(2, 251), (0, a), (0, b), (0, v), (9, 0), (9, 0), (9, 0), (9, 0), (9, 0), (9, 0)], [(0, (-1))])) rfl).trans (z_R_ret hK rfl rfl rfl)))
theorem z_trs_82  (m : z_M) (x1 : Int) (x2 : Int) (x3 : Int) (x4 : Int) (u : Int) : z_R 251 (m, 82, [(2, 251), (0, x1), (0, x2), (0, x3), (0, x4), (9, 0), (9, 0), (9, 0), (9, 0), (9, 0)], [(0, u)]) = (z_R 184 (m, 0, [(2, 251), (2, 252), (0, x4), (0, u), (9, 0), (9, 0)], [])).bind fun qq => z_R 251 (qq.1, 96, [(2, 251), (0, x1), (0, x2), (0, x3), (0, x4), (0, u), (9, 0), (9, 0), (9, 0), (9, 0)], qq.2.toList ++ []) :=
  have hK : kt_at 251 = kt_251 := rfl
  (z_R_run hK (n := 4) (g' := (m, 89, [(2, 251), (0, x1), (0, x2), (0, x3), (0, x4), (0, u), (9, 0), (9, 0), (9, 0), (9, 0)], [(2, 252), (2, 251)])) rfl).trans ((z_R_run hK (n := 2) (g' := (m, 93, [(2, 251), (0, x1), (0, x2), (0, x3), (0, x4), (0, u), (9, 0), (9, 0), (9, 0), (9, 0)], [(0, u), (0, x4), (2, 252), (2, 251)])) rfl).trans (z_R_call hK rfl rfl rfl rfl rfl))
theorem z_trs_96  (m : z_M) (x1 : Int) (x2 : Int) (x3 : Int) (x4 : Int) (x5 : Int) (u : Int) : z_R 251 (m, 96, [(2, 251), (0, x1), (0, x2), (0, x3), (0, x4), (0, x5), (9, 0), (9, 0), (9, 0), (9, 0)], [(0, u)]) = (z_R 186 (m, 0, [(2, 251), (2, 252), (0, x1)], [])).bind fun qq => z_R 251 (qq.1, 105, [(2, 251), (0, x1), (0, x2), (0, x3), (0, x4), (0, x5), (9, 0), (9, 0), (9, 0), (9, 0)], qq.2.toList ++ [(0, u)]) :=
  have hK : kt_at 251 = kt_251 := rfl
  (z_R_run hK (n := 3) (g' := (m, 101, [(2, 251), (0, x1), (0, x2), (0, x3), (0, x4), (0, x5), (9, 0), (9, 0), (9, 0), (9, 0)], [(2, 252), (2, 251), (0, u)])) rfl).trans ((z_R_run hK (n := 1) (g' := (m, 102, [(2, 251), (0, x1), (0, x2), (0, x3), (0, x4), (0, x5), (9, 0), (9, 0), (9, 0), (9, 0)], [(0, x1), (2, 252), (2, 251), (0, u)])) rfl).trans (z_R_call hK rfl rfl rfl rfl rfl))
theorem z_trs_105  (m : z_M) (x1 : Int) (x2 : Int) (x3 : Int) (x4 : Int) (x5 : Int) (s0 : Int) (u : Int) : z_R 251 (m, 105, [(2, 251), (0, x1), (0, x2), (0, x3), (0, x4), (0, x5), (9, 0), (9, 0), (9, 0), (9, 0)], [(0, u), (0, s0)]) = (z_R 186 (m, 0, [(2, 251), (2, 252), (0, x2)], [])).bind fun qq => z_R 251 (qq.1, 115, [(2, 251), (0, x1), (0, x2), (0, x3), (0, x4), (0, x5), (9, 0), (9, 0), (9, 0), (9, 0)], qq.2.toList ++ [(0, z_sub s0 u)]) :=
  have hK : kt_at 251 = kt_251 := rfl
  (z_R_run hK (n := 4) (g' := (m, 111, [(2, 251), (0, x1), (0, x2), (0, x3), (0, x4), (0, x5), (9, 0), (9, 0), (9, 0), (9, 0)], [(2, 252), (2, 251), (0, z_sub s0 u)])) rfl).trans ((z_R_run hK (n := 1) (g' := (m, 112, [(2, 251), (0, x1), (0, x2), (0, x3), (0, x4), (0, x5), (9, 0), (9, 0), (9, 0), (9, 0)], [(0, x2), (2, 252), (2, 251), (0, z_sub s0 u)])) rfl).trans (z_R_call hK rfl rfl rfl rfl rfl))
theorem z_trs_115  (m : z_M) (x1 : Int) (x2 : Int) (x3 : Int) (x4 : Int) (x5 : Int) (s0 : Int) (u : Int) : z_R 251 (m, 115, [(2, 251), (0, x1), (0, x2), (0, x3), (0, x4), (0, x5), (9, 0), (9, 0), (9, 0), (9, 0)], [(0, u), (0, s0)]) = z_R 251 (m, 121, [(2, 251), (0, x1), (0, x2), (0, x3), (0, x4), (0, x5), (0, z_sub s0 u), (0, 0), (9, 0), (9, 0)], []) :=
  have hK : kt_at 251 = kt_251 := rfl
  (z_R_run hK (n := 4) (g' := (m, 121, [(2, 251), (0, x1), (0, x2), (0, x3), (0, x4), (0, x5), (0, z_sub s0 u), (0, 0), (9, 0), (9, 0)], [])) rfl).trans (rfl)
theorem z_trs_121  (m : z_M) (x1 : Int) (x2 : Int) (x3 : Int) (x4 : Int) (x5 : Int) (x6 : Int) (x7 : Int) (v8 : z_V) (v9 : z_V) : z_R 251 (m, 121, [(2, 251), (0, x1), (0, x2), (0, x3), (0, x4), (0, x5), (0, x6), (0, x7), v8, v9], []) = if 4 ≤ x7 then z_R 251 (m, 262, [(2, 251), (0, x1), (0, x2), (0, x3), (0, x4), (0, x5), (0, x6), (0, 0), (0, 0), v9], []) else (z_R 185 (m, 0, [(0, x7), (0, 0)], [])).bind fun qq => z_R 251 (qq.1, 135, [(2, 251), (0, x1), (0, x2), (0, x3), (0, x4), (0, x5), (0, x6), (0, x7), v8, v9], qq.2.toList ++ [(0, x6)]) :=
  have hK : kt_at 251 = kt_251 := rfl
  (z_R_run hK (n := 2) (g' := (m, 124, [(2, 251), (0, x1), (0, x2), (0, x3), (0, x4), (0, x5), (0, x6), (0, x7), v8, v9], [(0, 4), (0, x7)])) rfl).trans (z_R_ifd hK (c := 4 ≤ x7) (p1 := 256) (p2 := 127) rfl rfl rfl (fun h1 => (z_R_run hK (n := 4) (g' := (m, 262, [(2, 251), (0, x1), (0, x2), (0, x3), (0, x4), (0, x5), (0, x6), (0, 0), (0, 0), v9], [])) rfl).trans (rfl)) (fun h1 => (z_R_run hK (n := 3) (g' := (m, 132, [(2, 251), (0, x1), (0, x2), (0, x3), (0, x4), (0, x5), (0, x6), (0, x7), v8, v9], [(0, 0), (0, x7), (0, x6)])) rfl).trans (z_R_call hK rfl rfl rfl rfl rfl)))
theorem z_trs_135  (m : z_M) (x1 : Int) (x2 : Int) (x3 : Int) (x4 : Int) (x5 : Int) (x6 : Int) (x7 : Int) (v8 : z_V) (v9 : z_V) (s0 : Int) (u : Int) : z_R 251 (m, 135, [(2, 251), (0, x1), (0, x2), (0, x3), (0, x4), (0, x5), (0, x6), (0, x7), v8, v9], [(0, u), (0, s0)]) = if u = 0 then (z_R 185 (m, 0, [(0, x7), (0, 1)], [])).bind fun qq => z_R 251 (qq.1, 158, [(2, 251), (0, x1), (0, x2), (0, x3), (0, x4), (0, x5), (0, x6), (0, x7), v8, v9], qq.2.toList ++ [(0, z_add s0 0)]) else (z_R 186 (m, 0, [(2, 251), (2, 252), (0, x1)], [])).bind fun qq => z_R 251 (qq.1, 147, [(2, 251), (0, x1), (0, x2), (0, x3), (0, x4), (0, x5), (0, x6), (0, x7), v8, v9], qq.2.toList ++ [(0, s0)]) :=
  have hK : kt_at 251 = kt_251 := rfl
  z_R_ifd hK (c := u = 0) (p1 := 150) (p2 := 138) rfl rfl rfl (fun h1 => (z_R_run hK (n := 4) (g' := (m, 155, [(2, 251), (0, x1), (0, x2), (0, x3), (0, x4), (0, x5), (0, x6), (0, x7), v8, v9], [(0, 1), (0, x7), (0, z_add s0 0)])) rfl).trans (z_R_call hK rfl rfl rfl rfl rfl)) (fun h1 => (z_R_run hK (n := 3) (g' := (m, 143, [(2, 251), (0, x1), (0, x2), (0, x3), (0, x4), (0, x5), (0, x6), (0, x7), v8, v9], [(2, 252), (2, 251), (0, s0)])) rfl).trans ((z_R_run hK (n := 1) (g' := (m, 144, [(2, 251), (0, x1), (0, x2), (0, x3), (0, x4), (0, x5), (0, x6), (0, x7), v8, v9], [(0, x1), (2, 252), (2, 251), (0, s0)])) rfl).trans (z_R_call hK rfl rfl rfl rfl rfl)))
theorem z_trs_147  (m : z_M) (x1 : Int) (x2 : Int) (x3 : Int) (x4 : Int) (x5 : Int) (x6 : Int) (x7 : Int) (v8 : z_V) (v9 : z_V) (s0 : Int) (u : Int) : z_R 251 (m, 147, [(2, 251), (0, x1), (0, x2), (0, x3), (0, x4), (0, x5), (0, x6), (0, x7), v8, v9], [(0, u), (0, s0)]) = (z_R 185 (m, 0, [(0, x7), (0, 1)], [])).bind fun qq => z_R 251 (qq.1, 158, [(2, 251), (0, x1), (0, x2), (0, x3), (0, x4), (0, x5), (0, x6), (0, x7), v8, v9], qq.2.toList ++ [(0, z_add s0 u)]) :=
  have hK : kt_at 251 = kt_251 := rfl
  (z_R_run hK (n := 4) (g' := (m, 155, [(2, 251), (0, x1), (0, x2), (0, x3), (0, x4), (0, x5), (0, x6), (0, x7), v8, v9], [(0, 1), (0, x7), (0, z_add s0 u)])) rfl).trans (z_R_call hK rfl rfl rfl rfl rfl)
theorem z_trs_158  (m : z_M) (x1 : Int) (x2 : Int) (x3 : Int) (x4 : Int) (x5 : Int) (x6 : Int) (x7 : Int) (v8 : z_V) (v9 : z_V) (s0 : Int) (u : Int) : z_R 251 (m, 158, [(2, 251), (0, x1), (0, x2), (0, x3), (0, x4), (0, x5), (0, x6), (0, x7), v8, v9], [(0, u), (0, s0)]) = if u = 0 then (z_R 101 (m, 0, [(0, x5)], [])).bind fun qq => z_R 251 (qq.1, 191, [(2, 251), (0, x1), (0, x2), (0, x3), (0, x4), (0, x5), (0, x6), (0, x7), (0, z_add s0 0), v9], qq.2.toList ++ [(0, z_add s0 0), (0, x4), (2, 252), (2, 251)]) else (z_R 186 (m, 0, [(2, 251), (2, 252), (0, x2)], [])).bind fun qq => z_R 251 (qq.1, 170, [(2, 251), (0, x1), (0, x2), (0, x3), (0, x4), (0, x5), (0, x6), (0, x7), v8, v9], qq.2.toList ++ [(0, s0)]) :=
  have hK : kt_at 251 = kt_251 := rfl
  z_R_ifd hK (c := u = 0) (p1 := 173) (p2 := 161) rfl rfl rfl (fun h1 => (z_R_run hK (n := 6) (g' := (m, 182, [(2, 251), (0, x1), (0, x2), (0, x3), (0, x4), (0, x5), (0, x6), (0, x7), (0, z_add s0 0), v9], [(2, 252), (2, 251)])) rfl).trans ((z_R_run hK (n := 3) (g' := (m, 188, [(2, 251), (0, x1), (0, x2), (0, x3), (0, x4), (0, x5), (0, x6), (0, x7), (0, z_add s0 0), v9], [(0, x5), (0, z_add s0 0), (0, x4), (2, 252), (2, 251)])) rfl).trans (z_R_call hK rfl rfl rfl rfl rfl))) (fun h1 => (z_R_run hK (n := 3) (g' := (m, 166, [(2, 251), (0, x1), (0, x2), (0, x3), (0, x4), (0, x5), (0, x6), (0, x7), v8, v9], [(2, 252), (2, 251), (0, s0)])) rfl).trans ((z_R_run hK (n := 1) (g' := (m, 167, [(2, 251), (0, x1), (0, x2), (0, x3), (0, x4), (0, x5), (0, x6), (0, x7), v8, v9], [(0, x2), (2, 252), (2, 251), (0, s0)])) rfl).trans (z_R_call hK rfl rfl rfl rfl rfl)))
theorem z_trs_170  (m : z_M) (x1 : Int) (x2 : Int) (x3 : Int) (x4 : Int) (x5 : Int) (x6 : Int) (x7 : Int) (v8 : z_V) (v9 : z_V) (s0 : Int) (u : Int) : z_R 251 (m, 170, [(2, 251), (0, x1), (0, x2), (0, x3), (0, x4), (0, x5), (0, x6), (0, x7), v8, v9], [(0, u), (0, s0)]) = (z_R 101 (m, 0, [(0, x5)], [])).bind fun qq => z_R 251 (qq.1, 191, [(2, 251), (0, x1), (0, x2), (0, x3), (0, x4), (0, x5), (0, x6), (0, x7), (0, z_add s0 u), v9], qq.2.toList ++ [(0, z_add s0 u), (0, x4), (2, 252), (2, 251)]) :=
  have hK : kt_at 251 = kt_251 := rfl
  (z_R_run hK (n := 6) (g' := (m, 182, [(2, 251), (0, x1), (0, x2), (0, x3), (0, x4), (0, x5), (0, x6), (0, x7), (0, z_add s0 u), v9], [(2, 252), (2, 251)])) rfl).trans ((z_R_run hK (n := 3) (g' := (m, 188, [(2, 251), (0, x1), (0, x2), (0, x3), (0, x4), (0, x5), (0, x6), (0, x7), (0, z_add s0 u), v9], [(0, x5), (0, z_add s0 u), (0, x4), (2, 252), (2, 251)])) rfl).trans (z_R_call hK rfl rfl rfl rfl rfl))
theorem z_trs_191  (m : z_M) (x1 : Int) (x2 : Int) (x3 : Int) (x4 : Int) (x5 : Int) (x6 : Int) (x7 : Int) (x8 : Int) (v9 : z_V) (s0 : Int) (s1 : Int) (u : Int) : z_R 251 (m, 191, [(2, 251), (0, x1), (0, x2), (0, x3), (0, x4), (0, x5), (0, x6), (0, x7), (0, x8), v9], [(0, u), (0, s0), (0, s1), (2, 252), (2, 251)]) = (z_R 189 (m, 0, [(2, 251), (2, 252), (0, s1), (0, s0), (0, u), (9, 0)], [])).bind fun qq => z_R 251 (qq.1, 194, [(2, 251), (0, x1), (0, x2), (0, x3), (0, x4), (0, x5), (0, x6), (0, x7), (0, x8), v9], qq.2.toList ++ []) :=
  have hK : kt_at 251 = kt_251 := rfl
  z_R_call hK rfl rfl rfl rfl rfl
theorem z_trs_194  (m : z_M) (x1 : Int) (x2 : Int) (x3 : Int) (x4 : Int) (x5 : Int) (x6 : Int) (x7 : Int) (x8 : Int) (v9 : z_V) (u : Int) : z_R 251 (m, 194, [(2, 251), (0, x1), (0, x2), (0, x3), (0, x4), (0, x5), (0, x6), (0, x7), (0, x8), v9], [(0, u)]) = (z_R 185 (m, 0, [(0, x7), (0, 0)], [])).bind fun qq => z_R 251 (qq.1, 210, [(2, 251), (0, x1), (0, x2), (0, x3), (0, x4), (0, x5), (0, x6), (0, x7), (0, x8), (0, u)], qq.2.toList ++ [(0, z_mul 2 x7), (2, 273)]) :=
  have hK : kt_at 251 = kt_251 := rfl
  (z_R_run hK (n := 3) (g' := (m, 200, [(2, 251), (0, x1), (0, x2), (0, x3), (0, x4), (0, x5), (0, x6), (0, x7), (0, x8), (0, u)], [(2, 273)])) rfl).trans ((z_R_run hK (n := 5) (g' := (m, 207, [(2, 251), (0, x1), (0, x2), (0, x3), (0, x4), (0, x5), (0, x6), (0, x7), (0, x8), (0, u)], [(0, 0), (0, x7), (0, z_mul 2 x7), (2, 273)])) rfl).trans (z_R_call hK rfl rfl rfl rfl rfl))
theorem z_trs_210  (m : z_M) (x1 : Int) (x2 : Int) (x3 : Int) (x4 : Int) (x5 : Int) (x6 : Int) (x7 : Int) (x8 : Int) (x9 : Int) (s0 : Int) (u : Int) : z_R 251 (m, 210, [(2, 251), (0, x1), (0, x2), (0, x3), (0, x4), (0, x5), (0, x6), (0, x7), (0, x8), (0, x9)], [(0, u), (0, s0), (2, 273)]) = if u = 0 then if 0 ≤ s0 ∧ s0 < 8 then (z_R 185 (z_up m 273 (s0).toNat (z_sub 0 x9), 0, [(0, x7), (0, 1)], [])).bind fun qq => z_R 251 (qq.1, 238, [(2, 251), (0, x1), (0, x2), (0, x3), (0, x4), (0, x5), (0, x6), (0, x7), (0, x8), (0, x9)], qq.2.toList ++ [(0, z_add (z_mul 2 x7) 1), (2, 273)]) else none else if 0 ≤ s0 ∧ s0 < 8 then (z_R 185 (z_up m 273 (s0).toNat (z_sub x3 x9), 0, [(0, x7), (0, 1)], [])).bind fun qq => z_R 251 (qq.1, 238, [(2, 251), (0, x1), (0, x2), (0, x3), (0, x4), (0, x5), (0, x6), (0, x7), (0, x8), (0, x9)], qq.2.toList ++ [(0, z_add (z_mul 2 x7) 1), (2, 273)]) else none :=
  have hK : kt_at 251 = kt_251 := rfl
  z_R_ifd hK (c := u = 0) (p1 := 217) (p2 := 213) rfl rfl rfl (fun h1 => (z_R_run hK (n := 3) (g' := (m, 221, [(2, 251), (0, x1), (0, x2), (0, x3), (0, x4), (0, x5), (0, x6), (0, x7), (0, x8), (0, x9)], [(0, z_sub 0 x9), (0, s0), (2, 273)])) rfl).trans (z_R_ixD hK (n := 8) (g' := (z_up m 273 (s0).toNat (z_sub 0 x9), 222, [(2, 251), (0, x1), (0, x2), (0, x3), (0, x4), (0, x5), (0, x6), (0, x7), (0, x8), (0, x9)], [])) rfl rfl rfl (fun h2 => (z_R_run hK (n := 2) (g' := (z_up m 273 (s0).toNat (z_sub 0 x9), 226, [(2, 251), (0, x1), (0, x2), (0, x3), (0, x4), (0, x5), (0, x6), (0, x7), (0, x8), (0, x9)], [(2, 273)])) rfl).trans ((z_R_run hK (n := 7) (g' := (z_up m 273 (s0).toNat (z_sub 0 x9), 235, [(2, 251), (0, x1), (0, x2), (0, x3), (0, x4), (0, x5), (0, x6), (0, x7), (0, x8), (0, x9)], [(0, 1), (0, x7), (0, z_add (z_mul 2 x7) 1), (2, 273)])) rfl).trans (z_R_call hK rfl rfl rfl rfl rfl))))) (fun h1 => (z_R_run hK (n := 4) (g' := (m, 221, [(2, 251), (0, x1), (0, x2), (0, x3), (0, x4), (0, x5), (0, x6), (0, x7), (0, x8), (0, x9)], [(0, z_sub x3 x9), (0, s0), (2, 273)])) rfl).trans (z_R_ixD hK (n := 8) (g' := (z_up m 273 (s0).toNat (z_sub x3 x9), 222, [(2, 251), (0, x1), (0, x2), (0, x3), (0, x4), (0, x5), (0, x6), (0, x7), (0, x8), (0, x9)], [])) rfl rfl rfl (fun h3 => (z_R_run hK (n := 2) (g' := (z_up m 273 (s0).toNat (z_sub x3 x9), 226, [(2, 251), (0, x1), (0, x2), (0, x3), (0, x4), (0, x5), (0, x6), (0, x7), (0, x8), (0, x9)], [(2, 273)])) rfl).trans ((z_R_run hK (n := 7) (g' := (z_up m 273 (s0).toNat (z_sub x3 x9), 235, [(2, 251), (0, x1), (0, x2), (0, x3), (0, x4), (0, x5), (0, x6), (0, x7), (0, x8), (0, x9)], [(0, 1), (0, x7), (0, z_add (z_mul 2 x7) 1), (2, 273)])) rfl).trans (z_R_call hK rfl rfl rfl rfl rfl)))))
theorem z_trs_238  (m : z_M) (x1 : Int) (x2 : Int) (x3 : Int) (x4 : Int) (x5 : Int) (x6 : Int) (x7 : Int) (x8 : Int) (x9 : Int) (s0 : Int) (u : Int) : z_R 251 (m, 238, [(2, 251), (0, x1), (0, x2), (0, x3), (0, x4), (0, x5), (0, x6), (0, x7), (0, x8), (0, x9)], [(0, u), (0, s0), (2, 273)]) = if u = 0 then if 0 ≤ s0 ∧ s0 < 8 then z_R 251 (z_up m 273 (s0).toNat (z_sub 0 x9), 121, [(2, 251), (0, x1), (0, x2), (0, x3), (0, x4), (0, x5), (0, x6), (0, z_add x7 1), (0, x8), (0, x9)], []) else none else if 0 ≤ s0 ∧ s0 < 8 then z_R 251 (z_up m 273 (s0).toNat (z_sub x3 x9), 121, [(2, 251), (0, x1), (0, x2), (0, x3), (0, x4), (0, x5), (0, x6), (0, z_add x7 1), (0, x8), (0, x9)], []) else none :=
  have hK : kt_at 251 = kt_251 := rfl
  z_R_ifd hK (c := u = 0) (p1 := 245) (p2 := 241) rfl rfl rfl (fun h1 => (z_R_run hK (n := 3) (g' := (m, 249, [(2, 251), (0, x1), (0, x2), (0, x3), (0, x4), (0, x5), (0, x6), (0, x7), (0, x8), (0, x9)], [(0, z_sub 0 x9), (0, s0), (2, 273)])) rfl).trans (z_R_ixD hK (n := 8) (g' := (z_up m 273 (s0).toNat (z_sub 0 x9), 250, [(2, 251), (0, x1), (0, x2), (0, x3), (0, x4), (0, x5), (0, x6), (0, x7), (0, x8), (0, x9)], [])) rfl rfl rfl (fun h2 => (z_R_run hK (n := 2) (g' := (z_up m 273 (s0).toNat (z_sub 0 x9), 121, [(2, 251), (0, x1), (0, x2), (0, x3), (0, x4), (0, x5), (0, x6), (0, z_add x7 1), (0, x8), (0, x9)], [])) rfl).trans (rfl)))) (fun h1 => (z_R_run hK (n := 4) (g' := (m, 249, [(2, 251), (0, x1), (0, x2), (0, x3), (0, x4), (0, x5), (0, x6), (0, x7), (0, x8), (0, x9)], [(0, z_sub x3 x9), (0, s0), (2, 273)])) rfl).trans (z_R_ixD hK (n := 8) (g' := (z_up m 273 (s0).toNat (z_sub x3 x9), 250, [(2, 251), (0, x1), (0, x2), (0, x3), (0, x4), (0, x5), (0, x6), (0, x7), (0, x8), (0, x9)], [])) rfl rfl rfl (fun h3 => (z_R_run hK (n := 2) (g' := (z_up m 273 (s0).toNat (z_sub x3 x9), 121, [(2, 251), (0, x1), (0, x2), (0, x3), (0, x4), (0, x5), (0, x6), (0, z_add x7 1), (0, x8), (0, x9)], [])) rfl).trans (rfl))))
theorem z_trs_262  (m : z_M) (x1 : Int) (x2 : Int) (x3 : Int) (x4 : Int) (x5 : Int) (x6 : Int) (x7 : Int) (x8 : Int) (v9 : z_V) : z_R 251 (m, 262, [(2, 251), (0, x1), (0, x2), (0, x3), (0, x4), (0, x5), (0, x6), (0, x7), (0, x8), v9], []) = if 4 ≤ x8 then if x7 = 0 then some (z_up m 251 10 0, some (0, x7)) else (z_R 224 (z_up m 251 10 0, 0, [(0, x7), (9, 0)], [])).bind fun qq => z_R 251 (qq.1, 348, [(2, 251), (0, x1), (0, x2), (0, x3), (0, x4), (0, x5), (0, x6), (0, x7), (0, x8), v9], qq.2.toList ++ []) else if 0 ≤ z_mul 2 (z_xor x8 1) ∧ z_mul 2 (z_xor x8 1) < 8 then if 0 ≤ z_mul 2 x8 ∧ z_mul 2 x8 < 8 then if m 273 (z_mul 2 x8).toNat < m 273 (z_mul 2 (z_xor x8 1)).toNat then z_R 251 (m, 262, [(2, 251), (0, x1), (0, x2), (0, x3), (0, x4), (0, x5), (0, x6), (0, x7), (0, z_add x8 1), v9], []) else if 0 ≤ z_add (z_mul 2 (z_xor x8 2)) 1 ∧ z_add (z_mul 2 (z_xor x8 2)) 1 < 8 then if 0 ≤ (z_mul 2 x8) + 1 ∧ (z_mul 2 x8) + 1 < 8 then if m 273 ((z_mul 2 x8) + 1).toNat < m 273 (z_add (z_mul 2 (z_xor x8 2)) 1).toNat then z_R 251 (m, 262, [(2, 251), (0, x1), (0, x2), (0, x3), (0, x4), (0, x5), (0, x6), (0, x7), (0, z_add x8 1), v9], []) else z_R 251 (m, 262, [(2, 251), (0, x1), (0, x2), (0, x3), (0, x4), (0, x5), (0, x6), (0, z_or x7 (z_shl 1 x8)), (0, z_add x8 1), v9], []) else none else none else none else none :=
  have hK : kt_at 251 = kt_251 := rfl
  (z_R_run hK (n := 2) (g' := (m, 265, [(2, 251), (0, x1), (0, x2), (0, x3), (0, x4), (0, x5), (0, x6), (0, x7), (0, x8), v9], [(0, 4), (0, x8)])) rfl).trans (z_R_ifd hK (c := 4 ≤ x8) (p1 := 333) (p2 := 268) rfl rfl rfl (fun h1 => (z_R_run hK (n := 4) (g' := (z_up m 251 10 0, 340, [(2, 251), (0, x1), (0, x2), (0, x3), (0, x4), (0, x5), (0, x6), (0, x7), (0, x8), v9], [(0, x7)])) rfl).trans (z_R_ifd hK (c := x7 = 0) (p1 := 380) (p2 := 343) rfl rfl rfl (fun h2 => (z_R_run hK (n := 1) (g' := (z_up m 251 10 0, 382, [(2, 251), (0, x1), (0, x2), (0, x3), (0, x4), (0, x5), (0, x6), (0, x7), (0, x8), v9], [(0, x7)])) rfl).trans (z_R_ret hK rfl rfl rfl)) (fun h2 => (z_R_run hK (n := 1) (g' := (z_up m 251 10 0, 345, [(2, 251), (0, x1), (0, x2), (0, x3), (0, x4), (0, x5), (0, x6), (0, x7), (0, x8), v9], [(0, x7)])) rfl).trans (z_R_call hK rfl rfl rfl rfl rfl)))) (fun h1 => (z_R_run hK (n := 2) (g' := (m, 272, [(2, 251), (0, x1), (0, x2), (0, x3), (0, x4), (0, x5), (0, x6), (0, x7), (0, x8), v9], [(2, 273)])) rfl).trans ((z_R_run hK (n := 5) (g' := (m, 278, [(2, 251), (0, x1), (0, x2), (0, x3), (0, x4), (0, x5), (0, x6), (0, x7), (0, x8), v9], [(0, z_mul 2 (z_xor x8 1)), (2, 273)])) rfl).trans (z_R_ixD hK (n := 8) (g' := (m, 279, [(2, 251), (0, x1), (0, x2), (0, x3), (0, x4), (0, x5), (0, x6), (0, x7), (0, x8), v9], [(0, m 273 (z_mul 2 (z_xor x8 1)).toNat)])) rfl rfl rfl  (fun h3 => (z_R_run hK (n := 2) (g' := (m, 283, [(2, 251), (0, x1), (0, x2), (0, x3), (0, x4), (0, x5), (0, x6), (0, x7), (0, x8), v9], [(2, 273), (0, m 273 (z_mul 2 (z_xor x8 1)).toNat)])) rfl).trans ((z_R_run hK (n := 3) (g' := (m, 287, [(2, 251), (0, x1), (0, x2), (0, x3), (0, x4), (0, x5), (0, x6), (0, x7), (0, x8), v9], [(0, z_mul 2 x8), (2, 273), (0, m 273 (z_mul 2 (z_xor x8 1)).toNat)])) rfl).trans (z_R_ixD hK (n := 8) (g' := (m, 288, [(2, 251), (0, x1), (0, x2), (0, x3), (0, x4), (0, x5), (0, x6), (0, x7), (0, x8), v9], [(0, m 273 (z_mul 2 x8).toNat), (0, m 273 (z_mul 2 (z_xor x8 1)).toNat)])) rfl rfl rfl  (fun h4 => z_R_ifd hK (c := m 273 (z_mul 2 x8).toNat < m 273 (z_mul 2 (z_xor x8 1)).toNat) (p1 := 327) (p2 := 291) rfl rfl rfl (fun h5 => (z_R_run hK (n := 2) (g' := (m, 262, [(2, 251), (0, x1), (0, x2), (0, x3), (0, x4), (0, x5), (0, x6), (0, x7), (0, z_add x8 1), v9], [])) rfl).trans (rfl)) (fun h5 => (z_R_run hK (n := 2) (g' := (m, 295, [(2, 251), (0, x1), (0, x2), (0, x3), (0, x4), (0, x5), (0, x6), (0, x7), (0, x8), v9], [(2, 273)])) rfl).trans ((z_R_run hK (n := 7) (g' := (m, 303, [(2, 251), (0, x1), (0, x2), (0, x3), (0, x4), (0, x5), (0, x6), (0, x7), (0, x8), v9], [(0, z_add (z_mul 2 (z_xor x8 2)) 1), (2, 273)])) rfl).trans (z_R_ixD hK (n := 8) (g' := (m, 304, [(2, 251), (0, x1), (0, x2), (0, x3), (0, x4), (0, x5), (0, x6), (0, x7), (0, x8), v9], [(0, m 273 (z_add (z_mul 2 (z_xor x8 2)) 1).toNat)])) rfl rfl rfl  (fun h6 => (z_R_run hK (n := 2) (g' := (m, 308, [(2, 251), (0, x1), (0, x2), (0, x3), (0, x4), (0, x5), (0, x6), (0, x7), (0, x8), v9], [(2, 273), (0, m 273 (z_add (z_mul 2 (z_xor x8 2)) 1).toNat)])) rfl).trans ((z_R_run hK (n := 5) (g' := (m, 314, [(2, 251), (0, x1), (0, x2), (0, x3), (0, x4), (0, x5), (0, x6), (0, x7), (0, x8), v9], [(0, z_add (z_mul 2 x8) 1), (2, 273), (0, m 273 (z_add (z_mul 2 (z_xor x8 2)) 1).toNat)])) rfl).trans ((congrArg (fun vv => z_R 251 (m, 314, [(2, 251), (0, x1), (0, x2), (0, x3), (0, x4), (0, x5), (0, x6), (0, x7), (0, x8), v9], [(0, vv), (2, 273), (0, m 273 (z_add (z_mul 2 (z_xor x8 2)) 1).toNat)])) ((z_add_eq (by omega) (by omega)).trans (by omega))).trans (z_R_ixD hK (n := 8) (g' := (m, 315, [(2, 251), (0, x1), (0, x2), (0, x3), (0, x4), (0, x5), (0, x6), (0, x7), (0, x8), v9], [(0, m 273 ((z_mul 2 x8) + 1).toNat), (0, m 273 (z_add (z_mul 2 (z_xor x8 2)) 1).toNat)])) rfl rfl rfl  (fun h7 => z_R_ifd hK (c := m 273 ((z_mul 2 x8) + 1).toNat < m 273 (z_add (z_mul 2 (z_xor x8 2)) 1).toNat) (p1 := 327) (p2 := 318) rfl rfl rfl (fun h8 => (z_R_run hK (n := 2) (g' := (m, 262, [(2, 251), (0, x1), (0, x2), (0, x3), (0, x4), (0, x5), (0, x6), (0, x7), (0, z_add x8 1), v9], [])) rfl).trans (rfl)) (fun h8 => (z_R_run hK (n := 8) (g' := (m, 262, [(2, 251), (0, x1), (0, x2), (0, x3), (0, x4), (0, x5), (0, x6), (0, z_or x7 (z_shl 1 x8)), (0, z_add x8 1), v9], [])) rfl).trans (rfl))))))))))))))))))
theorem z_trs_348  (m : z_M) (x1 : Int) (x2 : Int) (x3 : Int) (x4 : Int) (x5 : Int) (x6 : Int) (x7 : Int) (x8 : Int) (v9 : z_V) (u : Int) : z_R 251 (m, 348, [(2, 251), (0, x1), (0, x2), (0, x3), (0, x4), (0, x5), (0, x6), (0, x7), (0, x8), v9], [(0, u)]) = if 0 ≤ z_mul 2 u ∧ z_mul 2 u < 8 then (z_R 210 (m, 0, [(2, 251), (1, z_i2l (m 273 (z_mul 2 u).toNat)), (9, 0)], [])).bind fun qq => z_R 251 (qq.1, 364, [(2, 251), (0, x1), (0, x2), (0, x3), (0, x4), (0, x5), (0, x6), (0, x7), (0, u), v9], qq.2.toList ++ []) else none :=
  have hK : kt_at 251 = kt_251 := rfl
  (z_R_run hK (n := 4) (g' := (m, 355, [(2, 251), (0, x1), (0, x2), (0, x3), (0, x4), (0, x5), (0, x6), (0, x7), (0, u), v9], [(2, 273), (2, 251)])) rfl).trans ((z_R_run hK (n := 3) (g' := (m, 359, [(2, 251), (0, x1), (0, x2), (0, x3), (0, x4), (0, x5), (0, x6), (0, x7), (0, u), v9], [(0, z_mul 2 u), (2, 273), (2, 251)])) rfl).trans (z_R_ixD hK (n := 8) (g' := (m, 360, [(2, 251), (0, x1), (0, x2), (0, x3), (0, x4), (0, x5), (0, x6), (0, x7), (0, u), v9], [(0, m 273 (z_mul 2 u).toNat), (2, 251)])) rfl rfl rfl  (fun h1 => (z_R_run hK (n := 1) (g' := (m, 361, [(2, 251), (0, x1), (0, x2), (0, x3), (0, x4), (0, x5), (0, x6), (0, x7), (0, u), v9], [(1, z_i2l (m 273 (z_mul 2 u).toNat)), (2, 251)])) rfl).trans (z_R_call hK rfl rfl rfl rfl rfl))))
theorem z_trs_364  (m : z_M) (x1 : Int) (x2 : Int) (x3 : Int) (x4 : Int) (x5 : Int) (x6 : Int) (x7 : Int) (x8 : Int) (v9 : z_V) : z_R 251 (m, 364, [(2, 251), (0, x1), (0, x2), (0, x3), (0, x4), (0, x5), (0, x6), (0, x7), (0, x8), v9], []) = if 0 ≤ z_add (z_mul 2 x8) 1 ∧ z_add (z_mul 2 x8) 1 < 8 then (z_R 210 (m, 0, [(2, 251), (1, z_i2l (m 273 (z_add (z_mul 2 x8) 1).toNat)), (9, 0)], [])).bind fun qq => z_R 251 (qq.1, 380, [(2, 251), (0, x1), (0, x2), (0, x3), (0, x4), (0, x5), (0, x6), (0, x7), (0, x8), v9], qq.2.toList ++ []) else none :=
  have hK : kt_at 251 = kt_251 := rfl
  (z_R_run hK (n := 3) (g' := (m, 369, [(2, 251), (0, x1), (0, x2), (0, x3), (0, x4), (0, x5), (0, x6), (0, x7), (0, x8), v9], [(2, 273), (2, 251)])) rfl).trans ((z_R_run hK (n := 5) (g' := (m, 375, [(2, 251), (0, x1), (0, x2), (0, x3), (0, x4), (0, x5), (0, x6), (0, x7), (0, x8), v9], [(0, z_add (z_mul 2 x8) 1), (2, 273), (2, 251)])) rfl).trans (z_R_ixD hK (n := 8) (g' := (m, 376, [(2, 251), (0, x1), (0, x2), (0, x3), (0, x4), (0, x5), (0, x6), (0, x7), (0, x8), v9], [(0, m 273 (z_add (z_mul 2 x8) 1).toNat), (2, 251)])) rfl rfl rfl  (fun h1 => (z_R_run hK (n := 1) (g' := (m, 377, [(2, 251), (0, x1), (0, x2), (0, x3), (0, x4), (0, x5), (0, x6), (0, x7), (0, x8), v9], [(1, z_i2l (m 273 (z_add (z_mul 2 x8) 1).toNat)), (2, 251)])) rfl).trans (z_R_call hK rfl rfl rfl rfl rfl))))
theorem z_trs_380  (m : z_M) (x1 : Int) (x2 : Int) (x3 : Int) (x4 : Int) (x5 : Int) (x6 : Int) (x7 : Int) (x8 : Int) (v9 : z_V) : z_R 251 (m, 380, [(2, 251), (0, x1), (0, x2), (0, x3), (0, x4), (0, x5), (0, x6), (0, x7), (0, x8), v9], []) = some (m, some (0, x7)) :=
  have hK : kt_at 251 = kt_251 := rfl
  (z_R_run hK (n := 1) (g' := (m, 382, [(2, 251), (0, x1), (0, x2), (0, x3), (0, x4), (0, x5), (0, x6), (0, x7), (0, x8), v9], [(0, x7)])) rfl).trans (z_R_ret hK rfl rfl rfl)
theorem z_win_0  (m : z_M) (r : Int) : z_R 121 (m, 0, [(2, 24), (2, 12), (0, r)], []) = (z_R 100 (m, 0, [(2, 3), (2, 12), (0, r), (9, 0), (9, 0)], [])).bind fun qq => z_R 121 (qq.1, 12, [(2, 24), (2, 12), (0, r)], qq.2.toList ++ [(0, r), (2, 12), (2, 24)]) :=
  have hK : kt_at 121 = kt_121 := rfl
  (z_R_run hK (n := 5) (g' := (m, 7, [(2, 24), (2, 12), (0, r)], [(2, 3), (0, r), (2, 12), (2, 24)])) rfl).trans ((z_R_run hK (n := 2) (g' := (m, 9, [(2, 24), (2, 12), (0, r)], [(0, r), (2, 12), (2, 3), (0, r), (2, 12), (2, 24)])) rfl).trans (z_R_call hK rfl rfl rfl rfl rfl))
theorem z_win_12  (m : z_M) (x2 : Int) (s0 : Int) (u : Int) : z_R 121 (m, 12, [(2, 24), (2, 12), (0, x2)], [(0, u), (0, s0), (2, 12), (2, 24)]) = (z_R 119 (m, 0, [(2, 24), (2, 12), (0, s0), (0, u), (9, 0), (9, 0)], [])).bind fun qq => z_R 121 (qq.1, 15, [(2, 24), (2, 12), (0, x2)], qq.2.toList ++ []) :=
  have hK : kt_at 121 = kt_121 := rfl
  z_R_call hK rfl rfl rfl rfl rfl
theorem z_win_15  (m : z_M) (x2 : Int) (u : Int) : z_R 121 (m, 15, [(2, 24), (2, 12), (0, x2)], [(0, u)]) = some (m, some (0, u)) :=
  have hK : kt_at 121 = kt_121 := rfl
  z_R_ret hK rfl rfl rfl
theorem z_bin_0  (m : z_M) (r : Int) : z_R 100 (m, 0, [(2, 3), (2, 12), (0, r), (9, 0), (9, 0)], []) = z_R 100 (m, 5, [(2, 3), (2, 12), (0, r), (0, 0), (0, 0)], []) :=
  have hK : kt_at 100 = kt_100 := rfl
  (z_R_run hK (n := 4) (g' := (m, 5, [(2, 3), (2, 12), (0, r), (0, 0), (0, 0)], [])) rfl).trans (rfl)
theorem z_bin_5  (m : z_M) (x2 : Int) (x3 : Int) (x4 : Int) (h_n : 0 ≤ m 3 11 ∧ m 3 11 ≤ 5) : z_R 100 (m, 5, [(2, 3), (2, 12), (0, x2), (0, x3), (0, x4)], []) = if m 3 11 ≤ x4 then some (m, some (0, x3)) else if 0 ≤ x4 ∧ x4 < 5 then if m 15 (x4).toNat = x2 then z_R 100 (m, 5, [(2, 3), (2, 12), (0, x2), (0, z_or x3 (z_shl 1 x4)), (0, x4 + 1)], []) else z_R 100 (m, 5, [(2, 3), (2, 12), (0, x2), (0, x3), (0, x4 + 1)], []) else none :=
  have hK : kt_at 100 = kt_100 := rfl
  (z_R_run hK (n := 3) (g' := (m, 11, [(2, 3), (2, 12), (0, x2), (0, x3), (0, x4)], [(0, m 3 11), (0, x4)])) rfl).trans (z_R_ifd hK (c := m 3 11 ≤ x4) (p1 := 38) (p2 := 14) rfl rfl rfl (fun h1 => (z_R_run hK (n := 1) (g' := (m, 39, [(2, 3), (2, 12), (0, x2), (0, x3), (0, x4)], [(0, x3)])) rfl).trans (z_R_ret hK rfl rfl rfl)) (fun h1 => (z_R_run hK (n := 2) (g' := (m, 18, [(2, 3), (2, 12), (0, x2), (0, x3), (0, x4)], [(2, 15)])) rfl).trans ((z_R_run hK (n := 1) (g' := (m, 20, [(2, 3), (2, 12), (0, x2), (0, x3), (0, x4)], [(0, x4), (2, 15)])) rfl).trans (z_R_ixD hK (n := 5) (g' := (m, 21, [(2, 3), (2, 12), (0, x2), (0, x3), (0, x4)], [(0, m 15 (x4).toNat)])) rfl rfl rfl  (fun h2 => (z_R_run hK (n := 1) (g' := (m, 22, [(2, 3), (2, 12), (0, x2), (0, x3), (0, x4)], [(0, x2), (0, m 15 (x4).toNat)])) rfl).trans (z_R_ifnd hK (c := m 15 (x4).toNat = x2) (p1 := 32) (p2 := 25) rfl rfl rfl (fun h3 => (z_R_run hK (n := 1) (g' := (m, 35, [(2, 3), (2, 12), (0, x2), (0, x3), (0, z_add x4 1)], [])) rfl).trans ((congrArg (fun vv => z_R 100 (m, 35, [(2, 3), (2, 12), (0, x2), (0, x3), (0, vv)], [])) (z_add_eq (by omega) (by omega))).trans ((z_R_run hK (n := 1) (g' := (m, 5, [(2, 3), (2, 12), (0, x2), (0, x3), (0, x4 + 1)], [])) rfl).trans (rfl)))) (fun h3 => (z_R_run hK (n := 7) (g' := (m, 35, [(2, 3), (2, 12), (0, x2), (0, z_or x3 (z_shl 1 x4)), (0, z_add x4 1)], [])) rfl).trans ((congrArg (fun vv => z_R 100 (m, 35, [(2, 3), (2, 12), (0, x2), (0, z_or x3 (z_shl 1 x4)), (0, vv)], [])) (z_add_eq (by omega) (by omega))).trans ((z_R_run hK (n := 1) (g' := (m, 5, [(2, 3), (2, 12), (0, x2), (0, z_or x3 (z_shl 1 x4)), (0, x4 + 1)], [])) rfl).trans (rfl))))))))))
end
section
/-! rests, of what both are in -/
def g_x1 (x : Nat) : Nat := if x % 2 = 0 then x + 1 else x - 1
def g_x2 (x : Nat) : Nat := if x < 2 then x + 2 else x - 2
theorem g_xor1 {x : Nat} (hx : x < 4) : z_xor (x : Int) 1 = ((g_x1 x : Nat) : Int) := by
  have : ∀ x, x < 4 → z_xor ((x : Nat) : Int) 1 = ((g_x1 x : Nat) : Int) := by decide +kernel
  exact this x hx
theorem g_xor2 {x : Nat} (hx : x < 4) : z_xor (x : Int) 2 = ((g_x2 x : Nat) : Int) := by
  have : ∀ x, x < 4 → z_xor ((x : Nat) : Int) 2 = ((g_x2 x : Nat) : Int) := by decide +kernel
  exact this x hx
theorem g_x1_lt {x : Nat} (hx : x < 4) : g_x1 x < 4 := by
  have : ∀ x, x < 4 → g_x1 x < 4 := by decide +kernel
  exact this x hx
theorem g_x2_lt {x : Nat} (hx : x < 4) : g_x2 x < 4 := by
  have : ∀ x, x < 4 → g_x2 x < 4 := by decide +kernel
  exact this x hx
theorem g_and1 {x : Nat} (hx : x < 4) : z_and (x : Int) 1 = 0 ↔ x % 2 = 0 := by
  have : ∀ x, x < 4 → (z_and ((x : Nat) : Int) 1 = 0 ↔ x % 2 = 0) := by decide +kernel
  exact this x hx
theorem g_and2 {x : Nat} (hx : x < 4) : z_and (x : Int) 2 = 0 ↔ x < 2 := by
  have : ∀ x, x < 4 → (z_and ((x : Nat) : Int) 2 = 0 ↔ x < 2) := by decide +kernel
  exact this x hx
/-- whether the first (s 0), the second (s 1) goes, in the way x -/
def g_go (s x : Nat) : Bool := bif Nat.beq s 0 then Nat.beq (x % 2) 0 else Nat.ble (x + 1) 2
theorem g_shr {x s : Nat} (hx : x < 4) (hs : s < 2) : z_and (z_shr (x : Int) (s : Int)) 1 = if g_go s x = true then 0 else 1 := by
  have : ∀ x, x < 4 → ∀ s, s < 2 → z_and (z_shr ((x : Nat) : Int) ((s : Nat) : Int)) 1 = if g_go s x = true then 0 else 1 := by decide +kernel
  exact this x hx s hs
theorem g_or0 {y : Nat} (hy : y < 32) : z_or (y : Int) 0 = (y : Int) := by
  have : ∀ y, y < 32 → z_or ((y : Nat) : Int) 0 = ((y : Nat) : Int) := by decide +kernel
  exact this y hy
theorem g_or1 {y x : Nat} (hy : y < 32) (hx : x < 5) : 0 ≤ z_or (y : Int) (z_shl 1 (x : Int)) ∧ z_or (y : Int) (z_shl 1 (x : Int)) < 32 := by
  have : ∀ y, y < 32 → ∀ x, x < 5 → 0 ≤ z_or ((y : Nat) : Int) (z_shl 1 ((x : Nat) : Int)) ∧ z_or ((y : Nat) : Int) (z_shl 1 ((x : Nat) : Int)) < 32 := by decide +kernel
  exact this y hy x hx
/-- the warmth in the way x, of W in all -/
def g_wt (W wa wb : Int) (x : Nat) : Int := W - (if g_go 0 x = true then wa else 0) - (if g_go 1 x = true then wb else 0)
/-- what the one gets -/
def g_g (M : Int → Int) (W wa wb v : Int) (s x : Nat) : Int := (if g_go s x = true then 0 else v) - M (g_wt W wa wb x)
def g_bits (G : Nat → Nat → Int) : Nat → Nat → Int → Int
  | 0, _, acc => acc
  | f + 1, x, acc => g_bits G f (x + 1) (if G 0 (g_x1 x) ≤ G 0 x ∧ G 1 (g_x2 x) ≤ G 1 x then z_or acc (z_shl 1 (x : Int)) else acc)
/-- what one gets in ROOM r -/
def g_G (n : Nat) (heat : Int) (cs : List Int) (D A : Nat → Int) (a b r : Nat) (v : Int) : Nat → Nat → Int := g_g (fun t => c_ml cs t (A r) (A (r + 9)) (A 36) ((r : Int) / 3) (hr_pc (hr_b (r : Int) n 0 A 0)) (A 35)) (hr_wb heat (wmD D (A 35)) n A (r : Int) (hr_b (r : Int) n 0 A 0)) (wmD D (A 35) a) (wmD D (A 35) b) v
def g_A (n : Nat) (heat : Int) (cs : List Int) (D A : Nat → Int) (a b v : Int) : Int := if (0 ≤ a ∧ a < (n : Int)) ∧ (0 ≤ b ∧ b < (n : Int)) ∧ ¬ a = b ∧ 0 ≤ v ∧ v ≤ 99 then (if ¬ A (a.toNat + 18) = -1 ∧ A (b.toNat + 18) = A (a.toNat + 18) then g_bits (g_G n heat cs D A a.toNat b.toNat (A (a.toNat + 18)).toNat v) 4 0 0 else -2) else -1
section
variable {w h n : Nat} {heat price : Int} {D A : Nat → Int} {c : Nat} {U : Nat → Nat → Int} {kn : Nat → Int} {KS : Nat → Nat → Int} {cs : List Int} {m : z_M}
theorem C_bin (hi : C_is w h n heat price D A c U kn KS cs m) (h5 : n ≤ 5) {r : Int} : ∀ (f x y : Nat), x + f = n → y < 32 → z_R 100 (m, 5, [(2, 3), (2, 12), (0, r), (0, (y : Int)), (0, (x : Int))], []) = some (m, some (0, hr_b r f x A (y : Int))) := by
  intro f
  induction f with
  | zero =>
    intro x y hx hy
    have e11 := hi.1.2.2.1
    rw [z_bin_5 m r y x (by omega), e11, if_pos (by omega)]
    rfl
  | succ f ih =>
    intro x y hx hy
    have e11 := hi.1.2.2.1
    have e15 : m 15 x = A (x + 18) := C_A3 hi (by omega) h5
    rw [z_bin_5 m r y x (by omega), e11, if_neg (by omega), if_pos (show 0 ≤ (x : Int) ∧ (x : Int) < 5 by omega), Int.toNat_natCast, e15, tc1]
    unfold hr_b
    by_cases z : A (x + 18) = r
    · have b := g_or1 hy (show x < 5 by omega)
      obtain ⟨y', hy'⟩ : ∃ y' : Nat, z_or (y : Int) (z_shl 1 (x : Int)) = (y' : Int) := ⟨(z_or (y : Int) (z_shl 1 (x : Int))).toNat, by omega⟩
      rw [if_pos z, if_pos z, hy']
      exact ih (x + 1) y' (by omega) (by omega)
    · rw [if_neg z, if_neg z, g_or0 hy]
      exact ih (x + 1) y (by omega) hy
theorem C_wb (hi : C_is w h n heat price D A c U kn KS cs m) (hN : w_N w h n heat D) (ht : 0 ≤ A 35 ∧ A 35 ≤ 1073741824) (r b : Int) : z_R 119 (m, 0, [(2, 24), (2, 12), (0, r), (0, b), (9, 0), (9, 0)], []) = some (m, some (0, hr_wb heat (wmD D (A 35)) n A r b)) := by
  have e6 : m 12 6 = A 34 := by
    rw [← hi.2.2.1]
    exact (cS_at0 (s := 12) (j := 6) (by decide)).symm
  rw [u_wof_0, e6, hi.1.2.2.2.1]
  unfold hr_wb
  have hb := hN.2.1
  by_cases z : A 34 = r
  · rw [if_pos z, if_pos z]
    exact C_wof hi hN.1.2.2 ht n 0 heat (by omega) (z_w_of (by omega) (by omega))
  · rw [if_neg z, if_neg z]
    exact C_wof hi hN.1.2.2 ht n 0 0 (by omega) (by decide +kernel)
theorem C_wmi (hi : C_is w h n heat price D A c U kn KS cs m) (hN : w_N w h n heat D) (ht : 0 ≤ A 35 ∧ A 35 ≤ 1073741824) (r : Int) : z_R 121 (m, 0, [(2, 24), (2, 12), (0, r)], []) = some (m, some (0, hr_wb heat (wmD D (A 35)) n A r (hr_b r n 0 A 0))) := by
  have a1 := C_bin hi hN.1.2.2 (r := r) n 0 0 (by omega) (by decide)
  have a1 : z_R 100 (m, 5, [(2, 3), (2, 12), (0, r), (0, 0), (0, 0)], []) = some (m, some (0, hr_b r n 0 A 0)) := a1
  rw [z_win_0, z_bin_0, a1, zb_v, z_win_12, C_wb hi hN ht r, zb_v, z_win_15]
theorem C_mby (hi : C_is w h n heat price D A c U kn KS cs m) {r : Nat} (hr : r < 9) (t k : Int) : ∃ m1, z_R 120 (m, 0, [(2, 24), (2, 12), (0, (r : Int)), (0, t), (0, k)], []) = some (m1, some (0, c_ml cs t (A r) (A (r + 9)) (A 36) ((r : Int) / 3) k (A 35))) ∧ C_is w h n heat price D A c U kn KS cs m1 ∧ m1 0 13 = m 0 13 := by
  have e7 : m 12 7 = A 35 := by
    rw [← hi.2.2.1]
    exact (cS_at0 (s := 12) (j := 7) (by decide)).symm
  have e8 : m 12 8 = A 36 := by
    rw [← hi.2.2.1]
    exact (cS_at0 (s := 12) (j := 8) (by decide)).symm
  have e13 : m 13 r = A r := by
    rw [← hi.2.2.1]
    exact (cS_at1 (s := 12) hr).symm
  have e14 : m 14 r = A (r + 9) := by
    rw [← hi.2.2.1]
    exact (cS_at2 (s := 12) hr).symm
  obtain ⟨m1, a1, a2⟩ := (C_cfg hi).2.2.2.2.2.2.1 m rfl rfl t (A r) (A (r + 9)) (A 36) ((r : Int) / 3) k (A 35)
  rw [u_mby_0 m r _ _ (by omega), Int.toNat_natCast, e13, e14, e8, e7, a1, zb_v, u_mby_48]
  refine ⟨m1, rfl, C_fr hi fun p k hk => ?_, a2.of (by (repeat' (first | exact trivial | refine z_of_c ?_ ?_)) <;> omega)⟩
  have hk' := hk
  unfold C_hit at hk'
  have hk' := of_decide_eq_true hk'
  exact a2.of (by (repeat' (first | exact trivial | refine z_of_c ?_ ?_)) <;> omega)
theorem hr_wb_b (hN : w_N w h n heat D) (ht : 0 ≤ A 35) (r b : Int) : 0 ≤ hr_wb heat (wmD D (A 35)) n A r b ∧ hr_wb heat (wmD D (A 35)) n A r b ≤ 54 := by
  have hb := hN.2.1
  have h5 := hN.1.2.2
  unfold hr_wb
  by_cases z : A 34 = r
  · rw [if_pos z]
    exact hr_s_rg (hN.2.2 (A 35) ht) n 0 heat (by omega) (by omega) (by omega)
  · rw [if_neg z]
    exact hr_s_rg (hN.2.2 (A 35) ht) n 0 0 (by omega) (by omega) (by omega)
theorem C_gain (hi : C_is w h n heat price D A c U kn KS cs m) (hN : w_N w h n heat D) (hok : hr_ok n A) (ht : 0 ≤ A 35 ∧ A 35 ≤ 1073741824) {a b r : Nat} (ha : a < n) (hb : b < n) (hr : r < 9) (ea : A (a + 18) = (r : Int)) {v : Int} (hv : 0 ≤ v ∧ v ≤ 99) {s x : Nat} (hs : s < 2) (hx : x < 4) : ∃ m1, z_R 136 (m, 0, [(2, 0), (0, (a : Int)), (0, (b : Int)), (0, v), (0, (x : Int)), (0, (s : Int)), (9, 0), (9, 0), (9, 0), (9, 0)], []) = some (m1, some (0, g_G n heat cs D A a b r v s x)) ∧ C_is w h n heat price D A c U kn KS cs m1 ∧ m1 0 13 = m 0 13 := by
  have h5 := hN.1.2.2
  have e15 : m 15 a = (r : Int) := (C_A3 hi ha h5).trans ea
  have e7 : m 12 7 = A 35 := by
    rw [← hi.2.2.1]
    exact (cS_at0 (s := 12) (j := 7) (by decide)).symm
  have bW := hr_wb_b hN ht.1 (r : Int) (hr_b (r : Int) n 0 A 0)
  have ba := hN.2.2 (A 35) ht.1 a (by omega)
  have bb := hN.2.2 (A 35) ht.1 b (by omega)
  have ca : cw m a (A 35) = wmD D (A 35) a := cw_D hi.1.2.2.2.2.2.2.1 hi.1.2.2.2.2.2.2.2 hi.2.1 ht.1 (by omega)
  have cb : cw m b (A 35) = wmD D (A 35) b := cw_D hi.1.2.2.2.2.2.2.1 hi.1.2.2.2.2.2.2.2 hi.2.1 ht.1 (by omega)
  have wa : z_R 70 (m, 0, [(2, 24), (0, (a : Int)), (0, A 35), (9, 0)], []) = some (m, some (0, wmD D (A 35) a)) := by rw [c_wo m (by omega) ht.1 (by omega), ca]
  have wb : z_R 70 (m, 0, [(2, 24), (0, (b : Int)), (0, A 35), (9, 0)], []) = some (m, some (0, wmD D (A 35) b)) := by rw [c_wo m (by omega) ht.1 (by omega), cb]
  have ew := C_wmi hi hN ht (r : Int)
  have aB := C_bin hi h5 (r := (r : Int)) n 0 0 (by omega) (by decide)
  have aB : z_R 100 (m, 5, [(2, 3), (2, 12), (0, (r : Int)), (0, 0), (0, 0)], []) = some (m, some (0, hr_b (r : Int) n 0 A 0)) := aB
  have k1 : z_and (x : Int) 1 = 0 ↔ g_go 0 x = true := by
    have : ∀ x, x < 4 → (z_and ((x : Nat) : Int) 1 = 0 ↔ g_go 0 x = true) := by decide +kernel
    exact this x hx
  have k2 : z_and (x : Int) 2 = 0 ↔ g_go 1 x = true := by
    have : ∀ x, x < 4 → (z_and ((x : Nat) : Int) 2 = 0 ↔ g_go 1 x = true) := by decide +kernel
    exact this x hx
  rw [z_gai_0 m a b v x s ⟨by omega, by omega⟩ ⟨by omega, by omega⟩, if_pos (show 0 ≤ (a : Int) ∧ (a : Int) < 5 by omega), Int.toNat_natCast, e15, ew, zb_v, z_gai_24, e7]
  unfold g_G
  generalize hr_wb heat (wmD D (A 35)) n A (r : Int) (hr_b (r : Int) n 0 A 0) = W at bW ⊢
  generalize hr_b (r : Int) n 0 A 0 = B at aB ⊢
  generalize wmD D (A 35) a = x1 at ba wa ⊢
  generalize wmD D (A 35) b = x2 at bb wb ⊢
  have go : ∀ t, t = g_wt W x1 x2 x → ∃ m1, ((z_R 100 (m, 0, [(2, 3), (2, 12), (0, (r : Int)), (9, 0), (9, 0)], [])).bind fun qq => z_R 136 (qq.1, 93, [(2, 0), (0, (a : Int)), (0, (b : Int)), (0, v), (0, (x : Int)), (0, (s : Int)), (0, (r : Int)), (0, t), (9, 0), (9, 0)], qq.2.toList ++ [])) = some (m1, some (0, g_g (fun t => c_ml cs t (A r) (A (r + 9)) (A 36) ((r : Int) / 3) (hr_pc B) (A 35)) W x1 x2 v s x)) ∧ C_is w h n heat price D A c U kn KS cs m1 ∧ m1 0 13 = m 0 13 := by
    intro t et
    obtain ⟨m1, a1, a2, a3⟩ := C_mby hi hr t (hr_pc B)
    have bm := c_ml_ok cs t (A r) (A (r + 9)) (A 36) ((r : Int) / 3) (hr_pc B) (A 35) (hok.1 r hr).1
    have br := (hok.1 r hr).2
    rw [z_bin_0, aB, zb_v, z_gai_93, t_bc_0, zb_v, z_gai_96, a1, zb_v, z_gai_115, g_shr hx hs]
    show ∃ m1', _ = some (m1', some (0, (if g_go s x = true then 0 else v) - c_ml cs (g_wt W x1 x2 x) (A r) (A (r + 9)) (A 36) ((r : Int) / 3) (hr_pc B) (A 35))) ∧ _ ∧ _
    rw [← et]
    by_cases g : g_go s x = true
    · rw [if_pos g, if_pos rfl, if_pos g, z_sub_eq (by omega) (by omega)]
      exact ⟨m1, rfl, a2, a3⟩
    · rw [if_neg g, if_neg (show ¬ (1 : Int) = 0 by decide), if_neg g, z_sub_eq (by omega) (by omega)]
      exact ⟨m1, rfl, a2, a3⟩
  by_cases c1 : g_go 0 x = true
  · rw [if_pos (k1.mpr c1), wa, zb_v, z_gai_50, e7]
    by_cases c2 : g_go 1 x = true
    · rw [if_pos (k2.mpr c2), wb, zb_v, z_gai_77, z_sub_eq (x := W) (by omega) (by omega), z_sub_eq (x := W - x1) (by omega) (by omega)]
      exact go _ (by unfold g_wt; rw [if_pos c1, if_pos c2])
    · rw [if_neg (fun z => c2 (k2.mp z)), z_sub_eq (x := W) (by omega) (by omega)]
      exact go _ (by unfold g_wt; rw [if_pos c1, if_neg c2]; omega)
  · rw [if_neg (fun z => c1 (k1.mp z))]
    by_cases c2 : g_go 1 x = true
    · rw [if_pos (k2.mpr c2), wb, zb_v, z_gai_77, z_sub_eq (x := W) (by omega) (by omega)]
      exact go _ (by unfold g_wt; rw [if_neg c1, if_pos c2]; omega)
    · rw [if_neg (fun z => c2 (k2.mp z))]
      exact go _ (by unfold g_wt; rw [if_neg c1, if_neg c2]; omega)
theorem C_rst1 (hN : w_N w h n heat D) (hok : hr_ok n A) (ht : 0 ≤ A 35 ∧ A 35 ≤ 1073741824) {a b r : Nat} (ha : a < n) (hb : b < n) (hr : r < 9) (ea : A (a + 18) = (r : Int)) {v : Int} (hv : 0 ≤ v ∧ v ≤ 99) : ∀ (f x : Nat) (acc y : Int) (v8 v9 : z_V) (m : z_M), x + f = 4 → (acc = 0 ∨ (0 ≤ y ∧ y < 4)) → C_is w h n heat price D A c U kn KS cs m → ∃ m1, z_R 135 (m, 88, [(2, 0), (0, (a : Int)), (0, (b : Int)), (0, v), (0, (r : Int)), (0, acc), (0, y), (0, (x : Int)), v8, v9], []) = some (m1, some (0, g_bits (g_G n heat cs D A a b r v) f x acc)) ∧ C_is w h n heat price D A c U kn KS cs m1 := by
  intro f
  induction f with
  | zero =>
    intro x acc y v8 v9 m hx hy hi
    have hi1 : C_is w h n heat price D A c U kn KS cs (z_up m 0 13 0) := C_upn hi (by decide)
    have g13 : (z_up m 0 13 0) 0 13 = ((0 : Nat) : Int) := zu_self
    show ∃ m1, _ = some (m1, some (0, acc)) ∧ _
    rw [z_rst_88, if_pos (by omega), s_tell0_0, zb_n, z_rst_201]
    generalize z_up m 0 13 0 = m0 at hi1 g13 ⊢
    by_cases z : acc = 0
    · rw [if_pos z]
      exact ⟨m0, rfl, hi1⟩
    · obtain ⟨y', rfl⟩ : ∃ y' : Nat, y = (y' : Int) := ⟨y.toNat, by omega⟩
      obtain ⟨m1, a1, a2, a3⟩ := C_gain hi1 hN hok ht ha hb hr ea hv (s := 0) (x := y') (by decide) (by omega)
      have a1 : z_R 136 (m0, 0, [(2, 0), (0, (a : Int)), (0, (b : Int)), (0, v), (0, (y' : Int)), (0, 0), (9, 0), (9, 0), (9, 0), (9, 0)], []) = some (m1, some (0, g_G n heat cs D A a b r v 0 y')) := a1
      have hi2 : C_is w h n heat price D A c U kn KS cs (z_up (z_up m1 250 0 (z_i2l (g_G n heat cs D A a b r v 0 y'))) 0 13 ((0 + 1 : Nat) : Int)) := C_upn (C_upn a2 (by decide)) (by decide)
      have g2 : (z_up (z_up m1 250 0 (z_i2l (g_G n heat cs D A a b r v 0 y'))) 0 13 ((0 + 1 : Nat) : Int)) 0 13 = ((1 : Nat) : Int) := zu_self
      rw [if_neg z, a1, zb_v, z_rst_217, c_add (j := 0) m1 _ (by decide) (a3.trans g13), zb_n, z_rst_221]
      generalize z_up (z_up m1 250 0 (z_i2l (g_G n heat cs D A a b r v 0 y'))) 0 13 ((0 + 1 : Nat) : Int) = m2 at hi2 g2 ⊢
      obtain ⟨m3, b1, b2, b3⟩ := C_gain hi2 hN hok ht ha hb hr ea hv (s := 1) (x := y') (by decide) (by omega)
      have b1 : z_R 136 (m2, 0, [(2, 0), (0, (a : Int)), (0, (b : Int)), (0, v), (0, (y' : Int)), (0, 1), (9, 0), (9, 0), (9, 0), (9, 0)], []) = some (m3, some (0, g_G n heat cs D A a b r v 1 y')) := b1
      rw [b1, zb_v, z_rst_232, c_add (j := 1) m3 _ (by decide) (b3.trans g2), zb_n, z_rst_236]
      exact ⟨_, rfl, C_upn (C_upn b2 (by decide)) (by decide)⟩
  | succ f ih =>
    intro x acc y v8 v9 m hx hy hi
    have hx4 : x < 4 := by omega
    obtain ⟨m1, a1, a2, -⟩ := C_gain hi hN hok ht ha hb hr ea hv (s := 0) (x := x) (by decide) hx4
    have a1 : z_R 136 (m, 0, [(2, 0), (0, (a : Int)), (0, (b : Int)), (0, v), (0, (x : Int)), (0, 0), (9, 0), (9, 0), (9, 0), (9, 0)], []) = some (m1, some (0, g_G n heat cs D A a b r v 0 x)) := a1
    obtain ⟨m2, b1, b2, -⟩ := C_gain a2 hN hok ht ha hb hr ea hv (s := 0) (x := g_x1 x) (by decide) (g_x1_lt hx4)
    have b1 : z_R 136 (m1, 0, [(2, 0), (0, (a : Int)), (0, (b : Int)), (0, v), (0, ((g_x1 x : Nat) : Int)), (0, 0), (9, 0), (9, 0), (9, 0), (9, 0)], []) = some (m2, some (0, g_G n heat cs D A a b r v 0 (g_x1 x))) := b1
    obtain ⟨m3, d1, d2, -⟩ := C_gain b2 hN hok ht ha hb hr ea hv (s := 1) (x := x) (by decide) hx4
    have d1 : z_R 136 (m2, 0, [(2, 0), (0, (a : Int)), (0, (b : Int)), (0, v), (0, (x : Int)), (0, 1), (9, 0), (9, 0), (9, 0), (9, 0)], []) = some (m3, some (0, g_G n heat cs D A a b r v 1 x)) := d1
    obtain ⟨m4, e1, e2, -⟩ := C_gain d2 hN hok ht ha hb hr ea hv (s := 1) (x := g_x2 x) (by decide) (g_x2_lt hx4)
    have e1 : z_R 136 (m3, 0, [(2, 0), (0, (a : Int)), (0, (b : Int)), (0, v), (0, ((g_x2 x : Nat) : Int)), (0, 1), (9, 0), (9, 0), (9, 0), (9, 0)], []) = some (m4, some (0, g_G n heat cs D A a b r v 1 (g_x2 x))) := e1
    have bit0 : (0 : Int) ≤ x ∧ (x : Int) < 4 := by omega
    rw [z_rst_88, if_neg (by omega), a1, zb_v, z_rst_104, g_xor1 hx4, b1, zb_v, z_rst_116]
    unfold g_bits
    generalize g_G n heat cs D A a b r v = G at d1 e1 ih ⊢
    by_cases p1 : G 0 x < G 0 (g_x1 x)
    · rw [if_pos p1, d1, zb_v, z_rst_136, g_xor2 hx4, e1, zb_v, z_rst_148, if_neg (show ¬ (G 0 (g_x1 x) ≤ G 0 x ∧ G 1 (g_x2 x) ≤ G 1 x) by omega), z_add_eq (x := (x : Int)) (y := 1) (by omega) (by omega), tc1]
      by_cases p2 : G 1 x < G 1 (g_x2 x)
      · rw [if_pos p2, if_pos rfl]
        exact ih (x + 1) acc y _ _ m4 (by omega) hy e2
      · rw [if_neg p2, if_pos rfl]
        exact ih (x + 1) acc y _ _ m4 (by omega) hy e2
    · rw [if_neg p1, d1, zb_v, z_rst_136, g_xor2 hx4, e1, zb_v, z_rst_148, z_add_eq (x := (x : Int)) (y := 1) (by omega) (by omega), tc1]
      by_cases p2 : G 1 x < G 1 (g_x2 x)
      · rw [if_pos p2, if_neg (show ¬ (1 : Int) = 0 by decide), if_neg (show ¬ (G 0 (g_x1 x) ≤ G 0 x ∧ G 1 (g_x2 x) ≤ G 1 x) by omega)]
        exact ih (x + 1) acc y _ _ m4 (by omega) hy e2
      · rw [if_neg p2, if_neg (show ¬ (1 : Int) = 0 by decide), if_pos (show G 0 (g_x1 x) ≤ G 0 x ∧ G 1 (g_x2 x) ≤ G 1 x by omega)]
        by_cases p3 : acc = 0
        · rw [if_pos p3]
          exact ih (x + 1) _ _ _ _ m4 (by omega) (Or.inr bit0) e2
        · rw [if_neg p3]
          exact ih (x + 1) _ _ _ _ m4 (by omega) (Or.inr (hy.resolve_left p3)) e2
theorem C_rests (hi : C_is w h n heat price D A c U kn KS cs m) (hN : w_N w h n heat D) (hok : hr_ok n A) (ht : 0 ≤ A 35 ∧ A 35 ≤ 1073741824) (hw : wi w h n A) (a b v : Int) : ∃ m1, z_R 135 (m, 0, [(2, 0), (0, a), (0, b), (0, v), (9, 0), (9, 0), (9, 0), (9, 0), (9, 0), (9, 0)], []) = some (m1, some (0, g_A n heat cs D A a b v)) ∧ C_is w h n heat price D A c U kn KS cs m1 := by
  have h5 := hN.1.2.2
  rw [z_rst_0, hi.1.1, hi.1.2.1, hi.1.2.2.1]
  by_cases c1 : 0 ≤ a ∧ a < (n : Int)
  · rw [if_pos c1]
    by_cases c2 : 0 ≤ b ∧ b < (n : Int)
    · rw [if_pos c2]
      by_cases c3 : a = b
      · have e : g_A n heat cs D A a b v = -1 := if_neg (fun z => z.2.2.1 c3)
        rw [if_pos c3, e]
        exact ⟨m, rfl, hi⟩
      rw [if_neg c3]
      by_cases c4 : v < 0
      · have e : g_A n heat cs D A a b v = -1 := if_neg (fun z => by have := z.2.2.2.1; omega)
        rw [if_pos c4, e]
        exact ⟨m, rfl, hi⟩
      rw [if_neg c4]
      by_cases c5 : v ≤ 99
      · obtain ⟨a', rfl⟩ : ∃ a' : Nat, a = (a' : Int) := ⟨a.toNat, by omega⟩
        obtain ⟨b', rfl⟩ : ∃ b' : Nat, b = (b' : Int) := ⟨b.toNat, by omega⟩
        have ha : a' < n := by omega
        have hb : b' < n := by omega
        have e15 : m 15 a' = A (a' + 18) := C_A3 hi ha h5
        have e15b : m 15 b' = A (b' + 18) := C_A3 hi hb h5
        have eA : g_A n heat cs D A (a' : Int) (b' : Int) v = if ¬ A ((a' : Int).toNat + 18) = -1 ∧ A ((b' : Int).toNat + 18) = A ((a' : Int).toNat + 18) then g_bits (g_G n heat cs D A (a' : Int).toNat (b' : Int).toNat (A ((a' : Int).toNat + 18)).toNat v) 4 0 0 else -2 := if_pos ⟨c1, c2, c3, by omega, c5⟩
        rw [Int.toNat_natCast, Int.toNat_natCast] at eA
        rw [if_pos c5, if_pos (show 0 ≤ (a' : Int) ∧ (a' : Int) < 5 by omega), if_pos (show 0 ≤ (b' : Int) ∧ (b' : Int) < 5 by omega), Int.toNat_natCast, Int.toNat_natCast, e15, e15b, eA]
        by_cases d1 : u_hs (w : Int) (h : Int) (A (a' + 18)) = 0
        · have z := (hw.1 a' ha).resolve_right (not_not_intro d1)
          rw [if_neg (not_not_intro d1), if_neg (fun y => y.1 z)]
          exact ⟨m, rfl, hi⟩
        · have hr := u_hs_rng d1
          rw [if_pos d1]
          by_cases d2 : A (b' + 18) = A (a' + 18)
          · obtain ⟨r, er⟩ : ∃ r : Nat, A (a' + 18) = (r : Int) := ⟨(A (a' + 18)).toNat, by omega⟩
            rw [if_pos d2, if_pos (show ¬ A (a' + 18) = -1 ∧ A (b' + 18) = A (a' + 18) from ⟨by omega, d2⟩), er, Int.toNat_natCast]
            exact C_rst1 hN hok ht ha hb (by omega) er (v := v) ⟨by omega, c5⟩ 4 0 0 (-1) (9, 0) (9, 0) m (by decide) (Or.inl rfl) hi
          · rw [if_neg d2, if_neg (fun y => d2 y.2)]
            exact ⟨m, rfl, hi⟩
      · have e : g_A n heat cs D A a b v = -1 := if_neg (fun z => c5 z.2.2.2.2)
        rw [if_neg c5, e]
        exact ⟨m, rfl, hi⟩
    · have e : g_A n heat cs D A a b v = -1 := if_neg (fun z => c2 z.2.1)
      rw [if_neg c2, e]
      exact ⟨m, rfl, hi⟩
  · have e : g_A n heat cs D A a b v = -1 := if_neg (fun z => c1 z.1)
    rw [if_neg c1, e]
    exact ⟨m, rfl, hi⟩
/-! the reference -/
theorem hr_t_1 {g : Nat → Int} (hg : ∀ p, p < 5 → 0 ≤ g p ∧ g p ≤ 9) {a : Nat} : ∀ (f x : Nat), x + f ≤ 5 → x ≤ a → a < x + f → g a ≤ hr_t g f x := by
  intro f
  induction f with
  | zero => intro x hx h1 h2; omega
  | succ f ih =>
    intro x hx h1 h2
    have b := hg x (by omega)
    have t := hr_t_b (B := 9) (by decide) hg f (x + 1) (by omega)
    unfold hr_t
    by_cases e : a = x
    · rw [e]; omega
    · have := ih (x + 1) (by omega) (by omega) (by omega)
      omega
theorem hr_t_2 {g : Nat → Int} (hg : ∀ p, p < 5 → 0 ≤ g p ∧ g p ≤ 9) {a b : Nat} (hab : ¬ a = b) : ∀ (f x : Nat), x + f ≤ 5 → x ≤ a → a < x + f → x ≤ b → b < x + f → g a + g b ≤ hr_t g f x := by
  intro f
  induction f with
  | zero => intro x hx h1 h2; omega
  | succ f ih =>
    intro x hx h1 h2 h3 h4
    have b0 := hg x (by omega)
    unfold hr_t
    by_cases e : a = x
    · have := hr_t_1 hg (a := b) f (x + 1) (by omega) (by omega) (by omega)
      rw [e]; omega
    · by_cases e2 : b = x
      · have := hr_t_1 hg (a := a) f (x + 1) (by omega) (by omega) (by omega)
        rw [e2]; omega
      · have := ih (x + 1) (by omega) (by omega) (by omega) (by omega) (by omega)
        omega
/-- two of a ROOM do not make it colder -/
theorem g_W2 (hN : w_N w h n heat D) (ht : 0 ≤ A 35) {a b r : Nat} (ha : a < n) (hb : b < n) (hab : ¬ a = b) (ea : A (a + 18) = (r : Int)) (eb : A (b + 18) = (r : Int)) : wmD D (A 35) a + wmD D (A 35) b ≤ hr_wb heat (wmD D (A 35)) n A (r : Int) (hr_b (r : Int) n 0 A 0) := by
  have h5 := hN.1.2.2
  have hh := hN.2.1
  have bwm := hN.2.2 (A 35) ht
  have hg : ∀ p, p < 5 → 0 ≤ (if A (p + 18) = (r : Int) then wmD D (A 35) p else 0) ∧ (if A (p + 18) = (r : Int) then wmD D (A 35) p else 0) ≤ 9 := fun p hp => by
    have := bwm p hp
    by_cases z : A (p + 18) = (r : Int)
    · rw [if_pos z]; exact this
    · rw [if_neg z]; decide
  have t := hr_t_2 (g := fun p => if A (p + 18) = (r : Int) then wmD D (A 35) p else 0) hg hab n 0 (by omega) (by omega) (by omega) (by omega) (by omega)
  have t : (if A (a + 18) = (r : Int) then wmD D (A 35) a else 0) + (if A (b + 18) = (r : Int) then wmD D (A 35) b else 0) ≤ hr_t (fun p => if A (p + 18) = (r : Int) then wmD D (A 35) p else 0) n 0 := t
  rw [if_pos ea, if_pos eb] at t
  rw [hr_wb_eq h5 bwm hh A r]
  unfold hr_W
  by_cases z : A 34 = (r : Int)
  · rw [if_pos z]; omega
  · rw [if_neg z]; omega
theorem g_mul2 {x : Nat} (hx : x < 4) : z_mul 2 (x : Int) = ((2 * x : Nat) : Int) := by
  have : ∀ x, x < 4 → z_mul 2 ((x : Nat) : Int) = ((2 * x : Nat) : Int) := by decide +kernel
  exact this x hx
/-- what is laid aside of the ways below x -/
def g_cl (G : Nat → Nat → Int) (m : z_M) (x : Nat) : Prop := ∀ j, j < x → m 273 (2 * j) = G 0 j ∧ m 273 (2 * j + 1) = G 1 j
theorem R_has (m : z_M) {x s : Nat} (hx : x < 4) (hs : s < 2) : z_R 185 (m, 0, [(0, (x : Int)), (0, (s : Int))], []) = some (m, some (0, if g_go s x = true then 0 else 1)) := by
  rw [t_has_0, g_shr hx hs]
  by_cases g : g_go s x = true
  · rw [if_pos g, if_neg (show ¬ (0 : Int) = 1 by decide)]
  · rw [if_neg g, if_pos rfl]
theorem R_wmo (hi : R_is w h n heat price D A c U kn KS cs m) (ht : 0 ≤ A 35 ∧ A 35 ≤ 1073741824) {p : Nat} (hp : p < 5) : z_R 186 (m, 0, [(2, 251), (2, 252), (0, (p : Int))], []) = some (m, some (0, wmD D (A 35) p)) := by
  have e35 : m 252 35 = A 35 := R_A hi (by decide) (a_vis_hi (by decide))
  have e := r_wo z_A_252 (Or.inl rfl) m hp e35 ht.1 (by omega)
  rw [rwm_D hi.1.2.2.2.2.2 hi.2.1 ht.1 hp] at e
  exact e
theorem R_mel (hi : R_is w h n heat price D A c U kn KS cs m) (hok : hr_ok n A) (ht : 0 ≤ A 35 ∧ A 35 ≤ 1073741824) {r : Nat} (hr : r < 9) {t k : Int} (h1 : 0 ≤ t ∧ t ≤ 1000) (h2 : 0 ≤ k ∧ k ≤ 63) : ∃ m1, z_R 189 (m, 0, [(2, 251), (2, 252), (0, (r : Int)), (0, t), (0, k), (9, 0)], []) = some (m1, some (0, c_ml cs t (A r) (A (r + 9)) (A 36) ((r : Int) / 3) k (A 35))) ∧ R_is w h n heat price D A c U kn KS cs m1 ∧ ∀ j, m1 273 j = m 273 j := by
  have ea : ∀ k, k < 18 ∨ 33 ≤ k → k < 37 → m 252 k = A k := fun k hk h37 => R_A hi h37 (by
    rcases hk with hk | hk
    · exact a_vis_lo hk
    · exact a_vis_hi hk)
  have hrg : r_rg 252 m := by
    refine ⟨fun k hk => ?_, ?_, ?_⟩
    · have p1 := hok.1 k hk
      have p2 := hok.2.1 k hk
      rw [ea k (by omega) (by omega), ea (k + 9) (by omega) (by omega)]
      omega
    · rw [ea 36 (by omega) (by omega)]
      have := hok.2.2.2
      omega
    · rw [ea 35 (by omega) (by omega)]
      omega
  obtain ⟨m1, a1, a2⟩ := (R_cfg hi).2.2.2.2.2.2 m rfl rfl 252 z_A_252 (Or.inl rfl) r t k hr hrg ⟨h1.1, by omega⟩ ⟨h2.1, by omega⟩
  rw [ea r (by omega) (by omega), ea (r + 9) (by omega) (by omega), ea 36 (by omega) (by omega), ea 35 (by omega) (by omega)] at a1
  refine ⟨m1, a1, R_fr hi fun p k hk => ?_, fun j => a2.of (by (repeat' (first | exact trivial | refine z_of_c ?_ ?_)) <;> omega)⟩
  have hk' := hk
  unfold R_hit at hk'
  have hk' := of_decide_eq_true hk'
  exact a2.of (by (repeat' (first | exact trivial | refine z_of_c ?_ ?_)) <;> omega)
theorem R_rst1 (hok : hr_ok n A) (ht : 0 ≤ A 35 ∧ A 35 ≤ 1073741824) (h5 : n ≤ 5) {a b r : Nat} (ha : a < n) (hb : b < n) (hr : r < 9) {v W B x1 x2 : Int} (hv : 0 ≤ v ∧ v ≤ 99) (hB : 0 ≤ hr_pc B ∧ hr_pc B ≤ 63) (b1 : 0 ≤ x1 ∧ x1 ≤ 9) (b2 : 0 ≤ x2 ∧ x2 ≤ 9) (bW : x1 + x2 ≤ W ∧ W ≤ 54) (e1 : wmD D (A 35) a = x1) (e2 : wmD D (A 35) b = x2) {G : Nat → Nat → Int} (hG : G = g_g (fun t => c_ml cs t (A r) (A (r + 9)) (A 36) ((r : Int) / 3) (hr_pc B) (A 35)) W x1 x2 v) : ∀ (f x : Nat) (v8 v9 : z_V) (m : z_M), x + f = 4 → R_is w h n heat price D A c U kn KS cs m → g_cl G m x → ∃ m1 v9', z_R 251 (m, 121, [(2, 251), (0, (a : Int)), (0, (b : Int)), (0, v), (0, (r : Int)), (0, B), (0, W - x1 - x2), (0, (x : Int)), v8, v9], []) = z_R 251 (m1, 262, [(2, 251), (0, (a : Int)), (0, (b : Int)), (0, v), (0, (r : Int)), (0, B), (0, W - x1 - x2), (0, 0), (0, 0), v9'], []) ∧ g_cl G m1 4 := by
  intro f
  induction f with
  | zero =>
    intro x v8 v9 m hx hi hc
    obtain rfl : x = 4 := by omega
    rw [z_trs_121, if_pos (by decide)]
    exact ⟨m, v9, rfl, hc⟩
  | succ f ih =>
    intro x v8 v9 m hx hi hc
    have hx4 : x < 4 := by omega
    have h0 : ∀ m : z_M, z_R 185 (m, 0, [(0, (x : Int)), (0, 0)], []) = some (m, some (0, if g_go 0 x = true then 0 else 1)) := fun m => R_has m hx4 (s := 0) (by decide)
    have h1 : ∀ m : z_M, z_R 185 (m, 0, [(0, (x : Int)), (0, 1)], []) = some (m, some (0, if g_go 1 x = true then 0 else 1)) := fun m => R_has m hx4 (s := 1) (by decide)
    have wa := R_wmo hi ht (p := a) (by omega)
    have wb := R_wmo hi ht (p := b) (by omega)
    rw [e1] at wa
    rw [e2] at wb
    -- the melting of this way, both told
    have go : ∀ t, t = g_wt W x1 x2 x → ∃ m1 v9', ((z_R 101 (m, 0, [(0, B)], [])).bind fun qq => z_R 251 (qq.1, 191, [(2, 251), (0, (a : Int)), (0, (b : Int)), (0, v), (0, (r : Int)), (0, B), (0, W - x1 - x2), (0, (x : Int)), (0, t), v9], qq.2.toList ++ [(0, t), (0, (r : Int)), (2, 252), (2, 251)])) = z_R 251 (m1, 262, [(2, 251), (0, (a : Int)), (0, (b : Int)), (0, v), (0, (r : Int)), (0, B), (0, W - x1 - x2), (0, 0), (0, 0), v9'], []) ∧ g_cl G m1 4 := by
      intro t et
      have bt : 0 ≤ t ∧ t ≤ 1000 := by
        rw [et]
        unfold g_wt
        by_cases c1 : g_go 0 x = true
        · rw [if_pos c1]
          by_cases c2 : g_go 1 x = true
          · rw [if_pos c2]; omega
          · rw [if_neg c2]; omega
        · rw [if_neg c1]
          by_cases c2 : g_go 1 x = true
          · rw [if_pos c2]; omega
          · rw [if_neg c2]; omega
      obtain ⟨m1, a1, a2, a3⟩ := R_mel hi hok ht hr bt hB
      have bm := c_ml_ok cs t (A r) (A (r + 9)) (A 36) ((r : Int) / 3) (hr_pc B) (A 35) (hok.1 r hr).1
      have br := (hok.1 r hr).2
      have eG : ∀ s, G s x = (if g_go s x = true then 0 else v) - c_ml cs t (A r) (A (r + 9)) (A 36) ((r : Int) / 3) (hr_pc B) (A 35) := fun s => by
        rw [hG, et]
        rfl
      rw [t_bc_0, zb_v, z_trs_191, a1, zb_v, z_trs_194, h0, zb_v, z_trs_210, g_mul2 hx4]
      generalize c_ml cs t (A r) (A (r + 9)) (A 36) ((r : Int) / 3) (hr_pc B) (A 35) = M at bm eG ⊢
      have nx : ∀ y0 y1 : Int, y0 = G 0 x → y1 = G 1 x → ∃ m2 v9', z_R 251 (z_up (z_up m1 273 (2 * x) y0) 273 (2 * x + 1) y1, 121, [(2, 251), (0, (a : Int)), (0, (b : Int)), (0, v), (0, (r : Int)), (0, B), (0, W - x1 - x2), (0, ((x + 1 : Nat) : Int)), (0, t), (0, M)], []) = z_R 251 (m2, 262, [(2, 251), (0, (a : Int)), (0, (b : Int)), (0, v), (0, (r : Int)), (0, B), (0, W - x1 - x2), (0, 0), (0, 0), v9'], []) ∧ g_cl G m2 4 := by
        intro y0 y1 h0 h1
        refine ih (x + 1) _ _ _ (by omega) (R_upn (R_upn a2 ?_) ?_) ?_
        · have : ∀ k, k < 8 → R_hit 273 k k = false := by decide +kernel
          exact this _ (by omega)
        · have : ∀ k, k < 8 → R_hit 273 k k = false := by decide +kernel
          exact this _ (by omega)
        · intro j hj
          by_cases e : j = x
          · rw [e, zu_k (by omega), zu_self, zu_self, h0, h1]
            exact ⟨rfl, rfl⟩
          · have := hc j (by omega)
            rw [zu_k (by omega), zu_k (by omega), zu_k (by omega), zu_k (by omega), a3, a3]
            exact this
      have n1 : z_add ((2 * x : Nat) : Int) 1 = ((2 * x + 1 : Nat) : Int) := by
        rw [z_add_eq (by omega) (by omega)]
        omega
      have i0 : (0 : Int) ≤ ((2 * x : Nat) : Int) ∧ ((2 * x : Nat) : Int) < 8 := by omega
      have i1 : (0 : Int) ≤ ((2 * x + 1 : Nat) : Int) ∧ ((2 * x + 1 : Nat) : Int) < 8 := by omega
      have s0 : z_sub 0 M = 0 - M := z_sub_eq (by omega) (by omega)
      have s1 : z_sub v M = v - M := z_sub_eq (by omega) (by omega)
      rw [n1, Int.toNat_natCast, s0, s1]
      by_cases c0 : g_go 0 x = true
      · rw [if_pos c0, if_pos rfl, if_pos i0, h1, zb_v, z_trs_238, s0, s1, z_add_eq (x := (x : Int)) (y := 1) (by omega) (by omega), tc1, Int.toNat_natCast]
        by_cases c1 : g_go 1 x = true
        · rw [if_pos c1, if_pos rfl, if_pos i1]
          exact nx _ _ (by rw [eG 0, if_pos c0]) (by rw [eG 1, if_pos c1])
        · rw [if_neg c1, if_neg (show ¬ (1 : Int) = 0 by decide), if_pos i1]
          exact nx _ _ (by rw [eG 0, if_pos c0]) (by rw [eG 1, if_neg c1])
      · rw [if_neg c0, if_neg (show ¬ (1 : Int) = 0 by decide), if_pos i0, h1, zb_v, z_trs_238, s0, s1, z_add_eq (x := (x : Int)) (y := 1) (by omega) (by omega), tc1, Int.toNat_natCast]
        by_cases c1 : g_go 1 x = true
        · rw [if_pos c1, if_pos rfl, if_pos i1]
          exact nx _ _ (by rw [eG 0, if_neg c0]) (by rw [eG 1, if_pos c1])
        · rw [if_neg c1, if_neg (show ¬ (1 : Int) = 0 by decide), if_pos i1]
          exact nx _ _ (by rw [eG 0, if_neg c0]) (by rw [eG 1, if_neg c1])
    rw [z_trs_121, if_neg (by omega), h0, zb_v, z_trs_135]
    by_cases c1 : g_go 0 x = true
    · rw [if_pos c1, if_pos rfl, z_add_eq (x := W - x1 - x2) (y := 0) (by omega) (by omega), h1, zb_v, z_trs_158]
      by_cases c2 : g_go 1 x = true
      · rw [if_pos c2, if_pos rfl, z_add_eq (x := W - x1 - x2 + 0) (y := 0) (by omega) (by omega)]
        exact go _ (by unfold g_wt; rw [if_pos c1, if_pos c2]; omega)
      · rw [if_neg c2, if_neg (show ¬ (1 : Int) = 0 by decide), wb, zb_v, z_trs_170, z_add_eq (x := W - x1 - x2 + 0) (by omega) (by omega)]
        exact go _ (by unfold g_wt; rw [if_pos c1, if_neg c2]; omega)
    · rw [if_neg c1, if_neg (show ¬ (1 : Int) = 0 by decide), wa, zb_v, z_trs_147, z_add_eq (x := W - x1 - x2) (by omega) (by omega), h1, zb_v, z_trs_158]
      by_cases c2 : g_go 1 x = true
      · rw [if_pos c2, if_pos rfl, z_add_eq (x := W - x1 - x2 + x1) (y := 0) (by omega) (by omega)]
        exact go _ (by unfold g_wt; rw [if_neg c1, if_pos c2]; omega)
      · rw [if_neg c2, if_neg (show ¬ (1 : Int) = 0 by decide), wb, zb_v, z_trs_170, z_add_eq (x := W - x1 - x2 + x1) (by omega) (by omega)]
        exact go _ (by unfold g_wt; rw [if_neg c1, if_neg c2]; omega)
theorem R_rst2 {G : Nat → Nat → Int} {y1 y2 y3 y4 y5 y6 : Int} {v9 : z_V} (hc : g_cl G m 4) : ∀ (f x : Nat) (acc : Int), x + f = 4 → z_R 251 (m, 262, [(2, 251), (0, y1), (0, y2), (0, y3), (0, y4), (0, y5), (0, y6), (0, acc), (0, (x : Int)), v9], []) = z_R 251 (m, 262, [(2, 251), (0, y1), (0, y2), (0, y3), (0, y4), (0, y5), (0, y6), (0, g_bits G f x acc), (0, 4), v9], []) := by
  intro f
  induction f with
  | zero =>
    intro x acc hx
    obtain rfl : x = 4 := by omega
    rfl
  | succ f ih =>
    intro x acc hx
    have hx4 : x < 4 := by omega
    have l1 := g_x1_lt hx4
    have l2 := g_x2_lt hx4
    have n1 : z_add ((2 * g_x2 x : Nat) : Int) 1 = ((2 * g_x2 x + 1 : Nat) : Int) := by
      rw [z_add_eq (by omega) (by omega)]
      omega
    rw [z_trs_262, if_neg (by omega), g_xor1 hx4, g_xor2 hx4, g_mul2 l1, g_mul2 hx4, g_mul2 l2, n1, if_pos (by omega), if_pos (by omega), Int.toNat_natCast, Int.toNat_natCast, Int.toNat_natCast, show (((2 * x : Nat) : Int) + 1).toNat = 2 * x + 1 by omega, (hc x hx4).1, (hc x hx4).2, (hc _ l1).1, (hc _ l2).2, z_add_eq (x := (x : Int)) (y := 1) (by omega) (by omega), tc1]
    unfold g_bits
    by_cases p1 : G 0 x < G 0 (g_x1 x)
    · rw [if_pos p1, if_neg (show ¬ (G 0 (g_x1 x) ≤ G 0 x ∧ G 1 (g_x2 x) ≤ G 1 x) by omega)]
      exact ih (x + 1) acc (by omega)
    · rw [if_neg p1, if_pos (by omega), if_pos (by omega)]
      by_cases p2 : G 1 x < G 1 (g_x2 x)
      · rw [if_pos p2, if_neg (show ¬ (G 0 (g_x1 x) ≤ G 0 x ∧ G 1 (g_x2 x) ≤ G 1 x) by omega)]
        exact ih (x + 1) acc (by omega)
      · rw [if_neg p2, if_pos (show G 0 (g_x1 x) ≤ G 0 x ∧ G 1 (g_x2 x) ≤ G 1 x by omega)]
        exact ih (x + 1) _ (by omega)
theorem R_rst3 {y1 y2 y3 y4 y5 y6 acc v : Int} {v9 : z_V} {m' : z_M} (hE : z_R 251 (m, 262, [(2, 251), (0, y1), (0, y2), (0, y3), (0, y4), (0, y5), (0, y6), (0, acc), (0, 4), v9], []) = some (m', some (0, v))) : v = acc := by
  rw [z_trs_262, if_pos (by decide)] at hE
  by_cases z : acc = 0
  · rw [if_pos z] at hE
    exact s_val hE
  · rw [if_neg z] at hE
    obtain ⟨m1, u, h1⟩ := s_bI (by decide +kernel) hE
    rw [z_trs_348] at h1
    split at h1
    · obtain ⟨m2, h2⟩ := s_bV (by decide +kernel) h1
      rw [z_trs_364] at h2
      split at h2
      · obtain ⟨m3, h3⟩ := s_bV (by decide +kernel) h2
        rw [z_trs_380] at h3
        exact s_val h3
      · cases h2
    · cases h1
theorem R_rests (hi : R_is w h n heat price D A c U kn KS cs m) (hN : w_N w h n heat D) (hok : hr_ok n A) (ht : 0 ≤ A 35 ∧ A 35 ≤ 1073741824) {a b v x : Int} {m' : z_M} (hE : z_R 251 (m, 0, [(2, 251), (0, a), (0, b), (0, v), (9, 0), (9, 0), (9, 0), (9, 0), (9, 0), (9, 0)], []) = some (m', some (0, x))) : x = g_A n heat cs D A a b v := by
  have h5 := hN.1.2.2
  have hu := R_upn (p0 := 251) (k0 := 11) (v := 0) hi (by decide)
  rw [z_trs_0 m a b v (by rw [hi.1.2.2.1]; omega), hi.1.2.2.1] at hE
  generalize z_up m 251 11 0 = m0 at hu hE
  by_cases c1 : 0 ≤ a ∧ a < (n : Int)
  · rw [if_pos c1] at hE
    by_cases c2 : 0 ≤ b ∧ b < (n : Int)
    · rw [if_pos c2] at hE
      by_cases c3 : a = b
      · have e : g_A n heat cs D A a b v = -1 := if_neg (fun z => z.2.2.1 c3)
        rw [if_pos c3] at hE
        rw [e]
        exact s_val hE
      rw [if_neg c3] at hE
      by_cases c5 : 0 ≤ v ∧ v ≤ 99
      · obtain ⟨a', rfl⟩ : ∃ a' : Nat, a = (a' : Int) := ⟨a.toNat, by omega⟩
        obtain ⟨b', rfl⟩ : ∃ b' : Nat, b = (b' : Int) := ⟨b.toNat, by omega⟩
        have ha : a' < n := by omega
        have hb : b' < n := by omega
        have e18 : m 252 (a' + 18) = A (a' + 18) := R_A hi (by omega) (a_vis_p (b := 18) (p := a') (by omega) (by omega) (by omega) (by omega))
        have e18b : m 252 (b' + 18) = A (b' + 18) := R_A hi (by omega) (a_vis_p (b := 18) (p := b') (by omega) (by omega) (by omega) (by omega))
        have eA : g_A n heat cs D A (a' : Int) (b' : Int) v = if ¬ A ((a' : Int).toNat + 18) = -1 ∧ A ((b' : Int).toNat + 18) = A ((a' : Int).toNat + 18) then g_bits (g_G n heat cs D A (a' : Int).toNat (b' : Int).toNat (A ((a' : Int).toNat + 18)).toNat v) 4 0 0 else -2 := if_pos ⟨c1, c2, c3, c5⟩
        rw [Int.toNat_natCast, Int.toNat_natCast] at eA
        rw [if_pos c5, show ((a' : Int) + 18).toNat = a' + 18 by omega, show ((b' : Int) + 18).toNat = b' + 18 by omega, e18, e18b] at hE
        rw [eA]
        by_cases d1 : A (a' + 18) = -1
        · rw [if_pos d1] at hE
          rw [if_neg (fun y => y.1 d1)]
          exact s_val hE
        rw [if_neg d1] at hE
        by_cases d2 : A (b' + 18) = A (a' + 18)
        · have hw := hok.2.2.1 a' ha
          obtain ⟨r, er⟩ : ∃ r : Nat, A (a' + 18) = (r : Int) := ⟨(A (a' + 18)).toNat, by omega⟩
          have eb := d2.trans er
          have hr : r < 9 := by omega
          have bW := hr_wb_b hN ht.1 (r : Int) (hr_b (r : Int) n 0 A 0)
          have b2W := g_W2 hN ht.1 ha hb (fun z => c3 (by rw [z])) er eb
          have ba := hN.2.2 (A 35) ht.1 a' (by omega)
          have bb := hN.2.2 (A 35) ht.1 b' (by omega)
          have hrS := hu.2.2.1
          have pin := r_pin z_A_252 (Or.inl rfl) h5 (k := (r : Int)) m0 hu.1.2.2.1
          rw [hrS] at pin
          have pin : z_R 183 (m0, 0, [(2, 251), (2, 252), (0, (r : Int)), (9, 0), (9, 0)], []) = some (m0, some (0, hr_b (r : Int) n 0 A 0)) := pin
          have wbr := r_wb z_A_252 (Or.inl rfl) h5 (k := (r : Int)) (b := hr_b (r : Int) n 0 A 0) (t := A 35) (heat := heat) (wm := wmD D (A 35)) ht.1 (by omega) m0 hu.1.2.2.1 (R_cfg hu).2.2.2.1 (R_A hu (by decide) (a_vis_hi (by decide))) (fun p hp => (R_cfg hu).2.2.2.2.2.1 (A 35) ht.1 p hp)
          rw [hrS] at wbr
          have wbr : z_R 184 (m0, 0, [(2, 251), (2, 252), (0, (r : Int)), (0, hr_b (r : Int) n 0 A 0), (9, 0), (9, 0)], []) = some (m0, some (0, hr_wb heat (wmD D (A 35)) n A (r : Int) (hr_b (r : Int) n 0 A 0))) := wbr
          have wa := R_wmo hu ht (p := a') (by omega)
          have wb := R_wmo hu ht (p := b') (by omega)
          rw [if_pos d2, er, pin, zb_v, z_trs_82, wbr, zb_v, z_trs_96, wa, zb_v, z_trs_105, wb, zb_v, z_trs_115, z_sub_eq (x := hr_wb heat (wmD D (A 35)) n A (r : Int) (hr_b (r : Int) n 0 A 0)) (by omega) (by omega), z_sub_eq (x := hr_wb heat (wmD D (A 35)) n A (r : Int) (hr_b (r : Int) n 0 A 0) - wmD D (A 35) a') (by omega) (by omega)] at hE
          obtain ⟨m1, v9, f1, f2⟩ := R_rst1 (cs := cs) hok ht h5 ha hb hr (v := v) (W := hr_wb heat (wmD D (A 35)) n A (r : Int) (hr_b (r : Int) n 0 A 0)) (B := hr_b (r : Int) n 0 A 0) c5 (hr_pc_b _) ba bb ⟨b2W, bW.2⟩ rfl rfl (G := g_G n heat cs D A a' b' r v) rfl 4 0 (9, 0) (9, 0) m0 (by decide) hu (fun j hj => absurd hj (Nat.not_lt_zero j))
          have f1 : z_R 251 (m0, 121, [(2, 251), (0, (a' : Int)), (0, (b' : Int)), (0, v), (0, (r : Int)), (0, hr_b (r : Int) n 0 A 0), (0, hr_wb heat (wmD D (A 35)) n A (r : Int) (hr_b (r : Int) n 0 A 0) - wmD D (A 35) a' - wmD D (A 35) b'), (0, 0), (9, 0), (9, 0)], []) = _ := f1
          rw [f1] at hE
          have f3 := R_rst2 (y1 := (a' : Int)) (y2 := (b' : Int)) (y3 := v) (y4 := (r : Int)) (y5 := hr_b (r : Int) n 0 A 0) (y6 := hr_wb heat (wmD D (A 35)) n A (r : Int) (hr_b (r : Int) n 0 A 0) - wmD D (A 35) a' - wmD D (A 35) b') (v9 := v9) f2 4 0 0 (by decide)
          have z := R_rst3 (f3.symm.trans hE)
          rw [if_pos (show ¬ A (a' + 18) = -1 ∧ A (b' + 18) = A (a' + 18) from ⟨d1, d2⟩), er, Int.toNat_natCast]
          exact z
        · rw [if_neg d2] at hE
          rw [if_neg (fun y => d2 y.2)]
          exact s_val hE
      · have e : g_A n heat cs D A a b v = -1 := if_neg (fun z => c5 z.2.2.2)
        rw [if_neg c5] at hE
        rw [e]
        exact s_val hE
    · have e : g_A n heat cs D A a b v = -1 := if_neg (fun z => c2 z.2.1)
      rw [if_neg c2] at hE
      rw [e]
      exact s_val hE
  · have e : g_A n heat cs D A a b v = -1 := if_neg (fun z => c1 z.1)
    rw [if_neg c1] at hE
    rw [e]
    exact s_val hE
end
theorem core_rests : l_rel2 Rel_C (1036, 156, 135, 3, false, 1059, 159, 251) := by
  intro M1 M2 M3 σ σ1 σ2 as v1 v2 C1 C2 ρ1 ρ2 ha hR hh hM1 hC1 hp1 hE1 hC2 hp2 hE2
  obtain ⟨a, b, v, rfl⟩ := as_three ha
  have hE1 : z_R 135 (z_m σ, 0, [(2, 0), (0, a.toInt), (0, b.toInt), (0, v.toInt), (9, 0), (9, 0), (9, 0), (9, 0), (9, 0), (9, 0)], []) = some (z_m σ1, some (0, v1.toInt)) := z_R_iff.mpr hE1
  have hE2 : z_R 251 (z_m σ1, 0, [(2, 251), (0, a.toInt), (0, b.toInt), (0, v.toInt), (9, 0), (9, 0), (9, 0), (9, 0), (9, 0), (9, 0)], []) = some (z_m σ2, some (0, v2.toInt)) := z_R_iff.mpr hE2
  have hT := T_two (y1 := 135) (y2 := 251) (by decide +kernel) (by decide +kernel) hC1 hC2 hp1 hp2 hR.1
  have hK := core_off_ok (y := 251) (by decide +kernel) hC2 hp2 (core_off_ok (y := 135) (by decide +kernel) hC1 hp1 hR.2)
  obtain ⟨w, h, n, heat, price, D, A, c, U, kn, KS, cs, cC, cR, cW⟩ := hR.2
  obtain ⟨b1, b2, -, -, hok, b35, -, b7⟩ := core_b hh hM1 cR
  have hN : w_N w h n heat D := ⟨b1, b2, b7⟩
  have f1 := R_off2_ok (y := 135) (by decide +kernel) hC1 hp1
  obtain ⟨m1, x1, -⟩ := C_rests cC hN hok b35 cW.2.1 a.toInt b.toInt v.toInt
  obtain ⟨-, x1⟩ := R_inj x1 hE1
  have x2 := R_rests (R_fr cR f1) hN hok b35 hE2
  exact ⟨⟨hT, hK⟩, fun _ => Int32.toInt_inj.mp (x1.symm.trans x2.symm)⟩
end
section
/-! STRETCHES of look, with bounds done -/
theorem k_bc_0  (m : z_M) (x : Int) : z_R 128 (m, 0, [(1, x), (9, 0)], []) = z_R 128 (m, 10, [(1, z_lsub x (z_land (z_lush x 1) 6148914691236517205)), (9, 0)], []) :=
  have hK : kt_at 128 = kt_128 := rfl
  (z_R_run hK (n := 8) (g' := (m, 10, [(1, z_lsub x (z_land (z_lush x 1) 6148914691236517205)), (9, 0)], [])) rfl).trans (rfl)
theorem k_bc_10  (m : z_M) (x0 : Int) : z_R 128 (m, 10, [(1, x0), (9, 0)], []) = z_R 128 (m, 24, [(1, z_ladd (z_land x0 3689348814741910323) (z_land (z_lush x0 2) 3689348814741910323)), (9, 0)], []) :=
  have hK : kt_at 128 = kt_128 := rfl
  (z_R_run hK (n := 10) (g' := (m, 24, [(1, z_ladd (z_land x0 3689348814741910323) (z_land (z_lush x0 2) 3689348814741910323)), (9, 0)], [])) rfl).trans (rfl)
theorem k_bc_24  (m : z_M) (x0 : Int) : z_R 128 (m, 24, [(1, x0), (9, 0)], []) = z_R 128 (m, 34, [(1, z_land (z_ladd x0 (z_lush x0 4)) 1085102592571150095), (9, 0)], []) :=
  have hK : kt_at 128 = kt_128 := rfl
  (z_R_run hK (n := 8) (g' := (m, 34, [(1, z_land (z_ladd x0 (z_lush x0 4)) 1085102592571150095), (9, 0)], [])) rfl).trans (rfl)
theorem k_bc_34  (m : z_M) (x0 : Int) : z_R 128 (m, 34, [(1, x0), (9, 0)], []) = z_R 128 (m, 41, [(1, z_ladd x0 (z_lush x0 8)), (9, 0)], []) :=
  have hK : kt_at 128 = kt_128 := rfl
  (z_R_run hK (n := 6) (g' := (m, 41, [(1, z_ladd x0 (z_lush x0 8)), (9, 0)], [])) rfl).trans (rfl)
theorem k_bc_41  (m : z_M) (x0 : Int) : z_R 128 (m, 41, [(1, x0), (9, 0)], []) = z_R 128 (m, 48, [(1, z_ladd x0 (z_lush x0 16)), (9, 0)], []) :=
  have hK : kt_at 128 = kt_128 := rfl
  (z_R_run hK (n := 6) (g' := (m, 48, [(1, z_ladd x0 (z_lush x0 16)), (9, 0)], [])) rfl).trans (rfl)
theorem k_bc_48  (m : z_M) (x0 : Int) : z_R 128 (m, 48, [(1, x0), (9, 0)], []) = z_R 128 (m, 55, [(1, z_ladd x0 (z_lush x0 32)), (9, 0)], []) :=
  have hK : kt_at 128 = kt_128 := rfl
  (z_R_run hK (n := 6) (g' := (m, 55, [(1, z_ladd x0 (z_lush x0 32)), (9, 0)], [])) rfl).trans (rfl)
theorem k_bc_55  (m : z_M) (x0 : Int) : z_R 128 (m, 55, [(1, x0), (9, 0)], []) = some (m, some (0, z_and (z_l2i x0) 127)) :=
  have hK : kt_at 128 = kt_128 := rfl
  (z_R_run hK (n := 4) (g' := (m, 60, [(1, x0), (9, 0)], [(0, z_and (z_l2i x0) 127)])) rfl).trans (z_R_ret hK rfl rfl rfl)
theorem k_cm_0  (m : z_M) (r : Int) : z_R 127 (m, 0, [(2, 24), (2, 12), (0, r), (9, 0), (9, 0), (9, 0), (9, 0), (9, 0), (9, 0)], []) = z_R 127 (z_up m 24 13 0, 13, [(2, 24), (2, 12), (0, r), (1, 0), (9, 0), (1, 0), (9, 0), (0, 0), (9, 0)], []) :=
  have hK : kt_at 127 = kt_127 := rfl
  (z_R_run hK (n := 9) (g' := (z_up m 24 13 0, 13, [(2, 24), (2, 12), (0, r), (1, 0), (9, 0), (1, 0), (9, 0), (0, 0), (9, 0)], [])) rfl).trans (rfl)
theorem k_cm_13  (m : z_M) (x2 : Int) (x3 : Int) (x5 : Int) (x7 : Int) (v8 : z_V) (h_n : 0 ≤ m 3 11 ∧ m 3 11 ≤ 5) : z_R 127 (m, 13, [(2, 24), (2, 12), (0, x2), (1, x3), (9, 0), (1, x5), (9, 0), (0, x7), v8], []) = if z_shl 1 (m 3 11) ≤ x7 then (z_R 128 (m, 0, [(1, x3), (9, 0)], [])).bind fun qq => z_R 127 (qq.1, 90, [(2, 24), (2, 12), (0, x2), (1, x3), (9, 0), (1, x5), (9, 0), (0, x7), v8], qq.2.toList ++ [(2, 24)]) else (z_R 118 (m, 0, [(2, 24), (2, 12), (0, x2), (0, x7)], [])).bind fun qq => z_R 127 (qq.1, 35, [(2, 24), (2, 12), (0, x2), (1, x3), (9, 0), (1, x5), (9, 0), (0, x7), v8], qq.2.toList ++ []) :=
  have hK : kt_at 127 = kt_127 := rfl
  (z_R_run hK (n := 4) (g' := (m, 20, [(2, 24), (2, 12), (0, x2), (1, x3), (9, 0), (1, x5), (9, 0), (0, x7), v8], [(2, 3), (0, 1), (0, x7)])) rfl).trans ((z_R_run hK (n := 2) (g' := (m, 24, [(2, 24), (2, 12), (0, x2), (1, x3), (9, 0), (1, x5), (9, 0), (0, x7), v8], [(0, z_shl 1 (m 3 11)), (0, x7)])) rfl).trans (z_R_ifd hK (c := z_shl 1 (m 3 11) ≤ x7) (p1 := 85) (p2 := 27) rfl rfl rfl (fun h1 => (z_R_run hK (n := 2) (g' := (m, 87, [(2, 24), (2, 12), (0, x2), (1, x3), (9, 0), (1, x5), (9, 0), (0, x7), v8], [(1, x3), (2, 24)])) rfl).trans (z_R_call hK rfl rfl rfl rfl rfl)) (fun h1 => (z_R_run hK (n := 4) (g' := (m, 32, [(2, 24), (2, 12), (0, x2), (1, x3), (9, 0), (1, x5), (9, 0), (0, x7), v8], [(0, x7), (0, x2), (2, 12), (2, 24)])) rfl).trans (z_R_call hK rfl rfl rfl rfl rfl))))
theorem k_cm_35  (m : z_M) (x2 : Int) (x3 : Int) (x5 : Int) (x7 : Int) (v8 : z_V) (u : Int) : z_R 127 (m, 35, [(2, 24), (2, 12), (0, x2), (1, x3), (9, 0), (1, x5), (9, 0), (0, x7), v8], [(0, u)]) = if 64 ≤ u then z_R 127 (z_up m 24 13 (if (m 24 13) < u then u else (m 24 13)), 13, [(2, 24), (2, 12), (0, x2), (1, x3), (9, 0), (1, z_lor x5 (z_lshl 1 (z_sub u 64))), (9, 0), (0, z_add x7 1), (0, u)], []) else z_R 127 (z_up m 24 13 (if (m 24 13) < u then u else (m 24 13)), 13, [(2, 24), (2, 12), (0, x2), (1, z_lor x3 (z_lshl 1 u)), (9, 0), (1, x5), (9, 0), (0, z_add x7 1), (0, u)], []) :=
  have hK : kt_at 127 = kt_127 := rfl
  (z_R_run hK (n := 9) (g' := (z_up m 24 13 (if (m 24 13) < u then u else (m 24 13)), 54, [(2, 24), (2, 12), (0, x2), (1, x3), (9, 0), (1, x5), (9, 0), (0, x7), (0, u)], [(0, 64), (0, u)])) rfl).trans (z_R_ifd hK (c := 64 ≤ u) (p1 := 67) (p2 := 57) rfl rfl rfl (fun h1 => (z_R_run hK (n := 10) (g' := (z_up m 24 13 (if (m 24 13) < u then u else (m 24 13)), 13, [(2, 24), (2, 12), (0, x2), (1, x3), (9, 0), (1, z_lor x5 (z_lshl 1 (z_sub u 64))), (9, 0), (0, z_add x7 1), (0, u)], [])) rfl).trans (rfl)) (fun h1 => (z_R_run hK (n := 9) (g' := (z_up m 24 13 (if (m 24 13) < u then u else (m 24 13)), 13, [(2, 24), (2, 12), (0, x2), (1, z_lor x3 (z_lshl 1 u)), (9, 0), (1, x5), (9, 0), (0, z_add x7 1), (0, u)], [])) rfl).trans (rfl)))
theorem k_cm_90  (m : z_M) (x2 : Int) (x3 : Int) (x5 : Int) (x7 : Int) (v8 : z_V) (u : Int) : z_R 127 (m, 90, [(2, 24), (2, 12), (0, x2), (1, x3), (9, 0), (1, x5), (9, 0), (0, x7), v8], [(0, u), (2, 24)]) = (z_R 128 (m, 0, [(1, x5), (9, 0)], [])).bind fun qq => z_R 127 (qq.1, 95, [(2, 24), (2, 12), (0, x2), (1, x3), (9, 0), (1, x5), (9, 0), (0, x7), v8], qq.2.toList ++ [(0, u), (2, 24)]) :=
  have hK : kt_at 127 = kt_127 := rfl
  (z_R_run hK (n := 1) (g' := (m, 92, [(2, 24), (2, 12), (0, x2), (1, x3), (9, 0), (1, x5), (9, 0), (0, x7), v8], [(1, x5), (0, u), (2, 24)])) rfl).trans (z_R_call hK rfl rfl rfl rfl rfl)
theorem k_cm_95  (m : z_M) (x2 : Int) (x3 : Int) (x5 : Int) (x7 : Int) (v8 : z_V) (s0 : Int) (u : Int) : z_R 127 (m, 95, [(2, 24), (2, 12), (0, x2), (1, x3), (9, 0), (1, x5), (9, 0), (0, x7), v8], [(0, u), (0, s0), (2, 24)]) = some (z_up m 24 12 (z_add s0 u), none) :=
  have hK : kt_at 127 = kt_127 := rfl
  (z_R_run hK (n := 2) (g' := (z_up m 24 12 (z_add s0 u), 99, [(2, 24), (2, 12), (0, x2), (1, x3), (9, 0), (1, x5), (9, 0), (0, x7), v8], [])) rfl).trans (z_R_ret hK rfl rfl rfl)
theorem k_loo_0  (m : z_M) : z_R 126 (m, 0, [(2, 0), (9, 0), (9, 0), (9, 0), (9, 0)], []) = z_R 126 (m, 9, [(2, 0), (0, (-1)), (0, 0), (0, 0), (0, 0)], []) :=
  have hK : kt_at 126 = kt_126 := rfl
  (z_R_run hK (n := 8) (g' := (m, 9, [(2, 0), (0, (-1)), (0, 0), (0, 0), (0, 0)], [])) rfl).trans (rfl)
theorem k_loo_9  (m : z_M) (x1 : Int) (x2 : Int) (x3 : Int) (x4 : Int) : z_R 126 (m, 9, [(2, 0), (0, x1), (0, x2), (0, x3), (0, x4)], []) = if 9 ≤ x4 then if x1 = (-1) then some (m, some (0, (-2))) else (z_R 77 (m, 0, [(2, 0), (1, z_i2l x2), (9, 0), (1, z_i2l x3), (9, 0)], [])).bind fun qq => z_R 126 (qq.1, 93, [(2, 0), (0, x1), (0, x2), (0, x3), (0, x4)], qq.2.toList ++ []) else if ¬ u_hs (m 3 8) (m 3 9) x4 = 0 then (z_R 127 (m, 0, [(2, 24), (2, 12), (0, x4), (9, 0), (9, 0), (9, 0), (9, 0), (9, 0), (9, 0)], [])).bind fun qq => z_R 126 (qq.1, 41, [(2, 0), (0, x1), (0, x2), (0, x3), (0, x4)], qq.2.toList ++ []) else z_R 126 (m, 9, [(2, 0), (0, x1), (0, x2), (0, x3), (0, z_add x4 1)], []) :=
  have hK : kt_at 126 = kt_126 := rfl
  (z_R_run hK (n := 2) (g' := (m, 13, [(2, 0), (0, x1), (0, x2), (0, x3), (0, x4)], [(0, 9), (0, x4)])) rfl).trans (z_R_ifd hK (c := 9 ≤ x4) (p1 := 77) (p2 := 16) rfl rfl rfl (fun h1 => (z_R_run hK (n := 2) (g' := (m, 79, [(2, 0), (0, x1), (0, x2), (0, x3), (0, x4)], [(0, (-1)), (0, x1)])) rfl).trans (z_R_ifnd hK (c := x1 = (-1)) (p1 := 85) (p2 := 82) rfl rfl rfl (fun h2 => (z_R_run hK (n := 5) (g' := (m, 90, [(2, 0), (0, x1), (0, x2), (0, x3), (0, x4)], [(1, z_i2l x3), (1, z_i2l x2), (2, 0)])) rfl).trans (z_R_call hK rfl rfl rfl rfl rfl)) (fun h2 => (z_R_run hK (n := 1) (g' := (m, 84, [(2, 0), (0, x1), (0, x2), (0, x3), (0, x4)], [(0, (-2))])) rfl).trans (z_R_ret hK rfl rfl rfl)))) (fun h1 => (z_R_run hK (n := 2) (g' := (m, 20, [(2, 0), (0, x1), (0, x2), (0, x3), (0, x4)], [(2, 3)])) rfl).trans ((z_R_run hK (n := 1) (g' := (m, 22, [(2, 0), (0, x1), (0, x2), (0, x3), (0, x4)], [(0, x4), (2, 3)])) rfl).trans (z_R_cif hK rfl rfl rfl rfl rfl (c_ifhas _ _ rfl rfl) (fun h3 => have h4 := u_hs_rng h3; (z_R_run hK (n := 3) (g' := (m, 32, [(2, 0), (0, x1), (0, x2), (0, x3), (0, x4)], [(2, 24)])) rfl).trans ((z_R_run hK (n := 2) (g' := (m, 36, [(2, 0), (0, x1), (0, x2), (0, x3), (0, x4)], [(2, 12), (2, 24)])) rfl).trans ((z_R_run hK (n := 1) (g' := (m, 38, [(2, 0), (0, x1), (0, x2), (0, x3), (0, x4)], [(0, x4), (2, 12), (2, 24)])) rfl).trans (z_R_call hK rfl rfl rfl rfl rfl)))) (fun h3 => (z_R_run hK (n := 3) (g' := (m, 9, [(2, 0), (0, x1), (0, x2), (0, x3), (0, z_add x4 1)], [])) rfl).trans (rfl))))))
theorem k_loo_41  (m : z_M) (x1 : Int) (x2 : Int) (x3 : Int) (x4 : Int) : z_R 126 (m, 41, [(2, 0), (0, x1), (0, x2), (0, x3), (0, x4)], []) = if m 24 12 ≤ x2 then z_R 126 (m, 9, [(2, 0), (0, x1), (0, x2), (0, x3), (0, z_add x4 1)], []) else z_R 126 (m, 9, [(2, 0), (0, x4), (0, m 24 12), (0, m 24 13), (0, z_add x4 1)], []) :=
  have hK : kt_at 126 = kt_126 := rfl
  (z_R_run hK (n := 2) (g' := (m, 45, [(2, 0), (0, x1), (0, x2), (0, x3), (0, x4)], [(2, 24)])) rfl).trans ((z_R_run hK (n := 2) (g' := (m, 49, [(2, 0), (0, x1), (0, x2), (0, x3), (0, x4)], [(0, x2), (0, m 24 12)])) rfl).trans (z_R_ifd hK (c := m 24 12 ≤ x2) (p1 := 71) (p2 := 52) rfl rfl rfl (fun h1 => (z_R_run hK (n := 2) (g' := (m, 9, [(2, 0), (0, x1), (0, x2), (0, x3), (0, z_add x4 1)], [])) rfl).trans (rfl)) (fun h1 => (z_R_run hK (n := 4) (g' := (m, 59, [(2, 0), (0, x4), (0, x2), (0, x3), (0, x4)], [(2, 24)])) rfl).trans ((z_R_run hK (n := 4) (g' := (m, 67, [(2, 0), (0, x4), (0, m 24 12), (0, x3), (0, x4)], [(2, 24)])) rfl).trans ((z_R_run hK (n := 4) (g' := (m, 9, [(2, 0), (0, x4), (0, m 24 12), (0, m 24 13), (0, z_add x4 1)], [])) rfl).trans (rfl))))))
theorem k_loo_93  (m : z_M) (x1 : Int) (x2 : Int) (x3 : Int) (x4 : Int) : z_R 126 (m, 93, [(2, 0), (0, x1), (0, x2), (0, x3), (0, x4)], []) = some (m, some (0, x1)) :=
  have hK : kt_at 126 = kt_126 := rfl
  (z_R_run hK (n := 1) (g' := (m, 94, [(2, 0), (0, x1), (0, x2), (0, x3), (0, x4)], [(0, x1)])) rfl).trans (z_R_ret hK rfl rfl rfl)
theorem k_tlo_0  (m : z_M) : z_R 244 (m, 0, [(2, 251), (9, 0), (9, 0), (9, 0), (9, 0), (9, 0), (9, 0), (9, 0), (9, 0)], []) = if m 251 1 = 0 then some (z_up m 251 11 0, some (0, (-2))) else z_R 244 (z_up m 251 11 0, 24, [(2, 251), (0, (-1)), (0, 0), (0, 0), (0, 0), (9, 0), (9, 0), (9, 0), (9, 0)], []) :=
  have hK : kt_at 244 = kt_244 := rfl
  (z_R_run hK (n := 5) (g' := (z_up m 251 11 0, 9, [(2, 251), (9, 0), (9, 0), (9, 0), (9, 0), (9, 0), (9, 0), (9, 0), (9, 0)], [(0, (z_up m 251 11 0) 251 1)])) rfl).trans ((congrArg (fun vv => z_R 244 (z_up m 251 11 0, 9, [(2, 251), (9, 0), (9, 0), (9, 0), (9, 0), (9, 0), (9, 0), (9, 0), (9, 0)], [(0, vv)])) (zu_k (by decide))).trans (z_R_ifnd hK (c := m 251 1 = 0) (p1 := 15) (p2 := 12) rfl rfl rfl (fun h1 => (z_R_run hK (n := 8) (g' := (z_up m 251 11 0, 24, [(2, 251), (0, (-1)), (0, 0), (0, 0), (0, 0), (9, 0), (9, 0), (9, 0), (9, 0)], [])) rfl).trans (rfl)) (fun h1 => (z_R_run hK (n := 1) (g' := (z_up m 251 11 0, 14, [(2, 251), (9, 0), (9, 0), (9, 0), (9, 0), (9, 0), (9, 0), (9, 0), (9, 0)], [(0, (-2))])) rfl).trans (z_R_ret hK rfl rfl rfl))))
theorem k_tlo_24  (m : z_M) (x1 : Int) (x2 : Int) (x3 : Int) (x4 : Int) (v5 : z_V) (v6 : z_V) (v7 : z_V) (v8 : z_V) : z_R 244 (m, 24, [(2, 251), (0, x1), (0, x2), (0, x3), (0, x4), v5, v6, v7, v8], []) = if 9 ≤ x4 then (z_R 210 (z_up m 251 10 0, 0, [(2, 251), (1, z_i2l x2), (9, 0)], [])).bind fun qq => z_R 244 (qq.1, 179, [(2, 251), (0, x1), (0, x2), (0, x3), (0, x4), v5, v6, v7, v8], qq.2.toList ++ []) else if ¬ u_hs (m 251 1) (m 251 2) x4 = 0 then z_R 244 (m, 46, [(2, 251), (0, x1), (0, x2), (0, x3), (0, x4), (0, 0), v6, v7, v8], []) else z_R 244 (m, 24, [(2, 251), (0, x1), (0, x2), (0, x3), (0, z_add x4 1), v5, v6, v7, v8], []) :=
  have hK : kt_at 244 = kt_244 := rfl
  (z_R_run hK (n := 2) (g' := (m, 28, [(2, 251), (0, x1), (0, x2), (0, x3), (0, x4), v5, v6, v7, v8], [(0, 9), (0, x4)])) rfl).trans (z_R_ifd hK (c := 9 ≤ x4) (p1 := 168) (p2 := 31) rfl rfl rfl (fun h1 => (z_R_run hK (n := 6) (g' := (z_up m 251 10 0, 176, [(2, 251), (0, x1), (0, x2), (0, x3), (0, x4), v5, v6, v7, v8], [(1, z_i2l x2), (2, 251)])) rfl).trans (z_R_call hK rfl rfl rfl rfl rfl)) (fun h1 => (z_R_run hK (n := 2) (g' := (m, 34, [(2, 251), (0, x1), (0, x2), (0, x3), (0, x4), v5, v6, v7, v8], [(0, x4), (2, 251)])) rfl).trans (z_R_cif hK rfl rfl rfl rfl rfl (t_ifroom _ _ rfl rfl) (fun h2 => have h3 := u_hs_rng h2; (z_R_run hK (n := 3) (g' := (m, 46, [(2, 251), (0, x1), (0, x2), (0, x3), (0, x4), (0, 0), v6, v7, v8], [])) rfl).trans (rfl)) (fun h2 => (z_R_run hK (n := 4) (g' := (m, 24, [(2, 251), (0, x1), (0, x2), (0, x3), (0, z_add x4 1), v5, v6, v7, v8], [])) rfl).trans (rfl)))))
theorem k_tlo_46  (m : z_M) (x1 : Int) (x2 : Int) (x3 : Int) (x4 : Int) (x5 : Int) (v6 : z_V) (v7 : z_V) (v8 : z_V) : z_R 244 (m, 46, [(2, 251), (0, x1), (0, x2), (0, x3), (0, x4), (0, x5), v6, v7, v8], []) = if 99 < x5 then z_R 244 (m, 76, [(2, 251), (0, x1), (0, x2), (0, x3), (0, x4), (0, 0), (0, 0), (0, 0), v8], []) else if 0 ≤ x5 ∧ x5 < 100 then z_R 244 (z_up m 269 (x5).toNat 0, 46, [(2, 251), (0, x1), (0, x2), (0, x3), (0, x4), (0, x5 + 1), v6, v7, v8], []) else none :=
  have hK : kt_at 244 = kt_244 := rfl
  (z_R_run hK (n := 2) (g' := (m, 50, [(2, 251), (0, x1), (0, x2), (0, x3), (0, x4), (0, x5), v6, v7, v8], [(0, 99), (0, x5)])) rfl).trans (z_R_ifd hK (c := 99 < x5) (p1 := 67) (p2 := 53) rfl rfl rfl (fun h1 => (z_R_run hK (n := 6) (g' := (m, 76, [(2, 251), (0, x1), (0, x2), (0, x3), (0, x4), (0, 0), (0, 0), (0, 0), v8], [])) rfl).trans (rfl)) (fun h1 => (z_R_run hK (n := 2) (g' := (m, 57, [(2, 251), (0, x1), (0, x2), (0, x3), (0, x4), (0, x5), v6, v7, v8], [(2, 269)])) rfl).trans ((z_R_run hK (n := 2) (g' := (m, 60, [(2, 251), (0, x1), (0, x2), (0, x3), (0, x4), (0, x5), v6, v7, v8], [(0, 0), (0, x5), (2, 269)])) rfl).trans (z_R_ixD hK (n := 100) (g' := (z_up m 269 (x5).toNat (z_bo 0), 61, [(2, 251), (0, x1), (0, x2), (0, x3), (0, x4), (0, x5), v6, v7, v8], [])) rfl rfl rfl (fun h2 => (congrArg (fun vv => z_R 244 (z_up m 269 (x5).toNat vv, 61, [(2, 251), (0, x1), (0, x2), (0, x3), (0, x4), (0, x5), v6, v7, v8], [])) (show z_bo 0 = 0 by decide +kernel)).trans ((z_R_run hK (n := 1) (g' := (z_up m 269 (x5).toNat 0, 64, [(2, 251), (0, x1), (0, x2), (0, x3), (0, x4), (0, z_add x5 1), v6, v7, v8], [])) rfl).trans ((congrArg (fun vv => z_R 244 (z_up m 269 (x5).toNat 0, 64, [(2, 251), (0, x1), (0, x2), (0, x3), (0, x4), (0, vv), v6, v7, v8], [])) (z_add_eq (by omega) (by omega))).trans ((z_R_run hK (n := 1) (g' := (z_up m 269 (x5).toNat 0, 46, [(2, 251), (0, x1), (0, x2), (0, x3), (0, x4), (0, x5 + 1), v6, v7, v8], [])) rfl).trans (rfl)))))))))
theorem k_tlo_76  (m : z_M) (x1 : Int) (x2 : Int) (x3 : Int) (x4 : Int) (x5 : Int) (x6 : Int) (x7 : Int) (v8 : z_V) : z_R 244 (m, 76, [(2, 251), (0, x1), (0, x2), (0, x3), (0, x4), (0, x5), (0, x6), (0, x7), v8], []) = if z_shl 1 (m 251 3) ≤ x7 then if x2 < x5 then z_R 244 (m, 24, [(2, 251), (0, x4), (0, x5), (0, x6), (0, z_add x4 1), (0, x5), (0, x6), (0, x7), v8], []) else z_R 244 (m, 24, [(2, 251), (0, x1), (0, x2), (0, x3), (0, z_add x4 1), (0, x5), (0, x6), (0, x7), v8], []) else (z_R 188 (m, 0, [(2, 251), (2, 252), (0, x4), (0, x7)], [])).bind fun qq => z_R 244 (qq.1, 99, [(2, 251), (0, x1), (0, x2), (0, x3), (0, x4), (0, x5), (0, x6), (0, x7), v8], qq.2.toList ++ []) :=
  have hK : kt_at 244 = kt_244 := rfl
  (z_R_run hK (n := 5) (g' := (m, 84, [(2, 251), (0, x1), (0, x2), (0, x3), (0, x4), (0, x5), (0, x6), (0, x7), v8], [(0, z_shl 1 (m 251 3)), (0, x7)])) rfl).trans (z_R_ifd hK (c := z_shl 1 (m 251 3) ≤ x7) (p1 := 144) (p2 := 87) rfl rfl rfl (fun h1 => (z_R_run hK (n := 2) (g' := (m, 147, [(2, 251), (0, x1), (0, x2), (0, x3), (0, x4), (0, x5), (0, x6), (0, x7), v8], [(0, x2), (0, x5)])) rfl).trans (z_R_ifd hK (c := x2 < x5) (p1 := 153) (p2 := 150) rfl rfl rfl (fun h2 => (z_R_run hK (n := 8) (g' := (m, 24, [(2, 251), (0, x4), (0, x5), (0, x6), (0, z_add x4 1), (0, x5), (0, x6), (0, x7), v8], [])) rfl).trans (rfl)) (fun h2 => (z_R_run hK (n := 3) (g' := (m, 24, [(2, 251), (0, x1), (0, x2), (0, x3), (0, z_add x4 1), (0, x5), (0, x6), (0, x7), v8], [])) rfl).trans (rfl)))) (fun h1 => (z_R_run hK (n := 3) (g' := (m, 92, [(2, 251), (0, x1), (0, x2), (0, x3), (0, x4), (0, x5), (0, x6), (0, x7), v8], [(2, 252), (2, 251)])) rfl).trans ((z_R_run hK (n := 2) (g' := (m, 96, [(2, 251), (0, x1), (0, x2), (0, x3), (0, x4), (0, x5), (0, x6), (0, x7), v8], [(0, x7), (0, x4), (2, 252), (2, 251)])) rfl).trans (z_R_call hK rfl rfl rfl rfl rfl))))
theorem k_tlo_99  (m : z_M) (x1 : Int) (x2 : Int) (x3 : Int) (x4 : Int) (x5 : Int) (x6 : Int) (x7 : Int) (v8 : z_V) (u : Int) : z_R 244 (m, 99, [(2, 251), (0, x1), (0, x2), (0, x3), (0, x4), (0, x5), (0, x6), (0, x7), v8], [(0, u)]) = if 0 ≤ u ∧ u < 100 then if m 269 (u).toNat = 0 then z_R 244 (z_up m 269 (u).toNat 1, 76, [(2, 251), (0, x1), (0, x2), (0, x3), (0, x4), (0, z_add x5 1), (0, if x6 < u then u else x6), (0, z_add x7 1), (0, u)], []) else z_R 244 (z_up m 269 (u).toNat 1, 76, [(2, 251), (0, x1), (0, x2), (0, x3), (0, x4), (0, z_add x5 0), (0, if x6 < u then u else x6), (0, z_add x7 1), (0, u)], []) else none :=
  have hK : kt_at 244 = kt_244 := rfl
  (z_R_run hK (n := 4) (g' := (m, 107, [(2, 251), (0, x1), (0, x2), (0, x3), (0, x4), (0, x5), (0, x6), (0, x7), (0, u)], [(2, 269), (0, x5)])) rfl).trans ((z_R_run hK (n := 1) (g' := (m, 109, [(2, 251), (0, x1), (0, x2), (0, x3), (0, x4), (0, x5), (0, x6), (0, x7), (0, u)], [(0, u), (2, 269), (0, x5)])) rfl).trans (z_R_ixD hK (n := 100) (g' := (m, 110, [(2, 251), (0, x1), (0, x2), (0, x3), (0, x4), (0, x5), (0, x6), (0, x7), (0, u)], [(0, m 269 (u).toNat), (0, x5)])) rfl rfl rfl  (fun h1 => z_R_ifd hK (c := m 269 (u).toNat = 0) (p1 := 117) (p2 := 113) rfl rfl rfl (fun h2 => (z_R_run hK (n := 5) (g' := (m, 125, [(2, 251), (0, x1), (0, x2), (0, x3), (0, x4), (0, z_add x5 1), (0, x6), (0, x7), (0, u)], [(2, 269)])) rfl).trans ((z_R_run hK (n := 2) (g' := (m, 128, [(2, 251), (0, x1), (0, x2), (0, x3), (0, x4), (0, z_add x5 1), (0, x6), (0, x7), (0, u)], [(0, 1), (0, u), (2, 269)])) rfl).trans (z_R_ixT hK (n := 100) (g' := (z_up m 269 (u).toNat (z_bo 1), 129, [(2, 251), (0, x1), (0, x2), (0, x3), (0, x4), (0, z_add x5 1), (0, x6), (0, x7), (0, u)], [])) rfl rfl rfl (show 0 ≤ u ∧ u < 100 by omega) ((congrArg (fun vv => z_R 244 (z_up m 269 (u).toNat vv, 129, [(2, 251), (0, x1), (0, x2), (0, x3), (0, x4), (0, z_add x5 1), (0, x6), (0, x7), (0, u)], [])) (show z_bo 1 = 1 by decide +kernel)).trans ((z_R_run hK (n := 6) (g' := (z_up m 269 (u).toNat 1, 76, [(2, 251), (0, x1), (0, x2), (0, x3), (0, x4), (0, z_add x5 1), (0, if x6 < u then u else x6), (0, z_add x7 1), (0, u)], [])) rfl).trans (rfl)))))) (fun h2 => (z_R_run hK (n := 6) (g' := (m, 125, [(2, 251), (0, x1), (0, x2), (0, x3), (0, x4), (0, z_add x5 0), (0, x6), (0, x7), (0, u)], [(2, 269)])) rfl).trans ((z_R_run hK (n := 2) (g' := (m, 128, [(2, 251), (0, x1), (0, x2), (0, x3), (0, x4), (0, z_add x5 0), (0, x6), (0, x7), (0, u)], [(0, 1), (0, u), (2, 269)])) rfl).trans (z_R_ixT hK (n := 100) (g' := (z_up m 269 (u).toNat (z_bo 1), 129, [(2, 251), (0, x1), (0, x2), (0, x3), (0, x4), (0, z_add x5 0), (0, x6), (0, x7), (0, u)], [])) rfl rfl rfl (show 0 ≤ u ∧ u < 100 by omega) ((congrArg (fun vv => z_R 244 (z_up m 269 (u).toNat vv, 129, [(2, 251), (0, x1), (0, x2), (0, x3), (0, x4), (0, z_add x5 0), (0, x6), (0, x7), (0, u)], [])) (show z_bo 1 = 1 by decide +kernel)).trans ((z_R_run hK (n := 6) (g' := (z_up m 269 (u).toNat 1, 76, [(2, 251), (0, x1), (0, x2), (0, x3), (0, x4), (0, z_add x5 0), (0, if x6 < u then u else x6), (0, z_add x7 1), (0, u)], [])) rfl).trans (rfl)))))))))
theorem k_tlo_179  (m : z_M) (x1 : Int) (x2 : Int) (x3 : Int) (x4 : Int) (v5 : z_V) (v6 : z_V) (v7 : z_V) (v8 : z_V) : z_R 244 (m, 179, [(2, 251), (0, x1), (0, x2), (0, x3), (0, x4), v5, v6, v7, v8], []) = (z_R 210 (m, 0, [(2, 251), (1, z_i2l x3), (9, 0)], [])).bind fun qq => z_R 244 (qq.1, 185, [(2, 251), (0, x1), (0, x2), (0, x3), (0, x4), v5, v6, v7, v8], qq.2.toList ++ []) :=
  have hK : kt_at 244 = kt_244 := rfl
  (z_R_run hK (n := 3) (g' := (m, 182, [(2, 251), (0, x1), (0, x2), (0, x3), (0, x4), v5, v6, v7, v8], [(1, z_i2l x3), (2, 251)])) rfl).trans (z_R_call hK rfl rfl rfl rfl rfl)
theorem k_tlo_185  (m : z_M) (x1 : Int) (x2 : Int) (x3 : Int) (x4 : Int) (v5 : z_V) (v6 : z_V) (v7 : z_V) (v8 : z_V) : z_R 244 (m, 185, [(2, 251), (0, x1), (0, x2), (0, x3), (0, x4), v5, v6, v7, v8], []) = some (m, some (0, x1)) :=
  have hK : kt_at 244 = kt_244 := rfl
  (z_R_run hK (n := 1) (g' := (m, 186, [(2, 251), (0, x1), (0, x2), (0, x3), (0, x4), v5, v6, v7, v8], [(0, x1)])) rfl).trans (z_R_ret hK rfl rfl rfl)
end
section
/-! HOW MANY BITS OF A LONG -/
def lv (x : Int) : Nat := (Int64.ofInt x).toBitVec.toNat
theorem l6_t (a : Int64) : lv a.toInt = a.toBitVec.toNat := by
  unfold lv
  rw [Int64.ofInt_toInt]
theorem l6_lt (x : Int) : lv x < 2 ^ 64 := (Int64.ofInt x).toBitVec.isLt
theorem l6_and (x y : Int) : lv (z_land x y) = lv x &&& lv y := by
  unfold z_land
  rw [l6_t]
  exact BitVec.toNat_and _ _
theorem l6_or (x y : Int) : lv (z_lor x y) = lv x ||| lv y := by
  unfold z_lor
  rw [l6_t]
  exact BitVec.toNat_or _ _
theorem l6_add (x y : Int) : lv (z_ladd x y) = (lv x + lv y) % 2 ^ 64 := by
  unfold z_ladd
  rw [l6_t]
  exact BitVec.toNat_add _ _
theorem l6_sub (x y : Int) : lv (z_lsub x y) = (2 ^ 64 - lv y + lv x) % 2 ^ 64 := by
  unfold z_lsub
  rw [l6_t]
  exact BitVec.toNat_sub _ _
theorem l6_ush1 {x y : Int} {s : UInt64} {k : Nat} (e : ((Int32.ofInt y).toInt64.toUInt64 &&& Int64.toUInt64 63) = s) (hk : s.toNat % 64 = k) : lv (z_lush x y) = lv x / 2 ^ k := by
  unfold z_lush
  rw [l6_t, e]
  show ((Int64.ofInt x).toUInt64 >>> s).toNat = _
  rw [UInt64.toNat_shiftRight, hk, Nat.shiftRight_eq_div_pow]
  rfl
theorem l6_ush (x : Int) : lv (z_lush x 1) = lv x / 2 ∧ lv (z_lush x 2) = lv x / 4 ∧ lv (z_lush x 4) = lv x / 16 ∧ lv (z_lush x 8) = lv x / 256 ∧ lv (z_lush x 16) = lv x / 65536 ∧ lv (z_lush x 32) = lv x / 4294967296 :=
  ⟨l6_ush1 (s := 1) (k := 1) (by decide +kernel) (by decide +kernel), l6_ush1 (s := 2) (k := 2) (by decide +kernel) (by decide +kernel), l6_ush1 (s := 4) (k := 4) (by decide +kernel) (by decide +kernel), l6_ush1 (s := 8) (k := 8) (by decide +kernel) (by decide +kernel), l6_ush1 (s := 16) (k := 16) (by decide +kernel) (by decide +kernel), l6_ush1 (s := 32) (k := 32) (by decide +kernel) (by decide +kernel)⟩
theorem l6_shl {k : Nat} (hk : k < 64) : lv (z_lshl 1 (k : Int)) = 2 ^ k := by
  have : ∀ k, k < 64 → lv (z_lshl 1 ((k : Nat) : Int)) = 2 ^ k := by decide +kernel
  exact this k hk
theorem l6_127 (x : Int) : z_and (z_l2i x) 127 = ((lv x % 128 : Nat) : Int) := by
  have e : Int32.ofInt (z_l2i x) = (Int64.ofInt x).toInt32 := by
    unfold z_l2i
    exact Int32.ofInt_toInt _
  have h0 : (Int64.ofInt x).toInt32.toBitVec.toNat = lv x % 2 ^ 32 := by
    rw [Int64.toBitVec_toInt32, BitVec.signExtend_eq_setWidth_of_le _ (by decide), BitVec.toNat_setWidth]
    rfl
  have h1 : ((Int64.ofInt x).toInt32 &&& Int32.ofInt 127).toBitVec.toNat = lv x % 128 := by
    show ((Int64.ofInt x).toInt32.toBitVec &&& 127#32).toNat = _
    rw [BitVec.toNat_and, h0]
    have : (lv x % 2 ^ 32) &&& (2 ^ 7 - 1) = lv x % 2 ^ 32 % 2 ^ 7 := Nat.and_two_pow_sub_one_eq_mod _ 7
    refine Eq.trans this ?_
    omega
  unfold z_and
  rw [e, i32_ofNat (x := (Int64.ofInt x).toInt32 &&& Int32.ofInt 127) (by rw [h1]; omega), h1]
/-! byte by byte -/
def bk (c : Nat) : Nat → Nat
  | 0 => 0
  | n + 1 => c + 256 * bk c n
def bm (g : Nat → Nat) : Nat → Nat → Nat
  | 0, _ => 0
  | n + 1, X => g (X % 256) + 256 * bm g n (X / 256)
theorem bb_and {a A c C : Nat} (ha : a < 256) (hc : c < 256) : (a + 256 * A) &&& (c + 256 * C) = (a &&& c) + 256 * (A &&& C) := by
  apply Nat.eq_of_testBit_eq
  intro i
  have ha : a < 2 ^ 8 := ha
  have hc : c < 2 ^ 8 := hc
  have hac : a &&& c < 2 ^ 8 := Nat.lt_of_le_of_lt Nat.and_le_left ha
  rw [Nat.testBit_and, Nat.add_comm a, Nat.add_comm c, Nat.add_comm (a &&& c)]
  show ((2 ^ 8 * A + a).testBit i && (2 ^ 8 * C + c).testBit i) = (2 ^ 8 * (A &&& C) + (a &&& c)).testBit i
  rw [Nat.testBit_two_pow_mul_add A ha, Nat.testBit_two_pow_mul_add C hc, Nat.testBit_two_pow_mul_add _ hac]
  split
  · exact (Nat.testBit_and _ _ _).symm
  · exact (Nat.testBit_and _ _ _).symm
theorem bm_lt {g : Nat → Nat} (hg : ∀ b, b < 256 → g b < 256) : ∀ n X, bm g n X < 256 ^ n
  | 0, _ => Nat.one_pos
  | n + 1, X => by
    have h1 := bm_lt hg n (X / 256)
    have h2 := hg (X % 256) (Nat.mod_lt _ (by decide))
    unfold bm
    rw [Nat.pow_succ]
    omega
theorem bm_cg {g g' : Nat → Nat} (h : ∀ b, b < 256 → g b = g' b) : ∀ n X, bm g n X = bm g' n X
  | 0, _ => rfl
  | n + 1, X => by
    unfold bm
    rw [h _ (Nat.mod_lt _ (by decide)), bm_cg h n]
theorem bm_bm {g g' : Nat → Nat} (hg : ∀ b, b < 256 → g' b < 256) : ∀ n X, bm g n (bm g' n X) = bm (fun b => g (g' b)) n X
  | 0, _ => rfl
  | n + 1, X => by
    have h1 := hg (X % 256) (Nat.mod_lt _ (by decide))
    show g ((g' (X % 256) + 256 * bm g' n (X / 256)) % 256) + 256 * bm g n ((g' (X % 256) + 256 * bm g' n (X / 256)) / 256) = g (g' (X % 256)) + 256 * bm (fun b => g (g' b)) n (X / 256)
    rw [show (g' (X % 256) + 256 * bm g' n (X / 256)) % 256 = g' (X % 256) by omega, show (g' (X % 256) + 256 * bm g' n (X / 256)) / 256 = bm g' n (X / 256) by omega, bm_bm hg n]
theorem bm_add (g g' : Nat → Nat) : ∀ n X, bm g n X + bm g' n X = bm (fun b => g b + g' b) n X
  | 0, _ => rfl
  | n + 1, X => by
    have := bm_add g g' n (X / 256)
    unfold bm
    omega
theorem bm_sub {g : Nat → Nat} (h : ∀ b, b < 256 → g b ≤ b) : ∀ n X, X < 256 ^ n → bm g n X ≤ X ∧ X - bm g n X = bm (fun b => b - g b) n X
  | 0, X, hX => by
    have : X = 0 := by
      have : X < 1 := hX
      omega
    subst this
    exact ⟨Nat.le_refl _, rfl⟩
  | n + 1, X, hX => by
    rw [Nat.pow_succ] at hX
    obtain ⟨h1, h2⟩ := bm_sub h n (X / 256) (by omega)
    have h3 := h (X % 256) (Nat.mod_lt _ (by decide))
    unfold bm
    omega
/-- a shift and a mask that lets nothing over from byte to byte -/
theorem bk_sh {k q c : Nat} (hkq : k * q = 256) (hk : 0 < k) (hc : c < 256) (h : ∀ b, b < 256 → ∀ t, t < k → (b / k + q * t) &&& c = b / k &&& c) : ∀ n X, X < 256 ^ n → X / k &&& bk c n = bm (fun b => b / k &&& c) n X
  | 0, X, hX => by
    show X / k &&& 0 = 0
    exact Nat.and_zero _
  | n + 1, X, hX => by
    rw [Nat.pow_succ] at hX
    have ih := bk_sh hkq hk hc h n (X / 256) (by omega)
    have hb : X % 256 < 256 := Nat.mod_lt _ (by decide)
    have ht : X / 256 % k < k := Nat.mod_lt _ hk
    have e1 : X / k = X % 256 / k + q * (X / 256) := by
      have e0 : X = X % 256 + k * (q * (X / 256)) := by
        rw [← Nat.mul_assoc, hkq]
        omega
      conv => lhs; rw [e0]
      rw [Nat.add_mul_div_left _ _ hk]
    have e2 : q * (X / 256) = q * (X / 256 % k) + 256 * (X / 256 / k) := by
      conv => lhs; rw [← Nat.mod_add_div (X / 256) k]
      rw [Nat.mul_add, ← Nat.mul_assoc, Nat.mul_comm q k, hkq]
    have hlt : X % 256 / k + q * (X / 256 % k) < 256 := by
      have a1 : X % 256 / k < q := (Nat.div_lt_iff_lt_mul hk).mpr (by rw [Nat.mul_comm, hkq]; exact hb)
      have a2 : q * (X / 256 % k) + q ≤ q * k := by
        rw [← Nat.mul_succ]
        exact Nat.mul_le_mul_left q ht
      rw [Nat.mul_comm q k, hkq] at a2
      omega
    show X / k &&& (c + 256 * bk c n) = (X % 256 / k &&& c) + 256 * bm (fun b => b / k &&& c) n (X / 256)
    rw [e1, e2, ← Nat.add_assoc, bb_and hlt hc, h _ hb _ ht, ih]
theorem bk_and {c : Nat} (hc : c < 256) : ∀ n X, X < 256 ^ n → X &&& bk c n = bm (fun b => b &&& c) n X
  | 0, X, hX => Nat.and_zero _
  | n + 1, X, hX => by
    rw [Nat.pow_succ] at hX
    have ih := bk_and hc n (X / 256) (by omega)
    have e : X = X % 256 + 256 * (X / 256) := by omega
    show X &&& (c + 256 * bk c n) = (X % 256 &&& c) + 256 * bm (fun b => b &&& c) n (X / 256)
    conv => lhs; rw [e]
    rw [bb_and (Nat.mod_lt _ (by decide)) hc, ih]
theorem bm_nib {f : Nat → Nat} (hf : ∀ b, b < 256 → f b % 16 ≤ 4 ∧ f b / 16 ≤ 4) : ∀ n X, (bm f n X + bm f n X / 16) &&& bk 15 n = bm (fun b => f b % 16 + f b / 16) n X ∧ bm f n X % 16 ≤ 4
  | 0, X => ⟨by show ((0 + 0 / 16 : Nat) &&& 0) = 0; rfl, Nat.zero_le _⟩
  | n + 1, X => by
    obtain ⟨ih, h4⟩ := bm_nib hf n (X / 256)
    have hb := hf (X % 256) (Nat.mod_lt _ (by decide))
    show ((f (X % 256) + 256 * bm f n (X / 256)) + (f (X % 256) + 256 * bm f n (X / 256)) / 16) &&& (15 + 256 * bk 15 n) = (f (X % 256) % 16 + f (X % 256) / 16) + 256 * bm (fun b => f b % 16 + f b / 16) n (X / 256) ∧ (f (X % 256) + 256 * bm f n (X / 256)) % 16 ≤ 4
    generalize bm f n (X / 256) = B at ih h4 ⊢
    generalize f (X % 256) = b at hb ⊢
    refine ⟨?_, by omega⟩
    rw [show (b + 256 * B) + (b + 256 * B) / 16 = (b + b / 16 + 16 * (B % 16)) + 256 * (B + B / 16) by omega, bb_and (by omega) (by decide), ih]
    have e : (b + b / 16 + 16 * (B % 16)) &&& (2 ^ 4 - 1) = (b + b / 16 + 16 * (B % 16)) % 2 ^ 4 := Nat.and_two_pow_sub_one_eq_mod _ 4
    have e : (b + b / 16 + 16 * (B % 16)) &&& 15 = (b + b / 16 + 16 * (B % 16)) % 16 := e
    rw [e]
    omega
/-! so many bits -/
def pcN : Nat → Nat → Nat
  | 0, _ => 0
  | f + 1, X => X % 2 + pcN f (X / 2)
def bf1 (b : Nat) : Nat := b - (b / 2 &&& 85)
def bf2 (b : Nat) : Nat := (b &&& 51) + (b / 4 &&& 51)
def bf3 (b : Nat) : Nat := b % 16 + b / 16
theorem bf_lt : ∀ b, b < 256 → bf1 b < 256 ∧ (bf2 (bf1 b) % 16 ≤ 4 ∧ bf2 (bf1 b) / 16 ≤ 4) ∧ bf3 (bf2 (bf1 b)) = pcN 8 b ∧ b / 2 &&& 85 ≤ b := by decide +kernel
theorem pcN_8 (f X : Nat) : pcN (f + 8) X = pcN 8 (X % 256) + pcN f (X / 256) := by
  have e : X / 2 / 2 / 2 / 2 / 2 / 2 / 2 / 2 = X / 256 := by omega
  simp only [pcN]
  rw [e]
  omega
theorem pc_le {b : Nat} (h : b < 256) : pcN 8 b ≤ 8 := by
  have : ∀ b, b < 256 → pcN 8 b ≤ 8 := by decide +kernel
  exact this b h
theorem pc_q {a b c d R : Nat} (h0 : a < 256) (h1 : b < 256) (h2 : c < 256) (h3 : d < 256) : (a + 256 * (b + 256 * (c + 256 * (d + 256 * R)))) / 4294967296 = R := by omega
theorem pc_r {a b c d : Nat} : (a + 256 * b + (c + 256 * d)) % 128 = (a + c) % 128 := by omega
theorem pc_sum {Z : Nat} (X : Nat) (hZ : Z = bm (pcN 8) 8 X) : ((Z + Z / 256 + (Z + Z / 256) / 65536) + ((Z + Z / 256) + (Z + Z / 256) / 65536) / 4294967296) % 128 = pcN 64 X ∧ Z < 2 ^ 60 := by
  have e : pcN 64 X = pcN 8 (X % 256) + (pcN 8 (X / 256 % 256) + (pcN 8 (X / 256 / 256 % 256) + (pcN 8 (X / 256 / 256 / 256 % 256) + (pcN 8 (X / 256 / 256 / 256 / 256 % 256) + (pcN 8 (X / 256 / 256 / 256 / 256 / 256 % 256) + (pcN 8 (X / 256 / 256 / 256 / 256 / 256 / 256 % 256) + (pcN 8 (X / 256 / 256 / 256 / 256 / 256 / 256 / 256 % 256) + 0))))))) := by
    rw [pcN_8 56, pcN_8 48, pcN_8 40, pcN_8 32, pcN_8 24, pcN_8 16, pcN_8 8, pcN_8 0 (X / 256 / 256 / 256 / 256 / 256 / 256 / 256)]
    rfl
  have z : Z = pcN 8 (X % 256) + 256 * (pcN 8 (X / 256 % 256) + 256 * (pcN 8 (X / 256 / 256 % 256) + 256 * (pcN 8 (X / 256 / 256 / 256 % 256) + 256 * (pcN 8 (X / 256 / 256 / 256 / 256 % 256) + 256 * (pcN 8 (X / 256 / 256 / 256 / 256 / 256 % 256) + 256 * (pcN 8 (X / 256 / 256 / 256 / 256 / 256 / 256 % 256) + 256 * (pcN 8 (X / 256 / 256 / 256 / 256 / 256 / 256 / 256 % 256) + 256 * 0))))))) := hZ
  rw [e]
  have c0 := pc_le (b := X % 256) (Nat.mod_lt _ (by decide))
  have c1 := pc_le (b := X / 256 % 256) (Nat.mod_lt _ (by decide))
  have c2 := pc_le (b := X / 256 / 256 % 256) (Nat.mod_lt _ (by decide))
  have c3 := pc_le (b := X / 256 / 256 / 256 % 256) (Nat.mod_lt _ (by decide))
  have c4 := pc_le (b := X / 256 / 256 / 256 / 256 % 256) (Nat.mod_lt _ (by decide))
  have c5 := pc_le (b := X / 256 / 256 / 256 / 256 / 256 % 256) (Nat.mod_lt _ (by decide))
  have c6 := pc_le (b := X / 256 / 256 / 256 / 256 / 256 / 256 % 256) (Nat.mod_lt _ (by decide))
  have c7 := pc_le (b := X / 256 / 256 / 256 / 256 / 256 / 256 / 256 % 256) (Nat.mod_lt _ (by decide))
  clear e hZ
  generalize pcN 8 (X % 256) = d0 at *
  generalize pcN 8 (X / 256 % 256) = d1 at *
  generalize pcN 8 (X / 256 / 256 % 256) = d2 at *
  generalize pcN 8 (X / 256 / 256 / 256 % 256) = d3 at *
  generalize pcN 8 (X / 256 / 256 / 256 / 256 % 256) = d4 at *
  generalize pcN 8 (X / 256 / 256 / 256 / 256 / 256 % 256) = d5 at *
  generalize pcN 8 (X / 256 / 256 / 256 / 256 / 256 / 256 % 256) = d6 at *
  generalize pcN 8 (X / 256 / 256 / 256 / 256 / 256 / 256 / 256 % 256) = d7 at *
  have q1 : Z / 256 = d1 + 256 * (d2 + 256 * (d3 + 256 * (d4 + 256 * (d5 + 256 * (d6 + 256 * d7))))) := by omega
  have s1 : Z + Z / 256 = (d0 + d1) + 256 * ((d1 + d2) + 256 * ((d2 + d3) + 256 * ((d3 + d4) + 256 * ((d4 + d5) + 256 * ((d5 + d6) + 256 * ((d6 + d7) + 256 * d7)))))) := by omega
  have hz : Z < 2 ^ 60 := by omega
  refine ⟨?_, hz⟩
  rw [s1]
  clear s1 q1 hz z
  have q2 : ((d0 + d1) + 256 * ((d1 + d2) + 256 * ((d2 + d3) + 256 * ((d3 + d4) + 256 * ((d4 + d5) + 256 * ((d5 + d6) + 256 * ((d6 + d7) + 256 * d7))))))) / 65536 = (d2 + d3) + 256 * ((d3 + d4) + 256 * ((d4 + d5) + 256 * ((d5 + d6) + 256 * ((d6 + d7) + 256 * d7)))) := by omega
  rw [q2]
  clear q2
  have s2 : ((d0 + d1) + 256 * ((d1 + d2) + 256 * ((d2 + d3) + 256 * ((d3 + d4) + 256 * ((d4 + d5) + 256 * ((d5 + d6) + 256 * ((d6 + d7) + 256 * d7))))))) + ((d2 + d3) + 256 * ((d3 + d4) + 256 * ((d4 + d5) + 256 * ((d5 + d6) + 256 * ((d6 + d7) + 256 * d7))))) = (d0 + d1 + d2 + d3) + 256 * ((d1 + d2 + d3 + d4) + 256 * ((d2 + d3 + d4 + d5) + 256 * ((d3 + d4 + d5 + d6) + 256 * ((d4 + d5 + d6 + d7) + 256 * ((d5 + d6 + d7) + 256 * ((d6 + d7) + 256 * d7)))))) := by omega
  rw [s2]
  clear s2
  rw [pc_q (by omega) (by omega) (by omega) (by omega), pc_r]
  omega
/-- the machine's way to count them -/
def l_f1 (x : Int) : Int := z_lsub x (z_land (z_lush x 1) 6148914691236517205)
def l_f2 (x : Int) : Int := z_ladd (z_land x 3689348814741910323) (z_land (z_lush x 2) 3689348814741910323)
def l_f3 (x : Int) : Int := z_land (z_ladd x (z_lush x 4)) 1085102592571150095
def l_f4 (x : Int) : Int := z_ladd x (z_lush x 8)
def l_f5 (x : Int) : Int := z_ladd x (z_lush x 16)
def l_f6 (x : Int) : Int := z_ladd x (z_lush x 32)
theorem l_masks : lv 6148914691236517205 = bk 85 8 ∧ lv 3689348814741910323 = bk 51 8 ∧ lv 1085102592571150095 = bk 15 8 := by decide +kernel
theorem l_f1_ok (x : Int) : lv (l_f1 x) = bm bf1 8 (lv x) := by
  have hx : lv x < 256 ^ 8 := l6_lt x
  have e := bk_sh (k := 2) (q := 128) (c := 85) rfl (by decide) (by decide) (by decide +kernel) 8 (lv x) hx
  obtain ⟨h1, h2⟩ := bm_sub (g := fun b => b / 2 &&& 85) (fun b hb => (bf_lt b hb).2.2.2) 8 (lv x) hx
  unfold l_f1
  rw [l6_sub, l6_and, (l6_ush x).1, l_masks.1, e, show 2 ^ 64 - bm (fun b => b / 2 &&& 85) 8 (lv x) + lv x = 2 ^ 64 + (lv x - bm (fun b => b / 2 &&& 85) 8 (lv x)) by omega, h2, Nat.add_mod_left]
  exact Nat.mod_eq_of_lt (bm_lt (g := bf1) (fun b hb => (bf_lt b hb).1) 8 (lv x))
theorem l_f2_ok {x : Int} {g : Nat → Nat} {X : Nat} (hx : lv x = bm g 8 X) (hg : ∀ b, b < 256 → g b < 256) (hs : ∀ b, b < 256 → bf2 (g b) < 256) : lv (l_f2 x) = bm (fun b => bf2 (g b)) 8 X := by
  have hX : bm g 8 X < 256 ^ 8 := bm_lt hg 8 X
  have e1 := bk_and (c := 51) (by decide) 8 _ hX
  have e2 := bk_sh (k := 4) (q := 64) (c := 51) rfl (by decide) (by decide) (by decide +kernel) 8 _ hX
  have h2 : bm (fun b => bf2 (g b)) 8 X < 2 ^ 64 := bm_lt hs 8 X
  unfold l_f2
  rw [l6_add, l6_and, l6_and, (l6_ush x).2.1, l_masks.2.1, hx, e1, e2, bm_bm hg, bm_bm hg, bm_add]
  exact Nat.mod_eq_of_lt h2
theorem l_f3_ok {x : Int} {g : Nat → Nat} {X : Nat} (hx : lv x = bm g 8 X) (hg : ∀ b, b < 256 → g b % 16 ≤ 4 ∧ g b / 16 ≤ 4) : lv (l_f3 x) = bm (fun b => bf3 (g b)) 8 X := by
  have hb : bm (fun b => g b % 69) 8 X = bm g 8 X := bm_cg (fun b hb => by have := hg b hb; omega) 8 X
  have hX : bm g 8 X < 2 ^ 63 := by
    have h := bm_lt (g := g) (fun b hb => by have := hg b hb; omega) 7 (X / 256)
    have h7 : ∀ n Y, bm g n Y ≤ 68 * bk 1 n := fun n => by
      induction n with
      | zero => intro Y; exact Nat.le_refl _
      | succ n ih =>
        intro Y
        have h1 := hg (Y % 256) (Nat.mod_lt _ (by decide))
        have h2 := ih (Y / 256)
        show g (Y % 256) + 256 * bm g n (Y / 256) ≤ 68 * (1 + 256 * bk 1 n)
        omega
    have h8 := h7 8 X
    have h9 : 68 * bk 1 8 < 2 ^ 63 := by decide +kernel
    omega
  have e := (bm_nib hg 8 X).1
  unfold l_f3
  rw [l6_and, l6_add, (l6_ush x).2.2.1, l_masks.2.2, hx, Nat.mod_eq_of_lt (show bm g 8 X + bm g 8 X / 16 < 2 ^ 64 by omega), e]
  rfl
theorem l_pc (x : Int) : z_and (z_l2i (l_f6 (l_f5 (l_f4 (l_f3 (l_f2 (l_f1 x))))))) 127 = ((pcN 64 (lv x) : Nat) : Int) := by
  have e1 := l_f1_ok x
  have e2 := l_f2_ok e1 (fun b hb => (bf_lt b hb).1) (fun b hb => by have := (bf_lt b hb).2.1; omega)
  have e3 := l_f3_ok e2 (fun b hb => (bf_lt b hb).2.1)
  have e3 : lv (l_f3 (l_f2 (l_f1 x))) = bm (pcN 8) 8 (lv x) := e3.trans (bm_cg (fun b hb => (bf_lt b hb).2.2.1) 8 (lv x))
  obtain ⟨p1, p2⟩ := pc_sum (lv x) e3
  generalize l_f3 (l_f2 (l_f1 x)) = y at e3 p1 p2 ⊢
  have a4 : lv (l_f4 y) = lv y + lv y / 256 := by
    unfold l_f4
    rw [l6_add, (l6_ush y).2.2.2.1]
    exact Nat.mod_eq_of_lt (by omega)
  have a5 : lv (l_f5 (l_f4 y)) = lv y + lv y / 256 + (lv y + lv y / 256) / 65536 := by
    unfold l_f5
    rw [l6_add, (l6_ush (l_f4 y)).2.2.2.2.1, a4]
    exact Nat.mod_eq_of_lt (by omega)
  have a6 : lv (l_f6 (l_f5 (l_f4 y))) = (lv y + lv y / 256 + (lv y + lv y / 256) / 65536) + (lv y + lv y / 256 + (lv y + lv y / 256) / 65536) / 4294967296 := by
    unfold l_f6
    rw [l6_add, (l6_ush (l_f5 (l_f4 y))).2.2.2.2.2, a5]
    exact Nat.mod_eq_of_lt (by omega)
  rw [l6_127, a6, p1]
/-- one bit more -/
theorem pcN_or : ∀ (f X k : Nat), k < f → pcN f (X ||| 2 ^ k) = pcN f X + (if X.testBit k = true then 0 else 1)
  | 0, _, _, h => absurd h (Nat.not_lt_zero _)
  | f + 1, X, 0, _ => by
    have h1 : (X ||| 2 ^ 0) % 2 = 1 := Nat.or_mod_two_eq_one.mpr (Or.inr rfl)
    have h2 : (X ||| 2 ^ 0) / 2 = X / 2 := by
      rw [Nat.or_div_two, show (2 ^ 0 / 2 : Nat) = 0 from rfl, Nat.or_zero]
    unfold pcN
    rw [h1, h2, Nat.testBit_zero]
    by_cases c : X % 2 = 1
    · rw [if_pos (decide_eq_true c)]
      omega
    · rw [if_neg (by rw [decide_eq_false c]; decide)]
      omega
  | f + 1, X, k + 1, h => by
    have h1 : (X ||| 2 ^ (k + 1)) % 2 = X % 2 := by
      have a : (X ||| 2 ^ (k + 1)) % 2 = 1 ↔ X % 2 = 1 ∨ 2 ^ (k + 1) % 2 = 1 := Nat.or_mod_two_eq_one
      have b : 2 ^ (k + 1) % 2 = 0 := by
        rw [Nat.pow_succ]
        omega
      omega
    have h2 : (X ||| 2 ^ (k + 1)) / 2 = X / 2 ||| 2 ^ k := by
      rw [Nat.or_div_two, show 2 ^ (k + 1) / 2 = 2 ^ k by rw [Nat.pow_succ]; omega]
    unfold pcN
    rw [h1, h2, pcN_or f (X / 2) k (by omega), Nat.testBit_add_one, Nat.add_assoc]
theorem bit_or (X : Nat) {k v : Nat} : (X ||| 2 ^ k).testBit v = (X.testBit v || decide (k = v)) := by
  rw [Nat.testBit_or, Nat.testBit_two_pow]
end
section
/-! LOOK, of what both are in -/
theorem k_bc (m : z_M) (x : Int) : z_R 128 (m, 0, [(1, x), (9, 0)], []) = some (m, some (0, ((pcN 64 (lv x) : Nat) : Int))) := by
  have e1 : z_R 128 (m, 0, [(1, x), (9, 0)], []) = z_R 128 (m, 10, [(1, l_f1 x), (9, 0)], []) := k_bc_0 m x
  have e2 : ∀ y, z_R 128 (m, 10, [(1, y), (9, 0)], []) = z_R 128 (m, 24, [(1, l_f2 y), (9, 0)], []) := fun y => k_bc_10 m y
  have e3 : ∀ y, z_R 128 (m, 24, [(1, y), (9, 0)], []) = z_R 128 (m, 34, [(1, l_f3 y), (9, 0)], []) := fun y => k_bc_24 m y
  have e4 : ∀ y, z_R 128 (m, 34, [(1, y), (9, 0)], []) = z_R 128 (m, 41, [(1, l_f4 y), (9, 0)], []) := fun y => k_bc_34 m y
  have e5 : ∀ y, z_R 128 (m, 41, [(1, y), (9, 0)], []) = z_R 128 (m, 48, [(1, l_f5 y), (9, 0)], []) := fun y => k_bc_41 m y
  have e6 : ∀ y, z_R 128 (m, 48, [(1, y), (9, 0)], []) = z_R 128 (m, 55, [(1, l_f6 y), (9, 0)], []) := fun y => k_bc_48 m y
  rw [e1, e2, e3, e4, e5, e6, k_bc_55, l_pc]
/-- so many unlike numbers, and the greatest -/
def o_lk (M : Int → Int) : Nat → Nat → (Int → Bool) → Int → Int → Int × Int
  | 0, _, _, k, g => (k, g)
  | f + 1, x, S, k, g => o_lk M f (x + 1) (fun v => S v || decide (v = M (x : Int))) (if S (M (x : Int)) = true then k else k + 1) (if g < M (x : Int) then M (x : Int) else g)
def o_lr (w h : Nat) (F : Nat → Int × Int) : Nat → Nat → Int → Int → Int → Int × Int × Int
  | 0, _, b, k, g => (b, k, g)
  | f + 1, r, b, k, g => if (¬ u_hs (w : Int) (h : Int) (r : Int) = 0) ∧ k < (F r).1 then o_lr w h F f (r + 1) (r : Int) (F r).1 (F r).2 else o_lr w h F f (r + 1) b k g
def o_F (n : Nat) (heat : Int) (cs : List Int) (D A : Nat → Int) (r : Nat) : Int × Int := o_lk (o_mel n heat cs D A r) (2 ^ n) 0 (fun _ => false) 0 0
def o_look (w h n : Nat) (heat : Int) (cs : List Int) (D A : Nat → Int) : Int := if w = 0 then -2 else (o_lr w h (o_F n heat cs D A) 9 0 (-1) 0 0).1
theorem o_lk_le {M : Int → Int} : ∀ (f x : Nat) (S : Int → Bool) (k g : Int), k ≤ (o_lk M f x S k g).1
  | 0, _, _, k, _ => Int.le_refl k
  | f + 1, x, S, k, g => by
    unfold o_lk
    refine Int.le_trans ?_ (o_lk_le f (x + 1) _ _ _)
    split <;> omega
theorem o_F_pos {n : Nat} {heat : Int} {cs : List Int} {D A : Nat → Int} (r : Nat) : 1 ≤ (o_F n heat cs D A r).1 := by
  unfold o_F
  obtain ⟨f, hf⟩ : ∃ f, 2 ^ n = f + 1 := ⟨2 ^ n - 1, by have := Nat.two_pow_pos n; omega⟩
  rw [hf]
  exact o_lk_le (M := o_mel n heat cs D A r) f 1 (fun v => false || decide (v = o_mel n heat cs D A r ((0 : Nat) : Int))) 1 _
theorem o_lr_b {w h : Nat} {F : Nat → Int × Int} : ∀ (f r : Nat) (b k g : Int), 0 ≤ b → 0 ≤ (o_lr w h F f r b k g).1
  | 0, _, _, _, _, hb => hb
  | f + 1, r, b, k, g, hb => by
    unfold o_lr
    split
    · exact o_lr_b f (r + 1) _ _ _ (by omega)
    · exact o_lr_b f (r + 1) _ _ _ hb
theorem o_lr_no {w h : Nat} {F : Nat → Int × Int} (hz : ∀ r : Nat, u_hs (w : Int) (h : Int) (r : Int) = 0) : ∀ (f r : Nat) (b k g : Int), o_lr w h F f r b k g = (b, k, g)
  | 0, _, _, _, _ => rfl
  | f + 1, r, b, k, g => by
    unfold o_lr
    rw [if_neg (fun z => z.1 (hz r))]
    exact o_lr_no hz f (r + 1) b k g
theorem o_lr_w {w h n : Nat} {heat : Int} {cs : List Int} {D A : Nat → Int} (hw : w ≤ 3) (hh : h ≤ 3) (h0 : w = 0 ↔ h = 0) : (o_lr w h (o_F n heat cs D A) 9 0 (-1) 0 0).1 = -1 ↔ w = 0 := by
  constructor
  · intro z
    refine Decidable.byContradiction fun c => ?_
    have hr : ¬ u_hs (w : Int) (h : Int) ((0 : Nat) : Int) = 0 := by
      have e : ∀ w, w < 4 → ∀ h, h < 4 → ¬ w = 0 → ¬ h = 0 → ¬ u_hs ((w : Nat) : Int) ((h : Nat) : Int) ((0 : Nat) : Int) = 0 := by decide +kernel
      exact e w (by omega) h (by omega) c (by omega)
    have hp := o_F_pos (n := n) (heat := heat) (cs := cs) (D := D) (A := A) 0
    unfold o_lr at z
    rw [if_pos ⟨hr, by omega⟩] at z
    have := o_lr_b (w := w) (h := h) (F := o_F n heat cs D A) 8 (0 + 1) ((0 : Nat) : Int) (o_F n heat cs D A 0).1 (o_F n heat cs D A 0).2 (by decide)
    have z : (o_lr w h (o_F n heat cs D A) 8 (0 + 1) ((0 : Nat) : Int) (o_F n heat cs D A 0).1 (o_F n heat cs D A 0).2).1 = -1 := z
    omega
  · intro z
    have hz : ∀ r : Nat, u_hs (w : Int) (h : Int) (r : Int) = 0 := fun r => Decidable.byContradiction fun c => by
      have := u_hs_rng c
      have e : ∀ h, h < 4 → ∀ r, r < 9 → u_hs ((0 : Nat) : Int) ((h : Nat) : Int) ((r : Nat) : Int) = 0 := by decide +kernel
      rw [z] at c
      exact c (e h (by omega) r (by omega))
    rw [o_lr_no hz]
/-- the bits of both longs, what they are of -/
def l_inv (lo hi : Int) (S : Int → Bool) (k : Int) : Prop := (∀ v : Nat, v < 64 → (lv lo).testBit v = S (v : Int)) ∧ (∀ v : Nat, v < 36 → (lv hi).testBit v = S ((v + 64 : Nat) : Int)) ∧ ((pcN 64 (lv lo) + pcN 64 (lv hi) : Nat) : Int) = k
theorem l_inv_0 : l_inv 0 0 (fun _ => false) 0 := by
  have e0 : lv 0 = 0 := by decide +kernel
  have e1 : pcN 64 0 = 0 := by decide +kernel
  unfold l_inv
  rw [e0, e1]
  exact ⟨fun v _ => Nat.zero_testBit v, fun v _ => Nat.zero_testBit v, rfl⟩
theorem l_inv_lo {lo hi k : Int} {S : Int → Bool} (h : l_inv lo hi S k) {u : Nat} (hu : u < 64) : l_inv (z_lor lo (z_lshl 1 (u : Int))) hi (fun v => S v || decide (v = (u : Int))) (if S (u : Int) = true then k else k + 1) := by
  obtain ⟨h1, h2, h3⟩ := h
  have e : lv (z_lor lo (z_lshl 1 (u : Int))) = lv lo ||| 2 ^ u := by rw [l6_or, l6_shl hu]
  refine ⟨fun v hv => ?_, fun v hv => ?_, ?_⟩
  · rw [e, bit_or, h1 v hv]
    congr 1
    exact decide_eq_decide.mpr ⟨fun z => by omega, fun z => by omega⟩
  · rw [h2 v hv]
    show S ((v + 64 : Nat) : Int) = (S ((v + 64 : Nat) : Int) || decide (((v + 64 : Nat) : Int) = (u : Int)))
    rw [decide_eq_false (by omega), Bool.or_false]
  · rw [e, pcN_or 64 (lv lo) u hu, h1 u hu]
    split <;> omega
theorem l_inv_hi {lo hi k : Int} {S : Int → Bool} (h : l_inv lo hi S k) {u : Nat} (hu : u < 36) : l_inv lo (z_lor hi (z_lshl 1 (u : Int))) (fun v => S v || decide (v = ((u + 64 : Nat) : Int))) (if S ((u + 64 : Nat) : Int) = true then k else k + 1) := by
  obtain ⟨h1, h2, h3⟩ := h
  have e : lv (z_lor hi (z_lshl 1 (u : Int))) = lv hi ||| 2 ^ u := by rw [l6_or, l6_shl (by omega)]
  refine ⟨fun v hv => ?_, fun v hv => ?_, ?_⟩
  · rw [h1 v hv]
    show S (v : Int) = (S (v : Int) || decide ((v : Int) = ((u + 64 : Nat) : Int)))
    rw [decide_eq_false (by omega), Bool.or_false]
  · rw [e, bit_or, h2 v hv]
    congr 1
    exact decide_eq_decide.mpr ⟨fun z => by omega, fun z => by omega⟩
  · rw [e, pcN_or 64 (lv hi) u (by omega), h2 u hu]
    split <;> omega
section
variable {w h n : Nat} {heat price : Int} {D A : Nat → Int} {c : Nat} {U : Nat → Nat → Int} {kn : Nat → Int} {KS : Nat → Nat → Int} {cs : List Int} {m : z_M}
theorem o_mel_b (hok : hr_ok n A) {r : Nat} (hr : r < 9) (b : Int) : 0 ≤ o_mel n heat cs D A r b ∧ o_mel n heat cs D A r b ≤ 99 := by
  have h1 := hok.1 r hr
  have h2 := c_ml_ok cs (hr_wb heat (wmD D (A 35)) n A r b) (A r) (A (r + 9)) (A 36) ((r : Int) / 3) (hr_pc b) (A 35) h1.1
  unfold o_mel hr_mB
  omega
theorem C_mbs2 (hi : C_is w h n heat price D A c U kn KS cs m) (hN : w_N w h n heat D) (ht : 0 ≤ A 35 ∧ A 35 ≤ 1073741824) {r : Nat} (hr : r < 9) (b : Int) : ∃ m1, z_R 118 (m, 0, [(2, 24), (2, 12), (0, (r : Int)), (0, b)], []) = some (m1, some (0, o_mel n heat cs D A r b)) ∧ C_is w h n heat price D A c U kn KS cs m1 ∧ m1 24 13 = m 24 13 := by
  have h5 := hN.1.2.2
  have e6 : m 12 6 = A 34 := by
    rw [← hi.2.2.1]
    exact (cS_at0 (s := 12) (j := 6) (by decide)).symm
  have e7 : m 12 7 = A 35 := by
    rw [← hi.2.2.1]
    exact (cS_at0 (s := 12) (j := 7) (by decide)).symm
  have e8 : m 12 8 = A 36 := by
    rw [← hi.2.2.1]
    exact (cS_at0 (s := 12) (j := 8) (by decide)).symm
  have e13 : m 13 r = A r := by
    rw [← hi.2.2.1]
    exact (cS_at1 (s := 12) hr).symm
  have e14 : m 14 r = A (r + 9) := by
    rw [← hi.2.2.1]
    exact (cS_at2 (s := 12) hr).symm
  have ew : z_R 119 (m, 0, [(2, 24), (2, 12), (0, (r : Int)), (0, b), (9, 0), (9, 0)], []) = some (m, some (0, hr_wb heat (wmD D (A 35)) n A r b)) := by
    rw [u_wof_0, e6, hi.1.2.2.2.1]
    unfold hr_wb
    have hb := hN.2.1
    by_cases z : A 34 = (r : Int)
    · rw [if_pos z, if_pos z]
      exact C_wof hi h5 ht n 0 heat (by omega) (z_w_of (by omega) (by omega))
    · rw [if_neg z, if_neg z]
      exact C_wof hi h5 ht n 0 0 (by omega) (by decide +kernel)
  obtain ⟨m1, a1, a2⟩ := (C_cfg hi).2.2.2.2.2.2.1 m rfl rfl (hr_wb heat (wmD D (A 35)) n A r b) (A r) (A (r + 9)) (A 36) ((r : Int) / 3) (hr_pc b) (A 35)
  have hC1 : C_is w h n heat price D A c U kn KS cs m1 := C_fr hi fun p k hk => by
    have hk' := hk
    unfold C_hit at hk'
    have hk' := of_decide_eq_true hk'
    exact a2.of (by (repeat' (first | exact trivial | refine z_of_c ?_ ?_)) <;> omega)
  rw [u_mbs_0, ew, zb_v, u_mbs_10, t_bc_0, zb_v, u_mbs_14, u_mby_0 m r _ _ (by omega), Int.toNat_natCast, e13, e14, e8, e7, a1, zb_v, u_mby_48, zb_v, u_mbs_17]
  exact ⟨m1, rfl, hC1, a2.of (by (repeat' (first | exact trivial | refine z_of_c ?_ ?_)) <;> omega)⟩
theorem C_cm1 (hN : w_N w h n heat D) (hok : hr_ok n A) (ht : 0 ≤ A 35 ∧ A 35 ≤ 1073741824) {r : Nat} (hr : r < 9) : ∀ (f x : Nat) (lo hi2 : Int) (v8 : z_V) (S : Int → Bool) (k g : Int) (m : z_M), x + f = 2 ^ n → l_inv lo hi2 S k → (0 ≤ k ∧ k ≤ (x : Int)) → m 24 13 = g → C_is w h n heat price D A c U kn KS cs m → ∃ m1, z_R 127 (m, 13, [(2, 24), (2, 12), (0, (r : Int)), (1, lo), (9, 0), (1, hi2), (9, 0), (0, (x : Int)), v8], []) = some (m1, none) ∧ C_is w h n heat price D A c U kn KS cs m1 ∧ m1 24 12 = (o_lk (o_mel n heat cs D A r) f x S k g).1 ∧ m1 24 13 = (o_lk (o_mel n heat cs D A r) f x S k g).2 := by
  have h5 := hN.1.2.2
  have h32 := z_p32 h5
  intro f
  induction f with
  | zero =>
    intro x lo hi2 v8 S k g m hx hI hk hg hi
    have e11 := hi.1.2.2.1
    rw [k_cm_13 m _ _ _ _ _ (by omega), e11, z_p2 h5, if_pos (by omega), k_bc, zb_v, k_cm_90, k_bc, zb_v, k_cm_95]
    have h3 := hI.2.2
    refine ⟨_, rfl, C_upn hi (by decide), ?_, ?_⟩
    · rw [zu_self, z_add_eq (by omega) (by omega)]
      show _ = k
      omega
    · rw [zu_k (by decide)]
      exact hg
  | succ f ih =>
    intro x lo hi2 v8 S k g m hx hI hk hg hi
    have e11 := hi.1.2.2.1
    obtain ⟨m1, a1, a2, a3⟩ := C_mbs2 hi hN ht hr (x : Int)
    have hb := o_mel_b (heat := heat) (cs := cs) (D := D) hok hr (x : Int)
    rw [k_cm_13 m _ _ _ _ _ (by omega), e11, z_p2 h5, if_neg (by omega), a1, zb_v, k_cm_35, z_add_eq (x := (x : Int)) (y := 1) (by omega) (by omega), tc1, a3, hg]
    unfold o_lk
    have hC2 : ∀ v, C_is w h n heat price D A c U kn KS cs (z_up m1 24 13 v) := fun v => C_upn a2 (by decide)
    generalize o_mel n heat cs D A r (x : Int) = u at hb ⊢
    obtain ⟨q, rfl⟩ : ∃ q : Nat, u = (q : Int) := ⟨u.toNat, by omega⟩
    have hk2 : 0 ≤ (if S (q : Int) = true then k else k + 1) ∧ (if S (q : Int) = true then k else k + 1) ≤ ((x + 1 : Nat) : Int) := by
      split <;> omega
    by_cases z : 64 ≤ (q : Int)
    · obtain ⟨j, rfl⟩ : ∃ j, q = j + 64 := ⟨q - 64, by omega⟩
      rw [if_pos z, z_sub_eq (by omega) (by omega), show (((j + 64 : Nat) : Int) - 64) = (j : Int) by omega]
      exact ih (x + 1) _ _ _ _ _ _ _ (by omega) (l_inv_hi hI (by omega)) hk2 zu_self (hC2 _)
    · rw [if_neg z]
      exact ih (x + 1) _ _ _ _ _ _ _ (by omega) (l_inv_lo hI (by omega)) hk2 zu_self (hC2 _)
theorem C_cm (hi : C_is w h n heat price D A c U kn KS cs m) (hN : w_N w h n heat D) (hok : hr_ok n A) (ht : 0 ≤ A 35 ∧ A 35 ≤ 1073741824) {r : Nat} (hr : r < 9) : ∃ m1, z_R 127 (m, 0, [(2, 24), (2, 12), (0, (r : Int)), (9, 0), (9, 0), (9, 0), (9, 0), (9, 0), (9, 0)], []) = some (m1, none) ∧ C_is w h n heat price D A c U kn KS cs m1 ∧ m1 24 12 = (o_F n heat cs D A r).1 ∧ m1 24 13 = (o_F n heat cs D A r).2 := by
  rw [k_cm_0]
  exact C_cm1 hN hok ht hr (2 ^ n) 0 0 0 (9, 0) (fun _ => false) 0 0 _ (by omega) l_inv_0 ⟨by decide, by decide⟩ zu_self (C_upn hi (by decide))
theorem C_look1 (hN : w_N w h n heat D) (hok : hr_ok n A) (ht : 0 ≤ A 35 ∧ A 35 ≤ 1073741824) : ∀ (f r : Nat) (b k g : Int) (m : z_M), r + f = 9 → C_is w h n heat price D A c U kn KS cs m → ∃ m1, z_R 126 (m, 9, [(2, 0), (0, b), (0, k), (0, g), (0, (r : Int))], []) = some (m1, some (0, if (o_lr w h (o_F n heat cs D A) f r b k g).1 = -1 then -2 else (o_lr w h (o_F n heat cs D A) f r b k g).1)) ∧ C_is w h n heat price D A c U kn KS cs m1 := by
  intro f
  induction f with
  | zero =>
    intro r b k g m hr hi
    rw [k_loo_9, if_pos (by omega)]
    show ∃ m1, _ = some (m1, some (0, if b = -1 then -2 else b)) ∧ _
    by_cases z : b = -1
    · rw [if_pos z, if_pos z]
      exact ⟨m, rfl, hi⟩
    · rw [if_neg z, if_neg z, c_tell2, zb_n, k_loo_93]
      exact ⟨_, rfl, C_tell2 hi _ _⟩
  | succ f ih =>
    intro r b k g m hr hi
    rw [k_loo_9, if_neg (by omega), hi.1.1, hi.1.2.1, z_add_eq (x := (r : Int)) (y := 1) (by omega) (by omega), tc1]
    have eo : o_lr w h (o_F n heat cs D A) (f + 1) r b k g = if (¬ u_hs (w : Int) (h : Int) (r : Int) = 0) ∧ k < (o_F n heat cs D A r).1 then o_lr w h (o_F n heat cs D A) f (r + 1) (r : Int) (o_F n heat cs D A r).1 (o_F n heat cs D A r).2 else o_lr w h (o_F n heat cs D A) f (r + 1) b k g := rfl
    rw [eo]
    by_cases z : u_hs (w : Int) (h : Int) (r : Int) = 0
    · rw [if_neg (not_not_intro z), if_neg (show ¬ ((¬ u_hs (w : Int) (h : Int) (r : Int) = 0) ∧ k < (o_F n heat cs D A r).1) from fun q => q.1 z)]
      exact ih (r + 1) b k g m (by omega) hi
    · obtain ⟨m1, a1, a2, a3, a4⟩ := C_cm hi hN hok ht (r := r) (by omega)
      rw [if_pos z, a1, zb_n, k_loo_41, a3, a4, z_add_eq (x := (r : Int)) (y := 1) (by omega) (by omega), tc1]
      by_cases y : k < (o_F n heat cs D A r).1
      · rw [if_neg (by omega), if_pos (show (¬ u_hs (w : Int) (h : Int) (r : Int) = 0) ∧ k < (o_F n heat cs D A r).1 from ⟨z, y⟩)]
        exact ih (r + 1) _ _ _ m1 (by omega) a2
      · rw [if_pos (by omega), if_neg (show ¬ ((¬ u_hs (w : Int) (h : Int) (r : Int) = 0) ∧ k < (o_F n heat cs D A r).1) from fun q => y q.2)]
        exact ih (r + 1) b k g m1 (by omega) a2
theorem C_look (hi : C_is w h n heat price D A c U kn KS cs m) (hN : w_N w h n heat D) (hok : hr_ok n A) (ht : 0 ≤ A 35 ∧ A 35 ≤ 1073741824) (h0 : w = 0 ↔ h = 0) : ∃ m1, z_R 126 (m, 0, [(2, 0), (9, 0), (9, 0), (9, 0), (9, 0)], []) = some (m1, some (0, o_look w h n heat cs D A)) ∧ C_is w h n heat price D A c U kn KS cs m1 := by
  obtain ⟨m1, a1, a2⟩ := C_look1 hN hok ht 9 0 (-1) 0 0 m (by omega) hi
  have e := o_lr_w (n := n) (heat := heat) (cs := cs) (D := D) (A := A) hN.1.1 hN.1.2.1 h0
  rw [k_loo_0]
  refine ⟨m1, a1.trans ?_, a2⟩
  unfold o_look
  by_cases z : w = 0
  · rw [if_pos (e.mpr z), if_pos z]
  · rw [if_neg (fun y => z (e.mp y)), if_neg z]
/-! the reference -/
theorem R_mbs3 (hi : R_is w h n heat price D A c U kn KS cs m) (hN : w_N w h n heat D) (hok : hr_ok n A) (ht : 0 ≤ A 35 ∧ A 35 ≤ 1073741824) {r : Nat} (hr : r < 9) (b : Int) : ∃ m1, z_R 188 (m, 0, [(2, 251), (2, 252), (0, (r : Int)), (0, b)], []) = some (m1, some (0, o_mel n heat cs D A r b)) ∧ R_is w h n heat price D A c U kn KS cs m1 ∧ ∀ v, m1 269 v = m 269 v := by
  have h5 := hN.1.2.2
  obtain ⟨c1, c2, c3, c4, c5, c6, c7⟩ := R_cfg hi
  have ea : ∀ k, k < 18 ∨ 33 ≤ k → k < 37 → m 252 k = A k := fun k hk h37 => R_A hi h37 (by
    rcases hk with hk | hk
    · exact a_vis_lo hk
    · exact a_vis_hi hk)
  have hrg : r_rg 252 m := by
    refine ⟨fun k hk => ?_, ?_, ?_⟩
    · have p1 := hok.1 k hk
      have p2 := hok.2.1 k hk
      rw [ea k (by omega) (by omega), ea (k + 9) (by omega) (by omega)]
      omega
    · rw [ea 36 (by omega) (by omega)]
      have := hok.2.2.2
      omega
    · rw [ea 35 (by omega) (by omega)]
      omega
  have hb := hN.2.1
  have hW : r_i (hr_wb heat (wmD D (A 35)) n (rS m 252 n) r b) := by
    unfold hr_wb r_i
    by_cases z : rS m 252 n 34 = (r : Int)
    · rw [if_pos z]
      have := hr_s_rg (b := b) (hN.2.2 (A 35) ht.1) n 0 heat (by omega) (by omega) (by omega)
      omega
    · rw [if_neg z]
      have := hr_s_rg (b := b) (hN.2.2 (A 35) ht.1) n 0 0 (by omega) (by omega) (by omega)
      omega
  have hP : r_i (hr_pc b) := by
    have := hr_pc_b b
    unfold r_i
    omega
  obtain ⟨m1, a1, a2⟩ := r_mb z_A_252 (Or.inl rfl) h5 (ml := c_ml cs) (b := b) (t := A 35) (heat := heat) (wm := wmD D (A 35)) ht.1 (by omega) m c3 c4 (ea 35 (by omega) (by omega)) (fun p hp => c6 (A 35) ht.1 p hp) c7 hr hrg hW hP
  rw [hi.2.2.1] at a1
  have a1 : z_R 188 (m, 0, [(2, 251), (2, 252), (0, (r : Int)), (0, b)], []) = some (m1, some (0, o_mel n heat cs D A r b)) := a1
  refine ⟨m1, a1, R_fr hi fun p k hk => ?_, fun v => a2.of (by (repeat' (first | exact trivial | refine z_of_c ?_ ?_)) <;> omega)⟩
  have hk' := hk
  unfold R_hit at hk'
  have hk' := of_decide_eq_true hk'
  exact a2.of (by (repeat' (first | exact trivial | refine z_of_c ?_ ?_)) <;> omega)
theorem R_clr : ∀ (f x : Nat) (x1 x2 x3 x4 : Int) (v6 v7 v8 : z_V) (m : z_M), x + f = 100 → (∀ v : Nat, v < x → m 269 v = 0) → R_is w h n heat price D A c U kn KS cs m → ∃ m1, z_R 244 (m, 46, [(2, 251), (0, x1), (0, x2), (0, x3), (0, x4), (0, (x : Int)), v6, v7, v8], []) = z_R 244 (m1, 76, [(2, 251), (0, x1), (0, x2), (0, x3), (0, x4), (0, 0), (0, 0), (0, 0), v8], []) ∧ (∀ v : Nat, v < 100 → m1 269 v = 0) ∧ R_is w h n heat price D A c U kn KS cs m1 := by
  intro f
  induction f with
  | zero =>
    intro x x1 x2 x3 x4 v6 v7 v8 m hx h0 hi
    rw [k_tlo_46, if_pos (by omega)]
    exact ⟨m, rfl, fun v hv => h0 v (by omega), hi⟩
  | succ f ih =>
    intro x x1 x2 x3 x4 v6 v7 v8 m hx h0 hi
    rw [k_tlo_46, if_neg (by omega), if_pos (by omega), tc1, Int.toNat_natCast]
    refine ih (x + 1) x1 x2 x3 x4 v6 v7 v8 _ (by omega) (fun v hv => ?_) (R_fr hi fun p k hk => zu_p ?_)
    · by_cases z : v = x
      · rw [z]
        exact zu_self
      · rw [zu_k z]
        exact h0 v (by omega)
    · intro z
      have hk' := hk
      unfold R_hit at hk'
      have hk' := of_decide_eq_true hk'
      omega
theorem R_lset (hN : w_N w h n heat D) (hok : hr_ok n A) (ht : 0 ≤ A 35 ∧ A 35 ≤ 1073741824) {r : Nat} (hr : r < 9) {x1 x2 x3 : Int} : ∀ (f x : Nat) (v8 : z_V) (S : Int → Bool) (k g : Int) (m : z_M), x + f = 2 ^ n → (∀ v : Nat, v < 100 → m 269 v = if S (v : Int) = true then 1 else 0) → (0 ≤ k ∧ k ≤ (x : Int)) → R_is w h n heat price D A c U kn KS cs m → ∃ m1 v5 v6 v7 v8', z_R 244 (m, 76, [(2, 251), (0, x1), (0, x2), (0, x3), (0, (r : Int)), (0, k), (0, g), (0, (x : Int)), v8], []) = (if x2 < (o_lk (o_mel n heat cs D A r) f x S k g).1 then z_R 244 (m1, 24, [(2, 251), (0, (r : Int)), (0, (o_lk (o_mel n heat cs D A r) f x S k g).1), (0, (o_lk (o_mel n heat cs D A r) f x S k g).2), (0, ((r + 1 : Nat) : Int)), v5, v6, v7, v8'], []) else z_R 244 (m1, 24, [(2, 251), (0, x1), (0, x2), (0, x3), (0, ((r + 1 : Nat) : Int)), v5, v6, v7, v8'], [])) ∧ R_is w h n heat price D A c U kn KS cs m1 := by
  have h5 := hN.1.2.2
  have h32 := z_p32 h5
  intro f
  induction f with
  | zero =>
    intro x v8 S k g m hx h269 hk hi
    refine ⟨m, (0, k), (0, g), (0, (x : Int)), v8, ?_, hi⟩
    rw [k_tlo_76, hi.1.2.2.1, z_p2 h5, if_pos (by omega), z_add_eq (x := (r : Int)) (y := 1) (by omega) (by omega), tc1]
    rfl
  | succ f ih =>
    intro x v8 S k g m hx h269 hk hi
    obtain ⟨m1, a1, a2⟩ := R_mbs3 hi hN hok ht hr (x : Int)
    obtain ⟨a2, a3⟩ := a2
    have hb := o_mel_b (heat := heat) (cs := cs) (D := D) hok hr (x : Int)
    rw [k_tlo_76, hi.1.2.2.1, z_p2 h5, if_neg (by omega), a1, zb_v, k_tlo_99, if_pos (by omega), z_add_eq (x := (x : Int)) (y := 1) (by omega) (by omega), tc1]
    unfold o_lk
    generalize o_mel n heat cs D A r (x : Int) = u at hb ⊢
    obtain ⟨q, rfl⟩ : ∃ q : Nat, u = (q : Int) := ⟨u.toNat, by omega⟩
    rw [Int.toNat_natCast, a3 q, h269 q (by omega), z_add_eq (x := k) (y := 1) (by omega) (by omega), z_add_eq (x := k) (y := 0) (by omega) (by omega), Int.add_zero]
    have h2 : ∀ v : Nat, v < 100 → (z_up m1 269 q 1) 269 v = if (S (v : Int) || decide ((v : Int) = (q : Int))) = true then 1 else 0 := fun v hv => by
      by_cases z : v = q
      · rw [z, zu_self, decide_eq_true rfl, Bool.or_true, if_pos rfl]
      · rw [zu_k z, a3 v, h269 v hv, decide_eq_false (by omega), Bool.or_false]
    have hR2 : R_is w h n heat price D A c U kn KS cs (z_up m1 269 q 1) := R_fr a2 fun p j hk => zu_p fun z => by
      have hk' := hk
      unfold R_hit at hk'
      have hk' := of_decide_eq_true hk'
      omega
    by_cases y : S (q : Int) = true
    · rw [if_pos y, if_pos y, if_neg (by decide)]
      exact ih (x + 1) _ _ k _ _ (by omega) h2 (by omega) hR2
    · rw [if_neg y, if_neg y, if_pos rfl]
      exact ih (x + 1) _ _ (k + 1) _ _ (by omega) h2 (by omega) hR2
theorem R_look1 (hN : w_N w h n heat D) (hok : hr_ok n A) (ht : 0 ≤ A 35 ∧ A 35 ≤ 1073741824) : ∀ (f r : Nat) (b k g : Int) (v5 v6 v7 v8 : z_V) (m : z_M), r + f = 9 → R_is w h n heat price D A c U kn KS cs m → ∃ m1, z_R 244 (m, 24, [(2, 251), (0, b), (0, k), (0, g), (0, (r : Int)), v5, v6, v7, v8], []) = some (m1, some (0, (o_lr w h (o_F n heat cs D A) f r b k g).1)) ∧ R_is w h n heat price D A c U kn KS cs m1 := by
  intro f
  induction f with
  | zero =>
    intro r b k g v5 v6 v7 v8 m hr hi
    rw [k_tlo_24, if_pos (by omega), t_tell0, zb_n, k_tlo_179, t_tell1, zb_n, k_tlo_185]
    exact ⟨_, rfl, R_upn (R_upn (R_upn (R_upn (R_upn hi (by decide)) (by decide)) (by decide)) (by decide)) (by decide)⟩
  | succ f ih =>
    intro r b k g v5 v6 v7 v8 m hr hi
    rw [k_tlo_24, if_neg (by omega), hi.1.1, hi.1.2.1, z_add_eq (x := (r : Int)) (y := 1) (by omega) (by omega), tc1]
    unfold o_lr
    by_cases z : u_hs (w : Int) (h : Int) (r : Int) = 0
    · rw [if_neg (not_not_intro z), if_neg (fun q => q.1 z)]
      exact ih (r + 1) b k g _ _ _ _ m (by omega) hi
    · rw [if_pos z]
      obtain ⟨m1, a1, a2, a3⟩ := R_clr 100 0 b k g (r : Int) v6 v7 v8 m (by omega) (fun v hv => absurd hv (Nat.not_lt_zero v)) hi
      obtain ⟨m2, w5, w6, w7, w8, b1, b2⟩ := R_lset hN hok ht (r := r) (by omega) (x1 := b) (x2 := k) (x3 := g) (2 ^ n) 0 v8 (fun _ => false) 0 0 m1 (by omega) (fun v hv => (a2 v hv).trans (if_neg Bool.false_ne_true).symm) ⟨by decide, by decide⟩ a3
      have a1 : z_R 244 (m, 46, [(2, 251), (0, b), (0, k), (0, g), (0, (r : Int)), (0, 0), v6, v7, v8], []) = z_R 244 (m1, 76, [(2, 251), (0, b), (0, k), (0, g), (0, (r : Int)), (0, 0), (0, 0), (0, 0), v8], []) := a1
      have b1 : z_R 244 (m1, 76, [(2, 251), (0, b), (0, k), (0, g), (0, (r : Int)), (0, 0), (0, 0), (0, 0), v8], []) = (if k < (o_F n heat cs D A r).1 then z_R 244 (m2, 24, [(2, 251), (0, (r : Int)), (0, (o_F n heat cs D A r).1), (0, (o_F n heat cs D A r).2), (0, ((r + 1 : Nat) : Int)), w5, w6, w7, w8], []) else z_R 244 (m2, 24, [(2, 251), (0, b), (0, k), (0, g), (0, ((r + 1 : Nat) : Int)), w5, w6, w7, w8], [])) := b1
      rw [a1, b1]
      by_cases y : k < (o_F n heat cs D A r).1
      · rw [if_pos y, if_pos ⟨z, y⟩]
        exact ih (r + 1) _ _ _ _ _ _ _ m2 (by omega) b2
      · rw [if_neg y, if_neg (fun q => y q.2)]
        exact ih (r + 1) b k g _ _ _ _ m2 (by omega) b2
theorem R_look (hi : R_is w h n heat price D A c U kn KS cs m) (hN : w_N w h n heat D) (hok : hr_ok n A) (ht : 0 ≤ A 35 ∧ A 35 ≤ 1073741824) : ∃ m1, z_R 244 (m, 0, [(2, 251), (9, 0), (9, 0), (9, 0), (9, 0), (9, 0), (9, 0), (9, 0), (9, 0)], []) = some (m1, some (0, o_look w h n heat cs D A)) ∧ R_is w h n heat price D A c U kn KS cs m1 := by
  have hu := R_upn (p0 := 251) (k0 := 11) (v := 0) hi (by decide)
  rw [k_tlo_0, hi.1.1]
  unfold o_look
  by_cases z : w = 0
  · rw [if_pos (by omega), if_pos z]
    exact ⟨_, rfl, hu⟩
  · rw [if_neg (by omega), if_neg z]
    exact R_look1 hN hok ht 9 0 (-1) 0 0 _ _ _ _ _ (by omega) hu
end
theorem core_look : l_rel2 Rel_C (955, 144, 126, 0, false, 960, 147, 244) := by
  intro M1 M2 M3 σ σ1 σ2 as v1 v2 C1 C2 ρ1 ρ2 ha hR hh hM1 hC1 hp1 hE1 hC2 hp2 hE2
  obtain rfl := as_nil ha
  have hE1 : z_R 126 (z_m σ, 0, [(2, 0), (9, 0), (9, 0), (9, 0), (9, 0)], []) = some (z_m σ1, some (0, v1.toInt)) := z_R_iff.mpr hE1
  have hE2 : z_R 244 (z_m σ1, 0, [(2, 251), (9, 0), (9, 0), (9, 0), (9, 0), (9, 0), (9, 0), (9, 0), (9, 0)], []) = some (z_m σ2, some (0, v2.toInt)) := z_R_iff.mpr hE2
  have hT := T_two (y1 := 126) (y2 := 244) (by decide +kernel) (by decide +kernel) hC1 hC2 hp1 hp2 hR.1
  obtain ⟨w, h, n, heat, price, D, A, c, U, kn, KS, cs, cC, cR, cW⟩ := hR.2
  obtain ⟨b1, b2, -, -, hok, b35, -, b7⟩ := core_b hh hM1 cR
  have hN : w_N w h n heat D := ⟨b1, b2, b7⟩
  have f1 := R_off2_ok (y := 126) (by decide +kernel) hC1 hp1
  have f2 := C_off_ok (y := 244) (by decide +kernel) hC2 hp2
  have cR1 := R_fr cR f1
  have z := core_do cR1 (fun q => C_fr q f2) (C_look cC hN hok b35 cW.1) (fun q => R_look q hN hok b35) hE1 hE2
  exact ⟨⟨hT, Core_mk z.1.1 z.1.2 cW⟩, fun _ => z.2⟩
end
section
/-! STRETCHES of leave, with bounds done -/
theorem tw_who_0  (m : z_M) (n : Int) : z_R 142 (m, 0, [(0, n), (9, 0), (9, 0), (9, 0)], []) = z_R 142 (m, 4, [(0, n), (1, 1), (9, 0), (0, 0)], []) :=
  have hK : kt_at 142 = kt_142 := rfl
  (z_R_run hK (n := 4) (g' := (m, 4, [(0, n), (1, 1), (9, 0), (0, 0)], [])) rfl).trans (rfl)
theorem tw_who_4  (m : z_M) (x0 : Int) (x1 : Int) (x3 : Int) : z_R 142 (m, 4, [(0, x0), (1, x1), (9, 0), (0, x3)], []) = if x0 ≤ x3 then some (m, some (1, x1)) else z_R 142 (m, 4, [(0, x0), (1, z_lmul x1 10), (9, 0), (0, z_add x3 1)], []) :=
  have hK : kt_at 142 = kt_142 := rfl
  (z_R_run hK (n := 2) (g' := (m, 6, [(0, x0), (1, x1), (9, 0), (0, x3)], [(0, x0), (0, x3)])) rfl).trans (z_R_ifd hK (c := x0 ≤ x3) (p1 := 21) (p2 := 9) rfl rfl rfl (fun h1 => (z_R_run hK (n := 1) (g' := (m, 22, [(0, x0), (1, x1), (9, 0), (0, x3)], [(1, x1)])) rfl).trans (z_R_ret hK rfl rfl rfl)) (fun h1 => (z_R_run hK (n := 6) (g' := (m, 4, [(0, x0), (1, z_lmul x1 10), (9, 0), (0, z_add x3 1)], [])) rfl).trans (rfl)))
theorem tw_sea_0  (m : z_M) (n : Int) (p : Int) : z_R 139 (m, 0, [(2, 193), (2, 12), (0, n), (0, p), (9, 0)], []) = (z_R 92 (z_up (z_up (z_up m 193 4 (if 8 < n then 8 else n)) 193 5 p) 193 6 (m 12 8), 0, [(2, 3), (2, 12), (9, 0), (9, 0)], [])).bind fun qq => z_R 139 (qq.1, 32, [(2, 193), (2, 12), (0, n), (0, p), (9, 0)], qq.2.toList ++ [(2, 193)]) :=
  have hK : kt_at 139 = kt_139 := rfl
  (z_R_run hK (n := 11) (g' := (z_up (z_up m 193 4 (if 8 < n then 8 else n)) 193 5 p, 20, [(2, 193), (2, 12), (0, n), (0, p), (9, 0)], [(0, (z_up (z_up m 193 4 (if 8 < n then 8 else n)) 193 5 p) 12 8), (2, 193)])) rfl).trans ((congrArg (fun vv => z_R 139 (z_up (z_up m 193 4 (if 8 < n then 8 else n)) 193 5 p, 20, [(2, 193), (2, 12), (0, n), (0, p), (9, 0)], [(0, vv), (2, 193)])) ((zu_p (by decide)).trans (zu_p (by decide)))).trans ((z_R_run hK (n := 4) (g' := (z_up (z_up (z_up m 193 4 (if 8 < n then 8 else n)) 193 5 p) 193 6 (m 12 8), 28, [(2, 193), (2, 12), (0, n), (0, p), (9, 0)], [(2, 3), (2, 193)])) rfl).trans ((z_R_run hK (n := 1) (g' := (z_up (z_up (z_up m 193 4 (if 8 < n then 8 else n)) 193 5 p) 193 6 (m 12 8), 29, [(2, 193), (2, 12), (0, n), (0, p), (9, 0)], [(2, 12), (2, 3), (2, 193)])) rfl).trans (z_R_call hK rfl rfl rfl rfl rfl))))
theorem tw_sea_32  (m : z_M) (x2 : Int) (x3 : Int) (u : Int) : z_R 139 (m, 32, [(2, 193), (2, 12), (0, x2), (0, x3), (9, 0)], [(0, u), (2, 193)]) = z_R 139 (z_up m 193 7 u, 38, [(2, 193), (2, 12), (0, x2), (0, x3), (0, 0)], []) :=
  have hK : kt_at 139 = kt_139 := rfl
  (z_R_run hK (n := 3) (g' := (z_up m 193 7 u, 38, [(2, 193), (2, 12), (0, x2), (0, x3), (0, 0)], [])) rfl).trans (rfl)
theorem tw_sea_38  (m : z_M) (x2 : Int) (x3 : Int) (x4 : Int) : z_R 139 (m, 38, [(2, 193), (2, 12), (0, x2), (0, x3), (0, x4)], []) = if 8 < x4 then (z_R 61 (m, 0, [(2, 196), (2, 12)], [])).bind fun qq => z_R 139 (qq.1, 69, [(2, 193), (2, 12), (0, x2), (0, x3), (0, x4)], qq.2.toList ++ []) else if 0 ≤ x4 ∧ x4 < 9 then z_R 139 (z_up m 195 (x4).toNat 0, 38, [(2, 193), (2, 12), (0, x2), (0, x3), (0, x4 + 1)], []) else none :=
  have hK : kt_at 139 = kt_139 := rfl
  (z_R_run hK (n := 2) (g' := (m, 42, [(2, 193), (2, 12), (0, x2), (0, x3), (0, x4)], [(0, 8), (0, x4)])) rfl).trans (z_R_ifd hK (c := 8 < x4) (p1 := 59) (p2 := 45) rfl rfl rfl (fun h1 => (z_R_run hK (n := 2) (g' := (m, 63, [(2, 193), (2, 12), (0, x2), (0, x3), (0, x4)], [(2, 194)])) rfl).trans ((z_R_run hK (n := 2) (g' := (m, 65, [(2, 193), (2, 12), (0, x2), (0, x3), (0, x4)], [(2, 196)])) rfl).trans ((z_R_run hK (n := 1) (g' := (m, 66, [(2, 193), (2, 12), (0, x2), (0, x3), (0, x4)], [(2, 12), (2, 196)])) rfl).trans (z_R_call hK rfl rfl rfl rfl rfl)))) (fun h1 => (z_R_run hK (n := 2) (g' := (m, 49, [(2, 193), (2, 12), (0, x2), (0, x3), (0, x4)], [(2, 195)])) rfl).trans ((z_R_run hK (n := 2) (g' := (m, 52, [(2, 193), (2, 12), (0, x2), (0, x3), (0, x4)], [(1, 0), (0, x4), (2, 195)])) rfl).trans (z_R_ixD hK (n := 9) (g' := (z_up m 195 (x4).toNat 0, 53, [(2, 193), (2, 12), (0, x2), (0, x3), (0, x4)], [])) rfl rfl rfl (fun h2 => (z_R_run hK (n := 1) (g' := (z_up m 195 (x4).toNat 0, 56, [(2, 193), (2, 12), (0, x2), (0, x3), (0, z_add x4 1)], [])) rfl).trans ((congrArg (fun vv => z_R 139 (z_up m 195 (x4).toNat 0, 56, [(2, 193), (2, 12), (0, x2), (0, x3), (0, vv)], [])) (z_add_eq (by omega) (by omega))).trans ((z_R_run hK (n := 1) (g' := (z_up m 195 (x4).toNat 0, 38, [(2, 193), (2, 12), (0, x2), (0, x3), (0, x4 + 1)], [])) rfl).trans (rfl))))))))
theorem tw_sea_69  (m : z_M) (x2 : Int) (x3 : Int) (x4 : Int) : z_R 139 (m, 69, [(2, 193), (2, 12), (0, x2), (0, x3), (0, x4)], []) = (z_R 140 (m, 0, [(2, 193), (0, 0), (1, 1), (9, 0)], [])).bind fun qq => z_R 139 (qq.1, 75, [(2, 193), (2, 12), (0, x2), (0, x3), (0, x4)], qq.2.toList ++ []) :=
  have hK : kt_at 139 = kt_139 := rfl
  (z_R_run hK (n := 3) (g' := (m, 72, [(2, 193), (2, 12), (0, x2), (0, x3), (0, x4)], [(1, 1), (0, 0), (2, 193)])) rfl).trans (z_R_call hK rfl rfl rfl rfl rfl)
theorem tw_sea_75  (m : z_M) (x2 : Int) (x3 : Int) (x4 : Int) : z_R 139 (m, 75, [(2, 193), (2, 12), (0, x2), (0, x3), (0, x4)], []) = some (m, none) :=
  have hK : kt_at 139 = kt_139 := rfl
  z_R_ret hK rfl rfl rfl
theorem tw_gf0_0  (m : z_M) (w : Int) : z_R 140 (m, 0, [(2, 193), (0, 0), (1, w), (9, 0)], []) = if m 193 4 ≤ 0 then some (z_up m 195 0 (z_ladd (m 195 0) w), none) else (z_R 141 (z_up m 195 0 (z_ladd (m 195 0) w), 0, [(2, 193), (0, 0), (0, 0), (1, z_lmul w (z_i2l (m 193 5))), (9, 0), (9, 0)], [])).bind fun qq => z_R 140 (qq.1, 42, [(2, 193), (0, 0), (1, w), (9, 0)], qq.2.toList ++ []) :=
  have hK : kt_at 140 = kt_140 := rfl
  (z_R_run hK (n := 7) (g' := (m, 15, [(2, 193), (0, 0), (1, w), (9, 0)], [(2, 195)])) rfl).trans ((z_R_run hK (n := 9) (g' := (z_up m 195 0 (z_ladd (m 195 0) w), 26, [(2, 193), (0, 0), (1, w), (9, 0)], [(0, (z_up m 195 0 (z_ladd (m 195 0) w)) 193 4), (0, 0)])) rfl).trans ((congrArg (fun vv => z_R 140 (z_up m 195 0 (z_ladd (m 195 0) w), 26, [(2, 193), (0, 0), (1, w), (9, 0)], [(0, vv), (0, 0)])) (zu_p (by decide))).trans (z_R_ifd hK (c := m 193 4 ≤ 0) (p1 := 61) (p2 := 29) rfl rfl rfl (fun h1 => z_R_ret hK rfl rfl rfl) (fun h1 => (z_R_run hK (n := 6) (g' := (z_up m 195 0 (z_ladd (m 195 0) w), 37, [(2, 193), (0, 0), (1, w), (9, 0)], [(0, (z_up m 195 0 (z_ladd (m 195 0) w)) 193 5), (1, w), (0, 0), (0, 0), (2, 193)])) rfl).trans ((congrArg (fun vv => z_R 140 (z_up m 195 0 (z_ladd (m 195 0) w), 37, [(2, 193), (0, 0), (1, w), (9, 0)], [(0, vv), (1, w), (0, 0), (0, 0), (2, 193)])) (zu_p (by decide))).trans ((z_R_run hK (n := 2) (g' := (z_up m 195 0 (z_ladd (m 195 0) w), 39, [(2, 193), (0, 0), (1, w), (9, 0)], [(1, z_lmul w (z_i2l (m 193 5))), (0, 0), (0, 0), (2, 193)])) rfl).trans (z_R_call hK rfl rfl rfl rfl rfl)))))))
theorem tw_gf0_42  (m : z_M) (x1 : Int) (x2 : Int) : z_R 140 (m, 42, [(2, 193), (0, x1), (1, x2), (9, 0)], []) = (z_R 141 (m, 0, [(2, 193), (0, x1), (0, m 193 6), (1, z_lmul x2 (z_i2l (z_sub 10 (m 193 5)))), (9, 0), (9, 0)], [])).bind fun qq => z_R 140 (qq.1, 61, [(2, 193), (0, x1), (1, x2), (9, 0)], qq.2.toList ++ []) :=
  have hK : kt_at 140 = kt_140 := rfl
  (z_R_run hK (n := 11) (g' := (m, 58, [(2, 193), (0, x1), (1, x2), (9, 0)], [(1, z_lmul x2 (z_i2l (z_sub 10 (m 193 5)))), (0, m 193 6), (0, x1), (2, 193)])) rfl).trans (z_R_call hK rfl rfl rfl rfl rfl)
theorem tw_gf0_61  (m : z_M) (x1 : Int) (x2 : Int) : z_R 140 (m, 61, [(2, 193), (0, x1), (1, x2), (9, 0)], []) = some (m, none) :=
  have hK : kt_at 140 = kt_140 := rfl
  z_R_ret hK rfl rfl rfl
theorem tw_gf1_0  (m : z_M) (w : Int) : z_R 140 (m, 0, [(2, 193), (0, 1), (1, w), (9, 0)], []) = if m 193 4 ≤ 1 then some (z_up m 195 1 (z_ladd (m 195 1) w), none) else (z_R 141 (z_up m 195 1 (z_ladd (m 195 1) w), 0, [(2, 193), (0, 1), (0, 0), (1, z_lmul w (z_i2l (m 193 5))), (9, 0), (9, 0)], [])).bind fun qq => z_R 140 (qq.1, 42, [(2, 193), (0, 1), (1, w), (9, 0)], qq.2.toList ++ []) :=
  have hK : kt_at 140 = kt_140 := rfl
  (z_R_run hK (n := 7) (g' := (m, 15, [(2, 193), (0, 1), (1, w), (9, 0)], [(2, 195)])) rfl).trans ((z_R_run hK (n := 9) (g' := (z_up m 195 1 (z_ladd (m 195 1) w), 26, [(2, 193), (0, 1), (1, w), (9, 0)], [(0, (z_up m 195 1 (z_ladd (m 195 1) w)) 193 4), (0, 1)])) rfl).trans ((congrArg (fun vv => z_R 140 (z_up m 195 1 (z_ladd (m 195 1) w), 26, [(2, 193), (0, 1), (1, w), (9, 0)], [(0, vv), (0, 1)])) (zu_p (by decide))).trans (z_R_ifd hK (c := m 193 4 ≤ 1) (p1 := 61) (p2 := 29) rfl rfl rfl (fun h1 => z_R_ret hK rfl rfl rfl) (fun h1 => (z_R_run hK (n := 6) (g' := (z_up m 195 1 (z_ladd (m 195 1) w), 37, [(2, 193), (0, 1), (1, w), (9, 0)], [(0, (z_up m 195 1 (z_ladd (m 195 1) w)) 193 5), (1, w), (0, 0), (0, 1), (2, 193)])) rfl).trans ((congrArg (fun vv => z_R 140 (z_up m 195 1 (z_ladd (m 195 1) w), 37, [(2, 193), (0, 1), (1, w), (9, 0)], [(0, vv), (1, w), (0, 0), (0, 1), (2, 193)])) (zu_p (by decide))).trans ((z_R_run hK (n := 2) (g' := (z_up m 195 1 (z_ladd (m 195 1) w), 39, [(2, 193), (0, 1), (1, w), (9, 0)], [(1, z_lmul w (z_i2l (m 193 5))), (0, 0), (0, 1), (2, 193)])) rfl).trans (z_R_call hK rfl rfl rfl rfl rfl)))))))
theorem tw_gf1_42  (m : z_M) (x1 : Int) (x2 : Int) : z_R 140 (m, 42, [(2, 193), (0, x1), (1, x2), (9, 0)], []) = (z_R 141 (m, 0, [(2, 193), (0, x1), (0, m 193 6), (1, z_lmul x2 (z_i2l (z_sub 10 (m 193 5)))), (9, 0), (9, 0)], [])).bind fun qq => z_R 140 (qq.1, 61, [(2, 193), (0, x1), (1, x2), (9, 0)], qq.2.toList ++ []) :=
  have hK : kt_at 140 = kt_140 := rfl
  (z_R_run hK (n := 11) (g' := (m, 58, [(2, 193), (0, x1), (1, x2), (9, 0)], [(1, z_lmul x2 (z_i2l (z_sub 10 (m 193 5)))), (0, m 193 6), (0, x1), (2, 193)])) rfl).trans (z_R_call hK rfl rfl rfl rfl rfl)
theorem tw_gf1_61  (m : z_M) (x1 : Int) (x2 : Int) : z_R 140 (m, 61, [(2, 193), (0, x1), (1, x2), (9, 0)], []) = some (m, none) :=
  have hK : kt_at 140 = kt_140 := rfl
  z_R_ret hK rfl rfl rfl
theorem tw_gf2_0  (m : z_M) (w : Int) : z_R 140 (m, 0, [(2, 193), (0, 2), (1, w), (9, 0)], []) = if m 193 4 ≤ 2 then some (z_up m 195 2 (z_ladd (m 195 2) w), none) else (z_R 141 (z_up m 195 2 (z_ladd (m 195 2) w), 0, [(2, 193), (0, 2), (0, 0), (1, z_lmul w (z_i2l (m 193 5))), (9, 0), (9, 0)], [])).bind fun qq => z_R 140 (qq.1, 42, [(2, 193), (0, 2), (1, w), (9, 0)], qq.2.toList ++ []) :=
  have hK : kt_at 140 = kt_140 := rfl
  (z_R_run hK (n := 7) (g' := (m, 15, [(2, 193), (0, 2), (1, w), (9, 0)], [(2, 195)])) rfl).trans ((z_R_run hK (n := 9) (g' := (z_up m 195 2 (z_ladd (m 195 2) w), 26, [(2, 193), (0, 2), (1, w), (9, 0)], [(0, (z_up m 195 2 (z_ladd (m 195 2) w)) 193 4), (0, 2)])) rfl).trans ((congrArg (fun vv => z_R 140 (z_up m 195 2 (z_ladd (m 195 2) w), 26, [(2, 193), (0, 2), (1, w), (9, 0)], [(0, vv), (0, 2)])) (zu_p (by decide))).trans (z_R_ifd hK (c := m 193 4 ≤ 2) (p1 := 61) (p2 := 29) rfl rfl rfl (fun h1 => z_R_ret hK rfl rfl rfl) (fun h1 => (z_R_run hK (n := 6) (g' := (z_up m 195 2 (z_ladd (m 195 2) w), 37, [(2, 193), (0, 2), (1, w), (9, 0)], [(0, (z_up m 195 2 (z_ladd (m 195 2) w)) 193 5), (1, w), (0, 0), (0, 2), (2, 193)])) rfl).trans ((congrArg (fun vv => z_R 140 (z_up m 195 2 (z_ladd (m 195 2) w), 37, [(2, 193), (0, 2), (1, w), (9, 0)], [(0, vv), (1, w), (0, 0), (0, 2), (2, 193)])) (zu_p (by decide))).trans ((z_R_run hK (n := 2) (g' := (z_up m 195 2 (z_ladd (m 195 2) w), 39, [(2, 193), (0, 2), (1, w), (9, 0)], [(1, z_lmul w (z_i2l (m 193 5))), (0, 0), (0, 2), (2, 193)])) rfl).trans (z_R_call hK rfl rfl rfl rfl rfl)))))))
theorem tw_gf2_42  (m : z_M) (x1 : Int) (x2 : Int) : z_R 140 (m, 42, [(2, 193), (0, x1), (1, x2), (9, 0)], []) = (z_R 141 (m, 0, [(2, 193), (0, x1), (0, m 193 6), (1, z_lmul x2 (z_i2l (z_sub 10 (m 193 5)))), (9, 0), (9, 0)], [])).bind fun qq => z_R 140 (qq.1, 61, [(2, 193), (0, x1), (1, x2), (9, 0)], qq.2.toList ++ []) :=
  have hK : kt_at 140 = kt_140 := rfl
  (z_R_run hK (n := 11) (g' := (m, 58, [(2, 193), (0, x1), (1, x2), (9, 0)], [(1, z_lmul x2 (z_i2l (z_sub 10 (m 193 5)))), (0, m 193 6), (0, x1), (2, 193)])) rfl).trans (z_R_call hK rfl rfl rfl rfl rfl)
theorem tw_gf2_61  (m : z_M) (x1 : Int) (x2 : Int) : z_R 140 (m, 61, [(2, 193), (0, x1), (1, x2), (9, 0)], []) = some (m, none) :=
  have hK : kt_at 140 = kt_140 := rfl
  z_R_ret hK rfl rfl rfl
theorem tw_gf3_0  (m : z_M) (w : Int) : z_R 140 (m, 0, [(2, 193), (0, 3), (1, w), (9, 0)], []) = if m 193 4 ≤ 3 then some (z_up m 195 3 (z_ladd (m 195 3) w), none) else (z_R 141 (z_up m 195 3 (z_ladd (m 195 3) w), 0, [(2, 193), (0, 3), (0, 0), (1, z_lmul w (z_i2l (m 193 5))), (9, 0), (9, 0)], [])).bind fun qq => z_R 140 (qq.1, 42, [(2, 193), (0, 3), (1, w), (9, 0)], qq.2.toList ++ []) :=
  have hK : kt_at 140 = kt_140 := rfl
  (z_R_run hK (n := 7) (g' := (m, 15, [(2, 193), (0, 3), (1, w), (9, 0)], [(2, 195)])) rfl).trans ((z_R_run hK (n := 9) (g' := (z_up m 195 3 (z_ladd (m 195 3) w), 26, [(2, 193), (0, 3), (1, w), (9, 0)], [(0, (z_up m 195 3 (z_ladd (m 195 3) w)) 193 4), (0, 3)])) rfl).trans ((congrArg (fun vv => z_R 140 (z_up m 195 3 (z_ladd (m 195 3) w), 26, [(2, 193), (0, 3), (1, w), (9, 0)], [(0, vv), (0, 3)])) (zu_p (by decide))).trans (z_R_ifd hK (c := m 193 4 ≤ 3) (p1 := 61) (p2 := 29) rfl rfl rfl (fun h1 => z_R_ret hK rfl rfl rfl) (fun h1 => (z_R_run hK (n := 6) (g' := (z_up m 195 3 (z_ladd (m 195 3) w), 37, [(2, 193), (0, 3), (1, w), (9, 0)], [(0, (z_up m 195 3 (z_ladd (m 195 3) w)) 193 5), (1, w), (0, 0), (0, 3), (2, 193)])) rfl).trans ((congrArg (fun vv => z_R 140 (z_up m 195 3 (z_ladd (m 195 3) w), 37, [(2, 193), (0, 3), (1, w), (9, 0)], [(0, vv), (1, w), (0, 0), (0, 3), (2, 193)])) (zu_p (by decide))).trans ((z_R_run hK (n := 2) (g' := (z_up m 195 3 (z_ladd (m 195 3) w), 39, [(2, 193), (0, 3), (1, w), (9, 0)], [(1, z_lmul w (z_i2l (m 193 5))), (0, 0), (0, 3), (2, 193)])) rfl).trans (z_R_call hK rfl rfl rfl rfl rfl)))))))
theorem tw_gf3_42  (m : z_M) (x1 : Int) (x2 : Int) : z_R 140 (m, 42, [(2, 193), (0, x1), (1, x2), (9, 0)], []) = (z_R 141 (m, 0, [(2, 193), (0, x1), (0, m 193 6), (1, z_lmul x2 (z_i2l (z_sub 10 (m 193 5)))), (9, 0), (9, 0)], [])).bind fun qq => z_R 140 (qq.1, 61, [(2, 193), (0, x1), (1, x2), (9, 0)], qq.2.toList ++ []) :=
  have hK : kt_at 140 = kt_140 := rfl
  (z_R_run hK (n := 11) (g' := (m, 58, [(2, 193), (0, x1), (1, x2), (9, 0)], [(1, z_lmul x2 (z_i2l (z_sub 10 (m 193 5)))), (0, m 193 6), (0, x1), (2, 193)])) rfl).trans (z_R_call hK rfl rfl rfl rfl rfl)
theorem tw_gf3_61  (m : z_M) (x1 : Int) (x2 : Int) : z_R 140 (m, 61, [(2, 193), (0, x1), (1, x2), (9, 0)], []) = some (m, none) :=
  have hK : kt_at 140 = kt_140 := rfl
  z_R_ret hK rfl rfl rfl
theorem tw_gf4_0  (m : z_M) (w : Int) : z_R 140 (m, 0, [(2, 193), (0, 4), (1, w), (9, 0)], []) = if m 193 4 ≤ 4 then some (z_up m 195 4 (z_ladd (m 195 4) w), none) else (z_R 141 (z_up m 195 4 (z_ladd (m 195 4) w), 0, [(2, 193), (0, 4), (0, 0), (1, z_lmul w (z_i2l (m 193 5))), (9, 0), (9, 0)], [])).bind fun qq => z_R 140 (qq.1, 42, [(2, 193), (0, 4), (1, w), (9, 0)], qq.2.toList ++ []) :=
  have hK : kt_at 140 = kt_140 := rfl
  (z_R_run hK (n := 7) (g' := (m, 15, [(2, 193), (0, 4), (1, w), (9, 0)], [(2, 195)])) rfl).trans ((z_R_run hK (n := 9) (g' := (z_up m 195 4 (z_ladd (m 195 4) w), 26, [(2, 193), (0, 4), (1, w), (9, 0)], [(0, (z_up m 195 4 (z_ladd (m 195 4) w)) 193 4), (0, 4)])) rfl).trans ((congrArg (fun vv => z_R 140 (z_up m 195 4 (z_ladd (m 195 4) w), 26, [(2, 193), (0, 4), (1, w), (9, 0)], [(0, vv), (0, 4)])) (zu_p (by decide))).trans (z_R_ifd hK (c := m 193 4 ≤ 4) (p1 := 61) (p2 := 29) rfl rfl rfl (fun h1 => z_R_ret hK rfl rfl rfl) (fun h1 => (z_R_run hK (n := 6) (g' := (z_up m 195 4 (z_ladd (m 195 4) w), 37, [(2, 193), (0, 4), (1, w), (9, 0)], [(0, (z_up m 195 4 (z_ladd (m 195 4) w)) 193 5), (1, w), (0, 0), (0, 4), (2, 193)])) rfl).trans ((congrArg (fun vv => z_R 140 (z_up m 195 4 (z_ladd (m 195 4) w), 37, [(2, 193), (0, 4), (1, w), (9, 0)], [(0, vv), (1, w), (0, 0), (0, 4), (2, 193)])) (zu_p (by decide))).trans ((z_R_run hK (n := 2) (g' := (z_up m 195 4 (z_ladd (m 195 4) w), 39, [(2, 193), (0, 4), (1, w), (9, 0)], [(1, z_lmul w (z_i2l (m 193 5))), (0, 0), (0, 4), (2, 193)])) rfl).trans (z_R_call hK rfl rfl rfl rfl rfl)))))))
theorem tw_gf4_42  (m : z_M) (x1 : Int) (x2 : Int) : z_R 140 (m, 42, [(2, 193), (0, x1), (1, x2), (9, 0)], []) = (z_R 141 (m, 0, [(2, 193), (0, x1), (0, m 193 6), (1, z_lmul x2 (z_i2l (z_sub 10 (m 193 5)))), (9, 0), (9, 0)], [])).bind fun qq => z_R 140 (qq.1, 61, [(2, 193), (0, x1), (1, x2), (9, 0)], qq.2.toList ++ []) :=
  have hK : kt_at 140 = kt_140 := rfl
  (z_R_run hK (n := 11) (g' := (m, 58, [(2, 193), (0, x1), (1, x2), (9, 0)], [(1, z_lmul x2 (z_i2l (z_sub 10 (m 193 5)))), (0, m 193 6), (0, x1), (2, 193)])) rfl).trans (z_R_call hK rfl rfl rfl rfl rfl)
theorem tw_gf4_61  (m : z_M) (x1 : Int) (x2 : Int) : z_R 140 (m, 61, [(2, 193), (0, x1), (1, x2), (9, 0)], []) = some (m, none) :=
  have hK : kt_at 140 = kt_140 := rfl
  z_R_ret hK rfl rfl rfl
theorem tw_gf5_0  (m : z_M) (w : Int) : z_R 140 (m, 0, [(2, 193), (0, 5), (1, w), (9, 0)], []) = if m 193 4 ≤ 5 then some (z_up m 195 5 (z_ladd (m 195 5) w), none) else (z_R 141 (z_up m 195 5 (z_ladd (m 195 5) w), 0, [(2, 193), (0, 5), (0, 0), (1, z_lmul w (z_i2l (m 193 5))), (9, 0), (9, 0)], [])).bind fun qq => z_R 140 (qq.1, 42, [(2, 193), (0, 5), (1, w), (9, 0)], qq.2.toList ++ []) :=
  have hK : kt_at 140 = kt_140 := rfl
  (z_R_run hK (n := 7) (g' := (m, 15, [(2, 193), (0, 5), (1, w), (9, 0)], [(2, 195)])) rfl).trans ((z_R_run hK (n := 9) (g' := (z_up m 195 5 (z_ladd (m 195 5) w), 26, [(2, 193), (0, 5), (1, w), (9, 0)], [(0, (z_up m 195 5 (z_ladd (m 195 5) w)) 193 4), (0, 5)])) rfl).trans ((congrArg (fun vv => z_R 140 (z_up m 195 5 (z_ladd (m 195 5) w), 26, [(2, 193), (0, 5), (1, w), (9, 0)], [(0, vv), (0, 5)])) (zu_p (by decide))).trans (z_R_ifd hK (c := m 193 4 ≤ 5) (p1 := 61) (p2 := 29) rfl rfl rfl (fun h1 => z_R_ret hK rfl rfl rfl) (fun h1 => (z_R_run hK (n := 6) (g' := (z_up m 195 5 (z_ladd (m 195 5) w), 37, [(2, 193), (0, 5), (1, w), (9, 0)], [(0, (z_up m 195 5 (z_ladd (m 195 5) w)) 193 5), (1, w), (0, 0), (0, 5), (2, 193)])) rfl).trans ((congrArg (fun vv => z_R 140 (z_up m 195 5 (z_ladd (m 195 5) w), 37, [(2, 193), (0, 5), (1, w), (9, 0)], [(0, vv), (1, w), (0, 0), (0, 5), (2, 193)])) (zu_p (by decide))).trans ((z_R_run hK (n := 2) (g' := (z_up m 195 5 (z_ladd (m 195 5) w), 39, [(2, 193), (0, 5), (1, w), (9, 0)], [(1, z_lmul w (z_i2l (m 193 5))), (0, 0), (0, 5), (2, 193)])) rfl).trans (z_R_call hK rfl rfl rfl rfl rfl)))))))
theorem tw_gf5_42  (m : z_M) (x1 : Int) (x2 : Int) : z_R 140 (m, 42, [(2, 193), (0, x1), (1, x2), (9, 0)], []) = (z_R 141 (m, 0, [(2, 193), (0, x1), (0, m 193 6), (1, z_lmul x2 (z_i2l (z_sub 10 (m 193 5)))), (9, 0), (9, 0)], [])).bind fun qq => z_R 140 (qq.1, 61, [(2, 193), (0, x1), (1, x2), (9, 0)], qq.2.toList ++ []) :=
  have hK : kt_at 140 = kt_140 := rfl
  (z_R_run hK (n := 11) (g' := (m, 58, [(2, 193), (0, x1), (1, x2), (9, 0)], [(1, z_lmul x2 (z_i2l (z_sub 10 (m 193 5)))), (0, m 193 6), (0, x1), (2, 193)])) rfl).trans (z_R_call hK rfl rfl rfl rfl rfl)
theorem tw_gf5_61  (m : z_M) (x1 : Int) (x2 : Int) : z_R 140 (m, 61, [(2, 193), (0, x1), (1, x2), (9, 0)], []) = some (m, none) :=
  have hK : kt_at 140 = kt_140 := rfl
  z_R_ret hK rfl rfl rfl
theorem tw_gf6_0  (m : z_M) (w : Int) : z_R 140 (m, 0, [(2, 193), (0, 6), (1, w), (9, 0)], []) = if m 193 4 ≤ 6 then some (z_up m 195 6 (z_ladd (m 195 6) w), none) else (z_R 141 (z_up m 195 6 (z_ladd (m 195 6) w), 0, [(2, 193), (0, 6), (0, 0), (1, z_lmul w (z_i2l (m 193 5))), (9, 0), (9, 0)], [])).bind fun qq => z_R 140 (qq.1, 42, [(2, 193), (0, 6), (1, w), (9, 0)], qq.2.toList ++ []) :=
  have hK : kt_at 140 = kt_140 := rfl
  (z_R_run hK (n := 7) (g' := (m, 15, [(2, 193), (0, 6), (1, w), (9, 0)], [(2, 195)])) rfl).trans ((z_R_run hK (n := 9) (g' := (z_up m 195 6 (z_ladd (m 195 6) w), 26, [(2, 193), (0, 6), (1, w), (9, 0)], [(0, (z_up m 195 6 (z_ladd (m 195 6) w)) 193 4), (0, 6)])) rfl).trans ((congrArg (fun vv => z_R 140 (z_up m 195 6 (z_ladd (m 195 6) w), 26, [(2, 193), (0, 6), (1, w), (9, 0)], [(0, vv), (0, 6)])) (zu_p (by decide))).trans (z_R_ifd hK (c := m 193 4 ≤ 6) (p1 := 61) (p2 := 29) rfl rfl rfl (fun h1 => z_R_ret hK rfl rfl rfl) (fun h1 => (z_R_run hK (n := 6) (g' := (z_up m 195 6 (z_ladd (m 195 6) w), 37, [(2, 193), (0, 6), (1, w), (9, 0)], [(0, (z_up m 195 6 (z_ladd (m 195 6) w)) 193 5), (1, w), (0, 0), (0, 6), (2, 193)])) rfl).trans ((congrArg (fun vv => z_R 140 (z_up m 195 6 (z_ladd (m 195 6) w), 37, [(2, 193), (0, 6), (1, w), (9, 0)], [(0, vv), (1, w), (0, 0), (0, 6), (2, 193)])) (zu_p (by decide))).trans ((z_R_run hK (n := 2) (g' := (z_up m 195 6 (z_ladd (m 195 6) w), 39, [(2, 193), (0, 6), (1, w), (9, 0)], [(1, z_lmul w (z_i2l (m 193 5))), (0, 0), (0, 6), (2, 193)])) rfl).trans (z_R_call hK rfl rfl rfl rfl rfl)))))))
theorem tw_gf6_42  (m : z_M) (x1 : Int) (x2 : Int) : z_R 140 (m, 42, [(2, 193), (0, x1), (1, x2), (9, 0)], []) = (z_R 141 (m, 0, [(2, 193), (0, x1), (0, m 193 6), (1, z_lmul x2 (z_i2l (z_sub 10 (m 193 5)))), (9, 0), (9, 0)], [])).bind fun qq => z_R 140 (qq.1, 61, [(2, 193), (0, x1), (1, x2), (9, 0)], qq.2.toList ++ []) :=
  have hK : kt_at 140 = kt_140 := rfl
  (z_R_run hK (n := 11) (g' := (m, 58, [(2, 193), (0, x1), (1, x2), (9, 0)], [(1, z_lmul x2 (z_i2l (z_sub 10 (m 193 5)))), (0, m 193 6), (0, x1), (2, 193)])) rfl).trans (z_R_call hK rfl rfl rfl rfl rfl)
theorem tw_gf6_61  (m : z_M) (x1 : Int) (x2 : Int) : z_R 140 (m, 61, [(2, 193), (0, x1), (1, x2), (9, 0)], []) = some (m, none) :=
  have hK : kt_at 140 = kt_140 := rfl
  z_R_ret hK rfl rfl rfl
theorem tw_gf7_0  (m : z_M) (w : Int) : z_R 140 (m, 0, [(2, 193), (0, 7), (1, w), (9, 0)], []) = if m 193 4 ≤ 7 then some (z_up m 195 7 (z_ladd (m 195 7) w), none) else (z_R 141 (z_up m 195 7 (z_ladd (m 195 7) w), 0, [(2, 193), (0, 7), (0, 0), (1, z_lmul w (z_i2l (m 193 5))), (9, 0), (9, 0)], [])).bind fun qq => z_R 140 (qq.1, 42, [(2, 193), (0, 7), (1, w), (9, 0)], qq.2.toList ++ []) :=
  have hK : kt_at 140 = kt_140 := rfl
  (z_R_run hK (n := 7) (g' := (m, 15, [(2, 193), (0, 7), (1, w), (9, 0)], [(2, 195)])) rfl).trans ((z_R_run hK (n := 9) (g' := (z_up m 195 7 (z_ladd (m 195 7) w), 26, [(2, 193), (0, 7), (1, w), (9, 0)], [(0, (z_up m 195 7 (z_ladd (m 195 7) w)) 193 4), (0, 7)])) rfl).trans ((congrArg (fun vv => z_R 140 (z_up m 195 7 (z_ladd (m 195 7) w), 26, [(2, 193), (0, 7), (1, w), (9, 0)], [(0, vv), (0, 7)])) (zu_p (by decide))).trans (z_R_ifd hK (c := m 193 4 ≤ 7) (p1 := 61) (p2 := 29) rfl rfl rfl (fun h1 => z_R_ret hK rfl rfl rfl) (fun h1 => (z_R_run hK (n := 6) (g' := (z_up m 195 7 (z_ladd (m 195 7) w), 37, [(2, 193), (0, 7), (1, w), (9, 0)], [(0, (z_up m 195 7 (z_ladd (m 195 7) w)) 193 5), (1, w), (0, 0), (0, 7), (2, 193)])) rfl).trans ((congrArg (fun vv => z_R 140 (z_up m 195 7 (z_ladd (m 195 7) w), 37, [(2, 193), (0, 7), (1, w), (9, 0)], [(0, vv), (1, w), (0, 0), (0, 7), (2, 193)])) (zu_p (by decide))).trans ((z_R_run hK (n := 2) (g' := (z_up m 195 7 (z_ladd (m 195 7) w), 39, [(2, 193), (0, 7), (1, w), (9, 0)], [(1, z_lmul w (z_i2l (m 193 5))), (0, 0), (0, 7), (2, 193)])) rfl).trans (z_R_call hK rfl rfl rfl rfl rfl)))))))
theorem tw_gf7_42  (m : z_M) (x1 : Int) (x2 : Int) : z_R 140 (m, 42, [(2, 193), (0, x1), (1, x2), (9, 0)], []) = (z_R 141 (m, 0, [(2, 193), (0, x1), (0, m 193 6), (1, z_lmul x2 (z_i2l (z_sub 10 (m 193 5)))), (9, 0), (9, 0)], [])).bind fun qq => z_R 140 (qq.1, 61, [(2, 193), (0, x1), (1, x2), (9, 0)], qq.2.toList ++ []) :=
  have hK : kt_at 140 = kt_140 := rfl
  (z_R_run hK (n := 11) (g' := (m, 58, [(2, 193), (0, x1), (1, x2), (9, 0)], [(1, z_lmul x2 (z_i2l (z_sub 10 (m 193 5)))), (0, m 193 6), (0, x1), (2, 193)])) rfl).trans (z_R_call hK rfl rfl rfl rfl rfl)
theorem tw_gf7_61  (m : z_M) (x1 : Int) (x2 : Int) : z_R 140 (m, 61, [(2, 193), (0, x1), (1, x2), (9, 0)], []) = some (m, none) :=
  have hK : kt_at 140 = kt_140 := rfl
  z_R_ret hK rfl rfl rfl
theorem tw_gf8_0  (m : z_M) (w : Int) : z_R 140 (m, 0, [(2, 193), (0, 8), (1, w), (9, 0)], []) = if m 193 4 ≤ 8 then some (z_up m 195 8 (z_ladd (m 195 8) w), none) else (z_R 141 (z_up m 195 8 (z_ladd (m 195 8) w), 0, [(2, 193), (0, 8), (0, 0), (1, z_lmul w (z_i2l (m 193 5))), (9, 0), (9, 0)], [])).bind fun qq => z_R 140 (qq.1, 42, [(2, 193), (0, 8), (1, w), (9, 0)], qq.2.toList ++ []) :=
  have hK : kt_at 140 = kt_140 := rfl
  (z_R_run hK (n := 7) (g' := (m, 15, [(2, 193), (0, 8), (1, w), (9, 0)], [(2, 195)])) rfl).trans ((z_R_run hK (n := 9) (g' := (z_up m 195 8 (z_ladd (m 195 8) w), 26, [(2, 193), (0, 8), (1, w), (9, 0)], [(0, (z_up m 195 8 (z_ladd (m 195 8) w)) 193 4), (0, 8)])) rfl).trans ((congrArg (fun vv => z_R 140 (z_up m 195 8 (z_ladd (m 195 8) w), 26, [(2, 193), (0, 8), (1, w), (9, 0)], [(0, vv), (0, 8)])) (zu_p (by decide))).trans (z_R_ifd hK (c := m 193 4 ≤ 8) (p1 := 61) (p2 := 29) rfl rfl rfl (fun h1 => z_R_ret hK rfl rfl rfl) (fun h1 => (z_R_run hK (n := 6) (g' := (z_up m 195 8 (z_ladd (m 195 8) w), 37, [(2, 193), (0, 8), (1, w), (9, 0)], [(0, (z_up m 195 8 (z_ladd (m 195 8) w)) 193 5), (1, w), (0, 0), (0, 8), (2, 193)])) rfl).trans ((congrArg (fun vv => z_R 140 (z_up m 195 8 (z_ladd (m 195 8) w), 37, [(2, 193), (0, 8), (1, w), (9, 0)], [(0, vv), (1, w), (0, 0), (0, 8), (2, 193)])) (zu_p (by decide))).trans ((z_R_run hK (n := 2) (g' := (z_up m 195 8 (z_ladd (m 195 8) w), 39, [(2, 193), (0, 8), (1, w), (9, 0)], [(1, z_lmul w (z_i2l (m 193 5))), (0, 0), (0, 8), (2, 193)])) rfl).trans (z_R_call hK rfl rfl rfl rfl rfl)))))))
theorem tw_gf8_42  (m : z_M) (x1 : Int) (x2 : Int) : z_R 140 (m, 42, [(2, 193), (0, x1), (1, x2), (9, 0)], []) = (z_R 141 (m, 0, [(2, 193), (0, x1), (0, m 193 6), (1, z_lmul x2 (z_i2l (z_sub 10 (m 193 5)))), (9, 0), (9, 0)], [])).bind fun qq => z_R 140 (qq.1, 61, [(2, 193), (0, x1), (1, x2), (9, 0)], qq.2.toList ++ []) :=
  have hK : kt_at 140 = kt_140 := rfl
  (z_R_run hK (n := 11) (g' := (m, 58, [(2, 193), (0, x1), (1, x2), (9, 0)], [(1, z_lmul x2 (z_i2l (z_sub 10 (m 193 5)))), (0, m 193 6), (0, x1), (2, 193)])) rfl).trans (z_R_call hK rfl rfl rfl rfl rfl)
theorem tw_gf8_61  (m : z_M) (x1 : Int) (x2 : Int) : z_R 140 (m, 61, [(2, 193), (0, x1), (1, x2), (9, 0)], []) = some (m, none) :=
  have hK : kt_at 140 = kt_140 := rfl
  z_R_ret hK rfl rfl rfl
theorem tw_gt0_0  (m : z_M) (f : Int) (w : Int) : z_R 141 (m, 0, [(2, 193), (0, 0), (0, f), (1, w), (9, 0), (9, 0)], []) = if z_lcmp w 0 = 0 then some (m, none) else (z_R 61 (m, 0, [(2, 202), (2, 196)], [])).bind fun qq => z_R 141 (qq.1, 38, [(2, 193), (0, 0), (0, f), (1, w), (9, 0), (2, 202)], qq.2.toList ++ []) :=
  have hK : kt_at 141 = kt_141 := rfl
  (z_R_run hK (n := 3) (g' := (m, 3, [(2, 193), (0, 0), (0, f), (1, w), (9, 0), (9, 0)], [(0, z_lcmp w 0)])) rfl).trans (z_R_ifd hK (c := z_lcmp w 0 = 0) (p1 := 16) (p2 := 6) rfl rfl rfl (fun h1 => z_R_ret hK rfl rfl rfl) (fun h1 => (z_R_run hK (n := 7) (g' := (m, 21, [(2, 193), (0, 0), (0, f), (1, w), (9, 0), (9, 0)], [(2, 194)])) rfl).trans ((z_R_run hK (n := 4) (g' := (m, 25, [(2, 193), (0, 0), (0, f), (1, w), (9, 0), (9, 0)], [(2, 202)])) rfl).trans ((z_R_run hK (n := 4) (g' := (m, 33, [(2, 193), (0, 0), (0, f), (1, w), (9, 0), (2, 202)], [(2, 194), (2, 202)])) rfl).trans ((z_R_run hK (n := 2) (g' := (m, 35, [(2, 193), (0, 0), (0, f), (1, w), (9, 0), (2, 202)], [(2, 196), (2, 202)])) rfl).trans (z_R_call hK rfl rfl rfl rfl rfl))))))
theorem tw_gt0_38  (m : z_M) (x1 : Int) (x2 : Int) (x3 : Int) : z_R 141 (m, 38, [(2, 193), (0, x1), (0, x2), (1, x3), (9, 0), (2, 202)], []) = (z_R 67 (z_up m 202 8 x2, 0, [(2, 24), (2, 202), (0, 1), (9, 0)], [])).bind fun qq => z_R 141 (qq.1, 54, [(2, 193), (0, x1), (0, x2), (1, x3), (9, 0), (2, 202)], qq.2.toList ++ []) :=
  have hK : kt_at 141 = kt_141 := rfl
  (z_R_run hK (n := 5) (g' := (z_up m 202 8 x2, 48, [(2, 193), (0, x1), (0, x2), (1, x3), (9, 0), (2, 202)], [(2, 24)])) rfl).trans ((z_R_run hK (n := 2) (g' := (z_up m 202 8 x2, 51, [(2, 193), (0, x1), (0, x2), (1, x3), (9, 0), (2, 202)], [(0, 1), (2, 202), (2, 24)])) rfl).trans (z_R_call hK rfl rfl rfl rfl rfl))
theorem tw_gt0_54  (m : z_M) (x1 : Int) (x2 : Int) (x3 : Int) : z_R 141 (m, 54, [(2, 193), (0, x1), (0, x2), (1, x3), (9, 0), (2, 202)], []) = if z_and (m 24 10) (m 193 7) = 0 then (z_R 140 (m, 0, [(2, 193), (0, z_add x1 1), (1, x3), (9, 0)], [])).bind fun qq => z_R 141 (qq.1, 77, [(2, 193), (0, x1), (0, x2), (1, x3), (9, 0), (2, 202)], qq.2.toList ++ []) else some (m, none) :=
  have hK : kt_at 141 = kt_141 := rfl
  (z_R_run hK (n := 2) (g' := (m, 58, [(2, 193), (0, x1), (0, x2), (1, x3), (9, 0), (2, 202)], [(2, 24)])) rfl).trans ((z_R_run hK (n := 4) (g' := (m, 66, [(2, 193), (0, x1), (0, x2), (1, x3), (9, 0), (2, 202)], [(0, z_and (m 24 10) (m 193 7))])) rfl).trans (z_R_ifnd hK (c := z_and (m 24 10) (m 193 7) = 0) (p1 := 77) (p2 := 69) rfl rfl rfl (fun h1 => z_R_ret hK rfl rfl rfl) (fun h1 => (z_R_run hK (n := 5) (g' := (m, 74, [(2, 193), (0, x1), (0, x2), (1, x3), (9, 0), (2, 202)], [(1, x3), (0, z_add x1 1), (2, 193)])) rfl).trans (z_R_call hK rfl rfl rfl rfl rfl))))
theorem tw_gt0_77  (m : z_M) (x1 : Int) (x2 : Int) (x3 : Int) : z_R 141 (m, 77, [(2, 193), (0, x1), (0, x2), (1, x3), (9, 0), (2, 202)], []) = some (m, none) :=
  have hK : kt_at 141 = kt_141 := rfl
  z_R_ret hK rfl rfl rfl
theorem tw_gt1_0  (m : z_M) (f : Int) (w : Int) : z_R 141 (m, 0, [(2, 193), (0, 1), (0, f), (1, w), (9, 0), (9, 0)], []) = if z_lcmp w 0 = 0 then some (m, none) else (z_R 61 (m, 0, [(2, 208), (2, 202)], [])).bind fun qq => z_R 141 (qq.1, 38, [(2, 193), (0, 1), (0, f), (1, w), (9, 0), (2, 208)], qq.2.toList ++ []) :=
  have hK : kt_at 141 = kt_141 := rfl
  (z_R_run hK (n := 3) (g' := (m, 3, [(2, 193), (0, 1), (0, f), (1, w), (9, 0), (9, 0)], [(0, z_lcmp w 0)])) rfl).trans (z_R_ifd hK (c := z_lcmp w 0 = 0) (p1 := 16) (p2 := 6) rfl rfl rfl (fun h1 => z_R_ret hK rfl rfl rfl) (fun h1 => (z_R_run hK (n := 7) (g' := (m, 21, [(2, 193), (0, 1), (0, f), (1, w), (9, 0), (9, 0)], [(2, 194)])) rfl).trans ((z_R_run hK (n := 4) (g' := (m, 25, [(2, 193), (0, 1), (0, f), (1, w), (9, 0), (9, 0)], [(2, 208)])) rfl).trans ((z_R_run hK (n := 4) (g' := (m, 33, [(2, 193), (0, 1), (0, f), (1, w), (9, 0), (2, 208)], [(2, 194), (2, 208)])) rfl).trans ((z_R_run hK (n := 2) (g' := (m, 35, [(2, 193), (0, 1), (0, f), (1, w), (9, 0), (2, 208)], [(2, 202), (2, 208)])) rfl).trans (z_R_call hK rfl rfl rfl rfl rfl))))))
theorem tw_gt1_38  (m : z_M) (x1 : Int) (x2 : Int) (x3 : Int) : z_R 141 (m, 38, [(2, 193), (0, x1), (0, x2), (1, x3), (9, 0), (2, 208)], []) = (z_R 67 (z_up m 208 8 x2, 0, [(2, 24), (2, 208), (0, 1), (9, 0)], [])).bind fun qq => z_R 141 (qq.1, 54, [(2, 193), (0, x1), (0, x2), (1, x3), (9, 0), (2, 208)], qq.2.toList ++ []) :=
  have hK : kt_at 141 = kt_141 := rfl
  (z_R_run hK (n := 5) (g' := (z_up m 208 8 x2, 48, [(2, 193), (0, x1), (0, x2), (1, x3), (9, 0), (2, 208)], [(2, 24)])) rfl).trans ((z_R_run hK (n := 2) (g' := (z_up m 208 8 x2, 51, [(2, 193), (0, x1), (0, x2), (1, x3), (9, 0), (2, 208)], [(0, 1), (2, 208), (2, 24)])) rfl).trans (z_R_call hK rfl rfl rfl rfl rfl))
theorem tw_gt1_54  (m : z_M) (x1 : Int) (x2 : Int) (x3 : Int) : z_R 141 (m, 54, [(2, 193), (0, x1), (0, x2), (1, x3), (9, 0), (2, 208)], []) = if z_and (m 24 10) (m 193 7) = 0 then (z_R 140 (m, 0, [(2, 193), (0, z_add x1 1), (1, x3), (9, 0)], [])).bind fun qq => z_R 141 (qq.1, 77, [(2, 193), (0, x1), (0, x2), (1, x3), (9, 0), (2, 208)], qq.2.toList ++ []) else some (m, none) :=
  have hK : kt_at 141 = kt_141 := rfl
  (z_R_run hK (n := 2) (g' := (m, 58, [(2, 193), (0, x1), (0, x2), (1, x3), (9, 0), (2, 208)], [(2, 24)])) rfl).trans ((z_R_run hK (n := 4) (g' := (m, 66, [(2, 193), (0, x1), (0, x2), (1, x3), (9, 0), (2, 208)], [(0, z_and (m 24 10) (m 193 7))])) rfl).trans (z_R_ifnd hK (c := z_and (m 24 10) (m 193 7) = 0) (p1 := 77) (p2 := 69) rfl rfl rfl (fun h1 => z_R_ret hK rfl rfl rfl) (fun h1 => (z_R_run hK (n := 5) (g' := (m, 74, [(2, 193), (0, x1), (0, x2), (1, x3), (9, 0), (2, 208)], [(1, x3), (0, z_add x1 1), (2, 193)])) rfl).trans (z_R_call hK rfl rfl rfl rfl rfl))))
theorem tw_gt1_77  (m : z_M) (x1 : Int) (x2 : Int) (x3 : Int) : z_R 141 (m, 77, [(2, 193), (0, x1), (0, x2), (1, x3), (9, 0), (2, 208)], []) = some (m, none) :=
  have hK : kt_at 141 = kt_141 := rfl
  z_R_ret hK rfl rfl rfl
theorem tw_gt2_0  (m : z_M) (f : Int) (w : Int) : z_R 141 (m, 0, [(2, 193), (0, 2), (0, f), (1, w), (9, 0), (9, 0)], []) = if z_lcmp w 0 = 0 then some (m, none) else (z_R 61 (m, 0, [(2, 214), (2, 208)], [])).bind fun qq => z_R 141 (qq.1, 38, [(2, 193), (0, 2), (0, f), (1, w), (9, 0), (2, 214)], qq.2.toList ++ []) :=
  have hK : kt_at 141 = kt_141 := rfl
  (z_R_run hK (n := 3) (g' := (m, 3, [(2, 193), (0, 2), (0, f), (1, w), (9, 0), (9, 0)], [(0, z_lcmp w 0)])) rfl).trans (z_R_ifd hK (c := z_lcmp w 0 = 0) (p1 := 16) (p2 := 6) rfl rfl rfl (fun h1 => z_R_ret hK rfl rfl rfl) (fun h1 => (z_R_run hK (n := 7) (g' := (m, 21, [(2, 193), (0, 2), (0, f), (1, w), (9, 0), (9, 0)], [(2, 194)])) rfl).trans ((z_R_run hK (n := 4) (g' := (m, 25, [(2, 193), (0, 2), (0, f), (1, w), (9, 0), (9, 0)], [(2, 214)])) rfl).trans ((z_R_run hK (n := 4) (g' := (m, 33, [(2, 193), (0, 2), (0, f), (1, w), (9, 0), (2, 214)], [(2, 194), (2, 214)])) rfl).trans ((z_R_run hK (n := 2) (g' := (m, 35, [(2, 193), (0, 2), (0, f), (1, w), (9, 0), (2, 214)], [(2, 208), (2, 214)])) rfl).trans (z_R_call hK rfl rfl rfl rfl rfl))))))
theorem tw_gt2_38  (m : z_M) (x1 : Int) (x2 : Int) (x3 : Int) : z_R 141 (m, 38, [(2, 193), (0, x1), (0, x2), (1, x3), (9, 0), (2, 214)], []) = (z_R 67 (z_up m 214 8 x2, 0, [(2, 24), (2, 214), (0, 1), (9, 0)], [])).bind fun qq => z_R 141 (qq.1, 54, [(2, 193), (0, x1), (0, x2), (1, x3), (9, 0), (2, 214)], qq.2.toList ++ []) :=
  have hK : kt_at 141 = kt_141 := rfl
  (z_R_run hK (n := 5) (g' := (z_up m 214 8 x2, 48, [(2, 193), (0, x1), (0, x2), (1, x3), (9, 0), (2, 214)], [(2, 24)])) rfl).trans ((z_R_run hK (n := 2) (g' := (z_up m 214 8 x2, 51, [(2, 193), (0, x1), (0, x2), (1, x3), (9, 0), (2, 214)], [(0, 1), (2, 214), (2, 24)])) rfl).trans (z_R_call hK rfl rfl rfl rfl rfl))
theorem tw_gt2_54  (m : z_M) (x1 : Int) (x2 : Int) (x3 : Int) : z_R 141 (m, 54, [(2, 193), (0, x1), (0, x2), (1, x3), (9, 0), (2, 214)], []) = if z_and (m 24 10) (m 193 7) = 0 then (z_R 140 (m, 0, [(2, 193), (0, z_add x1 1), (1, x3), (9, 0)], [])).bind fun qq => z_R 141 (qq.1, 77, [(2, 193), (0, x1), (0, x2), (1, x3), (9, 0), (2, 214)], qq.2.toList ++ []) else some (m, none) :=
  have hK : kt_at 141 = kt_141 := rfl
  (z_R_run hK (n := 2) (g' := (m, 58, [(2, 193), (0, x1), (0, x2), (1, x3), (9, 0), (2, 214)], [(2, 24)])) rfl).trans ((z_R_run hK (n := 4) (g' := (m, 66, [(2, 193), (0, x1), (0, x2), (1, x3), (9, 0), (2, 214)], [(0, z_and (m 24 10) (m 193 7))])) rfl).trans (z_R_ifnd hK (c := z_and (m 24 10) (m 193 7) = 0) (p1 := 77) (p2 := 69) rfl rfl rfl (fun h1 => z_R_ret hK rfl rfl rfl) (fun h1 => (z_R_run hK (n := 5) (g' := (m, 74, [(2, 193), (0, x1), (0, x2), (1, x3), (9, 0), (2, 214)], [(1, x3), (0, z_add x1 1), (2, 193)])) rfl).trans (z_R_call hK rfl rfl rfl rfl rfl))))
theorem tw_gt2_77  (m : z_M) (x1 : Int) (x2 : Int) (x3 : Int) : z_R 141 (m, 77, [(2, 193), (0, x1), (0, x2), (1, x3), (9, 0), (2, 214)], []) = some (m, none) :=
  have hK : kt_at 141 = kt_141 := rfl
  z_R_ret hK rfl rfl rfl
theorem tw_gt3_0  (m : z_M) (f : Int) (w : Int) : z_R 141 (m, 0, [(2, 193), (0, 3), (0, f), (1, w), (9, 0), (9, 0)], []) = if z_lcmp w 0 = 0 then some (m, none) else (z_R 61 (m, 0, [(2, 220), (2, 214)], [])).bind fun qq => z_R 141 (qq.1, 38, [(2, 193), (0, 3), (0, f), (1, w), (9, 0), (2, 220)], qq.2.toList ++ []) :=
  have hK : kt_at 141 = kt_141 := rfl
  (z_R_run hK (n := 3) (g' := (m, 3, [(2, 193), (0, 3), (0, f), (1, w), (9, 0), (9, 0)], [(0, z_lcmp w 0)])) rfl).trans (z_R_ifd hK (c := z_lcmp w 0 = 0) (p1 := 16) (p2 := 6) rfl rfl rfl (fun h1 => z_R_ret hK rfl rfl rfl) (fun h1 => (z_R_run hK (n := 7) (g' := (m, 21, [(2, 193), (0, 3), (0, f), (1, w), (9, 0), (9, 0)], [(2, 194)])) rfl).trans ((z_R_run hK (n := 4) (g' := (m, 25, [(2, 193), (0, 3), (0, f), (1, w), (9, 0), (9, 0)], [(2, 220)])) rfl).trans ((z_R_run hK (n := 4) (g' := (m, 33, [(2, 193), (0, 3), (0, f), (1, w), (9, 0), (2, 220)], [(2, 194), (2, 220)])) rfl).trans ((z_R_run hK (n := 2) (g' := (m, 35, [(2, 193), (0, 3), (0, f), (1, w), (9, 0), (2, 220)], [(2, 214), (2, 220)])) rfl).trans (z_R_call hK rfl rfl rfl rfl rfl))))))
theorem tw_gt3_38  (m : z_M) (x1 : Int) (x2 : Int) (x3 : Int) : z_R 141 (m, 38, [(2, 193), (0, x1), (0, x2), (1, x3), (9, 0), (2, 220)], []) = (z_R 67 (z_up m 220 8 x2, 0, [(2, 24), (2, 220), (0, 1), (9, 0)], [])).bind fun qq => z_R 141 (qq.1, 54, [(2, 193), (0, x1), (0, x2), (1, x3), (9, 0), (2, 220)], qq.2.toList ++ []) :=
  have hK : kt_at 141 = kt_141 := rfl
  (z_R_run hK (n := 5) (g' := (z_up m 220 8 x2, 48, [(2, 193), (0, x1), (0, x2), (1, x3), (9, 0), (2, 220)], [(2, 24)])) rfl).trans ((z_R_run hK (n := 2) (g' := (z_up m 220 8 x2, 51, [(2, 193), (0, x1), (0, x2), (1, x3), (9, 0), (2, 220)], [(0, 1), (2, 220), (2, 24)])) rfl).trans (z_R_call hK rfl rfl rfl rfl rfl))
theorem tw_gt3_54  (m : z_M) (x1 : Int) (x2 : Int) (x3 : Int) : z_R 141 (m, 54, [(2, 193), (0, x1), (0, x2), (1, x3), (9, 0), (2, 220)], []) = if z_and (m 24 10) (m 193 7) = 0 then (z_R 140 (m, 0, [(2, 193), (0, z_add x1 1), (1, x3), (9, 0)], [])).bind fun qq => z_R 141 (qq.1, 77, [(2, 193), (0, x1), (0, x2), (1, x3), (9, 0), (2, 220)], qq.2.toList ++ []) else some (m, none) :=
  have hK : kt_at 141 = kt_141 := rfl
  (z_R_run hK (n := 2) (g' := (m, 58, [(2, 193), (0, x1), (0, x2), (1, x3), (9, 0), (2, 220)], [(2, 24)])) rfl).trans ((z_R_run hK (n := 4) (g' := (m, 66, [(2, 193), (0, x1), (0, x2), (1, x3), (9, 0), (2, 220)], [(0, z_and (m 24 10) (m 193 7))])) rfl).trans (z_R_ifnd hK (c := z_and (m 24 10) (m 193 7) = 0) (p1 := 77) (p2 := 69) rfl rfl rfl (fun h1 => z_R_ret hK rfl rfl rfl) (fun h1 => (z_R_run hK (n := 5) (g' := (m, 74, [(2, 193), (0, x1), (0, x2), (1, x3), (9, 0), (2, 220)], [(1, x3), (0, z_add x1 1), (2, 193)])) rfl).trans (z_R_call hK rfl rfl rfl rfl rfl))))
theorem tw_gt3_77  (m : z_M) (x1 : Int) (x2 : Int) (x3 : Int) : z_R 141 (m, 77, [(2, 193), (0, x1), (0, x2), (1, x3), (9, 0), (2, 220)], []) = some (m, none) :=
  have hK : kt_at 141 = kt_141 := rfl
  z_R_ret hK rfl rfl rfl
theorem tw_gt4_0  (m : z_M) (f : Int) (w : Int) : z_R 141 (m, 0, [(2, 193), (0, 4), (0, f), (1, w), (9, 0), (9, 0)], []) = if z_lcmp w 0 = 0 then some (m, none) else (z_R 61 (m, 0, [(2, 226), (2, 220)], [])).bind fun qq => z_R 141 (qq.1, 38, [(2, 193), (0, 4), (0, f), (1, w), (9, 0), (2, 226)], qq.2.toList ++ []) :=
  have hK : kt_at 141 = kt_141 := rfl
  (z_R_run hK (n := 3) (g' := (m, 3, [(2, 193), (0, 4), (0, f), (1, w), (9, 0), (9, 0)], [(0, z_lcmp w 0)])) rfl).trans (z_R_ifd hK (c := z_lcmp w 0 = 0) (p1 := 16) (p2 := 6) rfl rfl rfl (fun h1 => z_R_ret hK rfl rfl rfl) (fun h1 => (z_R_run hK (n := 7) (g' := (m, 21, [(2, 193), (0, 4), (0, f), (1, w), (9, 0), (9, 0)], [(2, 194)])) rfl).trans ((z_R_run hK (n := 4) (g' := (m, 25, [(2, 193), (0, 4), (0, f), (1, w), (9, 0), (9, 0)], [(2, 226)])) rfl).trans ((z_R_run hK (n := 4) (g' := (m, 33, [(2, 193), (0, 4), (0, f), (1, w), (9, 0), (2, 226)], [(2, 194), (2, 226)])) rfl).trans ((z_R_run hK (n := 2) (g' := (m, 35, [(2, 193), (0, 4), (0, f), (1, w), (9, 0), (2, 226)], [(2, 220), (2, 226)])) rfl).trans (z_R_call hK rfl rfl rfl rfl rfl))))))
theorem tw_gt4_38  (m : z_M) (x1 : Int) (x2 : Int) (x3 : Int) : z_R 141 (m, 38, [(2, 193), (0, x1), (0, x2), (1, x3), (9, 0), (2, 226)], []) = (z_R 67 (z_up m 226 8 x2, 0, [(2, 24), (2, 226), (0, 1), (9, 0)], [])).bind fun qq => z_R 141 (qq.1, 54, [(2, 193), (0, x1), (0, x2), (1, x3), (9, 0), (2, 226)], qq.2.toList ++ []) :=
  have hK : kt_at 141 = kt_141 := rfl
  (z_R_run hK (n := 5) (g' := (z_up m 226 8 x2, 48, [(2, 193), (0, x1), (0, x2), (1, x3), (9, 0), (2, 226)], [(2, 24)])) rfl).trans ((z_R_run hK (n := 2) (g' := (z_up m 226 8 x2, 51, [(2, 193), (0, x1), (0, x2), (1, x3), (9, 0), (2, 226)], [(0, 1), (2, 226), (2, 24)])) rfl).trans (z_R_call hK rfl rfl rfl rfl rfl))
theorem tw_gt4_54  (m : z_M) (x1 : Int) (x2 : Int) (x3 : Int) : z_R 141 (m, 54, [(2, 193), (0, x1), (0, x2), (1, x3), (9, 0), (2, 226)], []) = if z_and (m 24 10) (m 193 7) = 0 then (z_R 140 (m, 0, [(2, 193), (0, z_add x1 1), (1, x3), (9, 0)], [])).bind fun qq => z_R 141 (qq.1, 77, [(2, 193), (0, x1), (0, x2), (1, x3), (9, 0), (2, 226)], qq.2.toList ++ []) else some (m, none) :=
  have hK : kt_at 141 = kt_141 := rfl
  (z_R_run hK (n := 2) (g' := (m, 58, [(2, 193), (0, x1), (0, x2), (1, x3), (9, 0), (2, 226)], [(2, 24)])) rfl).trans ((z_R_run hK (n := 4) (g' := (m, 66, [(2, 193), (0, x1), (0, x2), (1, x3), (9, 0), (2, 226)], [(0, z_and (m 24 10) (m 193 7))])) rfl).trans (z_R_ifnd hK (c := z_and (m 24 10) (m 193 7) = 0) (p1 := 77) (p2 := 69) rfl rfl rfl (fun h1 => z_R_ret hK rfl rfl rfl) (fun h1 => (z_R_run hK (n := 5) (g' := (m, 74, [(2, 193), (0, x1), (0, x2), (1, x3), (9, 0), (2, 226)], [(1, x3), (0, z_add x1 1), (2, 193)])) rfl).trans (z_R_call hK rfl rfl rfl rfl rfl))))
theorem tw_gt4_77  (m : z_M) (x1 : Int) (x2 : Int) (x3 : Int) : z_R 141 (m, 77, [(2, 193), (0, x1), (0, x2), (1, x3), (9, 0), (2, 226)], []) = some (m, none) :=
  have hK : kt_at 141 = kt_141 := rfl
  z_R_ret hK rfl rfl rfl
theorem tw_gt5_0  (m : z_M) (f : Int) (w : Int) : z_R 141 (m, 0, [(2, 193), (0, 5), (0, f), (1, w), (9, 0), (9, 0)], []) = if z_lcmp w 0 = 0 then some (m, none) else (z_R 61 (m, 0, [(2, 232), (2, 226)], [])).bind fun qq => z_R 141 (qq.1, 38, [(2, 193), (0, 5), (0, f), (1, w), (9, 0), (2, 232)], qq.2.toList ++ []) :=
  have hK : kt_at 141 = kt_141 := rfl
  (z_R_run hK (n := 3) (g' := (m, 3, [(2, 193), (0, 5), (0, f), (1, w), (9, 0), (9, 0)], [(0, z_lcmp w 0)])) rfl).trans (z_R_ifd hK (c := z_lcmp w 0 = 0) (p1 := 16) (p2 := 6) rfl rfl rfl (fun h1 => z_R_ret hK rfl rfl rfl) (fun h1 => (z_R_run hK (n := 7) (g' := (m, 21, [(2, 193), (0, 5), (0, f), (1, w), (9, 0), (9, 0)], [(2, 194)])) rfl).trans ((z_R_run hK (n := 4) (g' := (m, 25, [(2, 193), (0, 5), (0, f), (1, w), (9, 0), (9, 0)], [(2, 232)])) rfl).trans ((z_R_run hK (n := 4) (g' := (m, 33, [(2, 193), (0, 5), (0, f), (1, w), (9, 0), (2, 232)], [(2, 194), (2, 232)])) rfl).trans ((z_R_run hK (n := 2) (g' := (m, 35, [(2, 193), (0, 5), (0, f), (1, w), (9, 0), (2, 232)], [(2, 226), (2, 232)])) rfl).trans (z_R_call hK rfl rfl rfl rfl rfl))))))
theorem tw_gt5_38  (m : z_M) (x1 : Int) (x2 : Int) (x3 : Int) : z_R 141 (m, 38, [(2, 193), (0, x1), (0, x2), (1, x3), (9, 0), (2, 232)], []) = (z_R 67 (z_up m 232 8 x2, 0, [(2, 24), (2, 232), (0, 1), (9, 0)], [])).bind fun qq => z_R 141 (qq.1, 54, [(2, 193), (0, x1), (0, x2), (1, x3), (9, 0), (2, 232)], qq.2.toList ++ []) :=
  have hK : kt_at 141 = kt_141 := rfl
  (z_R_run hK (n := 5) (g' := (z_up m 232 8 x2, 48, [(2, 193), (0, x1), (0, x2), (1, x3), (9, 0), (2, 232)], [(2, 24)])) rfl).trans ((z_R_run hK (n := 2) (g' := (z_up m 232 8 x2, 51, [(2, 193), (0, x1), (0, x2), (1, x3), (9, 0), (2, 232)], [(0, 1), (2, 232), (2, 24)])) rfl).trans (z_R_call hK rfl rfl rfl rfl rfl))
theorem tw_gt5_54  (m : z_M) (x1 : Int) (x2 : Int) (x3 : Int) : z_R 141 (m, 54, [(2, 193), (0, x1), (0, x2), (1, x3), (9, 0), (2, 232)], []) = if z_and (m 24 10) (m 193 7) = 0 then (z_R 140 (m, 0, [(2, 193), (0, z_add x1 1), (1, x3), (9, 0)], [])).bind fun qq => z_R 141 (qq.1, 77, [(2, 193), (0, x1), (0, x2), (1, x3), (9, 0), (2, 232)], qq.2.toList ++ []) else some (m, none) :=
  have hK : kt_at 141 = kt_141 := rfl
  (z_R_run hK (n := 2) (g' := (m, 58, [(2, 193), (0, x1), (0, x2), (1, x3), (9, 0), (2, 232)], [(2, 24)])) rfl).trans ((z_R_run hK (n := 4) (g' := (m, 66, [(2, 193), (0, x1), (0, x2), (1, x3), (9, 0), (2, 232)], [(0, z_and (m 24 10) (m 193 7))])) rfl).trans (z_R_ifnd hK (c := z_and (m 24 10) (m 193 7) = 0) (p1 := 77) (p2 := 69) rfl rfl rfl (fun h1 => z_R_ret hK rfl rfl rfl) (fun h1 => (z_R_run hK (n := 5) (g' := (m, 74, [(2, 193), (0, x1), (0, x2), (1, x3), (9, 0), (2, 232)], [(1, x3), (0, z_add x1 1), (2, 193)])) rfl).trans (z_R_call hK rfl rfl rfl rfl rfl))))
theorem tw_gt5_77  (m : z_M) (x1 : Int) (x2 : Int) (x3 : Int) : z_R 141 (m, 77, [(2, 193), (0, x1), (0, x2), (1, x3), (9, 0), (2, 232)], []) = some (m, none) :=
  have hK : kt_at 141 = kt_141 := rfl
  z_R_ret hK rfl rfl rfl
theorem tw_gt6_0  (m : z_M) (f : Int) (w : Int) : z_R 141 (m, 0, [(2, 193), (0, 6), (0, f), (1, w), (9, 0), (9, 0)], []) = if z_lcmp w 0 = 0 then some (m, none) else (z_R 61 (m, 0, [(2, 238), (2, 232)], [])).bind fun qq => z_R 141 (qq.1, 38, [(2, 193), (0, 6), (0, f), (1, w), (9, 0), (2, 238)], qq.2.toList ++ []) :=
  have hK : kt_at 141 = kt_141 := rfl
  (z_R_run hK (n := 3) (g' := (m, 3, [(2, 193), (0, 6), (0, f), (1, w), (9, 0), (9, 0)], [(0, z_lcmp w 0)])) rfl).trans (z_R_ifd hK (c := z_lcmp w 0 = 0) (p1 := 16) (p2 := 6) rfl rfl rfl (fun h1 => z_R_ret hK rfl rfl rfl) (fun h1 => (z_R_run hK (n := 7) (g' := (m, 21, [(2, 193), (0, 6), (0, f), (1, w), (9, 0), (9, 0)], [(2, 194)])) rfl).trans ((z_R_run hK (n := 4) (g' := (m, 25, [(2, 193), (0, 6), (0, f), (1, w), (9, 0), (9, 0)], [(2, 238)])) rfl).trans ((z_R_run hK (n := 4) (g' := (m, 33, [(2, 193), (0, 6), (0, f), (1, w), (9, 0), (2, 238)], [(2, 194), (2, 238)])) rfl).trans ((z_R_run hK (n := 2) (g' := (m, 35, [(2, 193), (0, 6), (0, f), (1, w), (9, 0), (2, 238)], [(2, 232), (2, 238)])) rfl).trans (z_R_call hK rfl rfl rfl rfl rfl))))))
theorem tw_gt6_38  (m : z_M) (x1 : Int) (x2 : Int) (x3 : Int) : z_R 141 (m, 38, [(2, 193), (0, x1), (0, x2), (1, x3), (9, 0), (2, 238)], []) = (z_R 67 (z_up m 238 8 x2, 0, [(2, 24), (2, 238), (0, 1), (9, 0)], [])).bind fun qq => z_R 141 (qq.1, 54, [(2, 193), (0, x1), (0, x2), (1, x3), (9, 0), (2, 238)], qq.2.toList ++ []) :=
  have hK : kt_at 141 = kt_141 := rfl
  (z_R_run hK (n := 5) (g' := (z_up m 238 8 x2, 48, [(2, 193), (0, x1), (0, x2), (1, x3), (9, 0), (2, 238)], [(2, 24)])) rfl).trans ((z_R_run hK (n := 2) (g' := (z_up m 238 8 x2, 51, [(2, 193), (0, x1), (0, x2), (1, x3), (9, 0), (2, 238)], [(0, 1), (2, 238), (2, 24)])) rfl).trans (z_R_call hK rfl rfl rfl rfl rfl))
theorem tw_gt6_54  (m : z_M) (x1 : Int) (x2 : Int) (x3 : Int) : z_R 141 (m, 54, [(2, 193), (0, x1), (0, x2), (1, x3), (9, 0), (2, 238)], []) = if z_and (m 24 10) (m 193 7) = 0 then (z_R 140 (m, 0, [(2, 193), (0, z_add x1 1), (1, x3), (9, 0)], [])).bind fun qq => z_R 141 (qq.1, 77, [(2, 193), (0, x1), (0, x2), (1, x3), (9, 0), (2, 238)], qq.2.toList ++ []) else some (m, none) :=
  have hK : kt_at 141 = kt_141 := rfl
  (z_R_run hK (n := 2) (g' := (m, 58, [(2, 193), (0, x1), (0, x2), (1, x3), (9, 0), (2, 238)], [(2, 24)])) rfl).trans ((z_R_run hK (n := 4) (g' := (m, 66, [(2, 193), (0, x1), (0, x2), (1, x3), (9, 0), (2, 238)], [(0, z_and (m 24 10) (m 193 7))])) rfl).trans (z_R_ifnd hK (c := z_and (m 24 10) (m 193 7) = 0) (p1 := 77) (p2 := 69) rfl rfl rfl (fun h1 => z_R_ret hK rfl rfl rfl) (fun h1 => (z_R_run hK (n := 5) (g' := (m, 74, [(2, 193), (0, x1), (0, x2), (1, x3), (9, 0), (2, 238)], [(1, x3), (0, z_add x1 1), (2, 193)])) rfl).trans (z_R_call hK rfl rfl rfl rfl rfl))))
theorem tw_gt6_77  (m : z_M) (x1 : Int) (x2 : Int) (x3 : Int) : z_R 141 (m, 77, [(2, 193), (0, x1), (0, x2), (1, x3), (9, 0), (2, 238)], []) = some (m, none) :=
  have hK : kt_at 141 = kt_141 := rfl
  z_R_ret hK rfl rfl rfl
theorem tw_gt7_0  (m : z_M) (f : Int) (w : Int) : z_R 141 (m, 0, [(2, 193), (0, 7), (0, f), (1, w), (9, 0), (9, 0)], []) = if z_lcmp w 0 = 0 then some (m, none) else (z_R 61 (m, 0, [(2, 244), (2, 238)], [])).bind fun qq => z_R 141 (qq.1, 38, [(2, 193), (0, 7), (0, f), (1, w), (9, 0), (2, 244)], qq.2.toList ++ []) :=
  have hK : kt_at 141 = kt_141 := rfl
  (z_R_run hK (n := 3) (g' := (m, 3, [(2, 193), (0, 7), (0, f), (1, w), (9, 0), (9, 0)], [(0, z_lcmp w 0)])) rfl).trans (z_R_ifd hK (c := z_lcmp w 0 = 0) (p1 := 16) (p2 := 6) rfl rfl rfl (fun h1 => z_R_ret hK rfl rfl rfl) (fun h1 => (z_R_run hK (n := 7) (g' := (m, 21, [(2, 193), (0, 7), (0, f), (1, w), (9, 0), (9, 0)], [(2, 194)])) rfl).trans ((z_R_run hK (n := 4) (g' := (m, 25, [(2, 193), (0, 7), (0, f), (1, w), (9, 0), (9, 0)], [(2, 244)])) rfl).trans ((z_R_run hK (n := 4) (g' := (m, 33, [(2, 193), (0, 7), (0, f), (1, w), (9, 0), (2, 244)], [(2, 194), (2, 244)])) rfl).trans ((z_R_run hK (n := 2) (g' := (m, 35, [(2, 193), (0, 7), (0, f), (1, w), (9, 0), (2, 244)], [(2, 238), (2, 244)])) rfl).trans (z_R_call hK rfl rfl rfl rfl rfl))))))
theorem tw_gt7_38  (m : z_M) (x1 : Int) (x2 : Int) (x3 : Int) : z_R 141 (m, 38, [(2, 193), (0, x1), (0, x2), (1, x3), (9, 0), (2, 244)], []) = (z_R 67 (z_up m 244 8 x2, 0, [(2, 24), (2, 244), (0, 1), (9, 0)], [])).bind fun qq => z_R 141 (qq.1, 54, [(2, 193), (0, x1), (0, x2), (1, x3), (9, 0), (2, 244)], qq.2.toList ++ []) :=
  have hK : kt_at 141 = kt_141 := rfl
  (z_R_run hK (n := 5) (g' := (z_up m 244 8 x2, 48, [(2, 193), (0, x1), (0, x2), (1, x3), (9, 0), (2, 244)], [(2, 24)])) rfl).trans ((z_R_run hK (n := 2) (g' := (z_up m 244 8 x2, 51, [(2, 193), (0, x1), (0, x2), (1, x3), (9, 0), (2, 244)], [(0, 1), (2, 244), (2, 24)])) rfl).trans (z_R_call hK rfl rfl rfl rfl rfl))
theorem tw_gt7_54  (m : z_M) (x1 : Int) (x2 : Int) (x3 : Int) : z_R 141 (m, 54, [(2, 193), (0, x1), (0, x2), (1, x3), (9, 0), (2, 244)], []) = if z_and (m 24 10) (m 193 7) = 0 then (z_R 140 (m, 0, [(2, 193), (0, z_add x1 1), (1, x3), (9, 0)], [])).bind fun qq => z_R 141 (qq.1, 77, [(2, 193), (0, x1), (0, x2), (1, x3), (9, 0), (2, 244)], qq.2.toList ++ []) else some (m, none) :=
  have hK : kt_at 141 = kt_141 := rfl
  (z_R_run hK (n := 2) (g' := (m, 58, [(2, 193), (0, x1), (0, x2), (1, x3), (9, 0), (2, 244)], [(2, 24)])) rfl).trans ((z_R_run hK (n := 4) (g' := (m, 66, [(2, 193), (0, x1), (0, x2), (1, x3), (9, 0), (2, 244)], [(0, z_and (m 24 10) (m 193 7))])) rfl).trans (z_R_ifnd hK (c := z_and (m 24 10) (m 193 7) = 0) (p1 := 77) (p2 := 69) rfl rfl rfl (fun h1 => z_R_ret hK rfl rfl rfl) (fun h1 => (z_R_run hK (n := 5) (g' := (m, 74, [(2, 193), (0, x1), (0, x2), (1, x3), (9, 0), (2, 244)], [(1, x3), (0, z_add x1 1), (2, 193)])) rfl).trans (z_R_call hK rfl rfl rfl rfl rfl))))
theorem tw_gt7_77  (m : z_M) (x1 : Int) (x2 : Int) (x3 : Int) : z_R 141 (m, 77, [(2, 193), (0, x1), (0, x2), (1, x3), (9, 0), (2, 244)], []) = some (m, none) :=
  have hK : kt_at 141 = kt_141 := rfl
  z_R_ret hK rfl rfl rfl
theorem tw_lea_0  (m : z_M) (p : Int) (v : Int) : z_R 143 (m, 0, [(2, 0), (0, p), (0, v), (9, 0)], []) = if p < 0 then some (m, some (0, (-1))) else if 10 < p then some (m, some (0, (-1))) else if v < 0 then some (m, some (0, (-1))) else if v ≤ 100 then (z_R 139 (m, 0, [(2, 193), (2, 12), (0, 8), (0, p), (9, 0)], [])).bind fun qq => z_R 143 (qq.1, 36, [(2, 0), (0, p), (0, v), (9, 0)], qq.2.toList ++ []) else some (m, some (0, (-1))) :=
  have hK : kt_at 143 = kt_143 := rfl
  (z_R_run hK (n := 1) (g' := (m, 1, [(2, 0), (0, p), (0, v), (9, 0)], [(0, p)])) rfl).trans (z_R_ifd hK (c := p < 0) (p1 := 20) (p2 := 4) rfl rfl rfl (fun h1 => (z_R_run hK (n := 1) (g' := (m, 21, [(2, 0), (0, p), (0, v), (9, 0)], [(0, (-1))])) rfl).trans (z_R_ret hK rfl rfl rfl)) (fun h1 => (z_R_run hK (n := 2) (g' := (m, 7, [(2, 0), (0, p), (0, v), (9, 0)], [(0, 10), (0, p)])) rfl).trans (z_R_ifd hK (c := 10 < p) (p1 := 20) (p2 := 10) rfl rfl rfl (fun h2 => (z_R_run hK (n := 1) (g' := (m, 21, [(2, 0), (0, p), (0, v), (9, 0)], [(0, (-1))])) rfl).trans (z_R_ret hK rfl rfl rfl)) (fun h2 => (z_R_run hK (n := 1) (g' := (m, 11, [(2, 0), (0, p), (0, v), (9, 0)], [(0, v)])) rfl).trans (z_R_ifd hK (c := v < 0) (p1 := 20) (p2 := 14) rfl rfl rfl (fun h3 => (z_R_run hK (n := 1) (g' := (m, 21, [(2, 0), (0, p), (0, v), (9, 0)], [(0, (-1))])) rfl).trans (z_R_ret hK rfl rfl rfl)) (fun h3 => (z_R_run hK (n := 2) (g' := (m, 17, [(2, 0), (0, p), (0, v), (9, 0)], [(0, 100), (0, v)])) rfl).trans (z_R_ifd hK (c := v ≤ 100) (p1 := 22) (p2 := 20) rfl rfl rfl (fun h4 => (z_R_run hK (n := 2) (g' := (m, 26, [(2, 0), (0, p), (0, v), (9, 0)], [(2, 193)])) rfl).trans ((z_R_run hK (n := 2) (g' := (m, 30, [(2, 0), (0, p), (0, v), (9, 0)], [(2, 12), (2, 193)])) rfl).trans ((z_R_run hK (n := 2) (g' := (m, 33, [(2, 0), (0, p), (0, v), (9, 0)], [(0, p), (0, 8), (2, 12), (2, 193)])) rfl).trans (z_R_call hK rfl rfl rfl rfl rfl)))) (fun h4 => (z_R_run hK (n := 1) (g' := (m, 21, [(2, 0), (0, p), (0, v), (9, 0)], [(0, (-1))])) rfl).trans (z_R_ret hK rfl rfl rfl)))))))))
theorem tw_lea_36  (m : z_M) (x1 : Int) (x2 : Int) : z_R 143 (m, 36, [(2, 0), (0, x1), (0, x2), (9, 0)], []) = z_R 143 (m, 38, [(2, 0), (0, x1), (0, x2), (0, 0)], []) :=
  have hK : kt_at 143 = kt_143 := rfl
  (z_R_run hK (n := 2) (g' := (m, 38, [(2, 0), (0, x1), (0, x2), (0, 0)], [])) rfl).trans (rfl)
theorem tw_lea_38  (m : z_M) (x1 : Int) (x2 : Int) (x3 : Int) : z_R 143 (m, 38, [(2, 0), (0, x1), (0, x2), (0, x3)], []) = if 8 ≤ x3 then some (m, some (0, x3)) else if 0 ≤ z_add x3 1 ∧ z_add x3 1 < 9 then (z_R 142 (m, 0, [(0, z_add x3 1), (9, 0), (9, 0), (9, 0)], [])).bind fun qq => z_R 143 (qq.1, 67, [(2, 0), (0, x1), (0, x2), (0, x3)], qq.2.toList ++ [(1, z_i2l x2), (1, z_lmul (m 195 (z_add x3 1).toNat) 100)]) else none :=
  have hK : kt_at 143 = kt_143 := rfl
  (z_R_run hK (n := 2) (g' := (m, 41, [(2, 0), (0, x1), (0, x2), (0, x3)], [(0, 8), (0, x3)])) rfl).trans (z_R_ifd hK (c := 8 ≤ x3) (p1 := 78) (p2 := 44) rfl rfl rfl (fun h1 => (z_R_run hK (n := 1) (g' := (m, 79, [(2, 0), (0, x1), (0, x2), (0, x3)], [(0, x3)])) rfl).trans (z_R_ret hK rfl rfl rfl)) (fun h1 => (z_R_run hK (n := 2) (g' := (m, 48, [(2, 0), (0, x1), (0, x2), (0, x3)], [(2, 193)])) rfl).trans ((z_R_run hK (n := 1) (g' := (m, 51, [(2, 0), (0, x1), (0, x2), (0, x3)], [(2, 195)])) rfl).trans ((z_R_run hK (n := 3) (g' := (m, 54, [(2, 0), (0, x1), (0, x2), (0, x3)], [(0, z_add x3 1), (2, 195)])) rfl).trans (z_R_ixD hK (n := 9) (g' := (m, 55, [(2, 0), (0, x1), (0, x2), (0, x3)], [(1, m 195 (z_add x3 1).toNat)])) rfl rfl rfl  (fun h2 => (z_R_run hK (n := 7) (g' := (m, 64, [(2, 0), (0, x1), (0, x2), (0, x3)], [(0, z_add x3 1), (1, z_i2l x2), (1, z_lmul (m 195 (z_add x3 1).toNat) 100)])) rfl).trans (z_R_call hK rfl rfl rfl rfl rfl)))))))
theorem tw_lea_67  (m : z_M) (x1 : Int) (x2 : Int) (x3 : Int) (s0 : Int) (s1 : Int) (u : Int) : z_R 143 (m, 67, [(2, 0), (0, x1), (0, x2), (0, x3)], [(1, u), (1, s0), (1, s1)]) = if z_lcmp s1 (z_lmul s0 u) < 0 then some (m, some (0, x3)) else z_R 143 (m, 38, [(2, 0), (0, x1), (0, x2), (0, z_add x3 1)], []) :=
  have hK : kt_at 143 = kt_143 := rfl
  (z_R_run hK (n := 2) (g' := (m, 69, [(2, 0), (0, x1), (0, x2), (0, x3)], [(0, z_lcmp s1 (z_lmul s0 u))])) rfl).trans (z_R_ifd hK (c := z_lcmp s1 (z_lmul s0 u) < 0) (p1 := 78) (p2 := 72) rfl rfl rfl (fun h1 => (z_R_run hK (n := 1) (g' := (m, 79, [(2, 0), (0, x1), (0, x2), (0, x3)], [(0, x3)])) rfl).trans (z_R_ret hK rfl rfl rfl)) (fun h1 => (z_R_run hK (n := 2) (g' := (m, 38, [(2, 0), (0, x1), (0, x2), (0, z_add x3 1)], [])) rfl).trans (rfl)))
theorem tw_tle_0  (m : z_M) (p : Int) (v : Int) : z_R 256 (m, 0, [(2, 251), (0, p), (0, v), (9, 0)], []) = if 0 ≤ p ∧ p ≤ 10 then if 0 ≤ v ∧ v ≤ 100 then z_R 256 (z_up m 251 11 0, 29, [(2, 251), (0, p), (0, v), (0, 0)], []) else some (z_up m 251 11 0, some (0, (-1))) else some (z_up m 251 11 0, some (0, (-1))) :=
  have hK : kt_at 256 = kt_256 := rfl
  (z_R_run hK (n := 6) (g' := (z_up m 251 11 0, 9, [(2, 251), (0, p), (0, v), (9, 0)], [(0, 10), (0, 0), (0, p)])) rfl).trans (z_R_cif hK rfl rfl rfl rfl rfl (t_ifin _ _ _ _) (fun h1 => (z_R_run hK (n := 4) (g' := (z_up m 251 11 0, 19, [(2, 251), (0, p), (0, v), (9, 0)], [(0, 100), (0, 0), (0, v)])) rfl).trans (z_R_cif hK rfl rfl rfl rfl rfl (t_ifin _ _ _ _) (fun h2 => (z_R_run hK (n := 3) (g' := (z_up m 251 11 0, 29, [(2, 251), (0, p), (0, v), (0, 0)], [])) rfl).trans (rfl)) (fun h2 => (z_R_run hK (n := 2) (g' := (z_up m 251 11 0, 26, [(2, 251), (0, p), (0, v), (9, 0)], [(0, (-1))])) rfl).trans (z_R_ret hK rfl rfl rfl)))) (fun h1 => (z_R_run hK (n := 2) (g' := (z_up m 251 11 0, 26, [(2, 251), (0, p), (0, v), (9, 0)], [(0, (-1))])) rfl).trans (z_R_ret hK rfl rfl rfl)))
theorem tw_tle_29  (m : z_M) (x1 : Int) (x2 : Int) (x3 : Int) : z_R 256 (m, 29, [(2, 251), (0, x1), (0, x2), (0, x3)], []) = if 8 ≤ x3 then some (m, some (0, x3)) else (z_R 254 (m, 0, [(2, 251), (0, z_add x3 1), (0, x1), (9, 0), (9, 0), (9, 0), (9, 0), (9, 0), (9, 0)], [])).bind fun qq => z_R 256 (qq.1, 43, [(2, 251), (0, x1), (0, x2), (0, x3)], qq.2.toList ++ []) :=
  have hK : kt_at 256 = kt_256 := rfl
  (z_R_run hK (n := 2) (g' := (m, 32, [(2, 251), (0, x1), (0, x2), (0, x3)], [(0, 8), (0, x3)])) rfl).trans (z_R_ifd hK (c := 8 ≤ x3) (p1 := 69) (p2 := 35) rfl rfl rfl (fun h1 => (z_R_run hK (n := 1) (g' := (m, 70, [(2, 251), (0, x1), (0, x2), (0, x3)], [(0, x3)])) rfl).trans (z_R_ret hK rfl rfl rfl)) (fun h1 => (z_R_run hK (n := 5) (g' := (m, 40, [(2, 251), (0, x1), (0, x2), (0, x3)], [(0, x1), (0, z_add x3 1), (2, 251)])) rfl).trans (z_R_call hK rfl rfl rfl rfl rfl)))
theorem tw_tle_43  (m : z_M) (x1 : Int) (x2 : Int) (x3 : Int) (u : Int) : z_R 256 (m, 43, [(2, 251), (0, x1), (0, x2), (0, x3)], [(1, u)]) = (z_R 255 (m, 0, [(1, 10), (9, 0), (0, z_add x3 1), (9, 0), (9, 0), (9, 0)], [])).bind fun qq => z_R 256 (qq.1, 58, [(2, 251), (0, x1), (0, x2), (0, x3)], qq.2.toList ++ [(1, z_i2l x2), (1, z_lmul u 100)]) :=
  have hK : kt_at 256 = kt_256 := rfl
  (z_R_run hK (n := 8) (g' := (m, 55, [(2, 251), (0, x1), (0, x2), (0, x3)], [(0, z_add x3 1), (1, 10), (1, z_i2l x2), (1, z_lmul u 100)])) rfl).trans (z_R_call hK rfl rfl rfl rfl rfl)
theorem tw_tle_58  (m : z_M) (x1 : Int) (x2 : Int) (x3 : Int) (s0 : Int) (s1 : Int) (u : Int) : z_R 256 (m, 58, [(2, 251), (0, x1), (0, x2), (0, x3)], [(1, u), (1, s0), (1, s1)]) = if z_lcmp s1 (z_lmul s0 u) < 0 then some (m, some (0, x3)) else z_R 256 (m, 29, [(2, 251), (0, x1), (0, x2), (0, z_add x3 1)], []) :=
  have hK : kt_at 256 = kt_256 := rfl
  (z_R_run hK (n := 2) (g' := (m, 60, [(2, 251), (0, x1), (0, x2), (0, x3)], [(0, z_lcmp s1 (z_lmul s0 u))])) rfl).trans (z_R_ifd hK (c := z_lcmp s1 (z_lmul s0 u) < 0) (p1 := 69) (p2 := 63) rfl rfl rfl (fun h1 => (z_R_run hK (n := 1) (g' := (m, 70, [(2, 251), (0, x1), (0, x2), (0, x3)], [(0, x3)])) rfl).trans (z_R_ret hK rfl rfl rfl)) (fun h1 => (z_R_run hK (n := 2) (g' := (m, 29, [(2, 251), (0, x1), (0, x2), (0, z_add x3 1)], [])) rfl).trans (rfl)))
theorem tw_tha_0  (m : z_M) (n : Int) (p : Int) : z_R 254 (m, 0, [(2, 251), (0, n), (0, p), (9, 0), (9, 0), (9, 0), (9, 0), (9, 0), (9, 0)], []) = z_R 254 (m, 5, [(2, 251), (0, n), (0, p), (1, 0), (9, 0), (0, 0), (9, 0), (9, 0), (9, 0)], []) :=
  have hK : kt_at 254 = kt_254 := rfl
  (z_R_run hK (n := 4) (g' := (m, 5, [(2, 251), (0, n), (0, p), (1, 0), (9, 0), (0, 0), (9, 0), (9, 0), (9, 0)], [])) rfl).trans (rfl)
theorem tw_tha_5  (m : z_M) (x1 : Int) (x2 : Int) (x3 : Int) (x5 : Int) (v6 : z_V) (v7 : z_V) (v8 : z_V) : z_R 254 (m, 5, [(2, 251), (0, x1), (0, x2), (1, x3), (9, 0), (0, x5), v6, v7, v8], []) = if z_shl 1 x1 ≤ x5 then some (m, some (1, x3)) else (z_R 219 (m, 0, [(2, 251)], [])).bind fun qq => z_R 254 (qq.1, 17, [(2, 251), (0, x1), (0, x2), (1, x3), (9, 0), (0, x5), v6, v7, v8], qq.2.toList ++ []) :=
  have hK : kt_at 254 = kt_254 := rfl
  (z_R_run hK (n := 4) (g' := (m, 10, [(2, 251), (0, x1), (0, x2), (1, x3), (9, 0), (0, x5), v6, v7, v8], [(0, z_shl 1 x1), (0, x5)])) rfl).trans (z_R_ifd hK (c := z_shl 1 x1 ≤ x5) (p1 := 148) (p2 := 13) rfl rfl rfl (fun h1 => (z_R_run hK (n := 1) (g' := (m, 149, [(2, 251), (0, x1), (0, x2), (1, x3), (9, 0), (0, x5), v6, v7, v8], [(1, x3)])) rfl).trans (z_R_ret hK rfl rfl rfl)) (fun h1 => (z_R_run hK (n := 1) (g' := (m, 14, [(2, 251), (0, x1), (0, x2), (1, x3), (9, 0), (0, x5), v6, v7, v8], [(2, 251)])) rfl).trans (z_R_call hK rfl rfl rfl rfl rfl)))
theorem tw_tha_17  (m : z_M) (x1 : Int) (x2 : Int) (x3 : Int) (x5 : Int) (v6 : z_V) (v7 : z_V) (v8 : z_V) : z_R 254 (m, 17, [(2, 251), (0, x1), (0, x2), (1, x3), (9, 0), (0, x5), v6, v7, v8], []) = (z_R 222 (m, 0, [(2, 251), (9, 0), (9, 0)], [])).bind fun qq => z_R 254 (qq.1, 21, [(2, 251), (0, x1), (0, x2), (1, x3), (9, 0), (0, x5), v6, v7, v8], qq.2.toList ++ []) :=
  have hK : kt_at 254 = kt_254 := rfl
  (z_R_run hK (n := 1) (g' := (m, 18, [(2, 251), (0, x1), (0, x2), (1, x3), (9, 0), (0, x5), v6, v7, v8], [(2, 251)])) rfl).trans (z_R_call hK rfl rfl rfl rfl rfl)
theorem tw_tha_21  (m : z_M) (x1 : Int) (x2 : Int) (x3 : Int) (x5 : Int) (v6 : z_V) (v7 : z_V) (v8 : z_V) (u : Int) : z_R 254 (m, 21, [(2, 251), (0, x1), (0, x2), (1, x3), (9, 0), (0, x5), v6, v7, v8], [(0, u)]) = z_R 254 (m, 29, [(2, 251), (0, x1), (0, x2), (1, x3), (9, 0), (0, x5), (0, u), (0, 1), (0, 0)], []) :=
  have hK : kt_at 254 = kt_254 := rfl
  (z_R_run hK (n := 5) (g' := (m, 29, [(2, 251), (0, x1), (0, x2), (1, x3), (9, 0), (0, x5), (0, u), (0, 1), (0, 0)], [])) rfl).trans (rfl)
theorem tw_tha_29  (m : z_M) (x1 : Int) (x2 : Int) (x3 : Int) (x5 : Int) (x6 : Int) (x7 : Int) (x8 : Int) : z_R 254 (m, 29, [(2, 251), (0, x1), (0, x2), (1, x3), (9, 0), (0, x5), (0, x6), (0, x7), (0, x8)], []) = if x1 ≤ x8 then (z_R 101 (m, 0, [(0, x5)], [])).bind fun qq => z_R 254 (qq.1, 108, [(2, 251), (0, x1), (0, x2), (1, x3), (9, 0), (0, x5), (0, x6), (0, x7), (0, x8)], qq.2.toList ++ []) else if x7 = 0 then (z_R 101 (m, 0, [(0, x5)], [])).bind fun qq => z_R 254 (qq.1, 108, [(2, 251), (0, x1), (0, x2), (1, x3), (9, 0), (0, x5), (0, x6), (0, x7), (0, x8)], qq.2.toList ++ []) else (z_R 185 (m, 0, [(0, x5), (0, x8)], [])).bind fun qq => z_R 254 (qq.1, 53, [(2, 251), (0, x1), (0, x2), (1, x3), (9, 0), (0, x5), (0, x6), (0, x7), (0, x8)], qq.2.toList ++ [(0, 36), (2, 264)]) :=
  have hK : kt_at 254 = kt_254 := rfl
  (z_R_run hK (n := 2) (g' := (m, 32, [(2, 251), (0, x1), (0, x2), (1, x3), (9, 0), (0, x5), (0, x6), (0, x7), (0, x8)], [(0, x1), (0, x8)])) rfl).trans (z_R_ifd hK (c := x1 ≤ x8) (p1 := 103) (p2 := 35) rfl rfl rfl (fun h1 => (z_R_run hK (n := 1) (g' := (m, 105, [(2, 251), (0, x1), (0, x2), (1, x3), (9, 0), (0, x5), (0, x6), (0, x7), (0, x8)], [(0, x5)])) rfl).trans (z_R_call hK rfl rfl rfl rfl rfl)) (fun h1 => (z_R_run hK (n := 1) (g' := (m, 37, [(2, 251), (0, x1), (0, x2), (1, x3), (9, 0), (0, x5), (0, x6), (0, x7), (0, x8)], [(0, x7)])) rfl).trans (z_R_ifd hK (c := x7 = 0) (p1 := 103) (p2 := 40) rfl rfl rfl (fun h2 => (z_R_run hK (n := 1) (g' := (m, 105, [(2, 251), (0, x1), (0, x2), (1, x3), (9, 0), (0, x5), (0, x6), (0, x7), (0, x8)], [(0, x5)])) rfl).trans (z_R_call hK rfl rfl rfl rfl rfl)) (fun h2 => (z_R_run hK (n := 2) (g' := (m, 44, [(2, 251), (0, x1), (0, x2), (1, x3), (9, 0), (0, x5), (0, x6), (0, x7), (0, x8)], [(2, 264)])) rfl).trans ((z_R_run hK (n := 3) (g' := (m, 50, [(2, 251), (0, x1), (0, x2), (1, x3), (9, 0), (0, x5), (0, x6), (0, x7), (0, x8)], [(0, x8), (0, x5), (0, 36), (2, 264)])) rfl).trans (z_R_call hK rfl rfl rfl rfl rfl))))))
theorem tw_tha_53  (m : z_M) (x1 : Int) (x2 : Int) (x3 : Int) (x5 : Int) (x6 : Int) (x7 : Int) (x8 : Int) (s0 : Int) (u : Int) : z_R 254 (m, 53, [(2, 251), (0, x1), (0, x2), (1, x3), (9, 0), (0, x5), (0, x6), (0, x7), (0, x8)], [(0, u), (0, s0), (2, 264)]) = if u = 0 then if 0 ≤ s0 ∧ s0 < 37 then (z_R 208 (z_up m 264 (s0).toNat (m 252 36), 0, [(2, 251), (2, 264), (9, 0), (9, 0), (9, 0)], [])).bind fun qq => z_R 254 (qq.1, 76, [(2, 251), (0, x1), (0, x2), (1, x3), (9, 0), (0, x5), (0, x6), (0, x7), (0, x8)], qq.2.toList ++ []) else none else if 0 ≤ s0 ∧ s0 < 37 then (z_R 208 (z_up m 264 (s0).toNat 0, 0, [(2, 251), (2, 264), (9, 0), (9, 0), (9, 0)], [])).bind fun qq => z_R 254 (qq.1, 76, [(2, 251), (0, x1), (0, x2), (1, x3), (9, 0), (0, x5), (0, x6), (0, x7), (0, x8)], qq.2.toList ++ []) else none :=
  have hK : kt_at 254 = kt_254 := rfl
  z_R_ifd hK (c := u = 0) (p1 := 60) (p2 := 56) rfl rfl rfl (fun h1 => (z_R_run hK (n := 2) (g' := (m, 64, [(2, 251), (0, x1), (0, x2), (1, x3), (9, 0), (0, x5), (0, x6), (0, x7), (0, x8)], [(2, 252), (0, s0), (2, 264)])) rfl).trans ((z_R_run hK (n := 2) (g' := (m, 67, [(2, 251), (0, x1), (0, x2), (1, x3), (9, 0), (0, x5), (0, x6), (0, x7), (0, x8)], [(0, m 252 36), (0, s0), (2, 264)])) rfl).trans (z_R_ixD hK (n := 37) (g' := (z_up m 264 (s0).toNat (m 252 36), 68, [(2, 251), (0, x1), (0, x2), (1, x3), (9, 0), (0, x5), (0, x6), (0, x7), (0, x8)], [])) rfl rfl rfl (fun h2 => (z_R_run hK (n := 3) (g' := (z_up m 264 (s0).toNat (m 252 36), 73, [(2, 251), (0, x1), (0, x2), (1, x3), (9, 0), (0, x5), (0, x6), (0, x7), (0, x8)], [(2, 264), (2, 251)])) rfl).trans (z_R_call hK rfl rfl rfl rfl rfl))))) (fun h1 => (z_R_run hK (n := 2) (g' := (m, 67, [(2, 251), (0, x1), (0, x2), (1, x3), (9, 0), (0, x5), (0, x6), (0, x7), (0, x8)], [(0, 0), (0, s0), (2, 264)])) rfl).trans (z_R_ixD hK (n := 37) (g' := (z_up m 264 (s0).toNat 0, 68, [(2, 251), (0, x1), (0, x2), (1, x3), (9, 0), (0, x5), (0, x6), (0, x7), (0, x8)], [])) rfl rfl rfl (fun h3 => (z_R_run hK (n := 3) (g' := (z_up m 264 (s0).toNat 0, 73, [(2, 251), (0, x1), (0, x2), (1, x3), (9, 0), (0, x5), (0, x6), (0, x7), (0, x8)], [(2, 264), (2, 251)])) rfl).trans (z_R_call hK rfl rfl rfl rfl rfl))))
theorem tw_tha_76  (m : z_M) (x1 : Int) (x2 : Int) (x3 : Int) (x5 : Int) (x6 : Int) (x7 : Int) (x8 : Int) : z_R 254 (m, 76, [(2, 251), (0, x1), (0, x2), (1, x3), (9, 0), (0, x5), (0, x6), (0, x7), (0, x8)], []) = (z_R 223 (m, 0, [(2, 251), (2, 264), (9, 0), (9, 0)], [])).bind fun qq => z_R 254 (qq.1, 84, [(2, 251), (0, x1), (0, x2), (1, x3), (9, 0), (0, x5), (0, x6), (0, x7), (0, x8)], qq.2.toList ++ []) :=
  have hK : kt_at 254 = kt_254 := rfl
  (z_R_run hK (n := 3) (g' := (m, 81, [(2, 251), (0, x1), (0, x2), (1, x3), (9, 0), (0, x5), (0, x6), (0, x7), (0, x8)], [(2, 264), (2, 251)])) rfl).trans (z_R_call hK rfl rfl rfl rfl rfl)
theorem tw_tha_84  (m : z_M) (x1 : Int) (x2 : Int) (x3 : Int) (x5 : Int) (x6 : Int) (x7 : Int) (x8 : Int) (u : Int) : z_R 254 (m, 84, [(2, 251), (0, x1), (0, x2), (1, x3), (9, 0), (0, x5), (0, x6), (0, x7), (0, x8)], [(0, u)]) = if z_and u x6 = 0 then z_R 254 (m, 29, [(2, 251), (0, x1), (0, x2), (1, x3), (9, 0), (0, x5), (0, x6), (0, 1), (0, z_add x8 1)], []) else z_R 254 (m, 29, [(2, 251), (0, x1), (0, x2), (1, x3), (9, 0), (0, x5), (0, x6), (0, 0), (0, z_add x8 1)], []) :=
  have hK : kt_at 254 = kt_254 := rfl
  (z_R_run hK (n := 2) (g' := (m, 87, [(2, 251), (0, x1), (0, x2), (1, x3), (9, 0), (0, x5), (0, x6), (0, x7), (0, x8)], [(0, z_and u x6)])) rfl).trans (z_R_ifnd hK (c := z_and u x6 = 0) (p1 := 94) (p2 := 90) rfl rfl rfl (fun h1 => (z_R_run hK (n := 4) (g' := (m, 29, [(2, 251), (0, x1), (0, x2), (1, x3), (9, 0), (0, x5), (0, x6), (0, 0), (0, z_add x8 1)], [])) rfl).trans (rfl)) (fun h1 => (z_R_run hK (n := 5) (g' := (m, 29, [(2, 251), (0, x1), (0, x2), (1, x3), (9, 0), (0, x5), (0, x6), (0, 1), (0, z_add x8 1)], [])) rfl).trans (rfl)))
theorem tw_tha_108  (m : z_M) (x1 : Int) (x2 : Int) (x3 : Int) (x5 : Int) (x6 : Int) (x7 : Int) (x8 : Int) (u : Int) : z_R 254 (m, 108, [(2, 251), (0, x1), (0, x2), (1, x3), (9, 0), (0, x5), (0, x6), (0, x7), (0, x8)], [(0, u)]) = if x7 = 0 then z_R 254 (m, 5, [(2, 251), (0, x1), (0, x2), (1, z_ladd x3 0), (9, 0), (0, z_add x5 1), (0, x6), (0, x7), (0, u)], []) else (z_R 255 (m, 0, [(1, z_i2l x2), (9, 0), (0, u), (9, 0), (9, 0), (9, 0)], [])).bind fun qq => z_R 254 (qq.1, 123, [(2, 251), (0, x1), (0, x2), (1, x3), (9, 0), (0, x5), (0, x6), (0, x7), (0, u)], qq.2.toList ++ [(1, x3)]) :=
  have hK : kt_at 254 = kt_254 := rfl
  (z_R_run hK (n := 3) (g' := (m, 113, [(2, 251), (0, x1), (0, x2), (1, x3), (9, 0), (0, x5), (0, x6), (0, x7), (0, u)], [(0, x7), (1, x3)])) rfl).trans (z_R_ifd hK (c := x7 = 0) (p1 := 139) (p2 := 116) rfl rfl rfl (fun h1 => (z_R_run hK (n := 5) (g' := (m, 5, [(2, 251), (0, x1), (0, x2), (1, z_ladd x3 0), (9, 0), (0, z_add x5 1), (0, x6), (0, x7), (0, u)], [])) rfl).trans (rfl)) (fun h1 => (z_R_run hK (n := 3) (g' := (m, 120, [(2, 251), (0, x1), (0, x2), (1, x3), (9, 0), (0, x5), (0, x6), (0, x7), (0, u)], [(0, u), (1, z_i2l x2), (1, x3)])) rfl).trans (z_R_call hK rfl rfl rfl rfl rfl)))
theorem tw_tha_123  (m : z_M) (x1 : Int) (x2 : Int) (x3 : Int) (x5 : Int) (x6 : Int) (x7 : Int) (x8 : Int) (s0 : Int) (u : Int) : z_R 254 (m, 123, [(2, 251), (0, x1), (0, x2), (1, x3), (9, 0), (0, x5), (0, x6), (0, x7), (0, x8)], [(1, u), (1, s0)]) = (z_R 255 (m, 0, [(1, z_i2l (z_sub 10 x2)), (9, 0), (0, z_sub x1 x8), (9, 0), (9, 0), (9, 0)], [])).bind fun qq => z_R 254 (qq.1, 135, [(2, 251), (0, x1), (0, x2), (1, x3), (9, 0), (0, x5), (0, x6), (0, x7), (0, x8)], qq.2.toList ++ [(1, u), (1, s0)]) :=
  have hK : kt_at 254 = kt_254 := rfl
  (z_R_run hK (n := 7) (g' := (m, 132, [(2, 251), (0, x1), (0, x2), (1, x3), (9, 0), (0, x5), (0, x6), (0, x7), (0, x8)], [(0, z_sub x1 x8), (1, z_i2l (z_sub 10 x2)), (1, u), (1, s0)])) rfl).trans (z_R_call hK rfl rfl rfl rfl rfl)
theorem tw_tha_135  (m : z_M) (x1 : Int) (x2 : Int) (x3 : Int) (x5 : Int) (x6 : Int) (x7 : Int) (x8 : Int) (s0 : Int) (s1 : Int) (u : Int) : z_R 254 (m, 135, [(2, 251), (0, x1), (0, x2), (1, x3), (9, 0), (0, x5), (0, x6), (0, x7), (0, x8)], [(1, u), (1, s0), (1, s1)]) = z_R 254 (m, 5, [(2, 251), (0, x1), (0, x2), (1, z_ladd s1 (z_lmul s0 u)), (9, 0), (0, z_add x5 1), (0, x6), (0, x7), (0, x8)], []) :=
  have hK : kt_at 254 = kt_254 := rfl
  (z_R_run hK (n := 6) (g' := (m, 5, [(2, 251), (0, x1), (0, x2), (1, z_ladd s1 (z_lmul s0 u)), (9, 0), (0, z_add x5 1), (0, x6), (0, x7), (0, x8)], [])) rfl).trans (rfl)
theorem tw_pow_0  (m : z_M) (v : Int) (n : Int) : z_R 255 (m, 0, [(1, v), (9, 0), (0, n), (9, 0), (9, 0), (9, 0)], []) = z_R 255 (m, 5, [(1, v), (9, 0), (0, n), (1, 1), (9, 0), (0, 0)], []) :=
  have hK : kt_at 255 = kt_255 := rfl
  (z_R_run hK (n := 4) (g' := (m, 5, [(1, v), (9, 0), (0, n), (1, 1), (9, 0), (0, 0)], [])) rfl).trans (rfl)
theorem tw_pow_5  (m : z_M) (x0 : Int) (x2 : Int) (x3 : Int) (x5 : Int) : z_R 255 (m, 5, [(1, x0), (9, 0), (0, x2), (1, x3), (9, 0), (0, x5)], []) = if x2 ≤ x5 then some (m, some (1, x3)) else z_R 255 (m, 5, [(1, x0), (9, 0), (0, x2), (1, z_lmul x3 x0), (9, 0), (0, z_add x5 1)], []) :=
  have hK : kt_at 255 = kt_255 := rfl
  (z_R_run hK (n := 2) (g' := (m, 8, [(1, x0), (9, 0), (0, x2), (1, x3), (9, 0), (0, x5)], [(0, x2), (0, x5)])) rfl).trans (z_R_ifd hK (c := x2 ≤ x5) (p1 := 21) (p2 := 11) rfl rfl rfl (fun h1 => (z_R_run hK (n := 1) (g' := (m, 22, [(1, x0), (9, 0), (0, x2), (1, x3), (9, 0), (0, x5)], [(1, x3)])) rfl).trans (z_R_ret hK rfl rfl rfl)) (fun h1 => (z_R_run hK (n := 6) (g' := (m, 5, [(1, x0), (9, 0), (0, x2), (1, z_lmul x3 x0), (9, 0), (0, z_add x5 1)], [])) rfl).trans (rfl)))
theorem tw_flo_0  (m : z_M) : z_R 92 (m, 0, [(2, 3), (2, 12), (9, 0), (9, 0)], []) = z_R 92 (m, 4, [(2, 3), (2, 12), (0, 0), (0, 0)], []) :=
  have hK : kt_at 92 = kt_92 := rfl
  (z_R_run hK (n := 4) (g' := (m, 4, [(2, 3), (2, 12), (0, 0), (0, 0)], [])) rfl).trans (rfl)
theorem tw_flo_4  (m : z_M) (x2 : Int) (x3 : Int) : z_R 92 (m, 4, [(2, 3), (2, 12), (0, x2), (0, x3)], []) = if 9 ≤ x3 then some (m, some (0, x2)) else if ¬ u_hs (m 3 8) (m 3 9) x3 = 0 then if m 13 (x3).toNat ≤ 0 then z_R 92 (m, 4, [(2, 3), (2, 12), (0, x2), (0, x3 + 1)], []) else z_R 92 (m, 4, [(2, 3), (2, 12), (0, z_or x2 (z_shl 1 x3)), (0, x3 + 1)], []) else z_R 92 (m, 4, [(2, 3), (2, 12), (0, x2), (0, z_add x3 1)], []) :=
  have hK : kt_at 92 = kt_92 := rfl
  (z_R_run hK (n := 2) (g' := (m, 7, [(2, 3), (2, 12), (0, x2), (0, x3)], [(0, 9), (0, x3)])) rfl).trans (z_R_ifd hK (c := 9 ≤ x3) (p1 := 39) (p2 := 10) rfl rfl rfl (fun h1 => (z_R_run hK (n := 1) (g' := (m, 40, [(2, 3), (2, 12), (0, x2), (0, x3)], [(0, x2)])) rfl).trans (z_R_ret hK rfl rfl rfl)) (fun h1 => (z_R_run hK (n := 2) (g' := (m, 12, [(2, 3), (2, 12), (0, x2), (0, x3)], [(0, x3), (2, 3)])) rfl).trans (z_R_cif hK rfl rfl rfl rfl rfl (c_ifhas _ _ rfl rfl) (fun h2 => have h4 := u_hs_rng h2; (z_R_run hK (n := 3) (g' := (m, 22, [(2, 3), (2, 12), (0, x2), (0, x3)], [(2, 13)])) rfl).trans ((z_R_run hK (n := 1) (g' := (m, 23, [(2, 3), (2, 12), (0, x2), (0, x3)], [(0, x3), (2, 13)])) rfl).trans (z_R_ixT hK (n := 9) (g' := (m, 24, [(2, 3), (2, 12), (0, x2), (0, x3)], [(0, m 13 (x3).toNat)])) rfl rfl rfl  (show 0 ≤ x3 ∧ x3 < 9 by omega) (z_R_ifd hK (c := m 13 (x3).toNat ≤ 0) (p1 := 33) (p2 := 27) rfl rfl rfl (fun h3 => (z_R_run hK (n := 1) (g' := (m, 36, [(2, 3), (2, 12), (0, x2), (0, z_add x3 1)], [])) rfl).trans ((congrArg (fun vv => z_R 92 (m, 36, [(2, 3), (2, 12), (0, x2), (0, vv)], [])) (z_add_eq (by omega) (by omega))).trans ((z_R_run hK (n := 1) (g' := (m, 4, [(2, 3), (2, 12), (0, x2), (0, x3 + 1)], [])) rfl).trans (rfl)))) (fun h3 => (z_R_run hK (n := 7) (g' := (m, 36, [(2, 3), (2, 12), (0, z_or x2 (z_shl 1 x3)), (0, z_add x3 1)], [])) rfl).trans ((congrArg (fun vv => z_R 92 (m, 36, [(2, 3), (2, 12), (0, z_or x2 (z_shl 1 x3)), (0, vv)], [])) (z_add_eq (by omega) (by omega))).trans ((z_R_run hK (n := 1) (g' := (m, 4, [(2, 3), (2, 12), (0, z_or x2 (z_shl 1 x3)), (0, x3 + 1)], [])) rfl).trans (rfl)))))))) (fun h2 => (z_R_run hK (n := 3) (g' := (m, 4, [(2, 3), (2, 12), (0, x2), (0, z_add x3 1)], [])) rfl).trans (rfl)))))
end
