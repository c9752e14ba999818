section
/-! charges, of what both are in -/
theorem z_ladd_eq {x y : Int} (h1 : -2147483648 ≤ x + y) (h2 : x + y ≤ 2147483647) : z_ladd x y = x + y := by
  unfold z_ladd
  rw [← Int64.ofInt_add]
  exact Int64.toInt_ofInt_of_le (by omega) (by omega)
theorem z_i2l_eq {x : Int} (h1 : -2147483648 ≤ x) (h2 : x ≤ 2147483647) : z_i2l x = x := by
  unfold z_i2l
  rw [Int32.toInt_toInt64]
  exact zr_of h1 h2
theorem z_l2i_eq {x : Int} (h1 : -2147483648 ≤ x) (h2 : x ≤ 2147483647) : z_l2i x = x := by
  unfold z_l2i
  rw [Int64.toInt32_ofInt]
  exact zr_of h1 h2
/-- what one is to pay for this hour -/
def v_d (wm A : Nat → Int) (j : Nat) : Int := if A (j + 18) = -1 then 0 else wm j
def v_w (wm A : Nat → Int) : Nat → Nat → (Nat → Int) → Nat → Int
  | 0, _, S => S
  | f + 1, x, S => v_w wm A f (x + 1) (u_up S x (S x + v_d wm A x))
def v_H (w h n : Nat) (heat price : Int) (cs : List Int) (D : Nat → Int) : Nat → (Nat → Int) → (Nat → Int) → Nat → Int
  | 0, _, S => S
  | f + 1, B, S => v_H w h n heat price cs D f (hr_A w h heat price (c_ml cs) (wmD D (B 35)) n B) (v_w (wmD D (B 35)) B n 0 S)
def v_m (S : Nat → Int) : Nat → Nat → Int → Int
  | 0, _, b => b
  | f + 1, x, b => v_m S f (x + 1) (if b < S x then S x else b)
def v_A (w h n : Nat) (heat price : Int) (cs : List Int) (D A : Nat → Int) (a : Int) : Int := if 0 ≤ a ∧ a ≤ 100 then v_m (v_H w h n heat price cs D a.toNat A (fun _ => 0)) n 0 0 else -1
theorem v_w_at {wm A : Nat → Int} : ∀ (f x : Nat) (S : Nat → Int) (j : Nat), v_w wm A f x S j = if x ≤ j ∧ j < x + f then S j + v_d wm A j else S j := by
  intro f
  induction f with
  | zero =>
    intro x S j
    rw [if_neg (by omega)]
    rfl
  | succ f ih =>
    intro x S j
    show v_w wm A f (x + 1) (u_up S x (S x + v_d wm A x)) j = _
    rw [ih]
    by_cases e : j = x
    · rw [if_neg (by omega), if_pos (by omega), e, u_up_self]
    · rw [u_up_ne e]
      by_cases c : x + 1 ≤ j ∧ j < x + 1 + f
      · rw [if_pos c, if_pos (by omega)]
      · rw [if_neg c, if_neg (by omega)]
theorem v_d_b {wm A : Nat → Int} {j : Nat} (h : 0 ≤ wm j ∧ wm j ≤ 9) : 0 ≤ v_d wm A j ∧ v_d wm A j ≤ 9 := by
  unfold v_d
  by_cases c : A (j + 18) = -1
  · rw [if_pos c]; decide
  · rw [if_neg c]; exact h
theorem v_w_b {wm A S : Nat → Int} {n : Nat} {K : Int} (h5 : n ≤ 5) (hw : ∀ p, p < 5 → 0 ≤ wm p ∧ wm p ≤ 9) (hS : ∀ j, j < n → 0 ≤ S j ∧ S j ≤ K) : ∀ j, j < n → 0 ≤ v_w wm A n 0 S j ∧ v_w wm A n 0 S j ≤ K + 9 := fun j hj => by
  have h1 := hS j hj
  have h2 := v_d_b (A := A) (hw j (by omega))
  rw [v_w_at, if_pos (by omega)]
  omega
theorem v_mx {a b : Int} : (if a < b then b else a) = if b < a then a else b := by
  by_cases c : a < b
  · rw [if_pos c, if_neg (by omega)]
  · rw [if_neg c]
    by_cases d : b < a
    · rw [if_pos d]
    · rw [if_neg d]
      omega
theorem v_mb {S : Nat → Int} {n : Nat} {K : Int} (hS : ∀ j, j < n → 0 ≤ S j ∧ S j ≤ K) {x : Nat} (hx : x < n) {b : Int} (hb : 0 ≤ b ∧ b ≤ K) : 0 ≤ (if b < S x then S x else b) ∧ (if b < S x then S x else b) ≤ K := by
  by_cases c : b < S x
  · rw [if_pos c]; exact hS x hx
  · rw [if_neg c]; exact hb
section
variable {w h n : Nat} {heat price : Int} {D A B : Nat → Int} {c : Nat} {U : Nat → Nat → Int} {kn : Nat → Int} {KS : Nat → Nat → Int} {cs : List Int} {m : z_M}
theorem C_chg1 (h5 : n ≤ 5) {N : Int} : ∀ (f x : Nat) (m : z_M), x + f = n → C_is w h n heat price D A c U kn KS cs m → m 0 13 = (x : Int) → (∀ j, j < x → m 250 j = 0) → ∃ m1, z_R 123 (m, 29, [(2, 0), (0, N), (0, (x : Int)), (9, 0), (9, 0)], []) = z_R 123 (m1, 53, [(2, 0), (0, N), (0, 0), (9, 0), (9, 0)], []) ∧ C_is w h n heat price D A c U kn KS cs m1 ∧ (∀ j, j < n → m1 250 j = 0) ∧ z_same [(0, 13, 13), (250, 0, 8)] m m1 := by
  intro f
  induction f with
  | zero =>
    intro x m hx hi h13 hz
    have e11 := hi.1.2.2.1
    rw [v_chg_29 m N x (by omega), e11, if_pos (by omega)]
    exact ⟨m, rfl, hi, fun j hj => hz j (by omega), z_same.rf⟩
  | succ f ih =>
    intro x m hx hi h13 hz
    have e11 := hi.1.2.2.1
    have hi1 : C_is w h n heat price D A c U kn KS cs (z_up (z_up m 250 x 0) 0 13 ((x + 1 : Nat) : Int)) := C_upn (C_upn hi (by
      have : ∀ x, x < 5 → C_hit 250 x x = false := by decide +kernel
      exact this x (by omega))) (by decide)
    have g13 : (z_up (z_up m 250 x 0) 0 13 ((x + 1 : Nat) : Int)) 0 13 = ((x + 1 : Nat) : Int) := zu_self
    have gz : ∀ j, j < x + 1 → (z_up (z_up m 250 x 0) 0 13 ((x + 1 : Nat) : Int)) 250 j = 0 := fun j hj => by
      rw [zu_p (by decide)]
      by_cases e : j = x
      · rw [e, zu_self]
      · rw [zu_k e]; exact hz j (by omega)
    have gs : z_same [(0, 13, 13), (250, 0, 8)] m (z_up (z_up m 250 x 0) 0 13 ((x + 1 : Nat) : Int)) := (z_same.rf.upo (by (try unfold r_LHs); first | exact z_on_h rfl (by omega) (by omega) | exact z_on_t (z_on_h rfl (by omega) (by omega)) | exact z_on_t (z_on_t (z_on_h rfl (by omega) (by omega))) | exact z_on_t (z_on_t (z_on_t (z_on_h rfl (by omega) (by omega)))) | exact z_on_t (z_on_t (z_on_t (z_on_t (z_on_h rfl (by omega) (by omega))))) | exact z_on_t (z_on_t (z_on_t (z_on_t (z_on_t (z_on_h rfl (by omega) (by omega)))))) | exact z_on_t (z_on_t (z_on_t (z_on_t (z_on_t (z_on_t (z_on_h rfl (by omega) (by omega))))))) | exact z_on_t (z_on_t (z_on_t (z_on_t (z_on_t (z_on_t (z_on_t (z_on_h rfl (by omega) (by omega)))))))) | exact z_on_t (z_on_t (z_on_t (z_on_t (z_on_t (z_on_t (z_on_t (z_on_t (z_on_h rfl (by omega) (by omega))))))))) | exact z_on_t (z_on_t (z_on_t (z_on_t (z_on_t (z_on_t (z_on_t (z_on_t (z_on_t (z_on_h rfl (by omega) (by omega)))))))))) | exact z_on_t (z_on_t (z_on_t (z_on_t (z_on_t (z_on_t (z_on_t (z_on_t (z_on_t (z_on_t (z_on_h rfl (by omega) (by omega))))))))))) | exact z_on_t (z_on_t (z_on_t (z_on_t (z_on_t (z_on_t (z_on_t (z_on_t (z_on_t (z_on_t (z_on_t (z_on_h rfl (by omega) (by omega)))))))))))) | exact z_on_t (z_on_t (z_on_t (z_on_t (z_on_t (z_on_t (z_on_t (z_on_t (z_on_t (z_on_t (z_on_t (z_on_t (z_on_h rfl (by omega) (by omega))))))))))))))).upo (by (try unfold r_LHs); first | exact z_on_h rfl (by omega) (by omega) | exact z_on_t (z_on_h rfl (by omega) (by omega)) | exact z_on_t (z_on_t (z_on_h rfl (by omega) (by omega))) | exact z_on_t (z_on_t (z_on_t (z_on_h rfl (by omega) (by omega)))) | exact z_on_t (z_on_t (z_on_t (z_on_t (z_on_h rfl (by omega) (by omega))))) | exact z_on_t (z_on_t (z_on_t (z_on_t (z_on_t (z_on_h rfl (by omega) (by omega)))))) | exact z_on_t (z_on_t (z_on_t (z_on_t (z_on_t (z_on_t (z_on_h rfl (by omega) (by omega))))))) | exact z_on_t (z_on_t (z_on_t (z_on_t (z_on_t (z_on_t (z_on_t (z_on_h rfl (by omega) (by omega)))))))) | exact z_on_t (z_on_t (z_on_t (z_on_t (z_on_t (z_on_t (z_on_t (z_on_t (z_on_h rfl (by omega) (by omega))))))))) | exact z_on_t (z_on_t (z_on_t (z_on_t (z_on_t (z_on_t (z_on_t (z_on_t (z_on_t (z_on_h rfl (by omega) (by omega)))))))))) | exact z_on_t (z_on_t (z_on_t (z_on_t (z_on_t (z_on_t (z_on_t (z_on_t (z_on_t (z_on_t (z_on_h rfl (by omega) (by omega))))))))))) | exact z_on_t (z_on_t (z_on_t (z_on_t (z_on_t (z_on_t (z_on_t (z_on_t (z_on_t (z_on_t (z_on_t (z_on_h rfl (by omega) (by omega)))))))))))) | exact z_on_t (z_on_t (z_on_t (z_on_t (z_on_t (z_on_t (z_on_t (z_on_t (z_on_t (z_on_t (z_on_t (z_on_t (z_on_h rfl (by omega) (by omega))))))))))))))
    rw [v_chg_29 m N x (by omega), e11, if_neg (by omega), c_add (j := x) m 0 (by omega) h13, zb_n, v_chg_45, z_add_eq (x := (x : Int)) (y := 1) (by omega) (by omega), tc1]
    generalize z_up (z_up m 250 x 0) 0 13 ((x + 1 : Nat) : Int) = m0 at hi1 g13 gz gs ⊢
    obtain ⟨m1, a1, a2, a3, a4⟩ := ih (x + 1) m0 (by omega) hi1 g13 gz
    exact ⟨m1, a1, a2, a3, gs.tr a4⟩
theorem C_chg2 (h5 : n ≤ 5) {N k : Int} (hwm : ∀ p, p < 5 → 0 ≤ wmD D (B 35) p ∧ wmD D (B 35) p ≤ 9) (ht : 0 ≤ B 35 ∧ B 35 ≤ 2147483647) : ∀ (f x : Nat) (S : Nat → Int) (m : z_M), x + f = n → C_is w h n heat price D A c U kn KS cs m → cS m 18 n = B → (∀ j, j < n → m 250 j = S j) → (∀ j, x ≤ j → j < n → 0 ≤ S j ∧ S j ≤ 10000) → ∃ m1, z_R 123 (m, 60, [(2, 0), (0, N), (0, k), (0, (x : Int)), (9, 0)], []) = z_R 123 (m1, 60, [(2, 0), (0, N), (0, k), (0, (n : Int)), (9, 0)], []) ∧ C_is w h n heat price D A c U kn KS cs m1 ∧ cS m1 18 n = B ∧ (∀ j, j < n → m1 250 j = v_w (wmD D (B 35)) B f x S j) ∧ z_same [(250, 0, 8)] m m1 := by
  intro f
  induction f with
  | zero =>
    intro x S m hx hi hB hS hb
    obtain rfl : x = n := by omega
    exact ⟨m, rfl, hi, hB, hS, z_same.rf⟩
  | succ f ih =>
    intro x S m hx hi hB hS hb
    have e11 := hi.1.2.2.1
    have e21 : m 21 x = B (x + 18) := by
      rw [← hB]
      exact (cS_at3 (s := 18) (j := x) (by omega) (by omega)).symm
    have e7 : m 18 7 = B 35 := by
      rw [← hB]
      exact (cS_at0 (s := 18) (j := 7) (by decide)).symm
    have hw := hwm x (by omega)
    have hS0 := hS x (by omega)
    have hb0 := hb x (Nat.le_refl _) (by omega)
    rw [v_chg_60 m N k x (by omega), e11, if_neg (by omega), if_pos (show 0 ≤ (x : Int) ∧ (x : Int) < 5 by omega), Int.toNat_natCast, e21, tc1]
    show ∃ m1 : z_M, _ ∧ _ ∧ _ ∧ (∀ j, j < n → m1 250 j = v_w (wmD D (B 35)) B f (x + 1) (u_up S x (S x + v_d (wmD D (B 35)) B x)) j) ∧ _
    by_cases z : B (x + 18) = -1
    · have ed : v_d (wmD D (B 35)) B x = 0 := if_pos z
      rw [if_pos z, ed, Int.add_zero]
      refine ih (x + 1) _ m (by omega) hi hB (fun j hj => ?_) (fun j h1 hj => ?_)
      · by_cases e : j = x
        · rw [e, u_up_self]; exact hS0
        · rw [u_up_ne e]; exact hS j hj
      · rw [u_up_ne (by omega)]; exact hb j (by omega) hj
    · have ed : v_d (wmD D (B 35)) B x = wmD D (B 35) x := if_neg z
      have ec : cw m x (B 35) = wmD D (B 35) x := cw_D hi.1.2.2.2.2.2.2.1 hi.1.2.2.2.2.2.2.2 hi.2.1 ht.1 (by omega)
      rw [if_neg z, e7, c_wo m (by omega) ht.1 ht.2, zb_v, v_chg_106, if_pos (show 0 ≤ (x : Int) ∧ (x : Int) < 9 by omega), Int.toNat_natCast, ec, hS0, z_i2l_eq (by omega) (by omega), z_ladd_eq (by omega) (by omega), z_add_eq (x := (x : Int)) (y := 1) (by omega) (by omega), tc1, ed]
      have hi1 : C_is w h n heat price D A c U kn KS cs (z_up m 250 x (S x + wmD D (B 35) x)) := C_upn hi (by
        have : ∀ x, x < 5 → C_hit 250 x x = false := by decide +kernel
        exact this x (by omega))
      have hB1 : cS (z_up m 250 x (S x + wmD D (B 35) x)) 18 n = B := by
        rw [cS_off (by omega)]
        exact hB
      have gS : ∀ j, j < n → (z_up m 250 x (S x + wmD D (B 35) x)) 250 j = u_up S x (S x + wmD D (B 35) x) j := fun j hj => by
        by_cases e : j = x
        · rw [e, zu_self, u_up_self]
        · rw [zu_k e, u_up_ne e]; exact hS j hj
      have gs : z_same [(250, 0, 8)] m (z_up m 250 x (S x + wmD D (B 35) x)) := z_same.rf.upo (by (try unfold r_LHs); first | exact z_on_h rfl (by omega) (by omega) | exact z_on_t (z_on_h rfl (by omega) (by omega)) | exact z_on_t (z_on_t (z_on_h rfl (by omega) (by omega))) | exact z_on_t (z_on_t (z_on_t (z_on_h rfl (by omega) (by omega)))) | exact z_on_t (z_on_t (z_on_t (z_on_t (z_on_h rfl (by omega) (by omega))))) | exact z_on_t (z_on_t (z_on_t (z_on_t (z_on_t (z_on_h rfl (by omega) (by omega)))))) | exact z_on_t (z_on_t (z_on_t (z_on_t (z_on_t (z_on_t (z_on_h rfl (by omega) (by omega))))))) | exact z_on_t (z_on_t (z_on_t (z_on_t (z_on_t (z_on_t (z_on_t (z_on_h rfl (by omega) (by omega)))))))) | exact z_on_t (z_on_t (z_on_t (z_on_t (z_on_t (z_on_t (z_on_t (z_on_t (z_on_h rfl (by omega) (by omega))))))))) | exact z_on_t (z_on_t (z_on_t (z_on_t (z_on_t (z_on_t (z_on_t (z_on_t (z_on_t (z_on_h rfl (by omega) (by omega)))))))))) | exact z_on_t (z_on_t (z_on_t (z_on_t (z_on_t (z_on_t (z_on_t (z_on_t (z_on_t (z_on_t (z_on_h rfl (by omega) (by omega))))))))))) | exact z_on_t (z_on_t (z_on_t (z_on_t (z_on_t (z_on_t (z_on_t (z_on_t (z_on_t (z_on_t (z_on_t (z_on_h rfl (by omega) (by omega)))))))))))) | exact z_on_t (z_on_t (z_on_t (z_on_t (z_on_t (z_on_t (z_on_t (z_on_t (z_on_t (z_on_t (z_on_t (z_on_t (z_on_h rfl (by omega) (by omega))))))))))))))
      generalize z_up m 250 x (S x + wmD D (B 35) x) = m0 at hi1 hB1 gS gs ⊢
      obtain ⟨m1, a1, a2, a3, a4, a5⟩ := ih (x + 1) (u_up S x (S x + wmD D (B 35) x)) m0 (by omega) hi1 hB1 gS (fun j h1 hj => by
        rw [u_up_ne (by omega)]; exact hb j (by omega) hj)
      exact ⟨m1, a1, a2, a3, a4, gs.tr a5⟩
theorem C_chg4 {S : Nat → Int} {K : Int} (hK : K ≤ 10000) {N : Int} {v3 : z_V} (e11 : m 3 11 = (n : Int)) (h5 : n ≤ 5) (hm : ∀ j, j < n → m 250 j = S j) (hS : ∀ j, j < n → 0 ≤ S j ∧ S j ≤ K) : ∀ (f x : Nat) (b : Int), x + f = n → 0 ≤ b ∧ b ≤ K → z_R 123 (m, 138, [(2, 0), (0, N), (1, b), v3, (0, (x : Int))], []) = some (m, some (0, v_m S f x b)) := by
  intro f
  induction f with
  | zero =>
    intro x b hx hb
    rw [v_chg_138 m N b v3 x (by omega), e11, if_pos (by omega), z_l2i_eq (by omega) (by omega)]
    rfl
  | succ f ih =>
    intro x b hx hb
    rw [v_chg_138 m N b v3 x (by omega), e11, if_neg (by omega), if_pos (show 0 ≤ (x : Int) ∧ (x : Int) < 9 by omega), Int.toNat_natCast, hm x (by omega), v_mx, tc1]
    exact ih (x + 1) _ (by omega) (v_mb hS (by omega) hb)
theorem C_chg3 (hN : w_N w h n heat D) {N : Nat} (hN6 : N ≤ 100) : ∀ (f k : Nat) (v3 : z_V) (B S : Nat → Int) (m : z_M), k + f = N → C_is w h n heat price D A c U kn KS cs m → cS m 18 n = B → hr_ok n B → 0 ≤ B 35 → B 35 + (f : Int) ≤ 2147483647 → z_w (m 24 6) = m 24 6 → z_w (m 24 9) = m 24 9 → (∀ j, j < n → m 250 j = S j) → (∀ j, j < n → 0 ≤ S j ∧ S j ≤ 9 * (k : Int)) → ∃ m1, z_R 123 (m, 53, [(2, 0), (0, (N : Int)), (0, (k : Int)), v3, (9, 0)], []) = some (m1, some (0, v_m (v_H w h n heat price cs D f B S) n 0 0)) ∧ C_is w h n heat price D A c U kn KS cs m1 := by
  have h5 := hN.1.2.2
  intro f
  induction f with
  | zero =>
    intro k v3 B S m hk hi hB hok ht ht2 k6 k9 hS hb
    have a1 := C_chg4 (m := m) (S := S) (K := 9 * (k : Int)) (by omega) (N := (N : Int)) (v3 := v3) hi.1.2.2.1 h5 hS hb n 0 0 (by omega) ⟨Int.le_refl _, by omega⟩
    have a1 : z_R 123 (m, 138, [(2, 0), (0, (N : Int)), (1, 0), v3, (0, 0)], []) = some (m, some (0, v_m S n 0 0)) := a1
    rw [v_chg_53, if_pos (by omega), a1]
    exact ⟨m, rfl, hi⟩
  | succ f ih =>
    intro k v3 B S m hk hi hB hok ht ht2 k6 k9 hS hb
    have ht2' : B 35 + ((f : Int) + 1) ≤ 2147483647 := by omega
    obtain ⟨m1, a1, a2, a3, a4, a5⟩ := C_chg2 h5 (N := (N : Int)) (k := (k : Int)) (hN.2.2 (B 35) ht) ⟨ht, by omega⟩ n 0 S m (by omega) hi hB hS (fun j _ hj => by have := hb j hj; omega)
    have a1 : z_R 123 (m, 60, [(2, 0), (0, (N : Int)), (0, (k : Int)), (0, 0), (9, 0)], []) = z_R 123 (m1, 60, [(2, 0), (0, (N : Int)), (0, (k : Int)), (0, (n : Int)), (9, 0)], []) := a1
    have e11 := a2.1.2.2.1
    have j6 : m1 24 6 = m 24 6 := a5.of (by (try unfold r_LHs); (repeat' (first | exact trivial | refine z_of_c ?_ ?_)) <;> omega)
    have j9 : m1 24 9 = m 24 9 := a5.of (by (try unfold r_LHs); (repeat' (first | exact trivial | refine z_of_c ?_ ?_)) <;> omega)
    have l6 : z_w (m1 24 6) = m1 24 6 := by rw [j6]; exact k6
    have l9 : z_w (m1 24 9) = m1 24 9 := by rw [j9]; exact k9
    obtain ⟨m2, b1, b2, b3⟩ := c_goOn z_st_18 hN.1.1 hN.1.2.1 (price := price) ⟨hN.1.2.2, hN.2.1, c_ml_ok cs, hN.2.2⟩ (N := 1) (by decide) m1 (C_cfg a2) a3 hok ht (by omega) l6 l9
    have b1 : z_R 67 (m1, 0, [(2, 24), (2, 18), (0, 1), (9, 0)], []) = some (m2, none) := b1
    have ow := hr_H_w (w := w) (h := h) (n := n) (heat := heat) (price := price) (ml := c_ml cs) (wmt := wmD D) 1 B (m1 24 6) (m1 24 7) (m1 24 8) (m1 24 9) l6 l9
    rw [← b2] at ow
    have ow6 : z_w (m2 24 6) = m2 24 6 := ow.1
    have ow9 : z_w (m2 24 9) = m2 24 9 := ow.2
    have eA : cS m2 18 n = hr_A w h heat price (c_ml cs) (wmD D (B 35)) n B := congrArg Prod.fst b2
    have hC2 : C_is w h n heat price D A c U kn KS cs m2 := C_fr a2 fun p k hk => by
      have hk' := hk
      unfold C_hit at hk'
      have hk' := of_decide_eq_true hk'
      exact b3.of (by (try unfold r_LHs); (repeat' (first | exact trivial | refine z_of_c ?_ ?_)) <;> omega)
    have hok' := hr_A_ok (price := price) hN.1.1 hN.1.2.1 hN.1.2.2 hN.2.1 (c_ml_ok cs) (hN.2.2 (B 35) ht) hok
    have e35 : hr_A w h heat price (c_ml cs) (wmD D (B 35)) n B 35 = B 35 + 1 := by rw [hr_A_35 hN.1.1 hN.1.2.1 hN.1.2.2, z_add_eq (by omega) (by omega)]
    have hS2 : ∀ j, j < n → m2 250 j = v_w (wmD D (B 35)) B n 0 S j := fun j hj => (b3.of (p := 250) (k := j) (by (try unfold r_LHs); (repeat' (first | exact trivial | refine z_of_c ?_ ?_)) <;> omega)).trans (a4 j hj)
    obtain ⟨m3, c1, c2⟩ := ih (k + 1) (0, (n : Int)) _ (v_w (wmD D (B 35)) B n 0 S) m2 (by omega) hC2 eA hok' (by omega) (by omega) ow6 ow9 hS2 (fun j hj => by
      have := v_w_b (K := 9 * (k : Int)) (A := B) h5 (hN.2.2 (B 35) ht) hb j hj
      omega)
    rw [v_chg_53, if_neg (by omega), a1, v_chg_60 m1 N k n (by omega), e11, if_pos (Int.le_refl _), b1, zb_n, v_chg_127, z_add_eq (x := (k : Int)) (y := 1) (by omega) (by omega), tc1, c1]
    exact ⟨m3, rfl, c2⟩
theorem C_charges (hi : C_is w h n heat price D A c U kn KS cs m) (hN : w_N w h n heat D) (hok : hr_ok n A) (ht : 0 ≤ A 35 ∧ A 35 ≤ 1073741824) (k6 : z_w (m 24 6) = m 24 6) (k9 : z_w (m 24 9) = m 24 9) (a : Int) : ∃ m1, z_R 123 (m, 0, [(2, 0), (0, a), (9, 0), (9, 0), (9, 0)], []) = some (m1, some (0, v_A w h n heat price cs D A a)) ∧ C_is w h n heat price D A c U kn KS cs m1 := by
  rw [v_chg_0]
  by_cases c1 : a < 0
  · have e : v_A w h n heat price cs D A a = -1 := if_neg (by omega)
    rw [if_pos c1, e]
    exact ⟨m, rfl, hi⟩
  rw [if_neg c1]
  by_cases c2 : a ≤ 100
  · obtain ⟨N, rfl⟩ : ∃ N : Nat, a = (N : Int) := ⟨a.toNat, by omega⟩
    have e : v_A w h n heat price cs D A (N : Int) = v_m (v_H w h n heat price cs D (N : Int).toNat A (fun _ => 0)) n 0 0 := if_pos (by omega)
    rw [Int.toNat_natCast] at e
    obtain ⟨m2, b1, b2, b3⟩ := c_become z_st_12 z_st_18 (by decide) m
    have b1 : z_R 61 (m, 0, [(2, 18), (2, 12)], []) = some (m2, none) := b1
    have hC2 : C_is w h n heat price D A c U kn KS cs m2 := C_fr hi fun p k hk => by
      have hk' := hk
      unfold C_hit at hk'
      have hk' := of_decide_eq_true hk'
      exact b3.of (by (try unfold r_LHs); (repeat' (first | exact trivial | refine z_of_c ?_ ?_)) <;> omega)
    have hA2 : cS m2 18 n = A := (cS_cR b2).trans hi.2.2.1
    have j6 : m2 24 6 = m 24 6 := b3.of (by (try unfold r_LHs); (repeat' (first | exact trivial | refine z_of_c ?_ ?_)) <;> omega)
    have j9 : m2 24 9 = m 24 9 := b3.of (by (try unfold r_LHs); (repeat' (first | exact trivial | refine z_of_c ?_ ?_)) <;> omega)
    have hC3 : C_is w h n heat price D A c U kn KS cs (z_up m2 0 13 0) := C_upn hC2 (by decide)
    have f3 : ∀ p k, ¬ p = 0 → (z_up m2 0 13 0) p k = m2 p k := fun p k hp => zu_p hp
    have g13 : (z_up m2 0 13 0) 0 13 = ((0 : Nat) : Int) := zu_self
    rw [if_pos c2, b1, zb_n, v_chg_23, s_tell0_0, zb_n, v_chg_27]
    generalize z_up m2 0 13 0 = m3 at hC3 f3 g13 ⊢
    have hA3 : cS m3 18 n = A := by
      rw [cS_fr (fun j k hj _ => f3 (18 + j) k (by omega))]
      exact hA2
    obtain ⟨m4, d1, d2, d3, d4⟩ := C_chg1 hN.1.2.2 (N := (N : Int)) n 0 m3 (by omega) hC3 g13 (fun j hj => absurd hj (by omega))
    have d1 : z_R 123 (m3, 29, [(2, 0), (0, (N : Int)), (0, 0), (9, 0), (9, 0)], []) = z_R 123 (m4, 53, [(2, 0), (0, (N : Int)), (0, 0), (9, 0), (9, 0)], []) := d1
    have hA4 : cS m4 18 n = A := by
      rw [cS_fr (fun j k hj _ => d4.of (p := 18 + j) (k := k) (by (try unfold r_LHs); (repeat' (first | exact trivial | refine z_of_c ?_ ?_)) <;> omega))]
      exact hA3
    have l6 : m4 24 6 = m 24 6 := (d4.of (by (try unfold r_LHs); (repeat' (first | exact trivial | refine z_of_c ?_ ?_)) <;> omega)).trans ((f3 24 6 (by decide)).trans j6)
    have l9 : m4 24 9 = m 24 9 := (d4.of (by (try unfold r_LHs); (repeat' (first | exact trivial | refine z_of_c ?_ ?_)) <;> omega)).trans ((f3 24 9 (by decide)).trans j9)
    obtain ⟨m5, g1, g2⟩ := C_chg3 hN (N := N) (by omega) N 0 (9, 0) A (fun _ => 0) m4 (by omega) d2 hA4 hok ht.1 (by omega) (by rw [l6]; exact k6) (by rw [l9]; exact k9) d3 (fun j hj => ⟨Int.le_refl _, by omega⟩)
    have g1 : z_R 123 (m4, 53, [(2, 0), (0, (N : Int)), (0, 0), (9, 0), (9, 0)], []) = some (m5, some (0, v_m (v_H w h n heat price cs D N A (fun _ => 0)) n 0 0)) := g1
    rw [d1, g1, e]
    exact ⟨m5, rfl, g2⟩
  · have e : v_A w h n heat price cs D A a = -1 := if_neg (by omega)
    rw [if_neg c2, e]
    exact ⟨m, rfl, hi⟩
/-! the reference -/
theorem R_chg1 {N : Int} : ∀ (f x : Nat) (m : z_M), x + f = 5 → R_is w h n heat price D A c U kn KS cs m → (∀ j, j < x → m 268 j = 0) → ∃ m1, z_R 242 (m, 20, [(2, 251), (0, N), (0, (x : Int)), (9, 0)], []) = z_R 242 (m1, 40, [(2, 251), (0, N), (0, 0), (9, 0)], []) ∧ R_is w h n heat price D A c U kn KS cs m1 ∧ (∀ j, j < 5 → m1 268 j = 0) ∧ z_same [(268, 0, 4)] m m1 := by
  intro f
  induction f with
  | zero =>
    intro x m hx hi hz
    rw [v_tch_20, if_pos (by omega)]
    exact ⟨m, rfl, hi, fun j hj => hz j (by omega), z_same.rf⟩
  | succ f ih =>
    intro x m hx hi hz
    have hi1 : R_is w h n heat price D A c U kn KS cs (z_up m 268 x 0) := R_upn hi (by
      have : ∀ x, x < 5 → R_hit 268 x x = false := by decide +kernel
      exact this x (by omega))
    have gz : ∀ j, j < x + 1 → (z_up m 268 x 0) 268 j = 0 := fun j hj => by
      by_cases e : j = x
      · rw [e, zu_self]
      · rw [zu_k e]; exact hz j (by omega)
    have gs : z_same [(268, 0, 4)] m (z_up m 268 x 0) := z_same.rf.upo (by (try unfold r_LHs); first | exact z_on_h rfl (by omega) (by omega) | exact z_on_t (z_on_h rfl (by omega) (by omega)) | exact z_on_t (z_on_t (z_on_h rfl (by omega) (by omega))) | exact z_on_t (z_on_t (z_on_t (z_on_h rfl (by omega) (by omega)))) | exact z_on_t (z_on_t (z_on_t (z_on_t (z_on_h rfl (by omega) (by omega))))) | exact z_on_t (z_on_t (z_on_t (z_on_t (z_on_t (z_on_h rfl (by omega) (by omega)))))) | exact z_on_t (z_on_t (z_on_t (z_on_t (z_on_t (z_on_t (z_on_h rfl (by omega) (by omega))))))) | exact z_on_t (z_on_t (z_on_t (z_on_t (z_on_t (z_on_t (z_on_t (z_on_h rfl (by omega) (by omega)))))))) | exact z_on_t (z_on_t (z_on_t (z_on_t (z_on_t (z_on_t (z_on_t (z_on_t (z_on_h rfl (by omega) (by omega))))))))) | exact z_on_t (z_on_t (z_on_t (z_on_t (z_on_t (z_on_t (z_on_t (z_on_t (z_on_t (z_on_h rfl (by omega) (by omega)))))))))) | exact z_on_t (z_on_t (z_on_t (z_on_t (z_on_t (z_on_t (z_on_t (z_on_t (z_on_t (z_on_t (z_on_h rfl (by omega) (by omega))))))))))) | exact z_on_t (z_on_t (z_on_t (z_on_t (z_on_t (z_on_t (z_on_t (z_on_t (z_on_t (z_on_t (z_on_t (z_on_h rfl (by omega) (by omega)))))))))))) | exact z_on_t (z_on_t (z_on_t (z_on_t (z_on_t (z_on_t (z_on_t (z_on_t (z_on_t (z_on_t (z_on_t (z_on_t (z_on_h rfl (by omega) (by omega))))))))))))))
    rw [v_tch_20, if_neg (by omega), if_pos (show 0 ≤ (x : Int) ∧ (x : Int) < 5 by omega), Int.toNat_natCast, tc1]
    generalize z_up m 268 x 0 = m0 at hi1 gz gs ⊢
    obtain ⟨m1, a1, a2, a3, a4⟩ := ih (x + 1) m0 (by omega) hi1 gz
    exact ⟨m1, a1, a2, a3, gs.tr a4⟩
theorem R_chg2 (h5 : n ≤ 5) {N k : Int} (hwm : ∀ p, p < 5 → 0 ≤ wmD D (B 35) p ∧ wmD D (B 35) p ≤ 9) (ht : 0 ≤ B 35 ∧ B 35 ≤ 2147483647) : ∀ (f x : Nat) (S : Nat → Int) (m : z_M), x + f = n → R_is w h n heat price D A c U kn KS cs m → rS m 264 n = B → (∀ j, j < n → m 268 j = S j) → (∀ j, x ≤ j → j < n → 0 ≤ S j ∧ S j ≤ 10000) → ∃ m1, z_R 242 (m, 47, [(2, 251), (0, N), (0, k), (0, (x : Int))], []) = z_R 242 (m1, 47, [(2, 251), (0, N), (0, k), (0, (n : Int))], []) ∧ R_is w h n heat price D A c U kn KS cs m1 ∧ rS m1 264 n = B ∧ (∀ j, j < n → m1 268 j = v_w (wmD D (B 35)) B f x S j) := by
  intro f
  induction f with
  | zero =>
    intro x S m hx hi hB hS hb
    obtain rfl : x = n := by omega
    exact ⟨m, rfl, hi, hB, hS⟩
  | succ f ih =>
    intro x S m hx hi hB hS hb
    have e3 := hi.1.2.2.1
    have e18 : m 264 (x + 18) = B (x + 18) := by
      rw [← hB]
      exact (rS_at (by omega) (a_vis_p (b := 18) (p := x) (by omega) (by omega) (by omega) (by omega))).symm
    have e35 : m 264 35 = B 35 := by
      rw [← hB]
      exact (rS_at (by decide) (a_vis_hi (by decide))).symm
    have hw := hwm x (by omega)
    have hS0 := hS x (by omega)
    have hb0 := hb x (Nat.le_refl _) (by omega)
    -- what is laid into the sum of x
    have lay : ∀ y : Int, y = v_d (wmD D (B 35)) B x → R_is w h n heat price D A c U kn KS cs (z_up m 268 x (S x + y)) ∧ rS (z_up m 268 x (S x + y)) 264 n = B ∧ (∀ j, j < n → (z_up m 268 x (S x + y)) 268 j = u_up S x (S x + v_d (wmD D (B 35)) B x) j) := by
      intro y hy
      refine ⟨R_upn hi (by
        have : ∀ x, x < 5 → R_hit 268 x x = false := by decide +kernel
        exact this x (by omega)), ?_, fun j hj => ?_⟩
      · rw [← hB]
        exact rS_cp fun k _ => zu_p (by decide)
      · by_cases e : j = x
        · rw [e, zu_self, u_up_self, hy]
        · rw [zu_k e, u_up_ne e]; exact hS j hj
    rw [v_tch_47 m N k x (by omega), e3, if_neg (by omega), if_pos (show 0 ≤ (x : Int) ∧ (x : Int) < 5 by omega), Int.toNat_natCast, show ((x : Int) + 18).toNat = x + 18 by omega, e18, hS0, tc1]
    show ∃ m1 : z_M, _ ∧ _ ∧ _ ∧ (∀ j, j < n → m1 268 j = v_w (wmD D (B 35)) B f (x + 1) (u_up S x (S x + v_d (wmD D (B 35)) B x)) j)
    by_cases z : B (x + 18) = -1
    · obtain ⟨g1, g2, g3⟩ := lay 0 (show (0 : Int) = v_d (wmD D (B 35)) B x from (if_pos z).symm)
      rw [if_pos z, z_add_eq (x := S x) (y := 0) (by omega) (by omega)]
      exact ih (x + 1) _ _ (by omega) g1 g2 g3 (fun j h1 hj => by
        rw [u_up_ne (by omega)]; exact hb j (by omega) hj)
    · obtain ⟨g1, g2, g3⟩ := lay (wmD D (B 35) x) (show wmD D (B 35) x = v_d (wmD D (B 35)) B x from (if_neg z).symm)
      have ew : z_R 186 (m, 0, [(2, 251), (2, 264), (0, (x : Int))], []) = some (m, some (0, rwm m x (B 35))) := r_wo z_A_264 (Or.inr rfl) m (by omega) e35 ht.1 ht.2
      have ec : rwm m x (B 35) = wmD D (B 35) x := rwm_D hi.1.2.2.2.2.2 hi.2.1 ht.1 (by omega)
      rw [if_neg z, ew, zb_v, v_tch_88, if_pos (show 0 ≤ (x : Int) ∧ (x : Int) < 5 by omega), Int.toNat_natCast, ec, z_add_eq (x := S x) (by omega) (by omega), z_add_eq (x := (x : Int)) (y := 1) (by omega) (by omega), tc1]
      exact ih (x + 1) _ _ (by omega) g1 g2 g3 (fun j h1 hj => by
        rw [u_up_ne (by omega)]; exact hb j (by omega) hj)
theorem R_chg4 {S : Nat → Int} {K : Int} (hK : K ≤ 10000) {N : Int} (h5 : n ≤ 5) (hS : ∀ j, j < n → 0 ≤ S j ∧ S j ≤ K) : ∀ (f x : Nat) (b : Int) (m : z_M), x + f = n → R_is w h n heat price D A c U kn KS cs m → m 251 10 = (x : Int) → (∀ j, j < n → m 268 j = S j) → 0 ≤ b ∧ b ≤ K → ∃ m1, z_R 242 (m, 119, [(2, 251), (0, N), (0, b), (0, (x : Int))], []) = some (m1, some (0, v_m S f x b)) ∧ R_is w h n heat price D A c U kn KS cs m1 := by
  intro f
  induction f with
  | zero =>
    intro x b m hx hi h10 hm hb
    have e3 := hi.1.2.2.1
    rw [v_tch_119 m N b x (by omega), e3, if_pos (by omega)]
    exact ⟨m, rfl, hi⟩
  | succ f ih =>
    intro x b m hx hi h10 hm hb
    have e3 := hi.1.2.2.1
    have hS0 := hS x (by omega)
    have hi1 : R_is w h n heat price D A c U kn KS cs (z_up (z_up m 255 x (S x)) 251 10 ((x + 1 : Nat) : Int)) := R_upn (R_upn hi (by
      have : ∀ x, x < 5 → R_hit 255 x x = false := by decide +kernel
      exact this x (by omega))) (by decide)
    have g10 : (z_up (z_up m 255 x (S x)) 251 10 ((x + 1 : Nat) : Int)) 251 10 = ((x + 1 : Nat) : Int) := zu_self
    have gm : ∀ j, j < n → (z_up (z_up m 255 x (S x)) 251 10 ((x + 1 : Nat) : Int)) 268 j = S j := fun j hj => by
      rw [zu_p (by decide), zu_p (by decide)]
      exact hm j hj
    rw [v_tch_119 m N b x (by omega), e3, if_neg (by omega), if_pos (show 0 ≤ (x : Int) ∧ (x : Int) < 5 by omega), Int.toNat_natCast, hm x (by omega), z_i2l_eq (by omega) (by omega), t_tell (j := x) m _ (by omega) h10, zb_n, v_tch_138, if_pos (show 0 ≤ (x : Int) ∧ (x : Int) < 5 by omega), Int.toNat_natCast, gm x (by omega), tc1]
    generalize z_up (z_up m 255 x (S x)) 251 10 ((x + 1 : Nat) : Int) = m0 at hi1 g10 gm ⊢
    exact ih (x + 1) _ m0 (by omega) hi1 g10 gm (v_mb hS (by omega) hb)
theorem R_chg3 (hN : w_N w h n heat D) {N : Nat} (hN6 : N ≤ 100) : ∀ (f k : Nat) (v3 : z_V) (B S : Nat → Int) (m : z_M), k + f = N → R_is w h n heat price D A c U kn KS cs m → rS m 264 n = B → hr_ok n B → 0 ≤ B 35 → B 35 + (f : Int) ≤ 2147483647 → (∀ j, j < n → m 268 j = S j) → (∀ j, j < n → 0 ≤ S j ∧ S j ≤ 9 * (k : Int)) → ∃ m1, z_R 242 (m, 40, [(2, 251), (0, (N : Int)), (0, (k : Int)), v3], []) = some (m1, some (0, v_m (v_H w h n heat price cs D f B S) n 0 0)) ∧ R_is w h n heat price D A c U kn KS cs m1 := by
  have h5 := hN.1.2.2
  intro f
  induction f with
  | zero =>
    intro k v3 B S m hk hi hB hok ht ht2 hS hb
    have hi1 : R_is w h n heat price D A c U kn KS cs (z_up m 251 10 0) := R_upn hi (by decide)
    have g10 : (z_up m 251 10 0) 251 10 = ((0 : Nat) : Int) := zu_self
    have gm : ∀ j, j < n → (z_up m 251 10 0) 268 j = S j := fun j hj => by
      rw [zu_p (by decide)]
      exact hS j hj
    rw [v_tch_40, if_pos (by omega)]
    generalize z_up m 251 10 0 = m0 at hi1 g10 gm ⊢
    exact R_chg4 (S := S) (K := 9 * (k : Int)) (by omega) (N := (N : Int)) h5 hb n 0 0 m0 (by omega) hi1 g10 gm ⟨Int.le_refl _, by omega⟩
  | succ f ih =>
    intro k v3 B S m hk hi hB hok ht ht2 hS hb
    have ht2' : B 35 + ((f : Int) + 1) ≤ 2147483647 := by omega
    obtain ⟨m1, a1, a2, a3, a4⟩ := R_chg2 h5 (N := (N : Int)) (k := (k : Int)) (hN.2.2 (B 35) ht) ⟨ht, by omega⟩ n 0 S m (by omega) hi hB hS (fun j _ hj => by have := hb j hj; omega)
    have a1 : z_R 242 (m, 47, [(2, 251), (0, (N : Int)), (0, (k : Int)), (0, 0)], []) = z_R 242 (m1, 47, [(2, 251), (0, (N : Int)), (0, (k : Int)), (0, (n : Int))], []) := a1
    have e3 := a2.1.2.2.1
    obtain ⟨m2, b1, b2, b3, b4, b5, b6, b7⟩ := r_hour (a := 264) z_A_264 (Or.inr rfl) hN.1.1 hN.1.2.1 (price := price) ⟨hN.1.2.2, hN.2.1, c_ml_ok cs, hN.2.2⟩ m1 (R_cfg a2) a3 hok ht (by omega)
    have b1 : z_R 208 (m1, 0, [(2, 251), (2, 264), (9, 0), (9, 0), (9, 0)], []) = some (m2, none) := b1
    have s1 : z_same (r_LHs 264) m1 m2 := b7.subo (by (try unfold r_LHs); (repeat' (first | exact trivial | refine z_sbo_c ?_ ?_)) <;> (intro k h1 h2; first | exact z_on_h rfl (by omega) (by omega) | exact z_on_t (z_on_h rfl (by omega) (by omega)) | exact z_on_t (z_on_t (z_on_h rfl (by omega) (by omega))) | exact z_on_t (z_on_t (z_on_t (z_on_h rfl (by omega) (by omega)))) | exact z_on_t (z_on_t (z_on_t (z_on_t (z_on_h rfl (by omega) (by omega))))) | exact z_on_t (z_on_t (z_on_t (z_on_t (z_on_t (z_on_h rfl (by omega) (by omega)))))) | exact z_on_t (z_on_t (z_on_t (z_on_t (z_on_t (z_on_t (z_on_h rfl (by omega) (by omega))))))) | exact z_on_t (z_on_t (z_on_t (z_on_t (z_on_t (z_on_t (z_on_t (z_on_h rfl (by omega) (by omega)))))))) | exact z_on_t (z_on_t (z_on_t (z_on_t (z_on_t (z_on_t (z_on_t (z_on_t (z_on_h rfl (by omega) (by omega))))))))) | exact z_on_t (z_on_t (z_on_t (z_on_t (z_on_t (z_on_t (z_on_t (z_on_t (z_on_t (z_on_h rfl (by omega) (by omega)))))))))) | exact z_on_t (z_on_t (z_on_t (z_on_t (z_on_t (z_on_t (z_on_t (z_on_t (z_on_t (z_on_t (z_on_h rfl (by omega) (by omega))))))))))) | exact z_on_t (z_on_t (z_on_t (z_on_t (z_on_t (z_on_t (z_on_t (z_on_t (z_on_t (z_on_t (z_on_t (z_on_h rfl (by omega) (by omega)))))))))))) | exact z_on_t (z_on_t (z_on_t (z_on_t (z_on_t (z_on_t (z_on_t (z_on_t (z_on_t (z_on_t (z_on_t (z_on_t (z_on_h rfl (by omega) (by omega)))))))))))))))
    have hok' := hr_A_ok (price := price) hN.1.1 hN.1.2.1 hN.1.2.2 hN.2.1 (c_ml_ok cs) (hN.2.2 (B 35) ht) hok
    have e35 : hr_A w h heat price (c_ml cs) (wmD D (B 35)) n B 35 = B 35 + 1 := by rw [hr_A_35 hN.1.1 hN.1.2.1 hN.1.2.2, z_add_eq (by omega) (by omega)]
    have hS2 : ∀ j, j < n → m2 268 j = v_w (wmD D (B 35)) B n 0 S j := fun j hj => (s1.of (p := 268) (k := j) (by (try unfold r_LHs); (repeat' (first | exact trivial | refine z_of_c ?_ ?_)) <;> omega)).trans (a4 j hj)
    obtain ⟨m3, c1, c2⟩ := ih (k + 1) (0, (n : Int)) _ (v_w (wmD D (B 35)) B n 0 S) m2 (by omega) (R_off264 a2 s1) b2 hok' (by omega) (by omega) hS2 (fun j hj => by
      have := v_w_b (K := 9 * (k : Int)) (A := B) h5 (hN.2.2 (B 35) ht) hb j hj
      omega)
    rw [v_tch_40, if_neg (by omega), a1, v_tch_47 m1 N k n (by omega), e3, if_pos (Int.le_refl _), b1, zb_n, v_tch_104, z_add_eq (x := (k : Int)) (y := 1) (by omega) (by omega), tc1, c1]
    exact ⟨m3, rfl, c2⟩
theorem R_charges (hi : R_is w h n heat price D A c U kn KS cs m) (hN : w_N w h n heat D) (hok : hr_ok n A) (ht : 0 ≤ A 35 ∧ A 35 ≤ 1073741824) (a : Int) : ∃ m1, z_R 242 (m, 0, [(2, 251), (0, a), (9, 0), (9, 0)], []) = some (m1, some (0, v_A w h n heat price cs D A a)) ∧ R_is w h n heat price D A c U kn KS cs m1 := by
  have hu := R_upn (p0 := 251) (k0 := 11) (v := 0) hi (by decide)
  rw [v_tch_0, R_isl]
  generalize z_up m 251 11 0 = m0 at hu ⊢
  by_cases c1 : 0 ≤ a ∧ a ≤ 100
  · obtain ⟨N, rfl⟩ : ∃ N : Nat, a = (N : Int) := ⟨a.toNat, by omega⟩
    have e : v_A w h n heat price cs D A (N : Int) = v_m (v_H w h n heat price cs D (N : Int).toNat A (fun _ => 0)) n 0 0 := if_pos c1
    rw [Int.toNat_natCast] at e
    obtain ⟨m1, b1, b2, b3⟩ := R_lt hu
    obtain ⟨m2, d1, d2, d3, d4⟩ := R_chg1 (N := (N : Int)) 5 0 m1 (by decide) b2 (fun j hj => absurd hj (by omega))
    have d1 : z_R 242 (m1, 20, [(2, 251), (0, (N : Int)), (0, 0), (9, 0)], []) = z_R 242 (m2, 40, [(2, 251), (0, (N : Int)), (0, 0), (9, 0)], []) := d1
    have hA2 : rS m2 264 n = A := by
      rw [← b3]
      exact rS_cp fun k _ => d4.of (by (try unfold r_LHs); (repeat' (first | exact trivial | refine z_of_c ?_ ?_)) <;> omega)
    obtain ⟨m3, g1, g2⟩ := R_chg3 hN (N := N) (by omega) N 0 (9, 0) A (fun _ => 0) m2 (by omega) d2 hA2 hok ht.1 (by omega) (fun j hj => d3 j (by have := hN.1.2.2; omega)) (fun j hj => ⟨Int.le_refl _, by omega⟩)
    have g1 : z_R 242 (m2, 40, [(2, 251), (0, (N : Int)), (0, 0), (9, 0)], []) = some (m3, some (0, v_m (v_H w h n heat price cs D N A (fun _ => 0)) n 0 0)) := g1
    rw [if_pos c1, zb_v, v_tch_9, if_neg (show ¬ (1 : Int) = 0 by decide), b1, zb_n, v_tch_18, d1, g1, e]
    exact ⟨m3, rfl, g2⟩
  · have e : v_A w h n heat price cs D A a = -1 := if_neg c1
    rw [if_neg c1, zb_v, v_tch_9, if_pos rfl, e]
    exact ⟨m0, rfl, hu⟩
end
theorem core_charges : l_rel2 Rel_C (899, 136, 123, 1, true, 909, 139, 242) := by
  intro M1 M2 M3 σ σ1 σ2 as v1 v2 C1 C2 ρ1 ρ2 ha hR hh hM1 hC1 hp1 hE1 hC2 hp2 hE2
  obtain ⟨a, rfl⟩ := as_one ha
  have hE1 : z_R 123 (z_m σ, 0, [(2, 0), (0, a.toInt), (9, 0), (9, 0), (9, 0)], []) = some (z_m σ1, some (0, v1.toInt)) := z_R_iff.mpr hE1
  have hE2 : z_R 242 (z_m σ1, 0, [(2, 251), (0, a.toInt), (9, 0), (9, 0)], []) = some (z_m σ2, some (0, v2.toInt)) := z_R_iff.mpr hE2
  have hT := T_two (y1 := 123) (y2 := 242) (by decide +kernel) (by decide +kernel) hC1 hC2 hp1 hp2 hR.1
  obtain ⟨w, h, n, heat, price, D, A, c, U, kn, KS, cs, cC, cR, cW⟩ := hR.2
  obtain ⟨b1, b2, -, -, hok, b35, -, b7⟩ := core_b hh hM1 cR
  have hN : w_N w h n heat D := ⟨b1, b2, b7⟩
  have kk := core_24 hh
  have f1 := R_off2_ok (y := 123) (by decide +kernel) hC1 hp1
  have f2 := C_off_ok (y := 242) (by decide +kernel) hC2 hp2
  have cR1 := R_fr cR f1
  have z := core_do cR1 (fun q => C_fr q f2) (C_charges cC hN hok b35 kk.1 kk.2 a.toInt) (fun q => R_charges q hN hok b35 a.toInt) hE1 hE2
  exact ⟨⟨hT, Core_mk z.1.1 z.1.2 cW⟩, fun _ => z.2⟩
end
section
/-! WHAT IS KEPT: both texts alike, and both are in one and the same -/
def Rel_0 (σ : m_H) : Prop := Rel_C σ
theorem rel_start : ∀ σ, xs_is σ → Rel_0 σ := core_start
theorem rel_off {c : l_C} (h : ((core_offb c.2.2.1 && core_offb c.2.2.2.2.2.2.2) && (rel_offb c.2.2.1 && (rel_offb c.2.2.2.2.2.2.2 && !c.2.2.2.2.1))) = true) : l_rel2 Rel_0 c := by
  obtain ⟨h1, h2⟩ := Bool.and_eq_true _ _ |>.mp h
  exact core_q (R_off h2) h1
theorem rel_sign : l_rel2 Rel_0 (219, 26, 14, 1, false, 230, 30, 160) := core_q R_sign (by decide +kernel)
theorem rel_end : l_rel2 Rel_0 (244, 31, 16, 1, false, 255, 35, 161) := core_q R_end (by decide +kernel)
theorem rel_quiet : l_rel2 Rel_0 (836, 124, 110, 1, false, 847, 127, 233) := core_quiet rfl
theorem rel_cases : ∀ c ∈ law_cs, l_rel2 Rel_0 c := by
  unfold law_cs
  refine List.forall_mem_cons.mpr ⟨rel_sign, ?_⟩
  refine List.forall_mem_cons.mpr ⟨rel_end, ?_⟩
  refine List.forall_mem_cons.mpr ⟨core_house, ?_⟩
  refine List.forall_mem_cons.mpr ⟨core_people, ?_⟩
  refine List.forall_mem_cons.mpr ⟨core_rule, ?_⟩
  refine List.forall_mem_cons.mpr ⟨core_set, ?_⟩
  refine List.forall_mem_cons.mpr ⟨core_doing, ?_⟩
  refine List.forall_mem_cons.mpr ⟨core_sheet, ?_⟩
  refine List.forall_mem_cons.mpr ⟨core_move, ?_⟩
  refine List.forall_mem_cons.mpr ⟨core_stove, ?_⟩
  refine List.forall_mem_cons.mpr ⟨core_hour, ?_⟩
  refine List.forall_mem_cons.mpr ⟨core_hours, ?_⟩
  refine List.forall_mem_cons.mpr ⟨core_pay, ?_⟩
  refine List.forall_mem_cons.mpr ⟨core_winter, ?_⟩
  refine List.forall_mem_cons.mpr ⟨core_undo, ?_⟩
  refine List.forall_mem_cons.mpr ⟨rel_off (by decide +kernel), ?_⟩
  refine List.forall_mem_cons.mpr ⟨rel_off (by decide +kernel), ?_⟩
  refine List.forall_mem_cons.mpr ⟨rel_off (by decide +kernel), ?_⟩
  refine List.forall_mem_cons.mpr ⟨rel_off (by decide +kernel), ?_⟩
  refine List.forall_mem_cons.mpr ⟨rel_off (by decide +kernel), ?_⟩
  refine List.forall_mem_cons.mpr ⟨rel_off (by decide +kernel), ?_⟩
  refine List.forall_mem_cons.mpr ⟨rel_quiet, ?_⟩
  refine List.forall_mem_cons.mpr ⟨rel_off (by decide +kernel), ?_⟩
  refine List.forall_mem_cons.mpr ⟨rel_off (by decide +kernel), ?_⟩
  refine List.forall_mem_cons.mpr ⟨core_charges, ?_⟩
  refine List.forall_mem_cons.mpr ⟨rel_off (by decide +kernel), ?_⟩
  refine List.forall_mem_cons.mpr ⟨rel_off (by decide +kernel), ?_⟩
  refine List.forall_mem_cons.mpr ⟨rel_off (by decide +kernel), ?_⟩
  refine List.forall_mem_cons.mpr ⟨rel_off (by decide +kernel), ?_⟩
  refine List.forall_mem_cons.mpr ⟨rel_off (by decide +kernel), ?_⟩
  refine List.forall_mem_cons.mpr ⟨rel_off (by decide +kernel), ?_⟩
  refine List.forall_mem_cons.mpr ⟨rel_off (by decide +kernel), ?_⟩
  refine List.forall_mem_cons.mpr ⟨rel_off (by decide +kernel), ?_⟩
  refine List.forall_mem_cons.mpr ⟨core_season, ?_⟩
  refine List.forall_mem_cons.mpr ⟨core_keep, ?_⟩
  refine List.forall_mem_cons.mpr ⟨core_again, ?_⟩
  refine List.forall_mem_cons.mpr ⟨rel_off (by decide +kernel), ?_⟩
  exact fun _ h => absurd h List.not_mem_nil
theorem rel_5 : l_rel3 Rel_0 181 2 := core_q3 (R3_off (by decide +kernel)) (by decide +kernel)
theorem rel_6 : l_rel3 Rel_0 190 2 := core_q3 (R3_off (by decide +kernel)) (by decide +kernel)
theorem rel_39 : l_rel3 Rel_0 261 1 := core_q3 (R3_off (by decide +kernel)) (by decide +kernel)
end
