/-! HOW MANY NUMBERS ARE TOLD, in both -/
def c_ln (m m1 : z_M) : Option Nat → Prop
  | none => m1 0 13 = m 0 13
  | some k => m1 0 13 = (k : Int)
def r_ln (m m1 : z_M) : Option Nat → Prop
  | none => m1 251 10 = m 251 10
  | some k => m1 251 10 = (k : Int)
theorem c_ln_n {m : z_M} {o : Option Nat} (h : o = none) : c_ln m m o := by
  subst h
  rfl
theorem c_ln_s {m m1 : z_M} {o : Option Nat} {k : Nat} (h : o = some k) (hc : m1 0 13 = (k : Int)) : c_ln m m1 o := by
  subst h
  exact hc
theorem r_ln_n {m m1 : z_M} {o : Option Nat} (hm : m1 251 10 = m 251 10) (h : o = none) : r_ln m m1 o := by
  subst h
  exact hm
theorem r_ln_s {m m1 : z_M} {o : Option Nat} {k : Nat} (h : o = some k) (hc : m1 251 10 = (k : Int)) : r_ln m m1 o := by
  subst h
  exact hc
theorem c_rw_ln {m m1 : z_M} {o : Option (List Int)} (h : c_rw m m1 o) : c_ln m m1 (o.map List.length) := by
  cases o with
  | none => exact h.1
  | some l => exact h.1
theorem r_rw_ln {m m1 : z_M} {o : Option (List Int)} (h : r_rw m m1 o) : r_ln m m1 (o.map List.length) := by
  cases o with
  | none => exact h.1
  | some l => exact h.1
def ln_Q (m m1 m2 : z_M) : Prop := ∃ o, c_ln m m1 o ∧ r_ln m1 m2 o
def rw_Q (m m1 m2 : z_M) : Prop := ∃ o, c_rw m m1 o ∧ r_rw m1 m2 o
/-- what a case's two calls leave -/
def l_twR (R : m_H → Prop) (Q : z_M → z_M → z_M → Prop) (c : l_C) : Prop := ∀ (M1 M2 M3 : Int) (σ σ1 σ2 : m_H) (as : List Int32) (v1 v2 : Int32) (C1 C2 : A_C) (ρ1 ρ2 : List Int), as.length = c.2.2.2.1 → R σ → h_ok M1 σ → M1 ≤ 1073741824 →
  C1 ∈ cs_at c.2.2.1 → c_post C1.2.2.2.2.2.2.2.1 C1.2.2.2.2.1 M2 ρ1 σ (some (.int v1)) σ1 → z_Ev c.2.2.1 (z_m σ, 0, z_fr c.2.2.1 (z_s (.ref 0 :: as.map Value.int)), []) (z_m σ1, some (0, v1.toInt)) →
  C2 ∈ cs_at c.2.2.2.2.2.2.2 → c_post C2.2.2.2.2.2.2.2.1 C2.2.2.2.2.1 M3 ρ2 σ1 (some (.int v2)) σ2 → z_Ev c.2.2.2.2.2.2.2 (z_m σ1, 0, z_fr c.2.2.2.2.2.2.2 (z_s (.ref 251 :: as.map Value.int)), []) (z_m σ2, some (0, v2.toInt)) → Q (z_m σ) (z_m σ1) (z_m σ2)
abbrev l_two (Q : z_M → z_M → z_M → Prop) (c : l_C) : Prop := l_twR Rel_C Q c
theorem l_two_ln {c : l_C} (h : l_two rw_Q c) : l_two ln_Q c := by
  intro M1 M2 M3 σ σ1 σ2 as v1 v2 C1 C2 ρ1 ρ2 ha hR hh hM1 hC1 hp1 hE1 hC2 hp2 hE2
  obtain ⟨o, a, b⟩ := h M1 M2 M3 σ σ1 σ2 as v1 v2 C1 C2 ρ1 ρ2 ha hR hh hM1 hC1 hp1 hE1 hC2 hp2 hE2
  exact ⟨o.map List.length, c_rw_ln a, r_rw_ln b⟩
theorem s_mem {m m' : z_M} {x y : Option z_V} (h : (some (m, x) : Option z_Q) = some (m', y)) : m' = m := (congrArg Prod.fst (Option.some.inj h)).symm
theorem rw_do {y1 y2 : Nat} {G1 G2 : z_G} {m m1 m2 : z_M} {r1 r2 : Option z_V} {o : Option (List Int)} (hE1 : z_R y1 G1 = some (m1, r1)) (hE2 : z_R y2 G2 = some (m2, r2)) (hc : ∃ m' r, z_R y1 G1 = some (m', r) ∧ c_rw m m' o) (hr : ∃ m' r, z_R y2 G2 = some (m', r) ∧ r_rw m1 m' o) : rw_Q m m1 m2 := by
  obtain ⟨m', r, a1, a2⟩ := hc
  obtain ⟨m'', r', b1, b2⟩ := hr
  rw [← s_mem (a1.symm.trans hE1)] at a2
  rw [← s_mem (b1.symm.trans hE2)] at b2
  exact ⟨o, a2, b2⟩
theorem ln_do {y1 y2 : Nat} {G1 G2 : z_G} {m m1 m2 : z_M} {r1 r2 : Option z_V} {o : Option Nat} (hE1 : z_R y1 G1 = some (m1, r1)) (hE2 : z_R y2 G2 = some (m2, r2)) (hc : ∃ m' r, z_R y1 G1 = some (m', r) ∧ c_ln m m' o) (hr : ∃ m' r, z_R y2 G2 = some (m', r) ∧ r_ln m1 m' o) : ln_Q m m1 m2 := by
  obtain ⟨m', r, a1, a2⟩ := hc
  obtain ⟨m'', r', b1, b2⟩ := hr
  rw [← s_mem (a1.symm.trans hE1)] at a2
  rw [← s_mem (b1.symm.trans hE2)] at b2
  exact ⟨o, a2, b2⟩
/-! what a contract tells of it, where it was not refused -/
def ln_neg (r : Option A_V) : Bool := match r with
  | some a => Nat.beq a.1 0 && decide (a.2.2 < 0)
  | none => false
def ln_ck (y p k : Nat) (x : Int) : Bool := (cs_at y).all fun C => C.2.2.2.2.2.2.2.1.all fun q => ln_neg q.2.2.1 || q.2.2.2.any fun u => Nat.beq u.1.1 p && (Nat.beq u.1.2 k && (Nat.beq u.2.1 0 && i_eq u.2.2.2 x))
theorem ln_ck_ok {y p k : Nat} {x : Int} (h : ln_ck y p k x = true) {C : A_C} (hC : C ∈ cs_at y) {T : Int} {ρ : List Int} {σ σ' : m_H} {v : Int32} (hv : 0 ≤ v.toInt) (hp : c_post C.2.2.2.2.2.2.2.1 C.2.2.2.2.1 T ρ σ (some (.int v)) σ') : z_m σ' p k = x := by
  obtain ⟨q, hq, ρ', c1, c2, c3, c4, c5, c6, c7⟩ := hp
  rcases Bool.or_eq_true _ _ |>.mp (List.all_eq_true.mp (List.all_eq_true.mp h C hC) q hq) with hn | ha
  · exfalso
    obtain ⟨E, F, ro, ov⟩ := q
    cases ro with
    | none => cases hn
    | some a =>
      obtain ⟨a1, a2, a3⟩ := a
      obtain ⟨n1, n2⟩ := Bool.and_eq_true _ _ |>.mp hn
      have g : a1 = 0 := Nat.eq_of_beq_eq_true n1
      have g2 : a3 < 0 := of_decide_eq_true n2
      clear n1 n2 hn
      subst g
      obtain ⟨x', e1, e2⟩ : ∃ x' : Int32, Value.int v = .int x' ∧ x'.toInt = a3 := c4
      have := Value.int.inj e1
      rw [this, e2] at hv
      omega
  · obtain ⟨u, hu, hb⟩ := List.any_eq_true.mp ha
    obtain ⟨b1, hb⟩ := Bool.and_eq_true _ _ |>.mp hb
    obtain ⟨b2, hb⟩ := Bool.and_eq_true _ _ |>.mp hb
    obtain ⟨b3, b4⟩ := Bool.and_eq_true _ _ |>.mp hb
    have g1 := Nat.eq_of_beq_eq_true b1
    have g2 := Nat.eq_of_beq_eq_true b2
    have g3 := Nat.eq_of_beq_eq_true b3
    have g4 := i_eq_iff.mp b4
    obtain ⟨v, v1, v2⟩ := c6 u hu
    clear b1 b2 b3 b4
    obtain ⟨⟨up, uk⟩, ut, un, uc⟩ := u
    simp only at g1 g2 g3 g4 v1 v2
    subst g1; subst g2; subst g3; subst g4
    obtain ⟨x, rfl, hx⟩ : ∃ x : Int32, v = .int x ∧ x.toInt = uc := v2
    unfold z_m
    rw [v1]
    exact hx
section
variable {w h n : Nat} {heat price : Int} {D A : Nat → Int} {c : Nat} {U : Nat → Nat → Int} {kn : Nat → Int} {KS : Nat → Nat → Int} {cs : List Int} {m : z_M}
theorem V_hours_no (v : Int) (ok : ¬ (0 ≤ v ∧ v ≤ 60)) : ∃ m1 u, z_R 205 (m, 0, [(2, 251), (0, v)], []) = some (m1, u) ∧ r_rw m m1 none := ⟨z_up m 251 11 0, _, by rw [t_hours_0, if_neg ok], r_rw_11⟩
/-! charges -/
def rw_of (n : Nat) (S : Nat → Int) : List Int := (List.range n).map S
theorem rw_of_len {n : Nat} {S : Nat → Int} : (rw_of n S).length = n := by
  unfold rw_of
  rw [List.length_map, List.length_range]
theorem rw_of_at {n i : Nat} {S : Nat → Int} (h : i < n) : (rw_of n S).getD i 0 = S i := by
  unfold rw_of
  rw [List.getD_eq_getElem?_getD, List.getElem?_map, List.getElem?_range h]
  rfl
theorem c_rw_of {mz m1 : z_M} {S : Nat → Int} (h1 : m1 0 13 = (n : Int)) (h2 : ∀ j, j < n → m1 250 j = S j) : c_rw mz m1 (some (rw_of n S)) := ⟨by rw [rw_of_len]; exact h1, fun i hi => by
  rw [rw_of_len] at hi
  rw [rw_of_at hi]
  exact h2 i hi⟩
theorem r_rw_of {mz m1 : z_M} {S : Nat → Int} (h1 : m1 251 10 = (n : Int)) (h2 : ∀ j, j < n → m1 255 j = S j) : r_rw mz m1 (some (rw_of n S)) := ⟨by rw [rw_of_len]; exact h1, fun i hi => by
  rw [rw_of_len] at hi
  rw [rw_of_at hi]
  exact h2 i hi⟩
def ro_chg (w h n : Nat) (heat price : Int) (cs : List Int) (D A : Nat → Int) (a : Int) : Option (List Int) := if 0 ≤ a ∧ a ≤ 100 then some (rw_of n (v_H w h n heat price cs D a.toNat A (fun _ => 0))) else none
theorem W_chg1 (h5 : n ≤ 5) {N : Int} : ∀ (f x : Nat) (m : z_M), x + f = n → C_is w h n heat price D A c U kn KS cs m → m 0 13 = (x : Int) → (∀ j, j < x → m 250 j = 0) → ∃ m1, z_R 123 (m, 29, [(2, 0), (0, N), (0, (x : Int)), (9, 0), (9, 0)], []) = z_R 123 (m1, 53, [(2, 0), (0, N), (0, 0), (9, 0), (9, 0)], []) ∧ C_is w h n heat price D A c U kn KS cs m1 ∧ (∀ j, j < n → m1 250 j = 0) ∧ z_same [(0, 13, 13), (250, 0, 8)] m m1 ∧ m1 0 13 = (n : Int) := by
  intro f
  induction f with
  | zero =>
    intro x m hx hi h13 hz
    have e11 := hi.1.2.2.1
    rw [v_chg_29 m N x (by omega), e11, if_pos (by omega)]
    exact ⟨m, rfl, hi, fun j hj => hz j (by omega), z_same.rf, h13.trans (by omega)⟩
  | succ f ih =>
    intro x m hx hi h13 hz
    have e11 := hi.1.2.2.1
    have hi1 : C_is w h n heat price D A c U kn KS cs (z_up (z_up m 250 x 0) 0 13 ((x + 1 : Nat) : Int)) := C_upn (C_upn hi (by
      have : ∀ x, x < 5 → C_hit 250 x x = false := by decide +kernel
      exact this x (by omega))) (by decide)
    have g13 : (z_up (z_up m 250 x 0) 0 13 ((x + 1 : Nat) : Int)) 0 13 = ((x + 1 : Nat) : Int) := zu_self
    have gz : ∀ j, j < x + 1 → (z_up (z_up m 250 x 0) 0 13 ((x + 1 : Nat) : Int)) 250 j = 0 := fun j hj => by
      rw [zu_p (by decide)]
      by_cases e : j = x
      · rw [e, zu_self]
      · rw [zu_k e]; exact hz j (by omega)
    have gs : z_same [(0, 13, 13), (250, 0, 8)] m (z_up (z_up m 250 x 0) 0 13 ((x + 1 : Nat) : Int)) := (z_same.rf.upo (by (try unfold r_LHs); first | exact z_on_h rfl (by omega) (by omega) | exact z_on_t (z_on_h rfl (by omega) (by omega)) | exact z_on_t (z_on_t (z_on_h rfl (by omega) (by omega))) | exact z_on_t (z_on_t (z_on_t (z_on_h rfl (by omega) (by omega)))) | exact z_on_t (z_on_t (z_on_t (z_on_t (z_on_h rfl (by omega) (by omega))))) | exact z_on_t (z_on_t (z_on_t (z_on_t (z_on_t (z_on_h rfl (by omega) (by omega)))))) | exact z_on_t (z_on_t (z_on_t (z_on_t (z_on_t (z_on_t (z_on_h rfl (by omega) (by omega))))))) | exact z_on_t (z_on_t (z_on_t (z_on_t (z_on_t (z_on_t (z_on_t (z_on_h rfl (by omega) (by omega)))))))) | exact z_on_t (z_on_t (z_on_t (z_on_t (z_on_t (z_on_t (z_on_t (z_on_t (z_on_h rfl (by omega) (by omega))))))))) | exact z_on_t (z_on_t (z_on_t (z_on_t (z_on_t (z_on_t (z_on_t (z_on_t (z_on_t (z_on_h rfl (by omega) (by omega)))))))))) | exact z_on_t (z_on_t (z_on_t (z_on_t (z_on_t (z_on_t (z_on_t (z_on_t (z_on_t (z_on_t (z_on_h rfl (by omega) (by omega))))))))))) | exact z_on_t (z_on_t (z_on_t (z_on_t (z_on_t (z_on_t (z_on_t (z_on_t (z_on_t (z_on_t (z_on_t (z_on_h rfl (by omega) (by omega)))))))))))) | exact z_on_t (z_on_t (z_on_t (z_on_t (z_on_t (z_on_t (z_on_t (z_on_t (z_on_t (z_on_t (z_on_t (z_on_t (z_on_h rfl (by omega) (by omega))))))))))))))).upo (by (try unfold r_LHs); first | exact z_on_h rfl (by omega) (by omega) | exact z_on_t (z_on_h rfl (by omega) (by omega)) | exact z_on_t (z_on_t (z_on_h rfl (by omega) (by omega))) | exact z_on_t (z_on_t (z_on_t (z_on_h rfl (by omega) (by omega)))) | exact z_on_t (z_on_t (z_on_t (z_on_t (z_on_h rfl (by omega) (by omega))))) | exact z_on_t (z_on_t (z_on_t (z_on_t (z_on_t (z_on_h rfl (by omega) (by omega)))))) | exact z_on_t (z_on_t (z_on_t (z_on_t (z_on_t (z_on_t (z_on_h rfl (by omega) (by omega))))))) | exact z_on_t (z_on_t (z_on_t (z_on_t (z_on_t (z_on_t (z_on_t (z_on_h rfl (by omega) (by omega)))))))) | exact z_on_t (z_on_t (z_on_t (z_on_t (z_on_t (z_on_t (z_on_t (z_on_t (z_on_h rfl (by omega) (by omega))))))))) | exact z_on_t (z_on_t (z_on_t (z_on_t (z_on_t (z_on_t (z_on_t (z_on_t (z_on_t (z_on_h rfl (by omega) (by omega)))))))))) | exact z_on_t (z_on_t (z_on_t (z_on_t (z_on_t (z_on_t (z_on_t (z_on_t (z_on_t (z_on_t (z_on_h rfl (by omega) (by omega))))))))))) | exact z_on_t (z_on_t (z_on_t (z_on_t (z_on_t (z_on_t (z_on_t (z_on_t (z_on_t (z_on_t (z_on_t (z_on_h rfl (by omega) (by omega)))))))))))) | exact z_on_t (z_on_t (z_on_t (z_on_t (z_on_t (z_on_t (z_on_t (z_on_t (z_on_t (z_on_t (z_on_t (z_on_t (z_on_h rfl (by omega) (by omega))))))))))))))
    rw [v_chg_29 m N x (by omega), e11, if_neg (by omega), c_add (j := x) m 0 (by omega) h13, zb_n, v_chg_45, z_add_eq (x := (x : Int)) (y := 1) (by omega) (by omega), tc1]
    generalize z_up (z_up m 250 x 0) 0 13 ((x + 1 : Nat) : Int) = m0 at hi1 g13 gz gs ⊢
    obtain ⟨m1, a1, a2, a3, a4, a5⟩ := ih (x + 1) m0 (by omega) hi1 g13 gz
    exact ⟨m1, a1, a2, a3, gs.tr a4, a5⟩
theorem W_chg3 (hN : w_N w h n heat D) {N : Nat} (hN6 : N ≤ 100) : ∀ (f k : Nat) (v3 : z_V) (B S : Nat → Int) (m : z_M), k + f = N → C_is w h n heat price D A c U kn KS cs m → cS m 18 n = B → hr_ok n B → 0 ≤ B 35 → B 35 + (f : Int) ≤ 2147483647 → z_w (m 24 6) = m 24 6 → z_w (m 24 9) = m 24 9 → (∀ j, j < n → m 250 j = S j) → (∀ j, j < n → 0 ≤ S j ∧ S j ≤ 9 * (k : Int)) → ∃ m1, z_R 123 (m, 53, [(2, 0), (0, (N : Int)), (0, (k : Int)), v3, (9, 0)], []) = some (m1, some (0, v_m (v_H w h n heat price cs D f B S) n 0 0)) ∧ m1 0 13 = m 0 13 ∧ ∀ j, j < n → m1 250 j = v_H w h n heat price cs D f B S j := by
  have h5 := hN.1.2.2
  intro f
  induction f with
  | zero =>
    intro k v3 B S m hk hi hB hok ht ht2 k6 k9 hS hb
    have a1 := C_chg4 (m := m) (S := S) (K := 9 * (k : Int)) (by omega) (N := (N : Int)) (v3 := v3) hi.1.2.2.1 h5 hS hb n 0 0 (by omega) ⟨Int.le_refl _, by omega⟩
    have a1 : z_R 123 (m, 138, [(2, 0), (0, (N : Int)), (1, 0), v3, (0, 0)], []) = some (m, some (0, v_m S n 0 0)) := a1
    rw [v_chg_53, if_pos (by omega), a1]
    exact ⟨m, rfl, rfl, hS⟩
  | succ f ih =>
    intro k v3 B S m hk hi hB hok ht ht2 k6 k9 hS hb
    have ht2' : B 35 + ((f : Int) + 1) ≤ 2147483647 := by omega
    obtain ⟨m1, a1, a2, a3, a4, a5⟩ := C_chg2 h5 (N := (N : Int)) (k := (k : Int)) (hN.2.2 (B 35) ht) ⟨ht, by omega⟩ n 0 S m (by omega) hi hB hS (fun j _ hj => by have := hb j hj; omega)
    have a1 : z_R 123 (m, 60, [(2, 0), (0, (N : Int)), (0, (k : Int)), (0, 0), (9, 0)], []) = z_R 123 (m1, 60, [(2, 0), (0, (N : Int)), (0, (k : Int)), (0, (n : Int)), (9, 0)], []) := a1
    have e11 := a2.1.2.2.1
    have j6 : m1 24 6 = m 24 6 := a5.of (by (try unfold r_LHs); (repeat' (first | exact trivial | refine z_of_c ?_ ?_)) <;> omega)
    have j9 : m1 24 9 = m 24 9 := a5.of (by (try unfold r_LHs); (repeat' (first | exact trivial | refine z_of_c ?_ ?_)) <;> omega)
    have l6 : z_w (m1 24 6) = m1 24 6 := by rw [j6]; exact k6
    have l9 : z_w (m1 24 9) = m1 24 9 := by rw [j9]; exact k9
    obtain ⟨m2, b1, b2, b3⟩ := c_goOn z_st_18 hN.1.1 hN.1.2.1 (price := price) ⟨hN.1.2.2, hN.2.1, c_ml_ok cs, hN.2.2⟩ (N := 1) (by decide) m1 (C_cfg a2) a3 hok ht (by omega) l6 l9
    have b1 : z_R 67 (m1, 0, [(2, 24), (2, 18), (0, 1), (9, 0)], []) = some (m2, none) := b1
    have ow := hr_H_w (w := w) (h := h) (n := n) (heat := heat) (price := price) (ml := c_ml cs) (wmt := wmD D) 1 B (m1 24 6) (m1 24 7) (m1 24 8) (m1 24 9) l6 l9
    rw [← b2] at ow
    have ow6 : z_w (m2 24 6) = m2 24 6 := ow.1
    have ow9 : z_w (m2 24 9) = m2 24 9 := ow.2
    have eA : cS m2 18 n = hr_A w h heat price (c_ml cs) (wmD D (B 35)) n B := congrArg Prod.fst b2
    have hC2 : C_is w h n heat price D A c U kn KS cs m2 := C_fr a2 fun p k hk => by
      have hk' := hk
      unfold C_hit at hk'
      have hk' := of_decide_eq_true hk'
      exact b3.of (by (try unfold r_LHs); (repeat' (first | exact trivial | refine z_of_c ?_ ?_)) <;> omega)
    have hok' := hr_A_ok (price := price) hN.1.1 hN.1.2.1 hN.1.2.2 hN.2.1 (c_ml_ok cs) (hN.2.2 (B 35) ht) hok
    have e35 : hr_A w h heat price (c_ml cs) (wmD D (B 35)) n B 35 = B 35 + 1 := by rw [hr_A_35 hN.1.1 hN.1.2.1 hN.1.2.2, z_add_eq (by omega) (by omega)]
    have hS2 : ∀ j, j < n → m2 250 j = v_w (wmD D (B 35)) B n 0 S j := fun j hj => (b3.of (p := 250) (k := j) (by (try unfold r_LHs); (repeat' (first | exact trivial | refine z_of_c ?_ ?_)) <;> omega)).trans (a4 j hj)
    obtain ⟨m3, c1, c2⟩ := ih (k + 1) (0, (n : Int)) _ (v_w (wmD D (B 35)) B n 0 S) m2 (by omega) hC2 eA hok' (by omega) (by omega) ow6 ow9 hS2 (fun j hj => by
      have := v_w_b (K := 9 * (k : Int)) (A := B) h5 (hN.2.2 (B 35) ht) hb j hj
      omega)
    rw [v_chg_53, if_neg (by omega), a1, v_chg_60 m1 N k n (by omega), e11, if_pos (Int.le_refl _), b1, zb_n, v_chg_127, z_add_eq (x := (k : Int)) (y := 1) (by omega) (by omega), tc1, c1]
    exact ⟨m3, rfl, c2.1.trans ((b3.of (by (try unfold r_LHs); (repeat' (first | exact trivial | refine z_of_c ?_ ?_)) <;> omega)).trans (a5.of (by (try unfold r_LHs); (repeat' (first | exact trivial | refine z_of_c ?_ ?_)) <;> omega))), c2.2⟩
theorem W_charges (hi : C_is w h n heat price D A c U kn KS cs m) (hN : w_N w h n heat D) (hok : hr_ok n A) (ht : 0 ≤ A 35 ∧ A 35 ≤ 1073741824) (k6 : z_w (m 24 6) = m 24 6) (k9 : z_w (m 24 9) = m 24 9) (a : Int) : ∃ m1, z_R 123 (m, 0, [(2, 0), (0, a), (9, 0), (9, 0), (9, 0)], []) = some (m1, some (0, v_A w h n heat price cs D A a)) ∧ c_rw m m1 (ro_chg w h n heat price cs D A a) := by
  rw [v_chg_0]
  by_cases c1 : a < 0
  · have e : v_A w h n heat price cs D A a = -1 := if_neg (by omega)
    rw [if_pos c1, e]
    exact ⟨m, rfl, c_rw_n (if_neg (by omega))⟩
  rw [if_neg c1]
  by_cases c2 : a ≤ 100
  · obtain ⟨N, rfl⟩ : ∃ N : Nat, a = (N : Int) := ⟨a.toNat, by omega⟩
    have e : v_A w h n heat price cs D A (N : Int) = v_m (v_H w h n heat price cs D (N : Int).toNat A (fun _ => 0)) n 0 0 := if_pos (by omega)
    rw [Int.toNat_natCast] at e
    obtain ⟨m2, b1, b2, b3⟩ := c_become z_st_12 z_st_18 (by decide) m
    have b1 : z_R 61 (m, 0, [(2, 18), (2, 12)], []) = some (m2, none) := b1
    have hC2 : C_is w h n heat price D A c U kn KS cs m2 := C_fr hi fun p k hk => by
      have hk' := hk
      unfold C_hit at hk'
      have hk' := of_decide_eq_true hk'
      exact b3.of (by (try unfold r_LHs); (repeat' (first | exact trivial | refine z_of_c ?_ ?_)) <;> omega)
    have hA2 : cS m2 18 n = A := (cS_cR b2).trans hi.2.2.1
    have j6 : m2 24 6 = m 24 6 := b3.of (by (try unfold r_LHs); (repeat' (first | exact trivial | refine z_of_c ?_ ?_)) <;> omega)
    have j9 : m2 24 9 = m 24 9 := b3.of (by (try unfold r_LHs); (repeat' (first | exact trivial | refine z_of_c ?_ ?_)) <;> omega)
    have hC3 : C_is w h n heat price D A c U kn KS cs (z_up m2 0 13 0) := C_upn hC2 (by decide)
    have f3 : ∀ p k, ¬ p = 0 → (z_up m2 0 13 0) p k = m2 p k := fun p k hp => zu_p hp
    have g13 : (z_up m2 0 13 0) 0 13 = ((0 : Nat) : Int) := zu_self
    rw [if_pos c2, b1, zb_n, v_chg_23, s_tell0_0, zb_n, v_chg_27]
    generalize z_up m2 0 13 0 = m3 at hC3 f3 g13 ⊢
    have hA3 : cS m3 18 n = A := by
      rw [cS_fr (fun j k hj _ => f3 (18 + j) k (by omega))]
      exact hA2
    obtain ⟨m4, d1, d2, d3, d4, d5⟩ := W_chg1 hN.1.2.2 (N := (N : Int)) n 0 m3 (by omega) hC3 g13 (fun j hj => absurd hj (by omega))
    have d1 : z_R 123 (m3, 29, [(2, 0), (0, (N : Int)), (0, 0), (9, 0), (9, 0)], []) = z_R 123 (m4, 53, [(2, 0), (0, (N : Int)), (0, 0), (9, 0), (9, 0)], []) := d1
    have hA4 : cS m4 18 n = A := by
      rw [cS_fr (fun j k hj _ => d4.of (p := 18 + j) (k := k) (by (try unfold r_LHs); (repeat' (first | exact trivial | refine z_of_c ?_ ?_)) <;> omega))]
      exact hA3
    have l6 : m4 24 6 = m 24 6 := (d4.of (by (try unfold r_LHs); (repeat' (first | exact trivial | refine z_of_c ?_ ?_)) <;> omega)).trans ((f3 24 6 (by decide)).trans j6)
    have l9 : m4 24 9 = m 24 9 := (d4.of (by (try unfold r_LHs); (repeat' (first | exact trivial | refine z_of_c ?_ ?_)) <;> omega)).trans ((f3 24 9 (by decide)).trans j9)
    obtain ⟨m5, g1, g2⟩ := W_chg3 hN (N := N) (by omega) N 0 (9, 0) A (fun _ => 0) m4 (by omega) d2 hA4 hok ht.1 (by omega) (by rw [l6]; exact k6) (by rw [l9]; exact k9) d3 (fun j hj => ⟨Int.le_refl _, by omega⟩)
    have g1 : z_R 123 (m4, 53, [(2, 0), (0, (N : Int)), (0, 0), (9, 0), (9, 0)], []) = some (m5, some (0, v_m (v_H w h n heat price cs D N A (fun _ => 0)) n 0 0)) := g1
    rw [d1, g1, e]
    refine ⟨m5, rfl, c_rw_s (if_pos (by omega)) ?_⟩
    rw [Int.toNat_natCast]
    exact c_rw_of (g2.1.trans d5) g2.2
  · have e : v_A w h n heat price cs D A a = -1 := if_neg (by omega)
    rw [if_neg c2, e]
    exact ⟨m, rfl, c_rw_n (if_neg (by omega))⟩
theorem V_chg4 {S : Nat → Int} {K : Int} (hK : K ≤ 10000) {N : Int} (h5 : n ≤ 5) (hS : ∀ j, j < n → 0 ≤ S j ∧ S j ≤ K) : ∀ (f x : Nat) (b : Int) (m : z_M), x + f = n → R_is w h n heat price D A c U kn KS cs m → m 251 10 = (x : Int) → (∀ j, j < x → m 255 j = S j) → (∀ j, j < n → m 268 j = S j) → 0 ≤ b ∧ b ≤ K → ∃ m1, z_R 242 (m, 119, [(2, 251), (0, N), (0, b), (0, (x : Int))], []) = some (m1, some (0, v_m S f x b)) ∧ m1 251 10 = (n : Int) ∧ ∀ j, j < n → m1 255 j = S j := by
  intro f
  induction f with
  | zero =>
    intro x b m hx hi h10 hq hm hb
    have e3 := hi.1.2.2.1
    rw [v_tch_119 m N b x (by omega), e3, if_pos (by omega)]
    exact ⟨m, rfl, h10.trans (by omega), fun j hj => hq j (by omega)⟩
  | succ f ih =>
    intro x b m hx hi h10 hq hm hb
    have e3 := hi.1.2.2.1
    have hS0 := hS x (by omega)
    have hi1 : R_is w h n heat price D A c U kn KS cs (z_up (z_up m 255 x (S x)) 251 10 ((x + 1 : Nat) : Int)) := R_upn (R_upn hi (by
      have : ∀ x, x < 5 → R_hit 255 x x = false := by decide +kernel
      exact this x (by omega))) (by decide)
    have g10 : (z_up (z_up m 255 x (S x)) 251 10 ((x + 1 : Nat) : Int)) 251 10 = ((x + 1 : Nat) : Int) := zu_self
    have gq : ∀ j, j < x + 1 → (z_up (z_up m 255 x (S x)) 251 10 ((x + 1 : Nat) : Int)) 255 j = S j := fun j hj => by
      rw [zu_p (by decide)]
      by_cases e : j = x
      · rw [e, zu_self]
      · rw [zu_k e]; exact hq j (by omega)
    have gm : ∀ j, j < n → (z_up (z_up m 255 x (S x)) 251 10 ((x + 1 : Nat) : Int)) 268 j = S j := fun j hj => by
      rw [zu_p (by decide), zu_p (by decide)]
      exact hm j hj
    rw [v_tch_119 m N b x (by omega), e3, if_neg (by omega), if_pos (show 0 ≤ (x : Int) ∧ (x : Int) < 5 by omega), Int.toNat_natCast, hm x (by omega), z_i2l_eq (by omega) (by omega), t_tell (j := x) m _ (by omega) h10, zb_n, v_tch_138, if_pos (show 0 ≤ (x : Int) ∧ (x : Int) < 5 by omega), Int.toNat_natCast, gm x (by omega), tc1]
    generalize z_up (z_up m 255 x (S x)) 251 10 ((x + 1 : Nat) : Int) = m0 at hi1 g10 gm gq ⊢
    exact ih (x + 1) _ m0 (by omega) hi1 g10 gq gm (v_mb hS (by omega) hb)
theorem V_chg3 (hN : w_N w h n heat D) {N : Nat} (hN6 : N ≤ 100) : ∀ (f k : Nat) (v3 : z_V) (B S : Nat → Int) (m : z_M), k + f = N → R_is w h n heat price D A c U kn KS cs m → rS m 264 n = B → hr_ok n B → 0 ≤ B 35 → B 35 + (f : Int) ≤ 2147483647 → (∀ j, j < n → m 268 j = S j) → (∀ j, j < n → 0 ≤ S j ∧ S j ≤ 9 * (k : Int)) → ∃ m1, z_R 242 (m, 40, [(2, 251), (0, (N : Int)), (0, (k : Int)), v3], []) = some (m1, some (0, v_m (v_H w h n heat price cs D f B S) n 0 0)) ∧ m1 251 10 = (n : Int) ∧ ∀ j, j < n → m1 255 j = v_H w h n heat price cs D f B S j := by
  have h5 := hN.1.2.2
  intro f
  induction f with
  | zero =>
    intro k v3 B S m hk hi hB hok ht ht2 hS hb
    have hi1 : R_is w h n heat price D A c U kn KS cs (z_up m 251 10 0) := R_upn hi (by decide)
    have g10 : (z_up m 251 10 0) 251 10 = ((0 : Nat) : Int) := zu_self
    have gm : ∀ j, j < n → (z_up m 251 10 0) 268 j = S j := fun j hj => by
      rw [zu_p (by decide)]
      exact hS j hj
    rw [v_tch_40, if_pos (by omega)]
    generalize z_up m 251 10 0 = m0 at hi1 g10 gm ⊢
    exact V_chg4 (S := S) (K := 9 * (k : Int)) (by omega) (N := (N : Int)) h5 hb n 0 0 m0 (by omega) hi1 g10 (fun j hj => absurd hj (Nat.not_lt_zero j)) gm ⟨Int.le_refl _, by omega⟩
  | succ f ih =>
    intro k v3 B S m hk hi hB hok ht ht2 hS hb
    have ht2' : B 35 + ((f : Int) + 1) ≤ 2147483647 := by omega
    obtain ⟨m1, a1, a2, a3, a4⟩ := R_chg2 h5 (N := (N : Int)) (k := (k : Int)) (hN.2.2 (B 35) ht) ⟨ht, by omega⟩ n 0 S m (by omega) hi hB hS (fun j _ hj => by have := hb j hj; omega)
    have a1 : z_R 242 (m, 47, [(2, 251), (0, (N : Int)), (0, (k : Int)), (0, 0)], []) = z_R 242 (m1, 47, [(2, 251), (0, (N : Int)), (0, (k : Int)), (0, (n : Int))], []) := a1
    have e3 := a2.1.2.2.1
    obtain ⟨m2, b1, b2, b3, b4, b5, b6, b7⟩ := r_hour (a := 264) z_A_264 (Or.inr rfl) hN.1.1 hN.1.2.1 (price := price) ⟨hN.1.2.2, hN.2.1, c_ml_ok cs, hN.2.2⟩ m1 (R_cfg a2) a3 hok ht (by omega)
    have b1 : z_R 208 (m1, 0, [(2, 251), (2, 264), (9, 0), (9, 0), (9, 0)], []) = some (m2, none) := b1
    have s1 : z_same (r_LHs 264) m1 m2 := b7.subo (by (try unfold r_LHs); (repeat' (first | exact trivial | refine z_sbo_c ?_ ?_)) <;> (intro k h1 h2; first | exact z_on_h rfl (by omega) (by omega) | exact z_on_t (z_on_h rfl (by omega) (by omega)) | exact z_on_t (z_on_t (z_on_h rfl (by omega) (by omega))) | exact z_on_t (z_on_t (z_on_t (z_on_h rfl (by omega) (by omega)))) | exact z_on_t (z_on_t (z_on_t (z_on_t (z_on_h rfl (by omega) (by omega))))) | exact z_on_t (z_on_t (z_on_t (z_on_t (z_on_t (z_on_h rfl (by omega) (by omega)))))) | exact z_on_t (z_on_t (z_on_t (z_on_t (z_on_t (z_on_t (z_on_h rfl (by omega) (by omega))))))) | exact z_on_t (z_on_t (z_on_t (z_on_t (z_on_t (z_on_t (z_on_t (z_on_h rfl (by omega) (by omega)))))))) | exact z_on_t (z_on_t (z_on_t (z_on_t (z_on_t (z_on_t (z_on_t (z_on_t (z_on_h rfl (by omega) (by omega))))))))) | exact z_on_t (z_on_t (z_on_t (z_on_t (z_on_t (z_on_t (z_on_t (z_on_t (z_on_t (z_on_h rfl (by omega) (by omega)))))))))) | exact z_on_t (z_on_t (z_on_t (z_on_t (z_on_t (z_on_t (z_on_t (z_on_t (z_on_t (z_on_t (z_on_h rfl (by omega) (by omega))))))))))) | exact z_on_t (z_on_t (z_on_t (z_on_t (z_on_t (z_on_t (z_on_t (z_on_t (z_on_t (z_on_t (z_on_t (z_on_h rfl (by omega) (by omega)))))))))))) | exact z_on_t (z_on_t (z_on_t (z_on_t (z_on_t (z_on_t (z_on_t (z_on_t (z_on_t (z_on_t (z_on_t (z_on_t (z_on_h rfl (by omega) (by omega)))))))))))))))
    have hok' := hr_A_ok (price := price) hN.1.1 hN.1.2.1 hN.1.2.2 hN.2.1 (c_ml_ok cs) (hN.2.2 (B 35) ht) hok
    have e35 : hr_A w h heat price (c_ml cs) (wmD D (B 35)) n B 35 = B 35 + 1 := by rw [hr_A_35 hN.1.1 hN.1.2.1 hN.1.2.2, z_add_eq (by omega) (by omega)]
    have hS2 : ∀ j, j < n → m2 268 j = v_w (wmD D (B 35)) B n 0 S j := fun j hj => (s1.of (p := 268) (k := j) (by (try unfold r_LHs); (repeat' (first | exact trivial | refine z_of_c ?_ ?_)) <;> omega)).trans (a4 j hj)
    obtain ⟨m3, c1, c2⟩ := ih (k + 1) (0, (n : Int)) _ (v_w (wmD D (B 35)) B n 0 S) m2 (by omega) (R_off264 a2 s1) b2 hok' (by omega) (by omega) hS2 (fun j hj => by
      have := v_w_b (K := 9 * (k : Int)) (A := B) h5 (hN.2.2 (B 35) ht) hb j hj
      omega)
    rw [v_tch_40, if_neg (by omega), a1, v_tch_47 m1 N k n (by omega), e3, if_pos (Int.le_refl _), b1, zb_n, v_tch_104, z_add_eq (x := (k : Int)) (y := 1) (by omega) (by omega), tc1, c1]
    exact ⟨m3, rfl, c2⟩
theorem V_charges (hi : R_is w h n heat price D A c U kn KS cs m) (hN : w_N w h n heat D) (hok : hr_ok n A) (ht : 0 ≤ A 35 ∧ A 35 ≤ 1073741824) (a : Int) : ∃ m1, z_R 242 (m, 0, [(2, 251), (0, a), (9, 0), (9, 0)], []) = some (m1, some (0, v_A w h n heat price cs D A a)) ∧ r_rw m m1 (ro_chg w h n heat price cs D A a) := by
  have hu := R_upn (p0 := 251) (k0 := 11) (v := 0) hi (by decide)
  have hw : r_rw m (z_up m 251 11 0) none := r_rw_11
  rw [v_tch_0, R_isl]
  generalize z_up m 251 11 0 = m0 at hu hw ⊢
  by_cases c1 : 0 ≤ a ∧ a ≤ 100
  · obtain ⟨N, rfl⟩ : ∃ N : Nat, a = (N : Int) := ⟨a.toNat, by omega⟩
    have e : v_A w h n heat price cs D A (N : Int) = v_m (v_H w h n heat price cs D (N : Int).toNat A (fun _ => 0)) n 0 0 := if_pos c1
    rw [Int.toNat_natCast] at e
    obtain ⟨m1, b1, b2, b3⟩ := R_lt hu
    obtain ⟨m2, d1, d2, d3, d4⟩ := R_chg1 (N := (N : Int)) 5 0 m1 (by decide) b2 (fun j hj => absurd hj (by omega))
    have d1 : z_R 242 (m1, 20, [(2, 251), (0, (N : Int)), (0, 0), (9, 0)], []) = z_R 242 (m2, 40, [(2, 251), (0, (N : Int)), (0, 0), (9, 0)], []) := d1
    have hA2 : rS m2 264 n = A := by
      rw [← b3]
      exact rS_cp fun k _ => d4.of (by (try unfold r_LHs); (repeat' (first | exact trivial | refine z_of_c ?_ ?_)) <;> omega)
    obtain ⟨m3, g1, g2⟩ := V_chg3 hN (N := N) (by omega) N 0 (9, 0) A (fun _ => 0) m2 (by omega) d2 hA2 hok ht.1 (by omega) (fun j hj => d3 j (by have := hN.1.2.2; omega)) (fun j hj => ⟨Int.le_refl _, by omega⟩)
    have g1 : z_R 242 (m2, 40, [(2, 251), (0, (N : Int)), (0, 0), (9, 0)], []) = some (m3, some (0, v_m (v_H w h n heat price cs D N A (fun _ => 0)) n 0 0)) := g1
    rw [if_pos c1, zb_v, v_tch_9, if_neg (show ¬ (1 : Int) = 0 by decide), b1, zb_n, v_tch_18, d1, g1, e]
    refine ⟨m3, rfl, r_rw_s (if_pos c1) ?_⟩
    rw [Int.toNat_natCast]
    exact r_rw_of g2.1 g2.2
  · have e : v_A w h n heat price cs D A a = -1 := if_neg c1
    rw [if_neg c1, zb_v, v_tch_9, if_pos rfl, e]
    exact ⟨m0, rfl, r_rw_m hw (if_neg c1)⟩
/-! winter -/
theorem W_wtail (x2 : Int) : ∃ m', z_R 82 (m, 89, [(2, 0), (0, 1), (0, x2)], []) = some (m', some (0, x2)) ∧ m' 0 13 = 3 := by
  rw [w_win_89]
  by_cases z : m 118 4 ≤ x2
  · rw [if_pos z, c_tell3, zb_n, w_win_125]
    exact ⟨_, rfl, zu_self⟩
  · rw [if_neg z, c_tell3, zb_n, w_win_125]
    exact ⟨_, rfl, zu_self⟩
theorem W_win_no (h1 : m 1 1 ≤ 80) {G : Int → Int} (hr : u_gr G) (hG : u_nx (m 2) (m 1 1) 60 = G) {j : Int} {l : List (Int × Int × Int)} (hS : w_rd G (m 1 1) = (false, j, l)) (hj : 0 ≤ j ∧ j ≤ 80) : ∃ m1, z_R 82 (m, 0, [(2, 0), (9, 0), (9, 0)], []) = some (m1, some (0, -1 - j)) ∧ c_ln m m1 none := by
  obtain ⟨m1, a1, a2, -, a4⟩ := w_readc m h1 hr hG
  rw [hS] at a1 a2
  have a1 : z_R 83 (m, 0, [(2, 118), (9, 0)], []) = some (m1, some (0, 0)) := a1
  have k12 : (z_up m1 1 1 0) 1 2 = j := (zu_k (by decide)).trans a2.2.1
  rw [w_win_0, a1, zb_v, w_win_7, s_empty_0, zb_n, w_win_15, if_pos (show (0 : Int) = 0 from rfl), k12, z_sub_eq (by omega) (by omega)]
  exact ⟨_, rfl, (X_up (by decide)).trans (a4.of (by (try unfold r_LHs); (repeat' (first | exact trivial | refine z_of_c ?_ ?_)) <;> omega))⟩
theorem W_win {e : Int} (hi : C_is w h n heat price D A c U kn KS cs m) (hN : w_N w h n heat D) (hI : w_inv n A e) (he : e + 270 ≤ 2147483600) (h1 : m 1 1 ≤ 80) {G : Int → Int} (hr : u_gr G) (hG : u_nx (m 2) (m 1 1) 60 = G) {j : Int} {l : List (Int × Int × Int)} (hS : w_rd G (m 1 1) = (true, j, l)) (hl : (∀ a ∈ l, w_av a) ∧ l.length ≤ 30) {d : Nat} {B : Nat → Int} (hd : w_go w h n heat price cs D l A = (d, B)) : ∃ m1, z_R 82 (m, 0, [(2, 0), (9, 0), (9, 0)], []) = some (m1, some (0, (d : Int))) ∧ c_ln m m1 (some 3) := by
  obtain ⟨m1, a1, a2, a3, a4⟩ := w_readc m h1 hr hG
  rw [hS] at a1 a3
  have a1 : z_R 83 (m, 0, [(2, 118), (9, 0)], []) = some (m1, some (0, 1)) := a1
  obtain ⟨a5, a6⟩ := a3 rfl
  have a5 : m1 118 4 = (l.length : Int) := a5
  have a6 : w_cl m1 0 l := a6
  have hC0 := C_wtext hi a4
  have f0 : ∀ p k, ¬ p = 1 → (z_up m1 1 1 0) p k = m1 p k := fun p k hp => zu_p hp
  rw [w_win_0, a1, zb_v, w_win_7, s_empty_0, zb_n, w_win_15, if_neg (show ¬ (1 : Int) = 0 by decide)]
  generalize z_up m1 1 1 0 = m0 at hC0 f0 ⊢
  obtain ⟨m2, b1, b2, b3⟩ := c_become z_st_12 z_st_18 (by decide) m0
  have b1 : z_R 61 (m0, 0, [(2, 18), (2, 12)], []) = some (m2, none) := b1
  have hC2 : C_is w h n heat price D A c U kn KS cs m2 := C_fr hC0 fun p k hk => by
    have hk' := hk
    unfold C_hit at hk'
    have hk' := of_decide_eq_true hk'
    exact b3.of (by (try unfold r_LHs); (repeat' (first | exact trivial | refine z_of_c ?_ ?_)) <;> omega)
  have hA2 : cS m2 18 n = A := (cS_cR b2).trans hC0.2.2.1
  have hC3 : C_is w h n heat price D A c U kn KS cs (z_up (z_up (z_up (z_up m2 24 6 0) 24 7 0) 24 8 0) 24 9 0) := C_upn (C_upn (C_upn (C_upn hC2 (by decide)) (by decide)) (by decide)) (by decide)
  have k6 : (z_up (z_up (z_up (z_up m2 24 6 0) 24 7 0) 24 8 0) 24 9 0) 24 6 = 0 := by rw [zu_k (by decide), zu_k (by decide), zu_k (by decide), zu_self]
  have k9 : (z_up (z_up (z_up (z_up m2 24 6 0) 24 7 0) 24 8 0) 24 9 0) 24 9 = 0 := zu_self
  have f3 : ∀ p k, ¬ p = 24 → (z_up (z_up (z_up (z_up m2 24 6 0) 24 7 0) 24 8 0) 24 9 0) p k = m2 p k := fun p k hp => by rw [zu_p hp, zu_p hp, zu_p hp, zu_p hp]
  rw [b1, zb_n, w_win_40, s_cb_0, zb_n, w_win_47]
  generalize z_up (z_up (z_up (z_up m2 24 6 0) 24 7 0) 24 8 0) 24 9 0 = m3 at hC3 k6 k9 f3 ⊢
  have fr : ∀ p k, (118 ≤ p ∧ p ≤ 121) → m3 p k = m1 p k := fun p k hp => by
    rw [f3 p k (by omega), b3.of (p := p) (k := k) (by (try unfold r_LHs); (repeat' (first | exact trivial | refine z_of_c ?_ ?_)) <;> omega)]
    exact f0 p k (by omega)
  have hA3 : cS m3 18 n = A := by
    rw [cS_fr (fun j k hj _ => f3 (18 + j) k (by omega))]
    exact hA2
  obtain ⟨m4, c1, c2, c3⟩ := C_wgo hN l 0 A e m3 (by omega) (by omega) (by rw [fr 118 4 (by decide), a5, Nat.zero_add]) (w_cl_fr l 0 a6 (fun j => ⟨fr 119 j (by decide), fr 120 j (by decide), fr 121 j (by decide)⟩)) hl.1 hC3 hI (by rw [k6]; decide +kernel) (by rw [k9]; decide +kernel)
  rw [hd, Nat.zero_add] at c1
  rw [hd] at c2
  have c1 : z_R 82 (m3, 49, [(2, 0), (0, 1), (0, 0)], []) = z_R 82 (m4, 74, [(2, 0), (0, 1), (0, (d : Int))], []) := c1
  have c2 : C_is w h n heat price D B c U kn KS cs m4 := c2
  rw [c1, w_win_74]
  by_cases z : d = 0
  · rw [if_pos (show (d : Int) ≤ 0 by omega), ← w_win_89 m4 1 (d : Int)]
    exact W_wtail _
  · obtain ⟨m5, d1, d2, -⟩ := C_rem c2 (s := 18) (Or.inr rfl)
    have d1 : z_R 60 (m4, 0, [(2, 28), (2, 18)], []) = some (m5, none) := d1
    have hA4 : cS m4 18 n = A := by
      rw [cS_fr (fun j k hj _ => c3.of (p := 18 + j) (k := k) (by (try unfold r_LHs); (repeat' (first | exact trivial | refine z_of_c ?_ ?_)) <;> omega))]
      exact hA3
    rw [hA4] at d2
    rw [if_neg (show ¬ (d : Int) ≤ 0 by omega), d1, zb_n]
    exact W_wtail _
theorem V_wtail (x1 x2 x3 : Int) : ∃ m', z_R 212 (m, 179, [(2, 251), (0, x1), (0, x2), (0, x3)], []) = some (m', some (0, x3)) ∧ m' 251 10 = 3 := by
  rw [v_win_179]
  by_cases z : x1 ≤ x3
  · rw [if_pos z, t_tell0, zb_n, v_win_198, t_tell1, zb_n, v_win_207, t_tell2, zb_n, v_win_216]
    exact ⟨_, rfl, zu_self⟩
  · rw [if_neg z, t_tell0, zb_n, v_win_198, t_tell1, zb_n, v_win_207, t_tell2, zb_n, v_win_216]
    exact ⟨_, rfl, zu_self⟩
theorem V_win {e : Int} (hi : R_is w h n heat price D A c U kn KS cs m) (hN : w_N w h n heat D) (hI : w_inv n A e) (he : e + 270 ≤ 2147483600) (h0 : 0 ≤ m 251 8) (h1 : m 251 8 ≤ 80) (hb : ∀ k, k < 80 → -128 ≤ m 254 k ∧ m 254 k ≤ 127) {G : Int → Int} (hG : u_nx (u_t m) (m 251 8) 60 = G) {j : Int} {l : List (Int × Int × Int)} (hS : w_rd G (m 251 8) = (true, j, l)) (hl : (∀ a ∈ l, w_av a) ∧ l.length ≤ 30) {d : Nat} {B : Nat → Int} (hd : w_go w h n heat price cs D l A = (d, B)) : ∃ m1, z_R 212 (m, 0, [(2, 251), (9, 0), (9, 0), (9, 0)], []) = some (m1, some (0, (d : Int))) ∧ r_ln m m1 (some 3) := by
  obtain ⟨m1, a1, a2, -⟩ := w_readq m h0 h1 hb hG
  rw [hS] at a2
  obtain ⟨a3, a4⟩ := a2 rfl
  have a3 : z_R 212 (m, 0, [(2, 251), (9, 0), (9, 0), (9, 0)], []) = z_R 212 (m1, 93, [(2, 251), (0, (l.length : Int)), (0, 0), (9, 0)], [(0, 1)]) := a3
  have a4 : w_rl m1 0 l := a4
  have hR1 := R_wtext hi a1
  obtain ⟨m2, b1, b2, b3⟩ := t_layd (a := 252) (q := 261) (B := 0) t_lay261_0 t_lay261_2 (by decide) (b := 0) (by decide) m1
  have b1 : z_R 198 (m1, 0, [(2, 252), (2, 261), (0, 0), (9, 0)], []) = some (m2, none) := b1
  have b2 : ∀ k, k < 37 → m2 261 k = m1 252 k := fun k hk => by
    have := b2 k hk
    rw [Nat.zero_add] at this
    exact this
  have hR2 : R_is w h n heat price D A c U kn KS cs m2 := R_fr hR1 fun p k hk => by
    have hk' := hk
    unfold R_hit at hk'
    have hk' := of_decide_eq_true hk'
    exact b3 p k (by omega)
  have hA2 : rS m2 261 n = A := (rS_cp b2).trans hR1.2.2.1
  have hR3 : R_is w h n heat price D A c U kn KS cs (z_up (z_up (z_up (z_up m2 251 32 0) 251 33 0) 251 34 0) 251 35 0) := R_upn (R_upn (R_upn (R_upn hR2 (by decide)) (by decide)) (by decide)) (by decide)
  have f3 : ∀ p k, ¬ p = 251 → (z_up (z_up (z_up (z_up m2 251 32 0) 251 33 0) 251 34 0) 251 35 0) p k = m2 p k := fun p k hp => by rw [zu_p hp, zu_p hp, zu_p hp, zu_p hp]
  rw [a3, v_win_93, if_neg (show ¬ (1 : Int) = 0 by decide), b1, zb_n, v_win_115, t_bh_0, zb_n, v_win_119]
  generalize z_up (z_up (z_up (z_up m2 251 32 0) 251 33 0) 251 34 0) 251 35 0 = m3 at hR3 f3 ⊢
  have hA3 : rS m3 261 n = A := by
    rw [rS_row (funext fun k => f3 261 k (by decide))]
    exact hA2
  obtain ⟨m4, c1, c2, c3⟩ := R_wgo (x1 := (l.length : Int)) hN l 0 A e m3 (by omega) (by omega) (by rw [Nat.zero_add]) (w_rl_fr l 0 a4 (fun j => (f3 263 j (by decide)).trans (b3 263 j (by omega)))) hl.1 hR3 hI
  rw [hd, Nat.zero_add] at c1
  rw [hd] at c2
  have c1 : z_R 212 (m3, 121, [(2, 251), (0, (l.length : Int)), (0, 0), (0, 0)], []) = z_R 212 (m4, 167, [(2, 251), (0, (l.length : Int)), (0, 0), (0, (d : Int))], []) := c1
  have c2 : R_is w h n heat price D B c U kn KS cs m4 := c2
  rw [c1, v_win_167]
  by_cases z : d = 0
  · rw [if_pos (show (d : Int) ≤ 0 by omega), ← v_win_179 m4 (l.length : Int) 0 (d : Int)]
    exact V_wtail _ _ _
  · obtain ⟨m5, d1, d2, -⟩ := R_rem c2 (a := 261) (Or.inr rfl)
    have d1 : z_R 197 (m4, 0, [(2, 251), (2, 261), (9, 0)], []) = some (m5, none) := d1
    have hA4 : rS m4 261 n = A := by
      rw [rS_row (c3.ofr (by (try unfold r_LHs); (repeat' (first | exact trivial | refine z_ofr_c ?_ ?_)) <;> omega))]
      exact hA3
    rw [hA4] at d2
    rw [if_neg (show ¬ (d : Int) ≤ 0 by omega), d1, zb_n]
    exact V_wtail _ _ _
/-! season -/
def ro_sea (a : Int) : Option Nat := if 1 ≤ a ∧ a ≤ 60 then some 3 else none
theorem W_sea1 (hN : w_N w h n heat D) {x1 : Int} {N : Nat} (hN6 : N ≤ 60) : ∀ (f k : Nat) (r : Int) (m : z_M) (B : Nat → Int), k + f = N → C_is w h n heat price D A c U kn KS cs (z_up m 24 4 (-1)) → cS m 18 n = B → hr_ok n B → -1 ≤ B 34 → 0 ≤ B 35 → B 35 + (f : Int) ≤ 2147483647 → z_w (m 24 6) = m 24 6 → z_w (m 24 9) = m 24 9 → ∃ m', z_R 144 (m, 43, [(2, 0), (0, x1), (0, (N : Int)), (0, r), (0, (k : Int))], []) = some (m', some (0, se_H w h n heat price cs D f r B (m 24 9))) ∧ m' 0 13 = 3 := by
  intro f
  induction f with
  | zero =>
    intro k r m B hk hi hB hok h34 ht ht2 k6 k9
    obtain ⟨v, a1, a2⟩ := q_ogn 9 0 (-1) (z_up m 24 4 (-1)) (by decide) (Or.inl rfl)
    have a1 : z_R 149 (z_up m 24 4 (-1), 4, [(2, 24), (0, -1), (0, 0)], []) = some (z_up m 24 4 (-1), some (0, v)) := a1
    rw [q_sea_43, if_pos (by omega), q_og_0, a1, zb_v, q_sea_132]
    by_cases c1 : v = -1
    · rw [if_pos c1, c_tell3, zb_n, q_sea_170]
      rw [c_told3 (by decide) (by decide), show (z_up m 24 4 (-1)) 24 9 = m 24 9 from zu_k (by decide)]
      exact ⟨_, rfl, zu_self⟩
    · rw [if_neg c1, if_pos (show 0 ≤ v ∧ v < 9 by omega), c_tell3, zb_n, q_sea_170]
      rw [c_told3 (by decide) (by decide), show (z_up m 24 4 (-1)) 24 9 = m 24 9 from zu_k (by decide)]
      exact ⟨_, rfl, zu_self⟩
  | succ f ih =>
    intro k r m B hk hi hB hok h34 ht ht2 k6 k9
    rw [q_sea_43, if_neg (by omega), q_next_0, zb_v, q_sea_53, q_draw_0, if_pos (show (1 : Int) ≤ 10 by decide), zb_v, q_sea_64, q_next_0, zb_v, q_sea_71]
    obtain ⟨r1, hr1⟩ : ∃ r1, se_n r = r1 := ⟨_, rfl⟩
    obtain ⟨r2, hr2⟩ : ∃ r2, se_n r1 = r2 := ⟨_, rfl⟩
    have es : se_H w h n heat price cs D (f + 1) r B (m 24 9) = se_H w h n heat price cs D f r2 (hr_H w h heat price (c_ml cs) (se_w D (z_rem (z_ush r2 16) ((n : Int) + 3))) n 1 (u_up B 36 (z_rem (z_ush r1 16) 10)) 0 0 0 (m 24 9)).1 (hr_H w h heat price (c_ml cs) (se_w D (z_rem (z_ush r2 16) ((n : Int) + 3))) n 1 (u_up B 36 (z_rem (z_ush r1 16) 10)) 0 0 0 (m 24 9)).2.2.2.2 := by
      rw [← hr2, ← hr1]
      rfl
    rw [es, show z_add (z_mul r 1103515245) 12345 = r1 from hr1, show z_add (z_mul r1 1103515245) 12345 = r2 from hr2]
    clear es
    have hF := z_draw r1 (y := 10) (by decide) (by decide)
    generalize z_rem (z_ush r1 16) 10 = F at hF ⊢
    have hi1 : C_is w h n heat price D A c U kn KS cs (z_up (z_up m 18 8 F) 24 4 (-1)) := C_f4 hi fun p k hk _ => X_up fun z => by
      unfold C_hit at hk
      have := of_decide_eq_true hk
      omega
    have hB1 : cS (z_up m 18 8 F) 18 n = u_up B 36 F := by
      rw [cS_frost, hB]
    have j6 : (z_up m 18 8 F) 24 6 = m 24 6 := zu_p (by decide)
    have j9 : (z_up m 18 8 F) 24 9 = m 24 9 := zu_p (by decide)
    generalize z_up m 18 8 F = m1 at hi1 hB1 j6 j9 ⊢
    have e11 : m1 3 11 = (n : Int) := by
      have := hi1.1.2.2.1
      rw [zu_p (by decide)] at this
      exact this
    have h5 := hN.1.2.2
    rw [q_draw_0, e11, z_add_eq (x := (n : Int)) (by omega) (by omega), if_pos (show 1 ≤ (n : Int) + 3 by omega), zb_v, q_sea_89]
    generalize z_rem (z_ush r2 16) ((n : Int) + 3) = V
    have hi2 : C_is w h n heat price D A c U kn KS cs (z_up (z_up m1 24 4 V) 24 4 (-1)) := C_f4 hi1 fun p k _ hn => X_up hn
    have hB2 : cS (z_up m1 24 4 V) 18 n = u_up B 36 F := by
      rw [cS_off (by omega)]
      exact hB1
    have l6 : z_w ((z_up m1 24 4 V) 24 6) = (z_up m1 24 4 V) 24 6 := by rw [zu_k (by decide), j6]; exact k6
    have l9 : z_w ((z_up m1 24 4 V) 24 9) = (z_up m1 24 4 V) 24 9 := by rw [zu_k (by decide), j9]; exact k9
    have lf : (z_up m1 24 4 V) 24 4 = V := zu_self
    have l99 : (z_up m1 24 4 V) 24 9 = m 24 9 := (zu_k (by decide)).trans j9
    generalize z_up m1 24 4 V = m2 at hi2 hB2 l6 l9 lf l99 ⊢
    have hok2 : hr_ok n (u_up B 36 F) := hr_ok_up hok (by decide) (fun _ => by omega) (fun p h1 h2 => by omega)
    have h342 : -1 ≤ u_up B 36 F 34 := by rw [u_up_ne (by decide)]; exact h34
    have h352 : u_up B 36 F 35 = B 35 := u_up_ne (by decide)
    have hnum : hr_nums n heat (c_ml cs) (se_w D V) := ⟨h5, hN.2.1, c_ml_ok cs, wmf_b hN.2.2⟩
    obtain ⟨m3, b1, b2, b3⟩ := c_goOn z_st_18 hN.1.1 hN.1.2.1 (price := price) hnum (N := 1) (by decide) m2 (C_cfgf hi2 lf) hB2 hok2 (by rw [h352]; exact ht) (by rw [h352]; omega) l6 l9
    have b1 : z_R 67 (m2, 0, [(2, 24), (2, 18), (0, 1), (9, 0)], []) = some (m3, none) := b1
    obtain ⟨⟨o1, o2⟩, o3⟩ := hr_H_ok (price := price) hN.1.1 hN.1.2.1 hnum 1 (u_up B 36 F) (m2 24 6) (m2 24 7) (m2 24 8) (m2 24 9) hok2 h342 (by rw [h352]; exact ht) (by rw [h352]; omega)
    have ow := hr_H_w (w := w) (h := h) (n := n) (heat := heat) (price := price) (ml := c_ml cs) (wmt := se_w D V) 1 (u_up B 36 F) (m2 24 6) (m2 24 7) (m2 24 8) (m2 24 9) l6 l9
    rw [← b2] at o1 o2 o3 ow
    have o1 : hr_ok n (cS m3 18 n) := o1
    have o2 : -1 ≤ cS m3 18 n 34 := o2
    have o3 : cS m3 18 n 35 = B 35 + 1 := by
      have o3 : cS m3 18 n 35 = u_up B 36 F 35 + ((1 : Nat) : Int) := o3
      omega
    have ow6 : z_w (m3 24 6) = m3 24 6 := ow.1
    have ow9 : z_w (m3 24 9) = m3 24 9 := ow.2
    obtain ⟨m4, c1, c2⟩ := q_cgn 9 0 m3 (by decide)
    have c1 : z_R 148 (m3, 2, [(2, 24), (0, 0)], []) = some (m4, none) := c1
    have hi4 : C_is w h n heat price D A c U kn KS cs (z_up m4 24 4 (-1)) := C_f4 hi2 fun p k hk hn => by
      have hk' := hk
      unfold C_hit at hk'
      have hk' := of_decide_eq_true hk'
      rw [c2.of (p := p) (k := k) (by (try unfold r_LHs); (repeat' (first | exact trivial | refine z_of_c ?_ ?_)) <;> omega)]
      exact b3.of (by (try unfold r_LHs); (repeat' (first | exact trivial | refine z_of_c ?_ ?_)) <;> omega)
    have e18 : cS m4 18 n = cS m3 18 n := cS_fr (fun j k hj _ => c2.of (by (try unfold r_LHs); (repeat' (first | exact trivial | refine z_of_c ?_ ?_)) <;> omega))
    have e6 : m4 24 6 = m3 24 6 := c2.of (by (try unfold r_LHs); (repeat' (first | exact trivial | refine z_of_c ?_ ?_)) <;> omega)
    have e9 : m4 24 9 = m3 24 9 := c2.of (by (try unfold r_LHs); (repeat' (first | exact trivial | refine z_of_c ?_ ?_)) <;> omega)
    have q1 := hr_H1_cg (w := w) (h := h) (n := n) (heat := heat) (price := price) (ml := c_ml cs) (wmt := se_w D V) (wmt' := se_w D V) (A := u_up B 36 F) (fun _ _ => rfl) (M := m2 24 6) (M' := 0) (G := m2 24 7) (G' := 0) (F := m2 24 8) (F' := 0) (T := m2 24 9)
    rw [← b2] at q1
    have q2 : cS m3 18 n = (hr_H w h heat price (c_ml cs) (se_w D V) n 1 (u_up B 36 F) 0 0 0 (m2 24 9)).1 := q1.1
    have q3 : m3 24 9 = (hr_H w h heat price (c_ml cs) (se_w D V) n 1 (u_up B 36 F) 0 0 0 (m2 24 9)).2.2.2.2 := q1.2
    rw [b1, zb_n, q_sea_104, q_cg_0, c1, zb_n, q_sea_111, z_add_eq (by omega) (by omega), tc1, ← l99, ← q2, ← q3, ← e9]
    exact ih (k + 1) r2 m4 (cS m3 18 n) (by omega) hi4 e18 o1 o2 (by omega) (by omega) (by rw [e6]; exact ow6) (by rw [e9]; exact ow9)
theorem W_season (hi : C_is w h n heat price D A c U kn KS cs m) (hN : w_N w h n heat D) (hok : hr_ok n A) (h34 : -1 ≤ A 34) (ht : 0 ≤ A 35 ∧ A 35 ≤ 1073741824) (s a : Int) : ∃ m', z_R 144 (m, 0, [(2, 0), (0, s), (0, a), (9, 0), (9, 0)], []) = some (m', some (0, se_A w h n heat price cs D A s a)) ∧ c_ln m m' (ro_sea a) := by
  rw [q_sea_0]
  by_cases c1 : a < 1
  · have e : se_A w h n heat price cs D A s a = -1 := if_neg (by omega)
    rw [if_pos c1, e]
    exact ⟨m, rfl, c_ln_n (if_neg (by omega))⟩
  rw [if_neg c1]
  by_cases c2 : a ≤ 60
  · have e : se_A w h n heat price cs D A s a = se_H w h n heat price cs D a.toNat s A 0 := if_pos (by omega)
    obtain ⟨N, rfl⟩ : ∃ N : Nat, a = (N : Int) := ⟨a.toNat, by omega⟩
    rw [Int.toNat_natCast] at e
    obtain ⟨m2, b1, b2, b3⟩ := c_become z_st_12 z_st_18 (by decide) m
    have b1 : z_R 61 (m, 0, [(2, 18), (2, 12)], []) = some (m2, none) := b1
    have hC2 : C_is w h n heat price D A c U kn KS cs m2 := C_fr hi fun p k hk => by
      have hk' := hk
      unfold C_hit at hk'
      have hk' := of_decide_eq_true hk'
      exact b3.of (by (try unfold r_LHs); (repeat' (first | exact trivial | refine z_of_c ?_ ?_)) <;> omega)
    have hA2 : cS m2 18 n = A := (cS_cR b2).trans hi.2.2.1
    have hC3 : C_is w h n heat price D A c U kn KS cs (z_up (z_up (z_up (z_up m2 24 6 0) 24 7 0) 24 8 0) 24 9 0) := C_upn (C_upn (C_upn (C_upn hC2 (by decide)) (by decide)) (by decide)) (by decide)
    have k6 : (z_up (z_up (z_up (z_up m2 24 6 0) 24 7 0) 24 8 0) 24 9 0) 24 6 = 0 := by rw [zu_k (by decide), zu_k (by decide), zu_k (by decide), zu_self]
    have k9 : (z_up (z_up (z_up (z_up m2 24 6 0) 24 7 0) 24 8 0) 24 9 0) 24 9 = 0 := zu_self
    have f3 : ∀ p k, ¬ p = 24 → (z_up (z_up (z_up (z_up m2 24 6 0) 24 7 0) 24 8 0) 24 9 0) p k = m2 p k := fun p k hp => by rw [zu_p hp, zu_p hp, zu_p hp, zu_p hp]
    rw [if_pos c2, b1, zb_n, q_sea_24, s_cb_0, zb_n, q_sea_31, q_fg_0]
    generalize z_up (z_up (z_up (z_up m2 24 6 0) 24 7 0) 24 8 0) 24 9 0 = m3 at hC3 k6 k9 f3 ⊢
    have hA3 : cS m3 18 n = A := by
      rw [cS_fr (fun j k hj _ => f3 (18 + j) k (by omega))]
      exact hA2
    obtain ⟨m4, d1, d2⟩ := q_fgn 9 0 m3 (by decide)
    have d1 : z_R 145 (m3, 2, [(2, 24), (0, 0)], []) = some (m4, none) := d1
    have hC4 : C_is w h n heat price D A c U kn KS cs m4 := C_fr hC3 fun p k hk => by
      have hk' := hk
      unfold C_hit at hk'
      have hk' := of_decide_eq_true hk'
      exact d2.of (by (try unfold r_LHs); (repeat' (first | exact trivial | refine z_of_c ?_ ?_)) <;> omega)
    have hC5 : C_is w h n heat price D A c U kn KS cs (z_up m4 24 4 (-1)) := C_fr hC4 fun p k hk => by
      by_cases e : p = 24 ∧ k = 4
      · rw [e.1, e.2, zu_self]
        exact hC4.1.2.2.2.2.2.2.1.symm
      · exact X_up e
    have e18 : cS m4 18 n = A := by
      rw [cS_fr (fun j k hj _ => d2.of (p := 18 + j) (k := k) (by (try unfold r_LHs); (repeat' (first | exact trivial | refine z_of_c ?_ ?_)) <;> omega))]
      exact hA3
    have e6 : m4 24 6 = 0 := (d2.of (by (try unfold r_LHs); (repeat' (first | exact trivial | refine z_of_c ?_ ?_)) <;> omega)).trans k6
    have e9 : m4 24 9 = 0 := (d2.of (by (try unfold r_LHs); (repeat' (first | exact trivial | refine z_of_c ?_ ?_)) <;> omega)).trans k9
    obtain ⟨m5, g1, g2⟩ := W_sea1 hN (x1 := s) (N := N) (by omega) N 0 s m4 A (by omega) hC5 e18 hok h34 ht.1 (by omega) (by rw [e6]; decide +kernel) (by rw [e9]; decide +kernel)
    have g1 : z_R 144 (m4, 43, [(2, 0), (0, s), (0, (N : Int)), (0, s), (0, 0)], []) = some (m5, some (0, se_H w h n heat price cs D N s A (m4 24 9))) := g1
    rw [d1, zb_n, q_sea_38, g1, e, e9]
    exact ⟨m5, rfl, c_ln_s (if_pos (by omega)) g2⟩
  · have e : se_A w h n heat price cs D A s a = -1 := if_neg (by omega)
    rw [if_neg c2, e]
    exact ⟨m, rfl, c_ln_n (if_neg (by omega))⟩
theorem V_sea1 (hN : w_N w h n heat D) {x1 : Int} {N : Nat} (hN6 : N ≤ 60) : ∀ (f k : Nat) (r : Int) (v5 v6 : z_V) (m : z_M) (B : Nat → Int), k + f = N → R_is w h n heat price D A c U kn KS cs (z_up m 251 23 (-1)) → rS m 264 n = B → hr_ok n B → -1 ≤ B 34 → 0 ≤ B 35 → B 35 + (f : Int) ≤ 2147483647 → ∃ m', z_R 257 (m, 54, [(2, 251), (0, x1), (0, (N : Int)), (0, r), (0, (k : Int)), v5, v6], []) = some (m', some (0, se_H w h n heat price cs D f r B (m 251 35))) ∧ m' 251 10 = 3 := by
  intro f
  induction f with
  | zero =>
    intro k r v5 v6 m B hk hi hB hok h34 ht ht2
    obtain ⟨b, x, a1, a2⟩ := q_tse195 (x1 := x1) (x2 := (N : Int)) (x3 := r) (v6 := v6) 8 1 0 (z_up m 251 23 (-1)) (by decide) (by decide)
    have a1 : z_R 257 (z_up m 251 23 (-1), 195, [(2, 251), (0, x1), (0, (N : Int)), (0, r), (0, 0), (0, 1), v6], []) = _ := a1
    have e35 : (z_up m 251 23 (-1)) 251 35 = m 251 35 := zu_k (by decide)
    rw [q_tse_54, if_pos (by omega), a1]
    generalize z_up m 251 23 (-1) = m0 at hi e35 ⊢
    rw [t_tell0, zb_n, q_tse_243, if_pos a2]
    by_cases c1 : (z_up (z_up (z_up m0 251 10 0) 255 0 (z_i2l (m0 251 32))) 251 10 1) 274 b.toNat = 0
    · rw [if_pos c1, t_tell1, zb_n, q_tse_266, if_pos a2, t_tell2, zb_n, q_tse_278]
      rw [t_told3 (by decide) (by decide), e35]
      exact ⟨_, rfl, zu_self⟩
    · rw [if_neg c1, t_tell1, zb_n, q_tse_266, if_pos a2, t_tell2, zb_n, q_tse_278]
      rw [t_told3 (by decide) (by decide), e35]
      exact ⟨_, rfl, zu_self⟩
  | succ f ih =>
    intro k r v5 v6 m B hk hi hB hok h34 ht ht2
    have h5 := hN.1.2.2
    have e3 : m 251 3 = (n : Int) := by
      have := hi.1.2.2.1
      rw [zu_k (by decide)] at this
      exact this
    obtain ⟨r1, hr1⟩ : ∃ r1, se_n r = r1 := ⟨_, rfl⟩
    obtain ⟨r2, hr2⟩ : ∃ r2, se_n r1 = r2 := ⟨_, rfl⟩
    have es : se_H w h n heat price cs D (f + 1) r B (m 251 35) = se_H w h n heat price cs D f r2 (hr_H w h heat price (c_ml cs) (se_w D (z_rem (z_ush r2 16) ((n : Int) + 3))) n 1 (u_up B 36 (z_rem (z_ush r1 16) 10)) 0 0 0 (m 251 35)).1 (hr_H w h heat price (c_ml cs) (se_w D (z_rem (z_ush r2 16) ((n : Int) + 3))) n 1 (u_up B 36 (z_rem (z_ush r1 16) 10)) 0 0 0 (m 251 35)).2.2.2.2 := by
      rw [← hr2, ← hr1]
      rfl
    have hF := z_draw r1 (y := 10) (by decide) (by decide)
    -- one hour with the one that is warm
    have key : ∀ (F W V x5 : Int), 0 ≤ F ∧ F ≤ 9 → (∀ y : Nat, y < n → ((y : Int) = V ↔ (y : Int) = W)) → ∃ m', ((z_R 207 (z_up (z_up m 264 36 F) 251 23 V, 0, [(2, 251), (2, 264), (0, 1), (9, 0)], [])).bind fun qq => z_R 257 (qq.1, 135, [(2, 251), (0, x1), (0, (N : Int)), (0, r2), (0, (k : Int)), (0, x5), v6], qq.2.toList ++ [])) = some (m', some (0, se_H w h n heat price cs D f r2 (hr_H w h heat price (c_ml cs) (se_w D W) n 1 (u_up B 36 F) 0 0 0 (m 251 35)).1 (hr_H w h heat price (c_ml cs) (se_w D W) n 1 (u_up B 36 F) 0 0 0 (m 251 35)).2.2.2.2)) ∧ m' 251 10 = 3 := by
      intro F W V x5 hF hVW
      have hi2 : R_is w h n heat price D A c U kn KS cs (z_up (z_up (z_up m 264 36 F) 251 23 V) 251 23 (-1)) := R_f23 hi fun p k hk hn => by
        rw [X_up hn]
        exact X_up fun z => by
          unfold R_hit at hk
          have := of_decide_eq_true hk
          omega
      have hB2 : rS (z_up (z_up m 264 36 F) 251 23 V) 264 n = u_up B 36 F := by
        rw [rS_row (zu_rowne (by decide)), rS_up (by decide) (a_vis_hi (by decide)), hB]
      have lf : (z_up (z_up m 264 36 F) 251 23 V) 251 23 = V := zu_self
      have l35 : (z_up (z_up m 264 36 F) 251 23 V) 251 35 = m 251 35 := (zu_k (by decide)).trans (zu_p (by decide))
      generalize z_up (z_up m 264 36 F) 251 23 V = m2 at hi2 hB2 lf l35 ⊢
      have hok2 : hr_ok n (u_up B 36 F) := hr_ok_up hok (by decide) (fun _ => hF) (fun p h1 h2 => by omega)
      have h342 : -1 ≤ u_up B 36 F 34 := by rw [u_up_ne (by decide)]; exact h34
      have h352 : u_up B 36 F 35 = B 35 := u_up_ne (by decide)
      have hnum : hr_nums n heat (c_ml cs) (se_w D V) := ⟨h5, hN.2.1, c_ml_ok cs, wmf_b hN.2.2⟩
      obtain ⟨m3, b1, b2, b3⟩ := r_goHours z_A_264 (Or.inr rfl) hN.1.1 hN.1.2.1 (price := price) hnum (N := 1) (by decide) m2 (R_cfgf hi2 lf) hB2 hok2 (by rw [h352]; exact ht) (by rw [h352]; omega)
      have b1 : z_R 207 (m2, 0, [(2, 251), (2, 264), (0, 1), (9, 0)], []) = some (m3, none) := b1
      obtain ⟨⟨o1, o2⟩, o3⟩ := hr_H_ok (price := price) hN.1.1 hN.1.2.1 hnum 1 (u_up B 36 F) (m2 251 32) (m2 251 33) (m2 251 34) (m2 251 35) hok2 h342 (by rw [h352]; exact ht) (by rw [h352]; omega)
      rw [← b2] at o1 o2 o3
      have o1 : hr_ok n (rS m3 264 n) := o1
      have o2 : -1 ≤ rS m3 264 n 34 := o2
      have o3 : rS m3 264 n 35 = B 35 + 1 := by
        have o3 : rS m3 264 n 35 = u_up B 36 F 35 + ((1 : Nat) : Int) := o3
        omega
      obtain ⟨m4, y6, c1, c2⟩ := q_tse138 (x1 := x1) (x2 := (N : Int)) (x3 := r2) (x4 := (k : Int)) (x5 := x5) 9 0 m3 (by decide)
      have c1 : z_R 257 (m3, 138, [(2, 251), (0, x1), (0, (N : Int)), (0, r2), (0, (k : Int)), (0, x5), (0, 0)], []) = z_R 257 (m4, 54, [(2, 251), (0, x1), (0, (N : Int)), (0, r2), (0, z_add (k : Int) 1), (0, x5), y6], []) := c1
      have hi4 : R_is w h n heat price D A c U kn KS cs (z_up m4 251 23 (-1)) := R_f23 hi2 fun p k hk hn => by
        have hk' := hk
        unfold R_hit at hk'
        have hk' := of_decide_eq_true hk'
        rw [c2.of (p := p) (k := k) (by (try unfold r_LHs); (repeat' (first | exact trivial | refine z_of_c ?_ ?_)) <;> omega)]
        exact b3.of (by (try unfold r_LHs); (repeat' (first | exact trivial | refine z_of_c ?_ ?_)) <;> omega)
      have e18 : rS m4 264 n = rS m3 264 n := rS_row (c2.ofr (by (try unfold r_LHs); (repeat' (first | exact trivial | refine z_ofr_c ?_ ?_)) <;> omega))
      have q1 := hr_H1_cg (w := w) (h := h) (n := n) (heat := heat) (price := price) (ml := c_ml cs) (wmt := se_w D V) (wmt' := se_w D W) (A := u_up B 36 F) (fun y hy => by
        show (if (y : Int) = V then 9 else wmD D (u_up B 36 F 35) y) = (if (y : Int) = W then 9 else wmD D (u_up B 36 F 35) y)
        by_cases e : (y : Int) = V
        · rw [if_pos e, if_pos ((hVW y hy).mp e)]
        · rw [if_neg e, if_neg (fun z => e ((hVW y hy).mpr z))]) (M := m2 251 32) (M' := 0) (G := m2 251 33) (G' := 0) (F := m2 251 34) (F' := 0) (T := m2 251 35)
      rw [← b2] at q1
      have q2 : rS m3 264 n = (hr_H w h heat price (c_ml cs) (se_w D W) n 1 (u_up B 36 F) 0 0 0 (m2 251 35)).1 := q1.1
      have q3 : m3 251 35 = (hr_H w h heat price (c_ml cs) (se_w D W) n 1 (u_up B 36 F) 0 0 0 (m2 251 35)).2.2.2.2 := q1.2
      have e35 : m4 251 35 = m3 251 35 := c2.of (by (try unfold r_LHs); (repeat' (first | exact trivial | refine z_of_c ?_ ?_)) <;> omega)
      rw [b1, zb_n, q_tse_135, c1, z_add_eq (by omega) (by omega), tc1, ← l35, ← q2, ← q3, ← e35]
      exact ih (k + 1) r2 _ _ m4 (rS m3 264 n) (by omega) hi4 e18 o1 o2 (by omega) (by omega)
    rw [q_tse_54, if_neg (by omega), e3, z_add_eq (x := (n : Int)) (y := 3) (by omega) (by omega), if_neg (show ¬ (n : Int) + 3 = 0 by omega), es, show z_add (z_mul r 1103515245) 12345 = r1 from hr1, show z_add (z_mul r1 1103515245) 12345 = r2 from hr2]
    have hV := z_draw r2 (y := (n : Int) + 3) (by omega) (by omega)
    by_cases c1 : (n : Int) ≤ z_rem (z_ush r2 16) ((n : Int) + 3)
    · rw [if_pos c1]
      exact key _ _ _ _ (by omega) (fun y hy => by omega)
    · rw [if_neg c1]
      exact key _ _ _ _ (by omega) (fun y hy => Iff.rfl)
theorem V_season (hi : R_is w h n heat price D A c U kn KS cs m) (hN : w_N w h n heat D) (hok : hr_ok n A) (h34 : -1 ≤ A 34) (ht : 0 ≤ A 35 ∧ A 35 ≤ 1073741824) (s a : Int) : ∃ m', z_R 257 (m, 0, [(2, 251), (0, s), (0, a), (9, 0), (9, 0), (9, 0), (9, 0)], []) = some (m', some (0, se_A w h n heat price cs D A s a)) ∧ r_ln m m' (ro_sea a) := by
  have hu := R_upn (p0 := 251) (k0 := 11) (v := 0) hi (by decide)
  rw [q_tse_0]
  by_cases ok : 1 ≤ a ∧ a ≤ 60
  · have e : se_A w h n heat price cs D A s a = se_H w h n heat price cs D a.toNat s A 0 := if_pos ok
    obtain ⟨N, rfl⟩ : ∃ N : Nat, a = (N : Int) := ⟨a.toNat, by omega⟩
    rw [Int.toNat_natCast] at e
    obtain ⟨m1, b1, b2, b3⟩ := R_lt hu
    have hR3 : R_is w h n heat price D A c U kn KS cs (z_up (z_up (z_up (z_up m1 251 32 0) 251 33 0) 251 34 0) 251 35 0) := R_upn (R_upn (R_upn (R_upn b2 (by decide)) (by decide)) (by decide)) (by decide)
    have f3 : ∀ p k, ¬ p = 251 → (z_up (z_up (z_up (z_up m1 251 32 0) 251 33 0) 251 34 0) 251 35 0) p k = m1 p k := fun p k hp => by rw [zu_p hp, zu_p hp, zu_p hp, zu_p hp]
    have k35 : (z_up (z_up (z_up (z_up m1 251 32 0) 251 33 0) 251 34 0) 251 35 0) 251 35 = 0 := zu_self
    rw [if_pos ok, b1, zb_n, q_tse_23]
    generalize z_up (z_up (z_up (z_up m1 251 32 0) 251 33 0) 251 34 0) 251 35 0 = m2 at hR3 f3 k35 ⊢
    obtain ⟨m3, c1, c2⟩ := q_tse30 (x1 := s) (x2 := (N : Int)) (x3 := s) 9 0 m2 (by decide)
    have c1 : z_R 257 (m2, 30, [(2, 251), (0, s), (0, (N : Int)), (0, s), (0, 0), (9, 0), (9, 0)], []) = z_R 257 (m3, 54, [(2, 251), (0, s), (0, (N : Int)), (0, s), (0, 0), (9, 0), (9, 0)], []) := c1
    have hR4 : R_is w h n heat price D A c U kn KS cs m3 := R_fr hR3 fun p k hk => by
      have hk' := hk
      unfold R_hit at hk'
      have hk' := of_decide_eq_true hk'
      exact c2.of (by (try unfold r_LHs); (repeat' (first | exact trivial | refine z_of_c ?_ ?_)) <;> omega)
    have hR5 : R_is w h n heat price D A c U kn KS cs (z_up m3 251 23 (-1)) := R_fr hR4 fun p k hk => by
      by_cases e : p = 251 ∧ k = 23
      · rw [e.1, e.2, zu_self]
        exact hR4.1.2.2.2.2.2.symm
      · exact X_up e
    have e264 : rS m3 264 n = A := by
      rw [rS_row (c2.ofr (by (try unfold r_LHs); (repeat' (first | exact trivial | refine z_ofr_c ?_ ?_)) <;> omega)), rS_row (funext fun k => f3 264 k (by decide))]
      exact b3
    have e35 : m3 251 35 = 0 := (c2.of (by (try unfold r_LHs); (repeat' (first | exact trivial | refine z_of_c ?_ ?_)) <;> omega)).trans k35
    obtain ⟨m5, g1, g2⟩ := V_sea1 hN (x1 := s) (N := N) (by omega) N 0 s (9, 0) (9, 0) m3 A (by omega) hR5 e264 hok h34 ht.1 (by omega)
    have g1 : z_R 257 (m3, 54, [(2, 251), (0, s), (0, (N : Int)), (0, s), (0, 0), (9, 0), (9, 0)], []) = some (m5, some (0, se_H w h n heat price cs D N s A (m3 251 35))) := g1
    rw [c1, g1, e, e35]
    exact ⟨m5, rfl, r_ln_s (if_pos ok) g2⟩
  · have e : se_A w h n heat price cs D A s a = -1 := if_neg ok
    rw [if_neg ok, e]
    exact ⟨_, rfl, r_ln_n (zu_k (by decide)) (if_neg ok)⟩
/-! share, thaw: what is refused leaves all -/
theorem W_share (hi : C_is w h n heat price D A c U kn KS cs m) (h5 : n ≤ 5) (hw : wi w h n A) {p v : Int} {m' : z_M} (hE : z_R 116 (m, 0, [(2, 0), (0, p), (9, 0), (9, 0)], []) = some (m', some (0, v))) (hv : v < 0) : m' = m := by
  rw [x_sha_0, hi.1.1, hi.1.2.1, hi.1.2.2.1] at hE
  by_cases c1 : 0 ≤ p ∧ p < (n : Int)
  · obtain ⟨q, rfl⟩ : ∃ q : Nat, p = (q : Int) := ⟨p.toNat, by omega⟩
    have e15 : m 15 q = A (q + 18) := C_A3 hi (by omega) h5
    rw [if_pos c1, if_pos (show 0 ≤ (q : Int) ∧ (q : Int) < 5 by omega), Int.toNat_natCast, e15] at hE
    by_cases c2 : u_hs (w : Int) (h : Int) (A (q + 18)) = 0
    · rw [if_neg (not_not_intro c2)] at hE
      have z := (hw.1 q (by omega)).resolve_right (not_not_intro c2)
      exact s_mem hE
    · have z : ¬ A (q + 18) = -1 := fun z => by
        have := u_hs_rng c2
        omega
      rw [if_pos c2] at hE
      obtain ⟨m1, u1, h1⟩ := s_bI (by decide +kernel) hE
      rw [x_sha_49] at h1
      obtain ⟨m2, u2, h2⟩ := s_bI (by decide +kernel) h1
      rw [x_sha_64] at h2
      obtain ⟨m3, u3, h3⟩ := s_bI (by decide +kernel) h2
      rw [x_sha_81] at h3
      obtain ⟨m4, h4⟩ := s_bV (by decide +kernel) h3
      rw [x_sha_85] at h4
      exact absurd (s_val h4) (by omega)
  · rw [if_neg c1] at hE
    exact s_mem hE
theorem V_share (hi : R_is w h n heat price D A c U kn KS cs m) (h5 : n ≤ 5) {p v : Int} {m' : z_M} (hE : z_R 239 (m, 0, [(2, 251), (0, p), (9, 0), (9, 0)], []) = some (m', some (0, v))) (hv : v < 0) : m' 251 10 = m 251 10 := by
  rw [x_tsh_0 m p (by rw [hi.1.2.2.1]; omega), hi.1.2.2.1] at hE
  by_cases c1 : 0 ≤ p ∧ p < (n : Int)
  · obtain ⟨q, rfl⟩ : ∃ q : Nat, p = (q : Int) := ⟨p.toNat, by omega⟩
    have e18 : m 252 (q + 18) = A (q + 18) := R_A hi (by omega) (a_vis_p (b := 18) (p := q) (by omega) (by omega) (by omega) (by omega))
    rw [if_pos c1, show ((q : Int) + 18).toNat = q + 18 by omega, e18] at hE
    by_cases z : A (q + 18) = -1
    · rw [if_pos z] at hE
      rw [s_mem hE, zu_k (by decide)]
    · rw [if_neg z] at hE
      obtain ⟨m1, u1, h1⟩ := s_bI (by decide +kernel) hE
      rw [x_tsh_48] at h1
      obtain ⟨m2, u2, h2⟩ := s_bI (by decide +kernel) h1
      rw [x_tsh_51] at h2
      by_cases c2 : u2 = 0
      · rw [if_pos c2] at h2
        obtain ⟨m3, h3⟩ := s_bV (by decide +kernel) h2
        rw [x_tsh_67] at h3
        exact absurd (s_val h3) (by omega)
      · rw [if_neg c2] at h2
        obtain ⟨m3, u3, h3⟩ := s_bI (by decide +kernel) h2
        rw [x_tsh_80] at h3
        obtain ⟨m4, u4, h4⟩ := s_bI (by decide +kernel) h3
        rw [x_tsh_90] at h4
        obtain ⟨m5, h6⟩ := s_bV (by decide +kernel) h4
        rw [x_tsh_97] at h6
        exact absurd (s_val h6) (by omega)
  · rw [if_neg c1] at hE
    rw [s_mem hE, zu_k (by decide)]
/-! a method that gives nothing; one that only gives longs -/
def z_onlyV1 (q : a_K) : Bool := match q.2.1 with
  | .ireturn => false
  | .lreturn => false
  | .new _ => false
  | _ => true
def z_onlyV (y : Nat) : Bool := (kt_at y).all fun r => r.all z_onlyV1
theorem z_ex_tagV {y : Nat} (hk : z_onlyV y = true) : ∀ (f : Nat) (g : z_G) (r : z_Q), z_ex f y g = some r → r.2 = none := by
  intro f
  induction f with
  | zero => intro g r h; cases h
  | succ f ih =>
    intro g r h
    unfold z_ex at h
    split at h
    · cases h
    · rename_i q hq
      obtain ⟨⟨row, h1, h2⟩, -⟩ := k_get_in hq
      have hb := List.all_eq_true.mp (List.all_eq_true.mp hk row h1) q h2
      split at h
      · split at h
        · exact ih _ _ h
        · cases h
      · obtain ⟨m, pc, ls, st⟩ := g
        unfold z_ret at h
        unfold z_onlyV1 at hb
        simp only at h
        split at h
        · rw [← Option.some.inj h]
        · rename_i e; rw [e] at hb; cases hb
        · rename_i e; rw [e] at hb; cases hb
        · rename_i e; rw [e] at hb; cases hb
        · cases h
      · split at h
        · split at h
          · exact ih _ _ h
          · cases h
        · cases h
theorem z_tagV {y : Nat} (hk : z_onlyV y = true) {g : z_G} {r : z_Q} (h : z_R y g = some r) : r.2 = none := by
  obtain ⟨f, h⟩ := z_R_iff.mp h
  exact z_ex_tagV hk f g r h
def z_onlyL1 (q : a_K) : Bool := match q.2.1 with
  | .return_ => false
  | .ireturn => false
  | .new _ => false
  | _ => true
def z_onlyL (y : Nat) : Bool := (kt_at y).all fun r => r.all z_onlyL1
theorem z_ex_tagL {y : Nat} (hk : z_onlyL y = true) : ∀ (f : Nat) (g : z_G) (r : z_Q), z_ex f y g = some r → ∃ u, r.2 = some (1, u) := by
  intro f
  induction f with
  | zero => intro g r h; cases h
  | succ f ih =>
    intro g r h
    unfold z_ex at h
    split at h
    · cases h
    · rename_i q hq
      obtain ⟨⟨row, h1, h2⟩, -⟩ := k_get_in hq
      have hb := List.all_eq_true.mp (List.all_eq_true.mp hk row h1) q h2
      split at h
      · split at h
        · exact ih _ _ h
        · cases h
      · obtain ⟨m, pc, ls, st⟩ := g
        unfold z_ret at h
        unfold z_onlyL1 at hb
        simp only at h
        split at h
        · rename_i e; rw [e] at hb; cases hb
        · rename_i e; rw [e] at hb; cases hb
        · rename_i e; rw [e] at hb; cases hb
        · split at h
          · exact ⟨_, by rw [← Option.some.inj h]⟩
          · cases h
        · cases h
      · split at h
        · split at h
          · exact ih _ _ h
          · cases h
        · cases h
theorem z_tagL {y : Nat} (hk : z_onlyL y = true) {g : z_G} {r : z_Q} (h : z_R y g = some r) : ∃ u, r.2 = some (1, u) := by
  obtain ⟨f, h⟩ := z_R_iff.mp h
  exact z_ex_tagL hk f g r h
/-- thaw's answer -/
def h_v (n p : Int) : Int := if (1 ≤ n ∧ n ≤ 8) ∧ 0 ≤ p ∧ p ≤ 10 then 0 else -1
theorem h_val {m m' : z_M} {x v : Int} (h : some (m, some (0, x)) = (some (m', some (0, v)) : Option z_Q)) : v = x := (congrArg (fun z : z_Q => (z.2.getD (0, 0)).2) (Option.some.inj h)).symm
theorem h_c {m m' : z_M} {n p v : Int} (h : z_R 138 (m, 0, [(2, 0), (0, n), (0, p)], []) = some (m', some (0, v))) : v = h_v n p := by
  unfold h_v
  rw [h_thw_0] at h
  by_cases c1 : n < 1
  · rw [if_pos c1] at h
    rw [if_neg (by omega)]
    exact h_val h
  rw [if_neg c1] at h
  by_cases c2 : 8 < n
  · rw [if_pos c2] at h
    rw [if_neg (by omega)]
    exact h_val h
  rw [if_neg c2] at h
  by_cases c3 : p < 0
  · rw [if_pos c3] at h
    rw [if_neg (by omega)]
    exact h_val h
  rw [if_neg c3] at h
  by_cases c4 : p ≤ 10
  · rw [if_pos c4] at h
    rw [if_pos (by omega)]
    obtain ⟨⟨m1, x1⟩, h1, h2⟩ := Option.bind_eq_some_iff.mp h
    have e1 := z_tagV (y := 139) (by decide +kernel) h1
    simp only at e1
    subst e1
    change z_R 138 (m1, 36, [(2, 0), (0, n), (0, p)], []) = some (m', some (0, v)) at h2
    rw [h_thw_36, if_pos (show 0 ≤ n ∧ n < 9 by omega)] at h2
    obtain ⟨⟨m2, x2⟩, h3, h4⟩ := Option.bind_eq_some_iff.mp h2
    obtain ⟨u, e2⟩ := z_tagL (y := 142) (by decide +kernel) h3
    simp only at e2
    subst e2
    change z_R 138 (m2, 50, [(2, 0), (0, n), (0, p)], [(1, u), (1, m1 195 n.toNat), (2, 0)]) = some (m', some (0, v)) at h4
    rw [h_thw_50] at h4
    obtain ⟨⟨m3, x3⟩, h5, h6⟩ := Option.bind_eq_some_iff.mp h4
    have e3 := z_tagV (y := 122) (by decide +kernel) h5
    simp only at e3
    subst e3
    change z_R 138 (m3, 53, [(2, 0), (0, n), (0, p)], []) = some (m', some (0, v)) at h6
    rw [h_thw_53] at h6
    exact h_val h6
  · rw [if_neg c4] at h
    rw [if_neg (by omega)]
    exact h_val h
theorem h_t {m m' : z_M} {n p v : Int} (h : z_R 253 (m, 0, [(2, 251), (0, n), (0, p)], []) = some (m', some (0, v))) : v = h_v n p := by
  unfold h_v
  rw [h_tht_0, r_in] at h
  by_cases c1 : 1 ≤ n ∧ n ≤ 8
  · rw [if_pos c1] at h
    change z_R 253 (z_up m 251 11 0, 12, [(2, 251), (0, n), (0, p)], [(0, 1)]) = some (m', some (0, v)) at h
    rw [h_tht_12, if_neg (show ¬ (1 : Int) = 0 by decide), r_in] at h
    by_cases c2 : 0 ≤ p ∧ p ≤ 10
    · rw [if_pos c2] at h
      change z_R 253 (z_up m 251 11 0, 22, [(2, 251), (0, n), (0, p)], [(0, 1)]) = some (m', some (0, v)) at h
      rw [h_tht_22, if_neg (show ¬ (1 : Int) = 0 by decide)] at h
      rw [if_pos ⟨c1, c2⟩]
      obtain ⟨⟨m1, x1⟩, h1, h2⟩ := Option.bind_eq_some_iff.mp h
      obtain ⟨u, e1⟩ := z_tagL (y := 254) (by decide +kernel) h1
      simp only at e1
      subst e1
      change z_R 253 (m1, 39, [(2, 251), (0, n), (0, p)], [(1, u), (2, 251)]) = some (m', some (0, v)) at h2
      rw [h_tht_39] at h2
      obtain ⟨⟨m2, x2⟩, h3, h4⟩ := Option.bind_eq_some_iff.mp h2
      obtain ⟨u2, e2⟩ := z_tagL (y := 255) (by decide +kernel) h3
      simp only at e2
      subst e2
      change z_R 253 (m2, 46, [(2, 251), (0, n), (0, p)], [(1, u2), (1, u), (2, 251)]) = some (m', some (0, v)) at h4
      rw [h_tht_46] at h4
      obtain ⟨⟨m3, x3⟩, h5, h6⟩ := Option.bind_eq_some_iff.mp h4
      have e3 := z_tagV (y := 240) (by decide +kernel) h5
      simp only at e3
      subst e3
      change z_R 253 (m3, 49, [(2, 251), (0, n), (0, p)], []) = some (m', some (0, v)) at h6
      rw [h_tht_49] at h6
      exact h_val h6
    · rw [if_neg c2] at h
      change z_R 253 (z_up m 251 11 0, 22, [(2, 251), (0, n), (0, p)], [(0, 0)]) = some (m', some (0, v)) at h
      rw [h_tht_22, if_pos rfl] at h
      rw [if_neg (fun z => c2 z.2)]
      exact h_val h
  · rw [if_neg c1] at h
    change z_R 253 (z_up m 251 11 0, 12, [(2, 251), (0, n), (0, p)], [(0, 0)]) = some (m', some (0, v)) at h
    rw [h_tht_12, if_pos rfl] at h
    rw [if_neg (fun z => c1 z.1)]
    exact h_val h
theorem W_thaw {m m' : z_M} {n p v : Int} (h : z_R 138 (m, 0, [(2, 0), (0, n), (0, p)], []) = some (m', some (0, v))) (hv : v < 0) : m' = m := by
  rw [h_thw_0] at h
  by_cases c1 : n < 1
  · rw [if_pos c1] at h
    exact s_mem h
  rw [if_neg c1] at h
  by_cases c2 : 8 < n
  · rw [if_pos c2] at h
    exact s_mem h
  rw [if_neg c2] at h
  by_cases c3 : p < 0
  · rw [if_pos c3] at h
    exact s_mem h
  rw [if_neg c3] at h
  by_cases c4 : p ≤ 10
  · rw [if_pos c4] at h
    obtain ⟨⟨m1, x1⟩, h1, h2⟩ := Option.bind_eq_some_iff.mp h
    have e1 := z_tagV (y := 139) (by decide +kernel) h1
    simp only at e1
    subst e1
    change z_R 138 (m1, 36, [(2, 0), (0, n), (0, p)], []) = some (m', some (0, v)) at h2
    rw [h_thw_36, if_pos (show 0 ≤ n ∧ n < 9 by omega)] at h2
    obtain ⟨⟨m2, x2⟩, h3, h4⟩ := Option.bind_eq_some_iff.mp h2
    obtain ⟨u, e2⟩ := z_tagL (y := 142) (by decide +kernel) h3
    simp only at e2
    subst e2
    change z_R 138 (m2, 50, [(2, 0), (0, n), (0, p)], [(1, u), (1, m1 195 n.toNat), (2, 0)]) = some (m', some (0, v)) at h4
    rw [h_thw_50] at h4
    obtain ⟨⟨m3, x3⟩, h5, h6⟩ := Option.bind_eq_some_iff.mp h4
    have e3 := z_tagV (y := 122) (by decide +kernel) h5
    simp only at e3
    subst e3
    change z_R 138 (m3, 53, [(2, 0), (0, n), (0, p)], []) = some (m', some (0, v)) at h6
    rw [h_thw_53] at h6
    exact absurd (h_val h6) (by omega)
  · rw [if_neg c4] at h
    exact s_mem h
theorem V_thaw {m m' : z_M} {n p v : Int} (h : z_R 253 (m, 0, [(2, 251), (0, n), (0, p)], []) = some (m', some (0, v))) (hv : v < 0) : m' 251 10 = m 251 10 := by
  rw [h_tht_0, r_in] at h
  by_cases c1 : 1 ≤ n ∧ n ≤ 8
  · rw [if_pos c1] at h
    change z_R 253 (z_up m 251 11 0, 12, [(2, 251), (0, n), (0, p)], [(0, 1)]) = some (m', some (0, v)) at h
    rw [h_tht_12, if_neg (show ¬ (1 : Int) = 0 by decide), r_in] at h
    by_cases c2 : 0 ≤ p ∧ p ≤ 10
    · rw [if_pos c2] at h
      change z_R 253 (z_up m 251 11 0, 22, [(2, 251), (0, n), (0, p)], [(0, 1)]) = some (m', some (0, v)) at h
      rw [h_tht_22, if_neg (show ¬ (1 : Int) = 0 by decide)] at h
      obtain ⟨⟨m1, x1⟩, h1, h2⟩ := Option.bind_eq_some_iff.mp h
      obtain ⟨u, e1⟩ := z_tagL (y := 254) (by decide +kernel) h1
      simp only at e1
      subst e1
      change z_R 253 (m1, 39, [(2, 251), (0, n), (0, p)], [(1, u), (2, 251)]) = some (m', some (0, v)) at h2
      rw [h_tht_39] at h2
      obtain ⟨⟨m2, x2⟩, h3, h4⟩ := Option.bind_eq_some_iff.mp h2
      obtain ⟨u2, e2⟩ := z_tagL (y := 255) (by decide +kernel) h3
      simp only at e2
      subst e2
      change z_R 253 (m2, 46, [(2, 251), (0, n), (0, p)], [(1, u2), (1, u), (2, 251)]) = some (m', some (0, v)) at h4
      rw [h_tht_46] at h4
      obtain ⟨⟨m3, x3⟩, h5, h6⟩ := Option.bind_eq_some_iff.mp h4
      have e3 := z_tagV (y := 240) (by decide +kernel) h5
      simp only at e3
      subst e3
      change z_R 253 (m3, 49, [(2, 251), (0, n), (0, p)], []) = some (m', some (0, v)) at h6
      rw [h_tht_49] at h6
      exact absurd (h_val h6) (by omega)
    · rw [if_neg c2] at h
      change z_R 253 (z_up m 251 11 0, 22, [(2, 251), (0, n), (0, p)], [(0, 0)]) = some (m', some (0, v)) at h
      rw [h_tht_22, if_pos rfl] at h
      rw [s_mem h, zu_k (by decide)]
  · rw [if_neg c1] at h
    change z_R 253 (z_up m 251 11 0, 12, [(2, 251), (0, n), (0, p)], [(0, 0)]) = some (m', some (0, v)) at h
    rw [h_tht_12, if_pos rfl] at h
    rw [s_mem h, zu_k (by decide)]
/-! rests -/
def g_ln (b : Int) : Nat := if b = 0 then 0 else 2
def g_L (n : Nat) (heat : Int) (cs : List Int) (D A : Nat → Int) (a b v : Int) : Option Nat := if (0 ≤ a ∧ a < (n : Int)) ∧ (0 ≤ b ∧ b < (n : Int)) ∧ ¬ a = b ∧ 0 ≤ v ∧ v ≤ 99 then (if ¬ A (a.toNat + 18) = -1 ∧ A (b.toNat + 18) = A (a.toNat + 18) then some (g_ln (g_bits (g_G n heat cs D A a.toNat b.toNat (A (a.toNat + 18)).toNat v) 4 0 0)) else none) else none
theorem W_rst1 {mz : z_M} (hN : w_N w h n heat D) (hok : hr_ok n A) (ht : 0 ≤ A 35 ∧ A 35 ≤ 1073741824) {a b r : Nat} (ha : a < n) (hb : b < n) (hr : r < 9) (ea : A (a + 18) = (r : Int)) {v : Int} (hv : 0 ≤ v ∧ v ≤ 99) : ∀ (f x : Nat) (acc y : Int) (v8 v9 : z_V) (m : z_M), x + f = 4 → (acc = 0 ∨ (0 ≤ y ∧ y < 4)) → C_is w h n heat price D A c U kn KS cs m → ∃ m1, z_R 135 (m, 88, [(2, 0), (0, (a : Int)), (0, (b : Int)), (0, v), (0, (r : Int)), (0, acc), (0, y), (0, (x : Int)), v8, v9], []) = some (m1, some (0, g_bits (g_G n heat cs D A a b r v) f x acc)) ∧ c_ln mz m1 (some (g_ln (g_bits (g_G n heat cs D A a b r v) f x acc))) := by
  intro f
  induction f with
  | zero =>
    intro x acc y v8 v9 m hx hy hi
    have hi1 : C_is w h n heat price D A c U kn KS cs (z_up m 0 13 0) := C_upn hi (by decide)
    have g13 : (z_up m 0 13 0) 0 13 = ((0 : Nat) : Int) := zu_self
    show ∃ m1 : z_M, _ = some (m1, some (0, acc)) ∧ m1 0 13 = ((g_ln acc : Nat) : Int)
    unfold g_ln
    rw [z_rst_88, if_pos (by omega), s_tell0_0, zb_n, z_rst_201]
    generalize z_up m 0 13 0 = m0 at hi1 g13 ⊢
    by_cases z : acc = 0
    · rw [if_pos z, if_pos z]
      exact ⟨m0, rfl, g13⟩
    · obtain ⟨y', rfl⟩ : ∃ y' : Nat, y = (y' : Int) := ⟨y.toNat, by omega⟩
      obtain ⟨m1, a1, a2, a3⟩ := C_gain hi1 hN hok ht ha hb hr ea hv (s := 0) (x := y') (by decide) (by omega)
      have a1 : z_R 136 (m0, 0, [(2, 0), (0, (a : Int)), (0, (b : Int)), (0, v), (0, (y' : Int)), (0, 0), (9, 0), (9, 0), (9, 0), (9, 0)], []) = some (m1, some (0, g_G n heat cs D A a b r v 0 y')) := a1
      have hi2 : C_is w h n heat price D A c U kn KS cs (z_up (z_up m1 250 0 (z_i2l (g_G n heat cs D A a b r v 0 y'))) 0 13 ((0 + 1 : Nat) : Int)) := C_upn (C_upn a2 (by decide)) (by decide)
      have g2 : (z_up (z_up m1 250 0 (z_i2l (g_G n heat cs D A a b r v 0 y'))) 0 13 ((0 + 1 : Nat) : Int)) 0 13 = ((1 : Nat) : Int) := zu_self
      rw [if_neg z, if_neg z, a1, zb_v, z_rst_217, c_add (j := 0) m1 _ (by decide) (a3.trans g13), zb_n, z_rst_221]
      generalize z_up (z_up m1 250 0 (z_i2l (g_G n heat cs D A a b r v 0 y'))) 0 13 ((0 + 1 : Nat) : Int) = m2 at hi2 g2 ⊢
      obtain ⟨m3, b1, b2, b3⟩ := C_gain hi2 hN hok ht ha hb hr ea hv (s := 1) (x := y') (by decide) (by omega)
      have b1 : z_R 136 (m2, 0, [(2, 0), (0, (a : Int)), (0, (b : Int)), (0, v), (0, (y' : Int)), (0, 1), (9, 0), (9, 0), (9, 0), (9, 0)], []) = some (m3, some (0, g_G n heat cs D A a b r v 1 y')) := b1
      rw [b1, zb_v, z_rst_232, c_add (j := 1) m3 _ (by decide) (b3.trans g2), zb_n, z_rst_236]
      exact ⟨_, rfl, zu_self⟩
  | succ f ih =>
    intro x acc y v8 v9 m hx hy hi
    have hx4 : x < 4 := by omega
    obtain ⟨m1, a1, a2, -⟩ := C_gain hi hN hok ht ha hb hr ea hv (s := 0) (x := x) (by decide) hx4
    have a1 : z_R 136 (m, 0, [(2, 0), (0, (a : Int)), (0, (b : Int)), (0, v), (0, (x : Int)), (0, 0), (9, 0), (9, 0), (9, 0), (9, 0)], []) = some (m1, some (0, g_G n heat cs D A a b r v 0 x)) := a1
    obtain ⟨m2, b1, b2, -⟩ := C_gain a2 hN hok ht ha hb hr ea hv (s := 0) (x := g_x1 x) (by decide) (g_x1_lt hx4)
    have b1 : z_R 136 (m1, 0, [(2, 0), (0, (a : Int)), (0, (b : Int)), (0, v), (0, ((g_x1 x : Nat) : Int)), (0, 0), (9, 0), (9, 0), (9, 0), (9, 0)], []) = some (m2, some (0, g_G n heat cs D A a b r v 0 (g_x1 x))) := b1
    obtain ⟨m3, d1, d2, -⟩ := C_gain b2 hN hok ht ha hb hr ea hv (s := 1) (x := x) (by decide) hx4
    have d1 : z_R 136 (m2, 0, [(2, 0), (0, (a : Int)), (0, (b : Int)), (0, v), (0, (x : Int)), (0, 1), (9, 0), (9, 0), (9, 0), (9, 0)], []) = some (m3, some (0, g_G n heat cs D A a b r v 1 x)) := d1
    obtain ⟨m4, e1, e2, -⟩ := C_gain d2 hN hok ht ha hb hr ea hv (s := 1) (x := g_x2 x) (by decide) (g_x2_lt hx4)
    have e1 : z_R 136 (m3, 0, [(2, 0), (0, (a : Int)), (0, (b : Int)), (0, v), (0, ((g_x2 x : Nat) : Int)), (0, 1), (9, 0), (9, 0), (9, 0), (9, 0)], []) = some (m4, some (0, g_G n heat cs D A a b r v 1 (g_x2 x))) := e1
    have bit0 : (0 : Int) ≤ x ∧ (x : Int) < 4 := by omega
    rw [z_rst_88, if_neg (by omega), a1, zb_v, z_rst_104, g_xor1 hx4, b1, zb_v, z_rst_116]
    unfold g_bits
    generalize g_G n heat cs D A a b r v = G at d1 e1 ih ⊢
    by_cases p1 : G 0 x < G 0 (g_x1 x)
    · rw [if_pos p1, d1, zb_v, z_rst_136, g_xor2 hx4, e1, zb_v, z_rst_148, if_neg (show ¬ (G 0 (g_x1 x) ≤ G 0 x ∧ G 1 (g_x2 x) ≤ G 1 x) by omega), z_add_eq (x := (x : Int)) (y := 1) (by omega) (by omega), tc1]
      by_cases p2 : G 1 x < G 1 (g_x2 x)
      · rw [if_pos p2, if_pos rfl]
        exact ih (x + 1) acc y _ _ m4 (by omega) hy e2
      · rw [if_neg p2, if_pos rfl]
        exact ih (x + 1) acc y _ _ m4 (by omega) hy e2
    · rw [if_neg p1, d1, zb_v, z_rst_136, g_xor2 hx4, e1, zb_v, z_rst_148, z_add_eq (x := (x : Int)) (y := 1) (by omega) (by omega), tc1]
      by_cases p2 : G 1 x < G 1 (g_x2 x)
      · rw [if_pos p2, if_neg (show ¬ (1 : Int) = 0 by decide), if_neg (show ¬ (G 0 (g_x1 x) ≤ G 0 x ∧ G 1 (g_x2 x) ≤ G 1 x) by omega)]
        exact ih (x + 1) acc y _ _ m4 (by omega) hy e2
      · rw [if_neg p2, if_neg (show ¬ (1 : Int) = 0 by decide), if_pos (show G 0 (g_x1 x) ≤ G 0 x ∧ G 1 (g_x2 x) ≤ G 1 x by omega)]
        by_cases p3 : acc = 0
        · rw [if_pos p3]
          exact ih (x + 1) _ _ _ _ m4 (by omega) (Or.inr bit0) e2
        · rw [if_neg p3]
          exact ih (x + 1) _ _ _ _ m4 (by omega) (Or.inr (hy.resolve_left p3)) e2
theorem W_rests (hi : C_is w h n heat price D A c U kn KS cs m) (hN : w_N w h n heat D) (hok : hr_ok n A) (ht : 0 ≤ A 35 ∧ A 35 ≤ 1073741824) (hw : wi w h n A) (a b v : Int) : ∃ m1, z_R 135 (m, 0, [(2, 0), (0, a), (0, b), (0, v), (9, 0), (9, 0), (9, 0), (9, 0), (9, 0), (9, 0)], []) = some (m1, some (0, g_A n heat cs D A a b v)) ∧ c_ln m m1 (g_L n heat cs D A a b v) := by
  have h5 := hN.1.2.2
  rw [z_rst_0, hi.1.1, hi.1.2.1, hi.1.2.2.1]
  by_cases c1 : 0 ≤ a ∧ a < (n : Int)
  · rw [if_pos c1]
    by_cases c2 : 0 ≤ b ∧ b < (n : Int)
    · rw [if_pos c2]
      by_cases c3 : a = b
      · have e : g_A n heat cs D A a b v = -1 := if_neg (fun z => z.2.2.1 c3)
        rw [if_pos c3, e]
        exact ⟨m, rfl, c_ln_n (if_neg (fun z => z.2.2.1 c3))⟩
      rw [if_neg c3]
      by_cases c4 : v < 0
      · have e : g_A n heat cs D A a b v = -1 := if_neg (fun z => by have := z.2.2.2.1; omega)
        rw [if_pos c4, e]
        exact ⟨m, rfl, c_ln_n (if_neg (fun z => by have := z.2.2.2.1; omega))⟩
      rw [if_neg c4]
      by_cases c5 : v ≤ 99
      · obtain ⟨a', rfl⟩ : ∃ a' : Nat, a = (a' : Int) := ⟨a.toNat, by omega⟩
        obtain ⟨b', rfl⟩ : ∃ b' : Nat, b = (b' : Int) := ⟨b.toNat, by omega⟩
        have ha : a' < n := by omega
        have hb : b' < n := by omega
        have e15 : m 15 a' = A (a' + 18) := C_A3 hi ha h5
        have e15b : m 15 b' = A (b' + 18) := C_A3 hi hb h5
        have eA : g_A n heat cs D A (a' : Int) (b' : Int) v = if ¬ A ((a' : Int).toNat + 18) = -1 ∧ A ((b' : Int).toNat + 18) = A ((a' : Int).toNat + 18) then g_bits (g_G n heat cs D A (a' : Int).toNat (b' : Int).toNat (A ((a' : Int).toNat + 18)).toNat v) 4 0 0 else -2 := if_pos ⟨c1, c2, c3, by omega, c5⟩
        rw [Int.toNat_natCast, Int.toNat_natCast] at eA
        have eL : g_L n heat cs D A (a' : Int) (b' : Int) v = if ¬ A ((a' : Int).toNat + 18) = -1 ∧ A ((b' : Int).toNat + 18) = A ((a' : Int).toNat + 18) then some (g_ln (g_bits (g_G n heat cs D A (a' : Int).toNat (b' : Int).toNat (A ((a' : Int).toNat + 18)).toNat v) 4 0 0)) else none := if_pos ⟨c1, c2, c3, by omega, c5⟩
        rw [Int.toNat_natCast, Int.toNat_natCast] at eL
        rw [if_pos c5, if_pos (show 0 ≤ (a' : Int) ∧ (a' : Int) < 5 by omega), if_pos (show 0 ≤ (b' : Int) ∧ (b' : Int) < 5 by omega), Int.toNat_natCast, Int.toNat_natCast, e15, e15b, eA, eL]
        by_cases d1 : u_hs (w : Int) (h : Int) (A (a' + 18)) = 0
        · have z := (hw.1 a' ha).resolve_right (not_not_intro d1)
          rw [if_neg (not_not_intro d1), if_neg (fun y => y.1 z), if_neg (fun y => y.1 z)]
          exact ⟨m, rfl, rfl⟩
        · have hr := u_hs_rng d1
          rw [if_pos d1]
          by_cases d2 : A (b' + 18) = A (a' + 18)
          · obtain ⟨r, er⟩ : ∃ r : Nat, A (a' + 18) = (r : Int) := ⟨(A (a' + 18)).toNat, by omega⟩
            rw [if_pos d2, if_pos (show ¬ A (a' + 18) = -1 ∧ A (b' + 18) = A (a' + 18) from ⟨by omega, d2⟩), if_pos (show ¬ A (a' + 18) = -1 ∧ A (b' + 18) = A (a' + 18) from ⟨by omega, d2⟩), er, Int.toNat_natCast]
            exact W_rst1 hN hok ht ha hb (by omega) er (v := v) ⟨by omega, c5⟩ 4 0 0 (-1) (9, 0) (9, 0) m (by decide) (Or.inl rfl) hi
          · rw [if_neg d2, if_neg (fun y => d2 y.2), if_neg (fun y => d2 y.2)]
            exact ⟨m, rfl, rfl⟩
      · have e : g_A n heat cs D A a b v = -1 := if_neg (fun z => c5 z.2.2.2.2)
        rw [if_neg c5, e]
        exact ⟨m, rfl, c_ln_n (if_neg (fun z => c5 z.2.2.2.2))⟩
    · have e : g_A n heat cs D A a b v = -1 := if_neg (fun z => c2 z.2.1)
      rw [if_neg c2, e]
      exact ⟨m, rfl, c_ln_n (if_neg (fun z => c2 z.2.1))⟩
  · have e : g_A n heat cs D A a b v = -1 := if_neg (fun z => c1 z.1)
    rw [if_neg c1, e]
    exact ⟨m, rfl, c_ln_n (if_neg (fun z => c1 z.1))⟩
theorem V_rst3 {y1 y2 y3 y4 y5 y6 acc v : Int} {v9 : z_V} {m' : z_M} (hE : z_R 251 (m, 262, [(2, 251), (0, y1), (0, y2), (0, y3), (0, y4), (0, y5), (0, y6), (0, acc), (0, 4), v9], []) = some (m', some (0, v))) : m' 251 10 = ((g_ln acc : Nat) : Int) := by
  unfold g_ln
  rw [z_trs_262, if_pos (by decide)] at hE
  by_cases z : acc = 0
  · rw [if_pos z] at hE ⊢
    rw [s_mem hE, zu_self]
    rfl
  · rw [if_neg z] at hE ⊢
    rw [gv_ntz, zb_v, z_trs_348] at hE
    split at hE
    · rw [t_tell0, zb_n, z_trs_364] at hE
      split at hE
      · rw [t_tell1, zb_n, z_trs_380] at hE
        rw [s_mem hE, zu_self]
        rfl
      · cases hE
    · cases hE
theorem V_rests (hi : R_is w h n heat price D A c U kn KS cs m) (hN : w_N w h n heat D) (hok : hr_ok n A) (ht : 0 ≤ A 35 ∧ A 35 ≤ 1073741824) {a b v x : Int} {m' : z_M} (hE : z_R 251 (m, 0, [(2, 251), (0, a), (0, b), (0, v), (9, 0), (9, 0), (9, 0), (9, 0), (9, 0), (9, 0)], []) = some (m', some (0, x))) : r_ln m m' (g_L n heat cs D A a b v) := by
  have h5 := hN.1.2.2
  have hu := R_upn (p0 := 251) (k0 := 11) (v := 0) hi (by decide)
  rw [z_trs_0 m a b v (by rw [hi.1.2.2.1]; omega), hi.1.2.2.1] at hE
  have h10 : (z_up m 251 11 0) 251 10 = m 251 10 := zu_k (by decide)
  generalize z_up m 251 11 0 = m0 at hu hE h10
  by_cases c1 : 0 ≤ a ∧ a < (n : Int)
  · rw [if_pos c1] at hE
    by_cases c2 : 0 ≤ b ∧ b < (n : Int)
    · rw [if_pos c2] at hE
      by_cases c3 : a = b
      · rw [if_pos c3] at hE
        exact r_ln_n (by rw [s_mem hE]; exact h10) (if_neg (fun z => z.2.2.1 c3))
      rw [if_neg c3] at hE
      by_cases c5 : 0 ≤ v ∧ v ≤ 99
      · obtain ⟨a', rfl⟩ : ∃ a' : Nat, a = (a' : Int) := ⟨a.toNat, by omega⟩
        obtain ⟨b', rfl⟩ : ∃ b' : Nat, b = (b' : Int) := ⟨b.toNat, by omega⟩
        have ha : a' < n := by omega
        have hb : b' < n := by omega
        have e18 : m 252 (a' + 18) = A (a' + 18) := R_A hi (by omega) (a_vis_p (b := 18) (p := a') (by omega) (by omega) (by omega) (by omega))
        have e18b : m 252 (b' + 18) = A (b' + 18) := R_A hi (by omega) (a_vis_p (b := 18) (p := b') (by omega) (by omega) (by omega) (by omega))
        have eA : g_L n heat cs D A (a' : Int) (b' : Int) v = if ¬ A ((a' : Int).toNat + 18) = -1 ∧ A ((b' : Int).toNat + 18) = A ((a' : Int).toNat + 18) then some (g_ln (g_bits (g_G n heat cs D A (a' : Int).toNat (b' : Int).toNat (A ((a' : Int).toNat + 18)).toNat v) 4 0 0)) else none := if_pos ⟨c1, c2, c3, c5⟩
        rw [Int.toNat_natCast, Int.toNat_natCast] at eA
        rw [if_pos c5, show ((a' : Int) + 18).toNat = a' + 18 by omega, show ((b' : Int) + 18).toNat = b' + 18 by omega, e18, e18b] at hE
        rw [eA]
        by_cases d1 : A (a' + 18) = -1
        · rw [if_pos d1] at hE
          rw [if_neg (fun y => y.1 d1), s_mem hE]
          exact h10
        rw [if_neg d1] at hE
        by_cases d2 : A (b' + 18) = A (a' + 18)
        · have hw := hok.2.2.1 a' ha
          obtain ⟨r, er⟩ : ∃ r : Nat, A (a' + 18) = (r : Int) := ⟨(A (a' + 18)).toNat, by omega⟩
          have eb := d2.trans er
          have hr : r < 9 := by omega
          have bW := hr_wb_b hN ht.1 (r : Int) (hr_b (r : Int) n 0 A 0)
          have b2W := g_W2 hN ht.1 ha hb (fun z => c3 (by rw [z])) er eb
          have ba := hN.2.2 (A 35) ht.1 a' (by omega)
          have bb := hN.2.2 (A 35) ht.1 b' (by omega)
          have hrS := hu.2.2.1
          have pin := r_pin z_A_252 (Or.inl rfl) h5 (k := (r : Int)) m0 hu.1.2.2.1
          rw [hrS] at pin
          have pin : z_R 183 (m0, 0, [(2, 251), (2, 252), (0, (r : Int)), (9, 0), (9, 0)], []) = some (m0, some (0, hr_b (r : Int) n 0 A 0)) := pin
          have wbr := r_wb z_A_252 (Or.inl rfl) h5 (k := (r : Int)) (b := hr_b (r : Int) n 0 A 0) (t := A 35) (heat := heat) (wm := wmD D (A 35)) ht.1 (by omega) m0 hu.1.2.2.1 (R_cfg hu).2.2.2.1 (R_A hu (by decide) (a_vis_hi (by decide))) (fun p hp => (R_cfg hu).2.2.2.2.2.1 (A 35) ht.1 p hp)
          rw [hrS] at wbr
          have wbr : z_R 184 (m0, 0, [(2, 251), (2, 252), (0, (r : Int)), (0, hr_b (r : Int) n 0 A 0), (9, 0), (9, 0)], []) = some (m0, some (0, hr_wb heat (wmD D (A 35)) n A (r : Int) (hr_b (r : Int) n 0 A 0))) := wbr
          have wa := R_wmo hu ht (p := a') (by omega)
          have wb := R_wmo hu ht (p := b') (by omega)
          rw [if_pos d2, er, pin, zb_v, z_trs_82, wbr, zb_v, z_trs_96, wa, zb_v, z_trs_105, wb, zb_v, z_trs_115, z_sub_eq (x := hr_wb heat (wmD D (A 35)) n A (r : Int) (hr_b (r : Int) n 0 A 0)) (by omega) (by omega), z_sub_eq (x := hr_wb heat (wmD D (A 35)) n A (r : Int) (hr_b (r : Int) n 0 A 0) - wmD D (A 35) a') (by omega) (by omega)] at hE
          obtain ⟨m1, v9, f1, f2⟩ := R_rst1 (cs := cs) hok ht h5 ha hb hr (v := v) (W := hr_wb heat (wmD D (A 35)) n A (r : Int) (hr_b (r : Int) n 0 A 0)) (B := hr_b (r : Int) n 0 A 0) c5 (hr_pc_b _) ba bb ⟨b2W, bW.2⟩ rfl rfl (G := g_G n heat cs D A a' b' r v) rfl 4 0 (9, 0) (9, 0) m0 (by decide) hu (fun j hj => absurd hj (Nat.not_lt_zero j))
          have f1 : z_R 251 (m0, 121, [(2, 251), (0, (a' : Int)), (0, (b' : Int)), (0, v), (0, (r : Int)), (0, hr_b (r : Int) n 0 A 0), (0, hr_wb heat (wmD D (A 35)) n A (r : Int) (hr_b (r : Int) n 0 A 0) - wmD D (A 35) a' - wmD D (A 35) b'), (0, 0), (9, 0), (9, 0)], []) = _ := f1
          rw [f1] at hE
          have f3 := R_rst2 (y1 := (a' : Int)) (y2 := (b' : Int)) (y3 := v) (y4 := (r : Int)) (y5 := hr_b (r : Int) n 0 A 0) (y6 := hr_wb heat (wmD D (A 35)) n A (r : Int) (hr_b (r : Int) n 0 A 0) - wmD D (A 35) a' - wmD D (A 35) b') (v9 := v9) f2 4 0 0 (by decide)
          have z := V_rst3 (f3.symm.trans hE)
          rw [if_pos (show ¬ A (a' + 18) = -1 ∧ A (b' + 18) = A (a' + 18) from ⟨d1, d2⟩), er, Int.toNat_natCast]
          exact z
        · rw [if_neg d2] at hE
          rw [if_neg (fun y => d2 y.2), s_mem hE]
          exact h10
      · rw [if_neg c5] at hE
        exact r_ln_n (by rw [s_mem hE]; exact h10) (if_neg (fun z => c5 z.2.2.2))
    · rw [if_neg c2] at hE
      exact r_ln_n (by rw [s_mem hE]; exact h10) (if_neg (fun z => c2 z.2.1))
  · rw [if_neg c1] at hE
    exact r_ln_n (by rw [s_mem hE]; exact h10) (if_neg (fun z => c1 z.1))
end
