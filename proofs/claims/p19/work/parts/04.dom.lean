/-! BOUNDS: values by variables, what is known of them, and what follows -/
abbrev A_V : Type := Nat × Nat × Int
abbrev A_E : Type := List (Int × Int × Bool)
abbrev A_F : Type := List (Nat × Bool × Nat × Int)
def i_le (a b : Int) : Bool := match b - a with
  | .ofNat _ => true
  | .negSucc _ => false
theorem i_le_iff {a b : Int} : i_le a b = true ↔ a ≤ b := by
  unfold i_le
  constructor
  · intro h
    split at h
    · rename_i n hn; have := Int.natCast_nonneg n; have h2 : Int.ofNat n = (n : Int) := rfl; omega
    · cases h
  · intro h
    split
    · rfl
    · rename_i n hn; omega
theorem i_le_f {a b : Int} : i_le a b = false ↔ b < a := by
  cases h : i_le a b
  · simp only [true_iff]
    have : ¬ a ≤ b := fun q => by rw [i_le_iff.mpr q] at h; cases h
    omega
  · have := i_le_iff.mp h
    constructor
    · intro q; cases q
    · intro q; omega
def i_min (a b : Int) : Int := bif i_le a b then a else b
def i_max (a b : Int) : Int := bif i_le a b then b else a
theorem i_min_le {a b c : Int} (h : c ≤ a) (h2 : c ≤ b) : c ≤ i_min a b := by unfold i_min; cases i_le a b <;> assumption
theorem i_max_le {a b c : Int} (h : a ≤ c) (h2 : b ≤ c) : i_max a b ≤ c := by unfold i_max; cases i_le a b <;> assumption
/-- a value's number under the variables' values -/
def a_ev (ρ : List Int) (a : A_V) : Option Int := match a.1 with
  | 0 => some a.2.2
  | 3 => some a.2.2
  | 1 => (ρ[a.2.1]?).map (fun r => r + a.2.2)
  | 4 => (ρ[a.2.1]?).map (fun r => r + a.2.2)
  | _ => none
def v_ok (ρ : List Int) (a : A_V) (v : Value) : Prop := match a.1 with
  | 0 => ∃ x : Int32, v = .int x ∧ x.toInt = a.2.2
  | 1 => ∃ (x : Int32) (r : Int), v = .int x ∧ ρ[a.2.1]? = some r ∧ x.toInt = r + a.2.2
  | 2 => v = .ref a.2.1
  | 3 => ∃ x : Int64, v = .long x ∧ x.toInt = a.2.2
  | 4 => ∃ (x : Int64) (r : Int), v = .long x ∧ ρ[a.2.1]? = some r ∧ x.toInt = r + a.2.2
  | _ => True
/-- an int's value, a long's value -/
def a_isI (a : A_V) : Bool := Nat.ble a.1 1
def a_isL (a : A_V) : Bool := Nat.beq a.1 3 || Nat.beq a.1 4
theorem a_isI_cases {a : A_V} (h : a_isI a = true) : a.1 = 0 ∨ a.1 = 1 := by
  have := Nat.le_of_ble_eq_true h
  omega
theorem a_isL_cases {a : A_V} (h : a_isL a = true) : a.1 = 3 ∨ a.1 = 4 := by
  unfold a_isL at h
  rcases Bool.or_eq_true _ _ |>.mp h with h | h
  · exact Or.inl (Nat.eq_of_beq_eq_true h)
  · exact Or.inr (Nat.eq_of_beq_eq_true h)
theorem v_int {ρ : List Int} {a : A_V} {v : Value} (h : v_ok ρ a v) (hi : a_isI a = true) : ∃ x : Int32, v = .int x ∧ a_ev ρ a = some x.toInt := by
  obtain ⟨t, n, c⟩ := a
  rcases a_isI_cases hi with e | e
  · simp only at e; subst e
    obtain ⟨x, h1, h2⟩ := h
    exact ⟨x, h1, congrArg some h2.symm⟩
  · simp only at e; subst e
    obtain ⟨x, r, h1, h2, h3⟩ := h
    exact ⟨x, h1, by simp only [a_ev] at *; simp [h2, h3]⟩
theorem v_long {ρ : List Int} {a : A_V} {v : Value} (h : v_ok ρ a v) (hi : a_isL a = true) : ∃ x : Int64, v = .long x ∧ a_ev ρ a = some x.toInt := by
  obtain ⟨t, n, c⟩ := a
  rcases a_isL_cases hi with e | e
  · simp only at e; subst e
    obtain ⟨x, h1, h2⟩ := h
    exact ⟨x, h1, congrArg some h2.symm⟩
  · simp only at e; subst e
    obtain ⟨x, r, h1, h2, h3⟩ := h
    exact ⟨x, h1, by simp only [a_ev] at *; simp [h2, h3]⟩
theorem v_of_int {ρ : List Int} {a : A_V} {x : Int32} (hi : a_isI a = true) (h : a_ev ρ a = some x.toInt) : v_ok ρ a (.int x) := by
  obtain ⟨t, n, c⟩ := a
  rcases a_isI_cases hi with e | e
  · simp only at e; subst e
    simp only [a_ev, Option.some.injEq] at h
    exact ⟨x, rfl, h.symm⟩
  · simp only at e; subst e
    simp only [a_ev] at h
    obtain ⟨r, h1, h2⟩ := Option.map_eq_some_iff.mp h
    exact ⟨x, r, rfl, h1, h2.symm⟩
theorem v_of_long {ρ : List Int} {a : A_V} {x : Int64} (hi : a_isL a = true) (h : a_ev ρ a = some x.toInt) : v_ok ρ a (.long x) := by
  obtain ⟨t, n, c⟩ := a
  rcases a_isL_cases hi with e | e
  · simp only at e; subst e
    simp only [a_ev, Option.some.injEq] at h
    exact ⟨x, rfl, h.symm⟩
  · simp only at e; subst e
    simp only [a_ev] at h
    obtain ⟨r, h1, h2⟩ := Option.map_eq_some_iff.mp h
    exact ⟨x, r, rfl, h1, h2.symm⟩
/-- more variables -/
def r_ext (ρ ρ' : List Int) : Prop := ∀ (i : Nat) (r : Int), ρ[i]? = some r → ρ'[i]? = some r
theorem r_ext.rf {ρ : List Int} : r_ext ρ ρ := fun _ _ h => h
theorem r_ext.tr {a b c : List Int} (h : r_ext a b) (h2 : r_ext b c) : r_ext a c := fun i r q => h2 i r (h i r q)
theorem r_ext.push {ρ : List Int} (x : Int) : r_ext ρ (ρ ++ [x]) := fun i r h => by
  have hl := (List.getElem?_eq_some_iff.mp h).1
  rw [List.getElem?_append_left hl]; exact h
theorem a_ev_ext {ρ ρ' : List Int} (h : r_ext ρ ρ') {a : A_V} {x : Int} (e : a_ev ρ a = some x) : a_ev ρ' a = some x := by
  obtain ⟨t, n, c⟩ := a
  unfold a_ev at e ⊢
  split at e
  · exact e
  · exact e
  · obtain ⟨r, h1, h2⟩ := Option.map_eq_some_iff.mp e
    simp only at h1 ⊢
    rw [h _ _ h1]; simp [h2]
  · obtain ⟨r, h1, h2⟩ := Option.map_eq_some_iff.mp e
    simp only at h1 ⊢
    rw [h _ _ h1]; simp [h2]
  · cases e
theorem v_ok_ext {ρ ρ' : List Int} (h : r_ext ρ ρ') {a : A_V} {v : Value} (e : v_ok ρ a v) : v_ok ρ' a v := by
  obtain ⟨t, n, c⟩ := a
  unfold v_ok at e ⊢
  split at e
  · exact e
  · obtain ⟨x, r, h1, h2, h3⟩ := e
    exact ⟨x, r, h1, h _ _ h2, h3⟩
  · exact e
  · exact e
  · obtain ⟨x, r, h1, h2, h3⟩ := e
    exact ⟨x, r, h1, h _ _ h2, h3⟩
  · trivial
/-- what is known of the variables holds; B bounds those of the third kind -/
def e_ok (B : Int) (E : A_E) (ρ : List Int) : Prop := ρ.length = E.length ∧ ∀ (i : Nat) (q : Int × Int × Bool) (r : Int), E[i]? = some q → ρ[i]? = some r → q.1 ≤ r ∧ r ≤ q.2.1 ∧ (q.2.2 = true → 0 ≤ r ∧ r ≤ B)
def f_ok (F : A_F) (ρ : List Int) : Prop := ∀ q ∈ F, ∃ x y : Int, ρ[q.1]? = some x ∧ ρ[q.2.2.1]? = some y ∧ (q.2.1 = true → x ≤ y + q.2.2.2) ∧ (q.2.1 = false → x + y ≤ q.2.2.2)
theorem f_ok_ext {F : A_F} {ρ ρ' : List Int} (h : r_ext ρ ρ') (e : f_ok F ρ) : f_ok F ρ' := fun q hq => by
  obtain ⟨x, y, h1, h2, h3⟩ := e q hq
  exact ⟨x, y, h _ _ h1, h _ _ h2, h3⟩
theorem e_ok_mono {B B' : Int} {E : A_E} {ρ : List Int} (h : B ≤ B') (e : e_ok B E ρ) : e_ok B' E ρ := ⟨e.1, fun i q r h1 h2 => by
  obtain ⟨g1, g2, g3⟩ := e.2 i q r h1 h2
  exact ⟨g1, g2, fun b => ⟨(g3 b).1, Int.le_trans (g3 b).2 h⟩⟩⟩
theorem e_ok_push {B : Int} {E : A_E} {ρ : List Int} {x : Int} {q : Int × Int × Bool} (e : e_ok B E ρ) (h : q.1 ≤ x ∧ x ≤ q.2.1 ∧ (q.2.2 = true → 0 ≤ x ∧ x ≤ B)) : e_ok B (E ++ [q]) (ρ ++ [x]) := by
  refine ⟨by simp [e.1], fun i p r h1 h2 => ?_⟩
  by_cases hi : i < E.length
  · rw [List.getElem?_append_left hi] at h1
    rw [List.getElem?_append_left (by rw [e.1]; exact hi)] at h2
    exact e.2 i p r h1 h2
  · have hz : i < (E ++ [q]).length := (List.getElem?_eq_some_iff.mp h1).1
    have : i = E.length := by simp at hz; omega
    subst this
    rw [List.getElem?_append_right (Nat.le_refl _), Nat.sub_self] at h1
    rw [← e.1, List.getElem?_append_right (Nat.le_refl _), Nat.sub_self] at h2
    cases h1; cases h2
    exact h
theorem r_at_push {B : Int} {E : A_E} {ρ : List Int} (x : Int) (e : e_ok B E ρ) : (ρ ++ [x])[E.length]? = some x := by
  rw [← e.1, List.getElem?_append_right (Nat.le_refl _), Nat.sub_self]; rfl
def e_at (E : A_E) (v : Nat) : Int × Int × Bool := match E[v]? with
  | some q => q
  | none => (0, 0, false)
theorem e_at_ok {B : Int} {E : A_E} {ρ : List Int} (e : e_ok B E ρ) {v : Nat} {r : Int} (h : ρ[v]? = some r) : (e_at E v).1 ≤ r ∧ r ≤ (e_at E v).2.1 ∧ ((e_at E v).2.2 = true → 0 ≤ r ∧ r ≤ B) := by
  have hl := (List.getElem?_eq_some_iff.mp h).1
  rw [e.1] at hl
  have he : E[v]? = some E[v] := List.getElem?_eq_getElem hl
  have := e.2 v E[v] r he h
  unfold e_at
  rw [he]
  exact this
def f_hi (E : A_E) (v : Nat) : A_F → Int → Int
  | [], h => h
  | (x, sg, y, c) :: F, h => f_hi E v F (bif sg then (bif Nat.beq x v then i_min h ((e_at E y).2.1 + c) else h) else (bif Nat.beq x v then i_min h (c - (e_at E y).1) else bif Nat.beq y v then i_min h (c - (e_at E x).1) else h))
def f_lo (E : A_E) (v : Nat) : A_F → Int → Int
  | [], h => h
  | (x, sg, y, c) :: F, h => f_lo E v F (bif sg && Nat.beq y v then i_max h ((e_at E x).1 - c) else h)
theorem f_hi_ok {B : Int} {E : A_E} {ρ : List Int} (e : e_ok B E ρ) {v : Nat} {r : Int} (hr : ρ[v]? = some r) : ∀ (F : A_F) (h : Int), f_ok F ρ → r ≤ h → r ≤ f_hi E v F h
  | [], h, _, q => q
  | (x, sg, y, c) :: F, h, f, q => by
    refine f_hi_ok e hr F _ (fun z hz => f z (List.mem_cons_of_mem _ hz)) ?_
    obtain ⟨rx, ry, h1, h2, h3, h4⟩ := f _ List.mem_cons_self
    simp only at h1 h2 h3 h4
    have e1 := e_at_ok e h1
    have e2 := e_at_ok e h2
    cases sg
    · have h4 := h4 rfl
      simp only [cond_false]
      cases hx : Nat.beq x v
      · cases hy : Nat.beq y v
        · exact q
        · have := Nat.eq_of_beq_eq_true hy; subst this
          have : r = ry := Option.some.inj (hr.symm.trans h2)
          exact i_min_le q (by omega)
      · have := Nat.eq_of_beq_eq_true hx; subst this
        have : r = rx := Option.some.inj (hr.symm.trans h1)
        exact i_min_le q (by omega)
    · have h3 := h3 rfl
      simp only [cond_true]
      cases hx : Nat.beq x v
      · exact q
      · have := Nat.eq_of_beq_eq_true hx; subst this
        have : r = rx := Option.some.inj (hr.symm.trans h1)
        exact i_min_le q (by omega)
theorem f_lo_ok {B : Int} {E : A_E} {ρ : List Int} (e : e_ok B E ρ) {v : Nat} {r : Int} (hr : ρ[v]? = some r) : ∀ (F : A_F) (h : Int), f_ok F ρ → h ≤ r → f_lo E v F h ≤ r
  | [], h, _, q => q
  | (x, sg, y, c) :: F, h, f, q => by
    refine f_lo_ok e hr F _ (fun z hz => f z (List.mem_cons_of_mem _ hz)) ?_
    obtain ⟨rx, ry, h1, h2, h3, h4⟩ := f _ List.mem_cons_self
    simp only at h1 h2 h3 h4
    have e1 := e_at_ok e h1
    cases hb : sg && Nat.beq y v
    · exact q
    · obtain ⟨b1, b2⟩ := Bool.and_eq_true _ _ |>.mp hb
      have h3 := h3 b1
      have := Nat.eq_of_beq_eq_true b2; subst this
      have : r = ry := Option.some.inj (hr.symm.trans h2)
      exact i_max_le q (by omega)
/-- the greatest and the least that a value may be -/
def a_cst (a : A_V) : Bool := Nat.beq a.1 0 || Nat.beq a.1 3
def a_hi (E : A_E) (F : A_F) (a : A_V) : Int := bif a_cst a then a.2.2 else f_hi E a.2.1 F (e_at E a.2.1).2.1 + a.2.2
def a_lo (E : A_E) (F : A_F) (a : A_V) : Int := bif a_cst a then a.2.2 else f_lo E a.2.1 F (e_at E a.2.1).1 + a.2.2
theorem a_ev_cst {ρ : List Int} {a : A_V} {x : Int} (h : a_ev ρ a = some x) (hc : a_cst a = true) : x = a.2.2 := by
  obtain ⟨t, n, c⟩ := a
  unfold a_cst at hc
  rcases Bool.or_eq_true _ _ |>.mp hc with q | q <;> (have := Nat.eq_of_beq_eq_true q; simp only at this; subst this; simp only [a_ev, Option.some.injEq] at h; exact h.symm)
theorem a_ev_var {ρ : List Int} {a : A_V} {x : Int} (h : a_ev ρ a = some x) (hc : a_cst a = false) : ∃ r, ρ[a.2.1]? = some r ∧ x = r + a.2.2 := by
  obtain ⟨t, n, c⟩ := a
  unfold a_ev at h
  split at h
  · rename_i e; simp only at e; subst e; cases hc
  · rename_i e; simp only at e; subst e; cases hc
  · obtain ⟨r, h1, h2⟩ := Option.map_eq_some_iff.mp h; exact ⟨r, h1, h2.symm⟩
  · obtain ⟨r, h1, h2⟩ := Option.map_eq_some_iff.mp h; exact ⟨r, h1, h2.symm⟩
  · cases h
theorem a_hi_ok {B : Int} {E : A_E} {F : A_F} {ρ : List Int} (e : e_ok B E ρ) (f : f_ok F ρ) {a : A_V} {x : Int} (h : a_ev ρ a = some x) : x ≤ a_hi E F a := by
  unfold a_hi
  cases hc : a_cst a
  · obtain ⟨r, h1, rfl⟩ := a_ev_var h hc
    have := f_hi_ok e h1 F _ f (e_at_ok e h1).2.1
    simp only [cond_false]; omega
  · rw [a_ev_cst h hc]; exact Int.le_refl _
theorem a_lo_ok {B : Int} {E : A_E} {F : A_F} {ρ : List Int} (e : e_ok B E ρ) (f : f_ok F ρ) {a : A_V} {x : Int} (h : a_ev ρ a = some x) : a_lo E F a ≤ x := by
  unfold a_lo
  cases hc : a_cst a
  · obtain ⟨r, h1, rfl⟩ := a_ev_var h hc
    have := f_lo_ok e h1 F _ f (e_at_ok e h1).1
    simp only [cond_false]; omega
  · rw [a_ev_cst h hc]; exact Int.le_refl _
/-- x ≤ y + this -/
def f_ub (E : A_E) (F : A_F) : Nat → Nat → Nat → Int
  | 0, x, y => bif Nat.beq x y then 0 else (e_at E x).2.1 - (e_at E y).1
  | n + 1, x, y => bif Nat.beq x y then 0 else F.foldl (fun b q => bif q.2.1 && Nat.beq q.1 x then i_min b (q.2.2.2 + f_ub E F n q.2.2.1 y) else b) ((e_at E x).2.1 - (e_at E y).1)
theorem foldl_inv {α β : Type} {P : β → Prop} {f : β → α → β} : ∀ (l : List α) (b : β), P b → (∀ b a, a ∈ l → P b → P (f b a)) → P (l.foldl f b)
  | [], b, h, _ => h
  | a :: l, b, h, hs => foldl_inv l (f b a) (hs b a List.mem_cons_self h) (fun b a ha hb => hs b a (List.mem_cons_of_mem _ ha) hb)
theorem f_ub_ok {B : Int} {E : A_E} {F : A_F} {ρ : List Int} (e : e_ok B E ρ) (f : f_ok F ρ) : ∀ (n x y : Nat) (rx ry : Int), ρ[x]? = some rx → ρ[y]? = some ry → rx ≤ ry + f_ub E F n x y
  | 0, x, y, rx, ry, h1, h2 => by
    unfold f_ub
    have e1 := e_at_ok e h1
    have e2 := e_at_ok e h2
    cases hb : Nat.beq x y
    · simp only [cond_false]; omega
    · have := Nat.eq_of_beq_eq_true hb; subst this
      have : rx = ry := Option.some.inj (h1.symm.trans h2)
      simp only [cond_true]; omega
  | n + 1, x, y, rx, ry, h1, h2 => by
    unfold f_ub
    have e1 := e_at_ok e h1
    have e2 := e_at_ok e h2
    cases hb : Nat.beq x y
    · simp only [cond_false]
      refine foldl_inv (P := fun b => rx ≤ ry + b) F _ (by omega) (fun b q hq hb2 => ?_)
      cases hc : q.2.1 && Nat.beq q.1 x
      · exact hb2
      · obtain ⟨c1, c2⟩ := Bool.and_eq_true _ _ |>.mp hc
        obtain ⟨qx, qy, g1, g2, g3, -⟩ := f q hq
        have := Nat.eq_of_beq_eq_true c2; subst this
        have hx : rx = qx := Option.some.inj (h1.symm.trans g1)
        have := f_ub_ok e f n q.2.2.1 y qy ry g2 h2
        have := g3 c1
        have h3 : rx - ry ≤ i_min b (q.2.2.2 + f_ub E F n q.2.2.1 y) := i_min_le (by omega) (by omega)
        simp only [cond_true]; omega
    · have := Nat.eq_of_beq_eq_true hb; subst this
      have : rx = ry := Option.some.inj (h1.symm.trans h2)
      simp only [cond_true]; omega
/-- x + y ≤ this -/
def f_us (E : A_E) (F : A_F) : Nat → Nat → Nat → Int
  | 0, x, y => (e_at E x).2.1 + (e_at E y).2.1
  | n + 1, x, y => F.foldl (fun b q => bif q.2.1 then (bif Nat.beq q.1 x then i_min b (q.2.2.2 + f_us E F n q.2.2.1 y) else bif Nat.beq q.1 y then i_min b (q.2.2.2 + f_us E F n x q.2.2.1) else b)
      else (bif Nat.beq q.1 x && Nat.beq q.2.2.1 y || Nat.beq q.1 y && Nat.beq q.2.2.1 x then i_min b q.2.2.2 else b)) ((e_at E x).2.1 + (e_at E y).2.1)
theorem f_us_ok {B : Int} {E : A_E} {F : A_F} {ρ : List Int} (e : e_ok B E ρ) (f : f_ok F ρ) : ∀ (n x y : Nat) (rx ry : Int), ρ[x]? = some rx → ρ[y]? = some ry → rx + ry ≤ f_us E F n x y
  | 0, x, y, rx, ry, h1, h2 => by
    unfold f_us
    have e1 := e_at_ok e h1
    have e2 := e_at_ok e h2
    omega
  | n + 1, x, y, rx, ry, h1, h2 => by
    unfold f_us
    have e1 := e_at_ok e h1
    have e2 := e_at_ok e h2
    refine foldl_inv (P := fun b => rx + ry ≤ b) F _ (by omega) (fun b q hq hb2 => ?_)
    obtain ⟨qx, qy, g1, g2, g3, g4⟩ := f q hq
    cases hs : q.2.1
    · simp only [cond_false]
      cases hc : Nat.beq q.1 x && Nat.beq q.2.2.1 y || Nat.beq q.1 y && Nat.beq q.2.2.1 x
      · exact hb2
      · have g4 := g4 hs
        rcases Bool.or_eq_true _ _ |>.mp hc with c | c
        · obtain ⟨c1, c2⟩ := Bool.and_eq_true _ _ |>.mp c
          have a1 := Nat.eq_of_beq_eq_true c1
          have a2 := Nat.eq_of_beq_eq_true c2
          rw [a1] at g1; rw [a2] at g2
          have hx : rx = qx := Option.some.inj (h1.symm.trans g1)
          have hy : ry = qy := Option.some.inj (h2.symm.trans g2)
          exact i_min_le hb2 (by omega)
        · obtain ⟨c1, c2⟩ := Bool.and_eq_true _ _ |>.mp c
          have a1 := Nat.eq_of_beq_eq_true c1
          have a2 := Nat.eq_of_beq_eq_true c2
          rw [a1] at g1; rw [a2] at g2
          have hx : ry = qx := Option.some.inj (h2.symm.trans g1)
          have hy : rx = qy := Option.some.inj (h1.symm.trans g2)
          exact i_min_le hb2 (by omega)
    · simp only [cond_true]
      have g3 := g3 hs
      cases hx : Nat.beq q.1 x
      · cases hy : Nat.beq q.1 y
        · exact hb2
        · have a1 := Nat.eq_of_beq_eq_true hy
          rw [a1] at g1
          have hx : ry = qx := Option.some.inj (h2.symm.trans g1)
          have := f_us_ok e f n x q.2.2.1 rx qy h1 g2
          exact i_min_le hb2 (by omega)
      · have a1 := Nat.eq_of_beq_eq_true hx
        rw [a1] at g1
        have hx : rx = qx := Option.some.inj (h1.symm.trans g1)
        have := f_us_ok e f n q.2.2.1 y qy ry g2 h2
        exact i_min_le hb2 (by omega)
/-- surely a ≤ b + k -/
def a_leq (E : A_E) (F : A_F) (a b : A_V) (k : Int) : Bool := i_le (a_hi E F a) (a_lo E F b + k) || (!a_cst a && !a_cst b && i_le (f_ub E F 3 a.2.1 b.2.1 + a.2.2) (b.2.2 + k))
theorem a_leq_ok {B : Int} {E : A_E} {F : A_F} {ρ : List Int} (e : e_ok B E ρ) (f : f_ok F ρ) {a b : A_V} {x y k : Int} (ha : a_ev ρ a = some x) (hb : a_ev ρ b = some y) (h : a_leq E F a b k = true) : x ≤ y + k := by
  unfold a_leq at h
  rcases Bool.or_eq_true _ _ |>.mp h with h | h
  · have := i_le_iff.mp h
    have := a_hi_ok e f ha
    have := a_lo_ok e f hb
    omega
  · obtain ⟨h1, h2⟩ := Bool.and_eq_true _ _ |>.mp h
    obtain ⟨c1, c2⟩ := Bool.and_eq_true _ _ |>.mp h1
    obtain ⟨r, r1, rfl⟩ := a_ev_var ha (by simpa using c1)
    obtain ⟨r', r2, rfl⟩ := a_ev_var hb (by simpa using c2)
    have := f_ub_ok e f 3 _ _ r r' r1 r2
    have := i_le_iff.mp h2
    omega
/-- surely a + b ≤ k -/
def a_leqS (E : A_E) (F : A_F) (a b : A_V) (k : Int) : Bool := i_le (a_hi E F a + a_hi E F b) k || (!a_cst a && !a_cst b && i_le (f_us E F 3 a.2.1 b.2.1 + a.2.2 + b.2.2) k)
theorem a_leqS_ok {B : Int} {E : A_E} {F : A_F} {ρ : List Int} (e : e_ok B E ρ) (f : f_ok F ρ) {a b : A_V} {x y k : Int} (ha : a_ev ρ a = some x) (hb : a_ev ρ b = some y) (h : a_leqS E F a b k = true) : x + y ≤ k := by
  unfold a_leqS at h
  rcases Bool.or_eq_true _ _ |>.mp h with h | h
  · have := i_le_iff.mp h
    have := a_hi_ok e f ha
    have := a_hi_ok e f hb
    omega
  · obtain ⟨h1, h2⟩ := Bool.and_eq_true _ _ |>.mp h
    obtain ⟨c1, c2⟩ := Bool.and_eq_true _ _ |>.mp h1
    obtain ⟨r, r1, rfl⟩ := a_ev_var ha (by simpa using c1)
    obtain ⟨r', r2, rfl⟩ := a_ev_var hb (by simpa using c2)
    have := f_us_ok e f 3 _ _ r r' r1 r2
    have := i_le_iff.mp h2
    omega
/-- bounds of a value made narrower; none: it can't be -/
def e_cut (E : A_E) (v : Nat) (lo hi : Int) : Option A_E := match e_at E v with
  | (l, h, b) => bif i_le (i_max l lo) (i_min h hi) then some (E.set v (i_max l lo, i_min h hi, b)) else none
theorem le_max {a b : Int} : a ≤ i_max a b ∧ b ≤ i_max a b := by
  unfold i_max
  cases h : i_le a b
  · have := i_le_f.mp h; simp only [cond_false]; omega
  · have := i_le_iff.mp h; simp only [cond_true]; omega
theorem min_le {a b : Int} : i_min a b ≤ a ∧ i_min a b ≤ b := by
  unfold i_min
  cases h : i_le a b
  · have := i_le_f.mp h; simp only [cond_false]; omega
  · have := i_le_iff.mp h; simp only [cond_true]; omega
theorem e_cut_ok {B : Int} {E : A_E} {ρ : List Int} (e : e_ok B E ρ) {v : Nat} {r lo hi : Int} (hr : ρ[v]? = some r) (h1 : lo ≤ r) (h2 : r ≤ hi) : ∃ E', e_cut E v lo hi = some E' ∧ e_ok B E' ρ := by
  have q := e_at_ok e hr
  unfold e_cut
  generalize e_at E v = z at q
  obtain ⟨l, h, b⟩ := z
  simp only at q ⊢
  have a1 : i_max l lo ≤ r := i_max_le q.1 h1
  have a2 : r ≤ i_min h hi := i_min_le q.2.1 h2
  have a3 : i_le (i_max l lo) (i_min h hi) = true := i_le_iff.mpr (by omega)
  rw [a3]
  refine ⟨_, rfl, by simp [e.1], fun i p s g1 g2 => ?_⟩
  by_cases hi : v = i
  · subst hi
    have hl : v < E.length := by rw [← e.1]; exact (List.getElem?_eq_some_iff.mp hr).1
    rw [List.getElem?_set_self hl] at g1
    cases g1
    have : s = r := Option.some.inj (g2.symm.trans hr)
    subst this
    exact ⟨a1, a2, q.2.2⟩
  · rw [List.getElem?_set_ne hi] at g1
    exact e.2 i p s g1 g2
/-- let a ≤ b + k be so -/
def a_asm (E : A_E) (F : A_F) (a b : A_V) (k : Int) : Option (A_E × A_F) :=
  bif a_cst a then (bif a_cst b then (bif i_le a.2.2 (b.2.2 + k) then some (E, F) else none) else match e_cut E b.2.1 (a.2.2 - k - b.2.2) (e_at E b.2.1).2.1 with | some E' => some (E', F) | none => none)
  else bif a_cst b then (match e_cut E a.2.1 (e_at E a.2.1).1 (b.2.2 + k - a.2.2) with | some E' => some (E', F) | none => none)
  else bif Nat.beq a.2.1 b.2.1 then (bif i_le a.2.2 (b.2.2 + k) then some (E, F) else none)
  else match e_cut E a.2.1 (e_at E a.2.1).1 (a_hi E F b + k - a.2.2) with
    | none => none
    | some E' => match e_cut E' b.2.1 (a_lo E F a - k - b.2.2) (e_at E' b.2.1).2.1 with
      | none => none
      | some E2 => bif i_le (f_ub E F 3 b.2.1 a.2.1 + (b.2.2 + k - a.2.2) + 1) 0 then none
        else bif i_le ((e_at E2 a.2.1).2.1 - (e_at E2 b.2.1).1) (b.2.2 + k - a.2.2) then some (E2, F) else some (E2, (a.2.1, true, b.2.1, b.2.2 + k - a.2.2) :: F)
theorem a_asm_ok {B : Int} {E : A_E} {F : A_F} {ρ : List Int} (e : e_ok B E ρ) (f : f_ok F ρ) {a b : A_V} {x y k : Int} (ha : a_ev ρ a = some x) (hb : a_ev ρ b = some y) (h : x ≤ y + k) : ∃ q, a_asm E F a b k = some q ∧ e_ok B q.1 ρ ∧ f_ok q.2 ρ := by
  unfold a_asm
  cases ca : a_cst a
  · obtain ⟨r, r1, rfl⟩ := a_ev_var ha ca
    cases cb : a_cst b
    · obtain ⟨r', r2, rfl⟩ := a_ev_var hb cb
      simp only [cond_false]
      cases hv : Nat.beq a.2.1 b.2.1
      · simp only [cond_false]
        have u1 := a_hi_ok e f hb
        have u2 := a_lo_ok e f ha
        obtain ⟨E', g1, g2⟩ := e_cut_ok e (lo := (e_at E a.2.1).1) (hi := a_hi E F b + k - a.2.2) r1 (e_at_ok e r1).1 (by omega)
        rw [g1]
        obtain ⟨E2, g3, g4⟩ := e_cut_ok g2 (lo := a_lo E F a - k - b.2.2) (hi := (e_at E' b.2.1).2.1) r2 (by omega) (e_at_ok g2 r2).2.1
        simp only
        rw [g3]
        simp only
        have u3 := f_ub_ok e f 3 _ _ r' r r2 r1
        have u4 : i_le (f_ub E F 3 b.2.1 a.2.1 + (b.2.2 + k - a.2.2) + 1) 0 = false := i_le_f.mpr (by omega)
        rw [u4]
        simp only [cond_false]
        cases hz : i_le ((e_at E2 a.2.1).2.1 - (e_at E2 b.2.1).1) (b.2.2 + k - a.2.2)
        · refine ⟨_, rfl, g4, fun q hq => ?_⟩
          rcases List.mem_cons.mp hq with rfl | hq
          · exact ⟨r, r', r1, r2, fun _ => by simp only; omega, fun z => by cases z⟩
          · exact f q hq
        · exact ⟨_, rfl, g4, f⟩
      · have hv := Nat.eq_of_beq_eq_true hv
        simp only [cond_true]
        rw [hv] at r1
        have : r = r' := Option.some.inj (r1.symm.trans r2)
        have u : i_le a.2.2 (b.2.2 + k) = true := i_le_iff.mpr (by omega)
        rw [u]
        exact ⟨_, rfl, e, f⟩
    · have := a_ev_cst hb cb
      simp only [cond_false, cond_true]
      obtain ⟨E', g1, g2⟩ := e_cut_ok e (lo := (e_at E a.2.1).1) (hi := b.2.2 + k - a.2.2) r1 (e_at_ok e r1).1 (by omega)
      rw [g1]
      exact ⟨_, rfl, g2, f⟩
  · have := a_ev_cst ha ca
    cases cb : a_cst b
    · obtain ⟨r', r2, rfl⟩ := a_ev_var hb cb
      simp only [cond_false, cond_true]
      obtain ⟨E', g1, g2⟩ := e_cut_ok e (lo := a.2.2 - k - b.2.2) (hi := (e_at E b.2.1).2.1) r2 (by omega) (e_at_ok e r2).2.1
      rw [g1]
      exact ⟨_, rfl, g2, f⟩
    · have := a_ev_cst hb cb
      simp only [cond_true]
      have u : i_le a.2.2 (b.2.2 + k) = true := i_le_iff.mpr (by omega)
      rw [u]
      exact ⟨_, rfl, e, f⟩

/-! ===== numbers of 32 and 64 bits, by their bounds ===== -/
def i_m : Int := -2147483648
def i_M : Int := 2147483647
def l_m : Int := -9223372036854775808
def l_M : Int := 9223372036854775807
theorem i32_rng (x : Int32) : i_m ≤ x.toInt ∧ x.toInt ≤ i_M := by
  have h1 := Int32.le_toInt x
  have h2 := Int32.toInt_lt x
  unfold i_m i_M
  omega
theorem i64_rng (x : Int64) : l_m ≤ x.toInt ∧ x.toInt ≤ l_M := by
  have h1 := Int64.le_toInt x
  have h2 := Int64.toInt_lt x
  unfold l_m l_M
  omega
theorem i32_bm {z : Int} (h1 : i_m ≤ z) (h2 : z ≤ i_M) : z.bmod (2 ^ 32) = z := by
  unfold i_m at h1
  unfold i_M at h2
  exact Int.bmod_eq_of_le (by omega) (by omega)
theorem i32_add {x y : Int32} (h1 : i_m ≤ x.toInt + y.toInt) (h2 : x.toInt + y.toInt ≤ i_M) : (x + y).toInt = x.toInt + y.toInt := by
  rw [Int32.toInt_add, i32_bm h1 h2]
theorem i32_sub {x y : Int32} (h1 : i_m ≤ x.toInt - y.toInt) (h2 : x.toInt - y.toInt ≤ i_M) : (x - y).toInt = x.toInt - y.toInt := by
  rw [Int32.toInt_sub, i32_bm h1 h2]
theorem i32_mul {x y : Int32} (h1 : i_m ≤ x.toInt * y.toInt) (h2 : x.toInt * y.toInt ≤ i_M) : (x * y).toInt = x.toInt * y.toInt := by
  rw [Int32.toInt_mul, i32_bm h1 h2]
theorem i32_of (x : Int32) : Int32.ofInt x.toInt = x := Int32.ofInt_toInt x
theorem i64_of (x : Int64) : Int64.ofInt x.toInt = x := Int64.ofInt_toInt x
/-- a new value within lo .. hi -/
def a_mk (E : A_E) (lo hi : Int) : A_E × A_V :=
  bif i_le i_m lo && i_le hi i_M then (bif i_le hi lo then (E, (0, 0, lo)) else (E ++ [(lo, hi, false)], (1, E.length, 0))) else (E ++ [(i_m, i_M, false)], (1, E.length, 0))
theorem a_mk_ok {B : Int} {E : A_E} {ρ : List Int} (e : e_ok B E ρ) {lo hi : Int} (x : Int32) (h : i_m ≤ lo → hi ≤ i_M → lo ≤ x.toInt ∧ x.toInt ≤ hi) :
    ∃ ρ', r_ext ρ ρ' ∧ e_ok B (a_mk E lo hi).1 ρ' ∧ a_ev ρ' (a_mk E lo hi).2 = some x.toInt ∧ a_isI (a_mk E lo hi).2 = true := by
  unfold a_mk
  cases hb : i_le i_m lo && i_le hi i_M
  · refine ⟨ρ ++ [x.toInt], r_ext.push _, e_ok_push e ⟨(i32_rng x).1, (i32_rng x).2, fun z => by cases z⟩, ?_, rfl⟩
    show ((ρ ++ [x.toInt])[E.length]?).map (fun r => r + 0) = _
    rw [r_at_push _ e]; simp
  · obtain ⟨b1, b2⟩ := Bool.and_eq_true _ _ |>.mp hb
    obtain ⟨h1, h2⟩ := h (i_le_iff.mp b1) (i_le_iff.mp b2)
    simp only [cond_true]
    cases hz : i_le hi lo
    · simp only [cond_false]
      refine ⟨ρ ++ [x.toInt], r_ext.push _, e_ok_push e ⟨h1, h2, fun z => by cases z⟩, ?_, rfl⟩
      show ((ρ ++ [x.toInt])[E.length]?).map (fun r => r + 0) = _
      rw [r_at_push _ e]; simp
    · have hq := i_le_iff.mp hz
      simp only [cond_true]
      refine ⟨ρ, r_ext.rf, e, ?_, rfl⟩
      show some lo = _
      exact congrArg some (by omega)
def a_mkL (E : A_E) (lo hi : Int) : A_E × A_V := (E ++ [(lo, hi, false)], (4, E.length, 0))
theorem a_mkL_ok {B : Int} {E : A_E} {ρ : List Int} (e : e_ok B E ρ) {lo hi : Int} (x : Int64) (h : lo ≤ x.toInt ∧ x.toInt ≤ hi) :
    ∃ ρ', r_ext ρ ρ' ∧ e_ok B (a_mkL E lo hi).1 ρ' ∧ a_ev ρ' (a_mkL E lo hi).2 = some x.toInt ∧ a_isL (a_mkL E lo hi).2 = true := by
  refine ⟨ρ ++ [x.toInt], r_ext.push _, e_ok_push e ⟨h.1, h.2, fun z => by cases z⟩, ?_, rfl⟩
  show ((ρ ++ [x.toInt])[E.length]?).map (fun r => r + 0) = _
  rw [r_at_push _ e]; simp
/-- a + k, k a number -/
def a_addk (E : A_E) (F : A_F) (a : A_V) (k : Int) : A_E × A_V :=
  bif i_le i_m (a_lo E F a + k) && i_le (a_hi E F a + k) i_M then (E, (a.1, a.2.1, a.2.2 + k)) else bif a_cst a then (E, (0, 0, (Int32.ofInt a.2.2 + Int32.ofInt k).toInt)) else a_mk E i_m i_M
theorem a_ev_shift {ρ : List Int} {a : A_V} {x k : Int} (h : a_ev ρ a = some x) : a_ev ρ (a.1, a.2.1, a.2.2 + k) = some (x + k) := by
  obtain ⟨t, n, c⟩ := a
  have hz : ∀ (o : Option Int), o.map (fun r => r + c) = some x → o.map (fun r => r + (c + k)) = some (x + k) := by
    intro o ho
    cases o with
    | none => cases ho
    | some r =>
      have h1 : r + c = x := by simpa using ho
      exact congrArg some (by show r + (c + k) = x + k; omega)
  match t, h with
  | 0, h =>
    have h1 : c = x := by simpa [a_ev] using h
    exact congrArg some (by show c + k = x + k; omega)
  | 1, h => exact hz _ h
  | 3, h =>
    have h1 : c = x := by simpa [a_ev] using h
    exact congrArg some (by show c + k = x + k; omega)
  | 4, h => exact hz _ h
  | 2, h => exact absurd h (by simp [a_ev])
  | t + 5, h => exact absurd h (by simp [a_ev])
theorem a_mk_any {B : Int} {E : A_E} {ρ : List Int} (e : e_ok B E ρ) (x : Int32) : ∃ ρ', r_ext ρ ρ' ∧ e_ok B (a_mk E i_m i_M).1 ρ' ∧ a_ev ρ' (a_mk E i_m i_M).2 = some x.toInt ∧ a_isI (a_mk E i_m i_M).2 = true := a_mk_ok e x (fun _ _ => i32_rng x)
theorem a_addk_ok {B : Int} {E : A_E} {F : A_F} {ρ : List Int} (e : e_ok B E ρ) (f : f_ok F ρ) {a : A_V} {x : Int32} {k : Int} (hi : a_isI a = true) (h : a_ev ρ a = some x.toInt) :
    ∃ ρ', r_ext ρ ρ' ∧ e_ok B (a_addk E F a k).1 ρ' ∧ a_ev ρ' (a_addk E F a k).2 = some (x + Int32.ofInt k).toInt ∧ a_isI (a_addk E F a k).2 = true := by
  unfold a_addk
  cases hb : i_le i_m (a_lo E F a + k) && i_le (a_hi E F a + k) i_M
  · simp only [cond_false]
    cases hc : a_cst a
    · exact a_mk_any e _
    · have hx := a_ev_cst h hc
      simp only [cond_true]
      refine ⟨ρ, r_ext.rf, e, ?_, rfl⟩
      show some _ = _
      rw [← hx, i32_of]
  · obtain ⟨b1, b2⟩ := Bool.and_eq_true _ _ |>.mp hb
    have u1 := i_le_iff.mp b1
    have u2 := i_le_iff.mp b2
    have u3 := a_lo_ok e f h
    have u4 := a_hi_ok e f h
    simp only [cond_true]
    refine ⟨ρ, r_ext.rf, e, ?_, hi⟩
    rw [a_ev_shift h]
    congr 1
    have : (x + Int32.ofInt k).toInt = (x.toInt + k).bmod (2 ^ 32) := by
      rw [Int32.toInt_add, Int32.toInt_ofInt]
      simp
    rw [this, i32_bm (by omega) (by omega)]
