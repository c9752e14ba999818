/-! VALUES FOR VARIABLES: a state against a pattern -/
/-- the pattern's variables' values -/
def h_sub (ρ : List Int) (θ : List A_V) (ρT : List Int) : Prop := θ.length = ρT.length ∧ ∀ (i : Nat) (b : A_V) (r : Int), θ[i]? = some b → ρT[i]? = some r → a_ev ρ b = some r
theorem h_sub_at {ρ ρT : List Int} {θ : List A_V} (h : h_sub ρ θ ρT) {i : Nat} {r : Int} (hr : ρT[i]? = some r) : ∃ b, θ[i]? = some b ∧ a_ev ρ b = some r := by
  have hl := (List.getElem?_eq_some_iff.mp hr).1
  have hl2 : i < θ.length := by rw [h.1]; exact hl
  have he : θ[i]? = some θ[i] := List.getElem?_eq_getElem hl2
  exact ⟨_, he, h.2 i _ r he hr⟩
theorem h_sub_push {ρ ρT : List Int} {θ : List A_V} (h : h_sub ρ θ ρT) {b : A_V} {r : Int} (hb : a_ev ρ b = some r) : h_sub ρ (θ ++ [b]) (ρT ++ [r]) := by
  refine ⟨by simp [h.1], fun i c s h1 h2 => ?_⟩
  by_cases hi : i < θ.length
  · rw [List.getElem?_append_left hi] at h1
    rw [List.getElem?_append_left (by rw [← h.1]; exact hi)] at h2
    exact h.2 i c s h1 h2
  · rw [List.getElem?_append_right (by omega)] at h1
    rw [List.getElem?_append_right (by rw [← h.1]; omega)] at h2
    have : i - θ.length = 0 := by
      have := (List.getElem?_eq_some_iff.mp h1).1
      simp at this; omega
    rw [this] at h1
    rw [← h.1, this] at h2
    cases h1; cases h2; exact hb
theorem h_sub_ext {ρ ρ' ρT : List Int} {θ : List A_V} (hx : r_ext ρ ρ') (h : h_sub ρ θ ρT) : h_sub ρ' θ ρT := ⟨h.1, fun i b r h1 h2 => a_ev_ext hx (h.2 i b r h1 h2)⟩
/-- a value put in for a variable, moved by a number -/
def v_sh (b : A_V) (c : Int) : A_V := (b.1, b.2.1, b.2.2 + c)
/-- a within what E0 says of the variable v -/
def c_rng (E : A_E) (F : A_F) (q : Int × Int × Bool) (b : A_V) : Bool := i_le q.1 (a_lo E F b) && (i_le (a_hi E F b) q.2.1 && (!q.2.2 || (bif Nat.beq b.1 0 then i_eq b.2.2 0 else Nat.beq b.1 1 && ((e_at E b.2.1).2.2 && i_eq b.2.2 0))))
theorem c_rng_ok {B : Int} {E : A_E} {F : A_F} {ρ : List Int} (hB0 : 0 ≤ B) (e : e_ok B E ρ) (f : f_ok F ρ) {q : Int × Int × Bool} {b : A_V} {x : Int} (hb : a_ev ρ b = some x) (h : c_rng E F q b = true) : q.1 ≤ x ∧ x ≤ q.2.1 ∧ (q.2.2 = true → 0 ≤ x ∧ x ≤ B) := by
  obtain ⟨h1, h2⟩ := Bool.and_eq_true _ _ |>.mp h
  obtain ⟨h2, h3⟩ := Bool.and_eq_true _ _ |>.mp h2
  have h1 := i_le_iff.mp h1
  have h2 := i_le_iff.mp h2
  have u1 := a_lo_ok e f hb
  have u2 := a_hi_ok e f hb
  refine ⟨by omega, by omega, fun z => ?_⟩
  rw [z] at h3
  simp only [Bool.not_true, Bool.false_or] at h3
  obtain ⟨t, n, c⟩ := b
  cases h0 : Nat.beq t 0
  · simp only [h0, cond_false] at h3
    obtain ⟨g1, g2⟩ := Bool.and_eq_true _ _ |>.mp h3
    obtain ⟨g2, g3⟩ := Bool.and_eq_true _ _ |>.mp g2
    have g1 := Nat.eq_of_beq_eq_true g1
    have g3 := i_eq_iff.mp g3
    subst g1
    obtain ⟨r, r1, r2⟩ := a_ev_var hb rfl
    have := (e_at_ok e r1).2.2 g2
    simp only at r2
    omega
  · simp only [h0, cond_true] at h3
    have h0 := Nat.eq_of_beq_eq_true h0
    subst h0
    have h3 := i_eq_iff.mp h3
    have := a_ev_cst hb rfl
    simp only at h3 this
    omega
def c_same (E : A_E) (F : A_F) (a b : A_V) : Bool := a_leq E F a b 0 && a_leq E F b a 0
theorem c_same_ok {B : Int} {E : A_E} {F : A_F} {ρ : List Int} (e : e_ok B E ρ) (f : f_ok F ρ) {a b : A_V} {x y : Int} (ha : a_ev ρ a = some x) (hb : a_ev ρ b = some y) (h : c_same E F a b = true) : x = y := by
  obtain ⟨h1, h2⟩ := Bool.and_eq_true _ _ |>.mp h
  have := a_leq_ok e f ha hb h1
  have := a_leq_ok e f hb ha h2
  omega
/-- the pattern a against the value b: more variables get their values -/
def c_bind (E : A_E) (F : A_F) (E0 : A_E) (θ : List A_V) (a b : A_V) : Option (List A_V) := match a.1 with
  | 0 => bif a_isI b && c_same E F b (0, 0, a.2.2) then some θ else none
  | 1 => bif a_isI b then (bif Nat.beq a.2.1 θ.length && i_eq a.2.2 0 then (bif c_rng E F (e_at E0 a.2.1) b then some (θ ++ [b]) else none) else match θ[a.2.1]? with
    | some t => bif c_same E F b (v_sh t a.2.2) then some θ else none
    | none => none) else none
  | 2 => bif a_isR b && Nat.beq b.2.1 a.2.1 then some θ else none
  | 3 => bif a_isL b && c_same E F b (3, 0, a.2.2) then some θ else none
  | 4 => bif a_isL b then (bif Nat.beq a.2.1 θ.length && i_eq a.2.2 0 then (bif c_rng E F (e_at E0 a.2.1) b then some (θ ++ [b]) else none) else match θ[a.2.1]? with
    | some t => bif c_same E F b (v_sh t a.2.2) then some θ else none
    | none => none) else none
  | _ => some θ
/-- the pattern's variables so far are within what E0 says of them -/
def e_pre (B : Int) (E0 : A_E) (ρT : List Int) : Prop := ∀ (i : Nat) (r : Int), ρT[i]? = some r → (e_at E0 i).1 ≤ r ∧ r ≤ (e_at E0 i).2.1 ∧ ((e_at E0 i).2.2 = true → 0 ≤ r ∧ r ≤ B)
theorem e_pre_push {B : Int} {E0 : A_E} {ρT : List Int} (h : e_pre B E0 ρT) {r : Int} (hr : (e_at E0 ρT.length).1 ≤ r ∧ r ≤ (e_at E0 ρT.length).2.1 ∧ ((e_at E0 ρT.length).2.2 = true → 0 ≤ r ∧ r ≤ B)) : e_pre B E0 (ρT ++ [r]) := by
  intro i s hs
  by_cases hi : i < ρT.length
  · rw [List.getElem?_append_left hi] at hs
    exact h i s hs
  · rw [List.getElem?_append_right (by omega)] at hs
    have : i - ρT.length = 0 := by
      have := (List.getElem?_eq_some_iff.mp hs).1
      simp at this; omega
    rw [this] at hs
    cases hs
    have : i = ρT.length := by omega
    subst this
    exact hr
theorem c_bind_ok {B : Int} {E E0 : A_E} {F : A_F} {ρ ρT : List Int} {θ θ' : List A_V} {a b : A_V} {v : Value} (hB0 : 0 ≤ B) (e : e_ok B E ρ) (f : f_ok F ρ) (h : h_sub ρ θ ρT) (hp : e_pre B E0 ρT) (hv : v_ok ρ b v) (hb : c_bind E F E0 θ a b = some θ') :
    ∃ ρT', r_ext ρT ρT' ∧ h_sub ρ θ' ρT' ∧ e_pre B E0 ρT' ∧ v_ok ρT' a v := by
  have var : ∀ (x : Int), a_ev ρ b = some x → (bif Nat.beq a.2.1 θ.length && i_eq a.2.2 0 then (bif c_rng E F (e_at E0 a.2.1) b then some (θ ++ [b]) else none) else match θ[a.2.1]? with
      | some t => bif c_same E F b (v_sh t a.2.2) then some θ else none
      | none => none) = some θ' → ∃ ρT', r_ext ρT ρT' ∧ h_sub ρ θ' ρT' ∧ e_pre B E0 ρT' ∧ ∃ r, ρT'[a.2.1]? = some r ∧ x = r + a.2.2 := by
    intro x hx hq
    cases hc : Nat.beq a.2.1 θ.length && i_eq a.2.2 0
    · rw [hc] at hq
      simp only [cond_false] at hq
      split at hq
      · rename_i t ht
        cases hs : c_same E F b (v_sh t a.2.2)
        · rw [hs] at hq; cases hq
        · rw [hs] at hq
          cases hq
          have hl := (List.getElem?_eq_some_iff.mp ht).1
          have he : ρT[a.2.1]? = some (ρT[a.2.1]'(by rw [← h.1]; exact hl)) := List.getElem?_eq_getElem _
          have ht2 := h.2 _ _ _ ht he
          have := c_same_ok e f hx (a_ev_shift (k := a.2.2) ht2) hs
          exact ⟨ρT, r_ext.rf, h, hp, _, he, this⟩
      · cases hq
    · rw [hc] at hq
      simp only [cond_true] at hq
      obtain ⟨c1, c2⟩ := Bool.and_eq_true _ _ |>.mp hc
      have c1 := Nat.eq_of_beq_eq_true c1
      have c2 := i_eq_iff.mp c2
      cases hr : c_rng E F (e_at E0 a.2.1) b
      · rw [hr] at hq; cases hq
      · rw [hr] at hq
        cases hq
        have hrg := c_rng_ok hB0 e f hx hr
        rw [c1, h.1] at hrg
        refine ⟨ρT ++ [x], r_ext.push x, h_sub_push h hx, e_pre_push hp hrg, x, ?_, by omega⟩
        rw [c1, h.1]; simp
  obtain ⟨t, n, c⟩ := a
  unfold c_bind at hb
  simp only at hb var
  split at hb
  · cases hc : a_isI b && c_same E F b (0, 0, c)
    · rw [hc] at hb; cases hb
    · rw [hc] at hb
      cases hb
      obtain ⟨c1, c2⟩ := Bool.and_eq_true _ _ |>.mp hc
      obtain ⟨x, rfl, hx⟩ := v_int hv c1
      have := c_same_ok e f hx (b := (0, 0, c)) (y := c) rfl c2
      exact ⟨ρT, r_ext.rf, h, hp, x, rfl, this⟩
  · cases hc : a_isI b
    · rw [hc] at hb; cases hb
    · rw [hc] at hb
      obtain ⟨x, rfl, hx⟩ := v_int hv hc
      obtain ⟨ρT', g1, g2, g3, r, g4, g5⟩ := var _ hx hb
      exact ⟨ρT', g1, g2, g3, x, r, rfl, g4, g5⟩
  · cases hc : a_isR b && Nat.beq b.2.1 n
    · rw [hc] at hb; cases hb
    · rw [hc] at hb
      cases hb
      obtain ⟨c1, c2⟩ := Bool.and_eq_true _ _ |>.mp hc
      have c2 := Nat.eq_of_beq_eq_true c2
      exact ⟨ρT, r_ext.rf, h, hp, by rw [v_ref hv c1, c2]; rfl⟩
  · cases hc : a_isL b && c_same E F b (3, 0, c)
    · rw [hc] at hb; cases hb
    · rw [hc] at hb
      cases hb
      obtain ⟨c1, c2⟩ := Bool.and_eq_true _ _ |>.mp hc
      obtain ⟨x, rfl, hx⟩ := v_long hv c1
      have := c_same_ok e f hx (b := (3, 0, c)) (y := c) rfl c2
      exact ⟨ρT, r_ext.rf, h, hp, x, rfl, this⟩
  · cases hc : a_isL b
    · rw [hc] at hb; cases hb
    · rw [hc] at hb
      obtain ⟨x, rfl, hx⟩ := v_long hv hc
      obtain ⟨ρT', g1, g2, g3, r, g4, g5⟩ := var _ hx hb
      exact ⟨ρT', g1, g2, g3, x, r, rfl, g4, g5⟩
  · cases hb
    refine ⟨ρT, r_ext.rf, h, hp, ?_⟩
    unfold v_ok
    split <;> rename_i hq <;> simp_all
/-- a row of patterns against a row of values -/
def c_binds (E : A_E) (F : A_F) (E0 : A_E) : List A_V → List A_V → List A_V → Option (List A_V)
  | θ, [], [] => some θ
  | θ, a :: as, b :: bs => match c_bind E F E0 θ a b with
    | some θ' => c_binds E F E0 θ' as bs
    | none => none
  | _, _, _ => none
theorem c_binds_ok {B : Int} {E E0 : A_E} {F : A_F} {ρ : List Int} (hB0 : 0 ≤ B) (e : e_ok B E ρ) (f : f_ok F ρ) : ∀ (as bs : List A_V) (θ θ' : List A_V) (ρT : List Int) (vs : List Value), h_sub ρ θ ρT → e_pre B E0 ρT → s_ok ρ bs vs → c_binds E F E0 θ as bs = some θ' →
    ∃ ρT', r_ext ρT ρT' ∧ h_sub ρ θ' ρT' ∧ e_pre B E0 ρT' ∧ s_ok ρT' as vs
  | [], [], θ, θ', ρT, vs, h, hp, hs, hb => by
    cases hb
    cases vs with
    | nil => exact ⟨ρT, r_ext.rf, h, hp, trivial⟩
    | cons v vs => exact absurd hs id
  | [], _ :: _, θ, θ', ρT, vs, h, hp, hs, hb => by cases hb
  | _ :: _, [], θ, θ', ρT, vs, h, hp, hs, hb => by cases hb
  | a :: as, b :: bs, θ, θ', ρT, vs, h, hp, hs, hb => by
    unfold c_binds at hb
    split at hb
    · rename_i θ1 h1
      cases vs with
      | nil => exact absurd hs id
      | cons v vs =>
        obtain ⟨ρ1, g1, g2, g3, g4⟩ := c_bind_ok hB0 e f h hp hs.1 h1
        obtain ⟨ρ2, k1, k2, k3, k4⟩ := c_binds_ok hB0 e f as bs θ1 θ' ρ1 vs g2 g3 hs.2 hb
        exact ⟨ρ2, g1.tr k1, k2, k3, v_ok_ext k1 g4, k4⟩
    · cases hb
/-- the frame's patterns -/
def c_bindl (E : A_E) (F : A_F) (E0 : A_E) (ls : List (Nat × A_V)) : List A_V → List (Nat × A_V) → Option (List A_V)
  | θ, [] => some θ
  | θ, q :: l => match l_get q.1 ls with
    | some b => match c_bind E F E0 θ q.2 b with
      | some θ' => c_bindl E F E0 ls θ' l
      | none => none
    | none => none
theorem c_bindl_ok {B : Int} {E E0 : A_E} {F : A_F} {ρ : List Int} {ls : List (Nat × A_V)} {vs : List (Nat × Value)} (hB0 : 0 ≤ B) (e : e_ok B E ρ) (f : f_ok F ρ) (hl : l_ok ρ ls vs) : ∀ (l : List (Nat × A_V)) (θ θ' : List A_V) (ρT : List Int), h_sub ρ θ ρT → e_pre B E0 ρT → c_bindl E F E0 ls θ l = some θ' →
    ∃ ρT', r_ext ρT ρT' ∧ h_sub ρ θ' ρT' ∧ e_pre B E0 ρT' ∧ l_ok ρT' l vs
  | [], θ, θ', ρT, h, hp, hb => by
    cases hb
    exact ⟨ρT, r_ext.rf, h, hp, fun q hq => by cases hq⟩
  | q :: l, θ, θ', ρT, h, hp, hb => by
    unfold c_bindl at hb
    split at hb
    · rename_i b hg
      split at hb
      · rename_i θ1 h1
        obtain ⟨v, v1, v2⟩ := hl _ (l_get_in hg)
        obtain ⟨ρ1, g1, g2, g3, g4⟩ := c_bind_ok hB0 e f h hp v2 h1
        obtain ⟨ρ2, k1, k2, k3, k4⟩ := c_bindl_ok hB0 e f hl l θ1 θ' ρ1 g2 g3 hb
        refine ⟨ρ2, g1.tr k1, k2, k3, fun z hz => ?_⟩
        rcases List.mem_cons.mp hz with rfl | hz
        · exact ⟨v, v1, v_ok_ext k1 g4⟩
        · exact k4 z hz
      · cases hb
    · cases hb
/-- the cells' patterns, over cells known -/
def c_bindo (E : A_E) (F : A_F) (E0 : A_E) (ov : A_O) : List A_V → A_O → Option (List A_V)
  | θ, [] => some θ
  | θ, q :: l => match o_get q.1.1 q.1.2 ov with
    | some b => match c_bind E F E0 θ q.2 b with
      | some θ' => c_bindo E F E0 ov θ' l
      | none => none
    | none => none
theorem c_bindo_ok {B : Int} {E E0 : A_E} {F : A_F} {ρ : List Int} {ov : A_O} {σ : m_H} (hB0 : 0 ≤ B) (e : e_ok B E ρ) (f : f_ok F ρ) (ho : o_ok ρ ov σ) : ∀ (l : A_O) (θ θ' : List A_V) (ρT : List Int), h_sub ρ θ ρT → e_pre B E0 ρT → c_bindo E F E0 ov θ l = some θ' →
    ∃ ρT', r_ext ρT ρT' ∧ h_sub ρ θ' ρT' ∧ e_pre B E0 ρT' ∧ o_ok ρT' l σ
  | [], θ, θ', ρT, h, hp, hb => by
    cases hb
    exact ⟨ρT, r_ext.rf, h, hp, fun q hq => by cases hq⟩
  | q :: l, θ, θ', ρT, h, hp, hb => by
    unfold c_bindo at hb
    split at hb
    · rename_i b hg
      split at hb
      · rename_i θ1 h1
        obtain ⟨v, v1, v2⟩ := ho _ (o_get_in hg)
        obtain ⟨ρ1, g1, g2, g3, g4⟩ := c_bind_ok hB0 e f h hp v2 h1
        obtain ⟨ρ2, k1, k2, k3, k4⟩ := c_bindo_ok hB0 e f ho l θ1 θ' ρ1 g2 g3 hb
        refine ⟨ρ2, g1.tr k1, k2, k3, fun z hz => ?_⟩
        rcases List.mem_cons.mp hz with rfl | hz
        · exact ⟨v, v1, v_ok_ext k1 g4⟩
        · exact k4 z hz
      · cases hb
    · cases hb
/-- cells that the pattern speaks of are read first -/
def o_read (E : A_E) (ov : A_O) : A_O → Option (A_E × A_O)
  | [] => some (E, ov)
  | q :: l => match a_rd E ov q.1.1 q.1.2 with
    | some (E', ov', a) => match o_get q.1.1 q.1.2 ov' with
      | some _ => o_read E' ov' l
      | none => o_read E' ((q.1, a) :: ov') l
    | none => none
theorem o_read_ok {B : Int} {F : A_F} {σ : m_H} (hB : B ≤ 1073741824) (hh : h_ok B σ) : ∀ (l : A_O) (E E' : A_E) (ov ov' : A_O) (ρ : List Int), (∀ q ∈ l, q.1.1 < h_N ∧ q.1.2 < h_ln q.1.1) → e_ok B E ρ → f_ok F ρ → o_ok ρ ov σ → o_read E ov l = some (E', ov') →
    ∃ ρ', r_ext ρ ρ' ∧ e_ok B E' ρ' ∧ o_ok ρ' ov' σ
  | [], E, E', ov, ov', ρ, _, e, f, o, h => by
    cases h
    exact ⟨ρ, r_ext.rf, e, o⟩
  | q :: l, E, E', ov, ov', ρ, hq, e, f, o, h => by
    unfold o_read at h
    split at h
    · rename_i E1 ov1 a hr
      obtain ⟨p1, p2⟩ := hq q List.mem_cons_self
      obtain ⟨vs, h1, h2, h3⟩ := h_cell hh p1
      obtain ⟨v, h4, h5, h6⟩ := h3 _ p2
      have hc : c_at σ q.1.1 q.1.2 = some v := by rw [c_at_eq h1]; exact h4
      obtain ⟨ρ1, g1, g2, g3, g4⟩ := a_rd_ok hB e o h5 hc hr
      have hq2 : ∀ z ∈ l, z.1.1 < h_N ∧ z.1.2 < h_ln z.1.1 := fun z hz => hq z (List.mem_cons_of_mem _ hz)
      split at h
      · obtain ⟨ρ2, k1, k2, k3⟩ := o_read_ok hB hh l E1 E' ov1 ov' ρ1 hq2 g2 (f_ok_ext g1 f) g3 h
        exact ⟨ρ2, g1.tr k1, k2, k3⟩
      · have o2 : o_ok ρ1 ((q.1, a) :: ov1) σ := fun z hz => by
          rcases List.mem_cons.mp hz with rfl | hz
          · exact ⟨v, hc, g4⟩
          · exact g3 z hz
        obtain ⟨ρ2, k1, k2, k3⟩ := o_read_ok hB hh l E1 E' _ ov' ρ1 hq2 g2 (f_ok_ext g1 f) o2 h
        exact ⟨ρ2, g1.tr k1, k2, k3⟩
    · cases h
/-- the pattern's facts -/
def c_facts (E : A_E) (F : A_F) (θ : List A_V) (G : A_F) : Bool := G.all fun q => match θ[q.1]?, θ[q.2.2.1]? with
  | some a, some b => bif q.2.1 then a_leq E F a b q.2.2.2 else a_leqS E F a b q.2.2.2
  | _, _ => false
theorem c_facts_ok {B : Int} {E : A_E} {F G : A_F} {ρ ρT : List Int} {θ : List A_V} (e : e_ok B E ρ) (f : f_ok F ρ) (h : h_sub ρ θ ρT) (hc : c_facts E F θ G = true) : f_ok G ρT := by
  intro q hq
  have := List.all_eq_true.mp hc q hq
  split at this
  · rename_i a b ha hb
    have la := (List.getElem?_eq_some_iff.mp ha).1
    have lb := (List.getElem?_eq_some_iff.mp hb).1
    have ea : ρT[q.1]? = some (ρT[q.1]'(by rw [← h.1]; exact la)) := List.getElem?_eq_getElem _
    have eb : ρT[q.2.2.1]? = some (ρT[q.2.2.1]'(by rw [← h.1]; exact lb)) := List.getElem?_eq_getElem _
    have ga := h.2 _ _ _ ha ea
    have gb := h.2 _ _ _ hb eb
    refine ⟨_, _, ea, eb, fun z => ?_, fun z => ?_⟩
    · rw [z] at this
      exact a_leq_ok e f ga gb this
    · rw [z] at this
      exact a_leqS_ok e f ga gb this
  · cases this
theorem e_pre_full {B : Int} {E0 : A_E} {ρT : List Int} (h : e_pre B E0 ρT) (hl : ρT.length = E0.length) : e_ok B E0 ρT := ⟨hl, fun i q r h1 h2 => by
  have := h i r h2
  unfold e_at at this
  rw [h1] at this
  exact this⟩
