/-! THE CELLS: reads, writes, rows of numbers -/
def o_get (p k : Nat) : A_O → Option A_V
  | [] => none
  | q :: ov => bif Nat.beq q.1.2 k && Nat.beq q.1.1 p then some q.2 else o_get p k ov
theorem o_get_in {p k : Nat} {a : A_V} : ∀ {ov : A_O}, o_get p k ov = some a → ((p, k), a) ∈ ov
  | [], h => by cases h
  | q :: ov, h => by
    unfold o_get at h
    cases hb : Nat.beq q.1.2 k && Nat.beq q.1.1 p
    · rw [hb] at h; exact List.mem_cons_of_mem _ (o_get_in h)
    · rw [hb] at h
      obtain ⟨h1, h2⟩ := Bool.and_eq_true _ _ |>.mp hb
      have e1 := Nat.eq_of_beq_eq_true h1
      have e2 := Nat.eq_of_beq_eq_true h2
      obtain ⟨⟨q1, q2⟩, a'⟩ := q
      simp only at e1 e2
      cases h; subst e1; subst e2; exact List.mem_cons_self
/-- the value at a place of a cell: known, or by the place's type -/
def a_new (t : Nat × Int × Int) (E : A_E) : Option (A_E × A_V × Bool) := match t with
  | (0, lo, hi) => bif i_le hi lo then some (E, (0, 0, lo), false) else some (E ++ [(lo, hi, false)], (1, E.length, 0), true)
  | (1, q, _) => some (E, (2, q.toNat, 0), false)
  | (2, _, _) => some (E ++ [(l_m, l_M, false)], (4, E.length, 0), true)
  | (3, _, _) => some (E ++ [(0, 1073741824, true)], (1, E.length, 0), true)
  | _ => none
theorem a_new_ok {B : Int} {E E' : A_E} {ρ : List Int} {t : Nat × Int × Int} {a : A_V} {z : Bool} {v : Value} (hB : B ≤ 1073741824) (e : e_ok B E ρ) (hv : t_ok B t v) (h : a_new t E = some (E', a, z)) : ∃ ρ', r_ext ρ ρ' ∧ e_ok B E' ρ' ∧ v_ok ρ' a v := by
  obtain ⟨n, lo, hi⟩ := t
  unfold a_new at h
  split at h
  · rename_i lo hi heq
    cases heq
    obtain ⟨x, rfl, h1, h2⟩ := hv
    simp only at h1 h2
    cases hz : i_le hi lo
    · rw [hz] at h
      cases h
      exact ⟨ρ ++ [x.toInt], r_ext.push _, e_ok_push e ⟨h1, h2, fun z => by cases z⟩, ⟨x, x.toInt, rfl, r_at_push _ e, by simp⟩⟩
    · rw [hz] at h
      cases h
      have := i_le_iff.mp hz
      exact ⟨ρ, r_ext.rf, e, ⟨x, rfl, by show x.toInt = lo; omega⟩⟩
  · rename_i q _ heq
    cases heq
    cases h
    exact ⟨ρ, r_ext.rf, e, hv⟩
  · rename_i _ _ heq
    cases heq
    obtain ⟨x, rfl⟩ := hv
    cases h
    exact ⟨ρ ++ [x.toInt], r_ext.push _, e_ok_push e ⟨(i64_rng x).1, (i64_rng x).2, fun z => by cases z⟩, ⟨x, x.toInt, rfl, r_at_push _ e, by simp⟩⟩
  · rename_i _ _ heq
    cases heq
    obtain ⟨x, rfl, h1, h2⟩ := hv
    cases h
    exact ⟨ρ ++ [x.toInt], r_ext.push _, e_ok_push e ⟨h1, by show x.toInt ≤ 1073741824; omega, fun _ => ⟨h1, h2⟩⟩, ⟨x, x.toInt, rfl, r_at_push _ e, by simp⟩⟩
  · cases h
def a_rd (E : A_E) (ov : A_O) (p k : Nat) : Option (A_E × A_O × A_V) := match o_get p k ov with
  | some a => some (E, ov, a)
  | none => match a_new (h_ty p k) E with
    | some (E', a, z) => some (E', bif z then ((p, k), a) :: ov else ov, a)
    | none => none
theorem a_rd_ok {B : Int} {E E' : A_E} {ρ : List Int} {ov ov' : A_O} {σ : m_H} {p k : Nat} {a : A_V} {v : Value} (hB : B ≤ 1073741824) (e : e_ok B E ρ) (o : o_ok ρ ov σ) (hv : t_ok B (h_ty p k) v) (hc : c_at σ p k = some v) (h : a_rd E ov p k = some (E', ov', a)) : ∃ ρ', r_ext ρ ρ' ∧ e_ok B E' ρ' ∧ o_ok ρ' ov' σ ∧ v_ok ρ' a v := by
  unfold a_rd at h
  split at h
  · rename_i b hb
    cases h
    obtain ⟨u, h1, h2⟩ := o _ (o_get_in hb)
    simp only at h1 h2
    rw [hc] at h1
    cases h1
    exact ⟨ρ, r_ext.rf, e, o, h2⟩
  · split at h
    · rename_i E2 b z hn
      cases h
      obtain ⟨ρ', g1, g2, g3⟩ := a_new_ok hB e hv hn
      refine ⟨ρ', g1, g2, ?_, g3⟩
      cases z
      · exact o_ok_ext g1 o
      · intro q hq
        rcases List.mem_cons.mp hq with rfl | hq
        · exact ⟨v, hc, g3⟩
        · exact o_ok_ext g1 o q hq
    · cases h
/-- bounds of the budget -/
def l_lo1 (E : A_E) : List (Int × Nat) → Int
  | [] => 0
  | (c, v) :: l => (bif i_le 0 c then c * (e_at E v).1 else c * (e_at E v).2.1) + l_lo1 E l
def l_lo (E : A_E) (L : A_L) : Int := L.1 + l_lo1 E L.2
theorem l_lo1_ok {B : Int} {E : A_E} {ρ : List Int} (e : e_ok B E ρ) : ∀ (l : List (Int × Nat)) (s : Int), l_ev1 ρ l = some s → l_lo1 E l ≤ s
  | [], s, h => by cases h; exact Int.le_refl _
  | (c, v) :: l, s, h => by
    unfold l_ev1 at h
    split at h
    · rename_i r t h1 h2
      cases h
      have ih := l_lo1_ok e l t h2
      have hr := e_at_ok e h1
      unfold l_lo1
      cases hc : i_le 0 c
      · have hc := i_le_f.mp hc
        have := Int.mul_le_mul_of_nonpos_left (a := c) (by omega) hr.2.1
        simp only [cond_false]; omega
      · have hc := i_le_iff.mp hc
        have := Int.mul_le_mul_of_nonneg_left hr.1 hc
        simp only [cond_true]; omega
    · cases h
theorem l_lo_ok {B : Int} {E : A_E} {ρ : List Int} (e : e_ok B E ρ) {L : A_L} {s : Int} (h : l_ev ρ L = some s) : l_lo E L ≤ s := by
  unfold l_ev at h
  obtain ⟨t, h1, h2⟩ := Option.map_eq_some_iff.mp h
  have := l_lo1_ok e _ _ h1
  unfold l_lo
  omega
/-- may a value be put at a place of this type; how many ticks it takes -/
def t_fit (t : Nat × Int × Int) (E : A_E) (F : A_F) (a : A_V) : Option Int := match t with
  | (0, lo, hi) => bif a_isI a && (i_le lo (a_lo E F a) && i_le (a_hi E F a) hi) then some 0 else none
  | (1, q, _) => bif a_isR a && Nat.beq a.2.1 q.toNat then some 0 else none
  | (2, _, _) => bif a_isL a then some 0 else none
  | (3, _, _) => bif Nat.beq a.1 0 && i_eq a.2.2 0 then some 0 else bif Nat.beq a.1 1 && ((e_at E a.2.1).2.2 && i_le 0 a.2.2) then some a.2.2 else none
  | (4, _, _) => bif a_isR a then some 0 else none
  | _ => none
theorem t_fit_ok {B : Int} {E : A_E} {F : A_F} {ρ : List Int} {t : Nat × Int × Int} {a : A_V} {v : Value} {c : Int} (hB : 0 ≤ B) (e : e_ok B E ρ) (f : f_ok F ρ) (hv : v_ok ρ a v) (h : t_fit t E F a = some c) : 0 ≤ c ∧ t_ok (B + c) t v := by
  unfold t_fit at h
  split at h
  · rename_i lo hi
    cases hc : a_isI a && (i_le lo (a_lo E F a) && i_le (a_hi E F a) hi)
    · rw [hc] at h; cases h
    · rw [hc] at h
      cases h
      obtain ⟨h1, h2⟩ := Bool.and_eq_true _ _ |>.mp hc
      obtain ⟨h2, h3⟩ := Bool.and_eq_true _ _ |>.mp h2
      obtain ⟨x, rfl, h4⟩ := v_int hv h1
      have u1 := a_lo_ok e f h4
      have u2 := a_hi_ok e f h4
      have h2 := i_le_iff.mp h2
      have h3 := i_le_iff.mp h3
      exact ⟨Int.le_refl _, ⟨x, rfl, by show lo ≤ _; omega, by show _ ≤ hi; omega⟩⟩
  · rename_i q _
    cases hc : a_isR a && Nat.beq a.2.1 q.toNat
    · rw [hc] at h; cases h
    · rw [hc] at h
      cases h
      obtain ⟨h1, h2⟩ := Bool.and_eq_true _ _ |>.mp hc
      have h2 := Nat.eq_of_beq_eq_true h2
      exact ⟨Int.le_refl _, by rw [v_ref hv h1, h2]; rfl⟩
  · cases hc : a_isL a
    · rw [hc] at h; cases h
    · rw [hc] at h
      cases h
      obtain ⟨x, rfl, _⟩ := v_long hv hc
      exact ⟨Int.le_refl _, ⟨x, rfl⟩⟩
  · cases hc : Nat.beq a.1 0 && i_eq a.2.2 0
    · rw [hc] at h
      simp only [cond_false] at h
      cases hd : Nat.beq a.1 1 && ((e_at E a.2.1).2.2 && i_le 0 a.2.2)
      · rw [hd] at h; cases h
      · rw [hd] at h
        cases h
        obtain ⟨h1, h2⟩ := Bool.and_eq_true _ _ |>.mp hd
        obtain ⟨h2, h3⟩ := Bool.and_eq_true _ _ |>.mp h2
        have h1 := Nat.eq_of_beq_eq_true h1
        have h3 := i_le_iff.mp h3
        obtain ⟨t, n, c⟩ := a
        simp only at h1
        subst h1
        obtain ⟨x, r, rfl, h4, h5⟩ := hv
        have := (e_at_ok e h4).2.2 h2
        simp only at h3 h5 ⊢
        exact ⟨h3, ⟨x, rfl, by omega, by omega⟩⟩
    · rw [hc] at h
      cases h
      obtain ⟨h1, h2⟩ := Bool.and_eq_true _ _ |>.mp hc
      have h1 := Nat.eq_of_beq_eq_true h1
      have h2 := i_eq_iff.mp h2
      obtain ⟨t, n, c⟩ := a
      simp only at h1 h2
      subst h1
      obtain ⟨x, rfl, h5⟩ := hv
      simp only at h5
      exact ⟨Int.le_refl _, ⟨x, rfl, by omega, by omega⟩⟩
  · cases hc : a_isR a
    · rw [hc] at h; cases h
    · rw [hc] at h
      cases h
      exact ⟨Int.le_refl _, Or.inr ⟨_, v_ref hv hc⟩⟩
  · cases h
/-- the cells that may change hold these -/
def d_has (md : A_D) (p lo hi : Nat) : Bool := md.any fun q => Nat.beq q.1 p && (Nat.ble q.2.1 lo && Nat.ble hi q.2.2)
theorem d_has_ok {md : A_D} {p lo hi k : Nat} (h : d_has md p lo hi = true) (h1 : lo ≤ k) (h2 : k ≤ hi) : d_in md p k := by
  obtain ⟨q, hq, h⟩ := List.any_eq_true.mp h
  obtain ⟨g1, g2⟩ := Bool.and_eq_true _ _ |>.mp h
  obtain ⟨g2, g3⟩ := Bool.and_eq_true _ _ |>.mp g2
  have e1 := Nat.eq_of_beq_eq_true g1
  have e2 := Nat.le_of_ble_eq_true g2
  have e3 := Nat.le_of_ble_eq_true g3
  exact ⟨q, hq, e1, by omega, by omega⟩
theorem h_fr_set {md : A_D} {σ0 σ : m_H} {p k : Nat} {kd : Nat ⊕ Nat} {vs : List Value} {v : Value} (h : h_fr md σ0 σ) (hσ : σ[p]? = some (kd, vs)) (hd : d_in md p k) : h_fr md σ0 (σ.set p (kd, vs.set k v)) := by
  intro p' k' hn
  rw [c_at_set hσ, if_neg (fun z => hn (by rw [z.1, z.2.1]; exact hd))]
  exact h p' k' hn
def o_cut (p lo hi : Nat) (ov : A_O) : A_O := ov.filter fun q => !(Nat.beq q.1.1 p && (Nat.ble lo q.1.2 && Nat.ble q.1.2 hi))
theorem o_cut_ok {ρ : List Int} {ov : A_O} {σ : m_H} {p k lo hi : Nat} {kd : Nat ⊕ Nat} {vs : List Value} {v : Value} (o : o_ok ρ ov σ) (hσ : σ[p]? = some (kd, vs)) (h1 : lo ≤ k) (h2 : k ≤ hi) : o_ok ρ (o_cut p lo hi ov) (σ.set p (kd, vs.set k v)) := by
  intro q hq
  obtain ⟨g1, g2⟩ := List.mem_filter.mp hq
  obtain ⟨u, g3, g4⟩ := o q g1
  refine ⟨u, ?_, g4⟩
  rw [c_at_set hσ, if_neg]
  · exact g3
  · rintro ⟨z1, z2, -⟩
    have e1 : Nat.beq q.1.1 p = true := by rw [z1]; exact Nat.beq_refl p
    have e2 : Nat.ble lo q.1.2 = true := Nat.ble_eq.mpr (by omega)
    have e3 : Nat.ble q.1.2 hi = true := Nat.ble_eq.mpr (by omega)
    rw [e1, e2, e3] at g2
    cases g2
theorem o_put_ok {ρ : List Int} {ov : A_O} {σ : m_H} {p k : Nat} {kd : Nat ⊕ Nat} {vs : List Value} {a : A_V} {v : Value} (o : o_ok ρ ov σ) (hσ : σ[p]? = some (kd, vs)) (hk : k < vs.length) (hv : v_ok ρ a v) : o_ok ρ (((p, k), a) :: o_cut p k k ov) (σ.set p (kd, vs.set k v)) := by
  intro q hq
  rcases List.mem_cons.mp hq with rfl | hq
  · exact ⟨v, by rw [c_at_set hσ, if_pos ⟨rfl, rfl, hk⟩], hv⟩
  · exact o_cut_ok o hσ (Nat.le_refl _) (Nat.le_refl _) q hq
theorem h_cell {B : Int} {σ : m_H} (h : h_ok B σ) {p : Nat} (hp : p < h_N) : ∃ vs, σ[p]? = some (h_kd p, vs) ∧ vs.length = h_ln p ∧ ∀ k, k < h_ln p → ∃ v, vs[k]? = some v ∧ t_ok B (h_ty p k) v ∧ m_vOk h_N v := by
  obtain ⟨vs, h1, h2, h3⟩ := h.2 p hp
  refine ⟨vs, h1, h2, fun k hk => ?_⟩
  have he : vs[k]? = some vs[k] := List.getElem?_eq_getElem (by omega)
  exact ⟨vs[k], he, h3 k _ he⟩
def l_take (bu : A_L) (c : Int) : A_L := (bu.1 - c, bu.2)
theorem l_take_ok {ρ : List Int} {bu : A_L} {c z : Int} (h : l_ev ρ bu = some z) : l_ev ρ (l_take bu c) = some (z - c) := by
  unfold l_ev l_take at *
  obtain ⟨t, h1, h2⟩ := Option.map_eq_some_iff.mp h
  simp only
  rw [h1]
  simp only [Option.map_some, Option.some.injEq]
  omega
/-- the union of the types from a place on -/
def t_uni (p : Nat) (lo : Nat) : Nat → Option (Int × Int)
  | 0 => match h_ty p lo with
    | (0, a, b) => some (a, b)
    | _ => none
  | n + 1 => match h_ty p (lo + (n + 1)), t_uni p lo n with
    | (0, a, b), some (c, d) => some (i_min a c, i_max b d)
    | _, _ => none
theorem t_uni_ok {B : Int} {p lo : Nat} : ∀ {n : Nat} {a b : Int}, t_uni p lo n = some (a, b) → ∀ (k : Nat) (v : Value), lo ≤ k → k ≤ lo + n → t_ok B (h_ty p k) v → ∃ x : Int32, v = .int x ∧ a ≤ x.toInt ∧ x.toInt ≤ b
  | 0, a, b, h, k, v, h1, h2, hv => by
    have : k = lo := by omega
    subst this
    unfold t_uni at h
    split at h
    · rename_i a' b' ht
      cases h
      rw [ht] at hv
      exact hv
    · cases h
  | n + 1, a, b, h, k, v, h1, h2, hv => by
    unfold t_uni at h
    split at h
    · rename_i a' b' c d ht hu
      cases h
      have m1 := @min_le a' c
      have m2 := @le_max b' d
      by_cases hk : k = lo + (n + 1)
      · subst hk
        rw [ht] at hv
        obtain ⟨x, h3, h4, h5⟩ := hv
        simp only at h4 h5
        exact ⟨x, h3, by omega, by omega⟩
      · obtain ⟨x, h3, h4, h5⟩ := t_uni_ok hu k v h1 (by omega) hv
        exact ⟨x, h3, by omega, by omega⟩
    · cases h
/-- all the places from lo on take the value, and no tick -/
def t_all (p lo : Nat) (E : A_E) (F : A_F) (a : A_V) : Nat → Bool
  | 0 => match t_fit (h_ty p lo) E F a with
    | some c => i_eq c 0
    | none => false
  | n + 1 => (match t_fit (h_ty p (lo + (n + 1))) E F a with
    | some c => i_eq c 0
    | none => false) && t_all p lo E F a n
theorem t_all_ok {B : Int} {E : A_E} {F : A_F} {ρ : List Int} {p lo : Nat} {a : A_V} {v : Value} (hB : 0 ≤ B) (e : e_ok B E ρ) (f : f_ok F ρ) (hv : v_ok ρ a v) : ∀ {n : Nat}, t_all p lo E F a n = true → ∀ k : Nat, lo ≤ k → k ≤ lo + n → t_ok B (h_ty p k) v := by
  have one : ∀ k : Nat, (match t_fit (h_ty p k) E F a with | some c => i_eq c 0 | none => false) = true → t_ok B (h_ty p k) v := by
    intro k h
    split at h
    · rename_i c hc
      have h := i_eq_iff.mp h
      subst h
      have := (t_fit_ok hB e f hv hc).2
      rwa [Int.add_zero] at this
    · cases h
  intro n
  induction n with
  | zero =>
    intro h k h1 h2
    have : k = lo := by omega
    subst this
    exact one k h
  | succ n ih =>
    intro h k h1 h2
    unfold t_all at h
    obtain ⟨g1, g2⟩ := Bool.and_eq_true _ _ |>.mp h
    by_cases hk : k = lo + (n + 1)
    · subst hk; exact one _ g1
    · exact ih g2 k h1 (by omega)
theorem ix_of {i : Int32} {n : Nat} (h1 : 0 ≤ i.toInt) (h2 : i.toInt < n) : vp_in i n ∧ i.toNatClampNeg = i.toInt.toNat := by
  have e : i.toNatClampNeg = i.toInt.toNat := rfl
  refine ⟨fun z => ?_, e⟩
  rcases z with z | z
  · have := i32_lt.mp z
    rw [i32_0] at this
    omega
  · rw [e] at z
    omega
