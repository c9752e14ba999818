/-! THE TEXT in plain numbers -/
def u_up (a : Nat → Int) (k : Nat) (v : Int) : Nat → Int := fun j => if j = k then v else a j
theorem zu_row {m : z_M} {p k : Nat} {v : Int} : (z_up m p k v) p = u_up (m p) k v := funext fun _ => zu_at
theorem zu_rowne {m : z_M} {p k p' : Nat} {v : Int} (h : ¬ p' = p) : (z_up m p k v) p' = m p' := funext fun _ => zu_p h
def z_off (L : List (Nat × Nat × Nat)) (p k : Nat) : Bool := L.all fun q => !(Nat.beq q.1 p && (Nat.ble q.2.1 k && Nat.ble k q.2.2))
theorem z_same.at {L : List (Nat × Nat × Nat)} {m m' : z_M} (h : z_same L m m') {p k : Nat} (ho : z_off L p k = true) : m' p k = m p k := h p k fun q hq ⟨e1, e2, e3⟩ => by
  have := List.all_eq_true.mp ho q hq
  rw [e1, Nat.ble_eq_true_of_le e2, Nat.ble_eq_true_of_le e3, Nat.beq_refl p] at this
  cases this
def z_offr (L : List (Nat × Nat × Nat)) (p : Nat) : Bool := L.all fun q => !(Nat.beq q.1 p)
theorem z_same.row {L : List (Nat × Nat × Nat)} {m m' : z_M} (h : z_same L m m') {p : Nat} (ho : z_offr L p = true) : m' p = m p := funext fun k => h p k fun q hq ⟨e1, _, _⟩ => by
  have := List.all_eq_true.mp ho q hq
  rw [e1, Nat.beq_refl p] at this
  cases this
theorem z_same.up1 {L : List (Nat × Nat × Nat)} {m m' : z_M} {p k lo hi : Nat} {v : Int} (h : z_same L m m') (hq : (p, lo, hi) ∈ L) (h1 : lo ≤ k) (h2 : k ≤ hi) : z_same L m (z_up m' p k v) := h.up ⟨_, hq, rfl, h1, h2⟩
def z_sub2 (L L' : List (Nat × Nat × Nat)) : Bool := L.all fun q => L'.any fun u => Nat.beq u.1 q.1 && (Nat.ble u.2.1 q.2.1 && Nat.ble q.2.2 u.2.2)
theorem z_same.sub {L L' : List (Nat × Nat × Nat)} {m m' : z_M} (h : z_same L m m') (hs : z_sub2 L L' = true) : z_same L' m m' := fun p k hn => h p k fun q hq ⟨e1, e2, e3⟩ => by
  obtain ⟨u, hu, hb⟩ := List.any_eq_true.mp (List.all_eq_true.mp hs q hq)
  obtain ⟨b1, hb⟩ := Bool.and_eq_true _ _ |>.mp hb
  obtain ⟨b2, b3⟩ := Bool.and_eq_true _ _ |>.mp hb
  have b1 := Nat.eq_of_beq_eq_true b1
  have b2 := Nat.le_of_ble_eq_true b2
  have b3 := Nat.le_of_ble_eq_true b3
  exact hn u hu ⟨by omega, by omega, by omega⟩
/-- the sign at i, or -1 -/
def u_nx (t : Nat → Int) (n s i : Int) : Int := if 0 ≤ i ∧ i < n ∧ i < s then t i.toNat else -1
def u_dg (c : Int) : Int := if 48 ≤ c ∧ c ≤ 57 then c - 48 else -1
theorem u_dg_rng (c : Int) : -1 ≤ u_dg c ∧ u_dg c ≤ 9 := by
  unfold u_dg
  by_cases h : 48 ≤ c ∧ c ≤ 57
  · rw [if_pos h]; omega
  · rw [if_neg h]; omega
theorem u_dg_ne {c : Int} (h : ¬ u_dg c = -1) : 48 ≤ c ∧ c ≤ 57 ∧ u_dg c = c - 48 := by
  unfold u_dg at h ⊢
  by_cases hc : 48 ≤ c ∧ c ≤ 57
  · rw [if_pos hc]; exact ⟨hc.1, hc.2, rfl⟩
  · rw [if_neg hc] at h; exact absurd rfl h
/-- no sign from 80 on -/
def u_gb (g : Int → Int) : Prop := ∀ i, ¬ g i = -1 → 0 ≤ i ∧ i < 80
theorem u_nx_b {t : Nat → Int} {n s : Int} (h : n ≤ 80) : u_gb (u_nx t n s) := fun i hi => by
  unfold u_nx at hi
  by_cases hc : 0 ≤ i ∧ i < n ∧ i < s
  · omega
  · rw [if_neg hc] at hi; exact absurd rfl hi
theorem u_dg_b {g : Int → Int} (hg : u_gb g) {i : Int} (h : ¬ u_dg (g i) = -1) : 0 ≤ i ∧ i < 80 := hg i fun z => by
  have := (u_dg_ne h).1
  omega
/-- ICE: where reading stands behind it, and how much; -1: none -/
def u_ic (g : Int → Int) (i : Int) : Int × Int := if u_dg (g i) = -1 then (i, -1) else if u_dg (g (i + 1)) = -1 then (i + 1, u_dg (g i)) else (i + 2, 10 * u_dg (g i) + u_dg (g (i + 1)))
theorem u_ic_b {g : Int → Int} (hg : u_gb g) {i : Int} (h0 : 0 ≤ i) (h1 : i ≤ 80) : i ≤ (u_ic g i).1 ∧ (u_ic g i).1 ≤ 80 ∧ -1 ≤ (u_ic g i).2 ∧ (u_ic g i).2 ≤ 99 := by
  unfold u_ic
  have a1 := u_dg_rng (g i)
  have a2 := u_dg_rng (g (i + 1))
  by_cases h : u_dg (g i) = -1
  · rw [if_pos h]
    show i ≤ i ∧ i ≤ 80 ∧ -1 ≤ (-1 : Int) ∧ (-1 : Int) ≤ 99
    omega
  · have := u_dg_b hg h
    rw [if_neg h]
    by_cases h' : u_dg (g (i + 1)) = -1
    · rw [if_pos h']
      show i ≤ i + 1 ∧ i + 1 ≤ 80 ∧ -1 ≤ u_dg (g i) ∧ u_dg (g i) ≤ 99
      omega
    · have := u_dg_b hg h'
      rw [if_neg h']
      show i ≤ i + 2 ∧ i + 2 ≤ 80 ∧ -1 ≤ 10 * u_dg (g i) + u_dg (g (i + 1)) ∧ 10 * u_dg (g i) + u_dg (g (i + 1)) ≤ 99
      omega
/-- a storey: whether it can be read, columns, where reading stands, ICE -/
abbrev u_S : Type := Bool × Int × Int × (Nat → Int)
def u_sto (g : Int → Int) (y : Int) : Nat → Int → Int → Int → (Nat → Int) → u_S
  | 0, _, w, i, a => (true, w, i, a)
  | f + 1, x, w, i, a => if w ≤ x then (true, w, i, a) else if (u_ic g i).2 = -1 then (false, w, (u_ic g i).1, a) else
    if w ≤ x + 1 then u_sto g y f (x + 1) w (u_ic g i).1 (u_up a (3 * y + x).toNat (u_ic g i).2) else
    if g (u_ic g i).1 = 44 then u_sto g y f (x + 1) w ((u_ic g i).1 + 1) (u_up a (3 * y + x).toNat (u_ic g i).2) else
    if y ≤ 0 then u_sto g y f (x + 1) (x + 1) (u_ic g i).1 (u_up a (3 * y + x).toNat (u_ic g i).2) else (false, w, (u_ic g i).1, u_up a (3 * y + x).toNat (u_ic g i).2)
theorem u_sto_b {g : Int → Int} (hg : u_gb g) {y : Int} : ∀ (f : Nat) (x w i : Int) (a : Nat → Int), 0 ≤ x → 1 ≤ w → w ≤ 3 → 0 ≤ i → i ≤ 80 → 1 ≤ (u_sto g y f x w i a).2.1 ∧ (u_sto g y f x w i a).2.1 ≤ 3 ∧ 0 ≤ (u_sto g y f x w i a).2.2.1 ∧ (u_sto g y f x w i a).2.2.1 ≤ 80 := by
  intro f
  induction f with
  | zero => intro x w i a h0 h1 h2 h3 h4; exact ⟨h1, h2, h3, h4⟩
  | succ f ih =>
    intro x w i a h0 h1 h2 h3 h4
    have b := u_ic_b hg h3 h4
    unfold u_sto
    by_cases c1 : w ≤ x
    · rw [if_pos c1]; exact ⟨h1, h2, h3, h4⟩
    rw [if_neg c1]
    by_cases c2 : (u_ic g i).2 = -1
    · rw [if_pos c2]; exact ⟨h1, h2, Int.le_trans h3 b.1, b.2.1⟩
    rw [if_neg c2]
    by_cases c3 : w ≤ x + 1
    · rw [if_pos c3]; exact ih _ _ _ _ (by omega) h1 h2 (by omega) b.2.1
    rw [if_neg c3]
    by_cases c4 : g (u_ic g i).1 = 44
    · rw [if_pos c4]
      have := hg (u_ic g i).1 (by omega)
      exact ih _ _ _ _ (by omega) h1 h2 (by omega) (by omega)
    rw [if_neg c4]
    by_cases c5 : y ≤ 0
    · rw [if_pos c5]; exact ih _ _ _ _ (by omega) (by omega) (by omega) (by omega) b.2.1
    · rw [if_neg c5]; exact ⟨h1, h2, Int.le_trans h3 b.1, b.2.1⟩
theorem u_sto_done {g : Int → Int} {y : Int} {f : Nat} {x w i : Int} {a : Nat → Int} (h : w ≤ x) : u_sto g y f x w i a = (true, w, i, a) := by
  cases f with
  | zero => rfl
  | succ f => unfold u_sto; rw [if_pos h]
/-- alike but for ICE -/
def u_e3 (S T : u_S) : Prop := S.1 = T.1 ∧ S.2.1 = T.2.1 ∧ S.2.2.1 = T.2.2.1
theorem u_sto_e {g : Int → Int} {y : Int} : ∀ (f : Nat) (x w i : Int) (a b : Nat → Int), u_e3 (u_sto g y f x w i a) (u_sto g y f x w i b) := by
  intro f
  induction f with
  | zero => intro x w i a b; exact ⟨rfl, rfl, rfl⟩
  | succ f ih =>
    intro x w i a b
    unfold u_sto
    by_cases c1 : w ≤ x
    · rw [if_pos c1, if_pos c1]; exact ⟨rfl, rfl, rfl⟩
    rw [if_neg c1, if_neg c1]
    by_cases c2 : (u_ic g i).2 = -1
    · rw [if_pos c2, if_pos c2]; exact ⟨rfl, rfl, rfl⟩
    rw [if_neg c2, if_neg c2]
    by_cases c3 : w ≤ x + 1
    · rw [if_pos c3, if_pos c3]; exact ih _ _ _ _ _
    rw [if_neg c3, if_neg c3]
    by_cases c4 : g (u_ic g i).1 = 44
    · rw [if_pos c4, if_pos c4]; exact ih _ _ _ _ _
    rw [if_neg c4, if_neg c4]
    by_cases c5 : y ≤ 0
    · rw [if_pos c5, if_pos c5]; exact ih _ _ _ _ _
    · rw [if_neg c5, if_neg c5]; exact ⟨rfl, rfl, rfl⟩
/-- THE HOUSE: whether it can be read, columns, storeys, where reading stands, ICE -/
abbrev u_H : Type := Bool × Int × Int × Int × (Nat → Int)
def u_hou (g : Int → Int) (n : Int) : Nat → Int → Int → Int → (Nat → Int) → u_H
  | 0, y, w, i, a => (false, w, y, i, a)
  | f + 1, y, w, i, a => if (u_sto g y 3 0 w i a).1 = false then (false, (u_sto g y 3 0 w i a).2.1, y + 1, (u_sto g y 3 0 w i a).2.2.1, (u_sto g y 3 0 w i a).2.2.2) else if n ≤ (u_sto g y 3 0 w i a).2.2.1 then (true, (u_sto g y 3 0 w i a).2.1, y + 1, (u_sto g y 3 0 w i a).2.2.1, (u_sto g y 3 0 w i a).2.2.2) else if 3 ≤ y + 1 then (false, (u_sto g y 3 0 w i a).2.1, y + 1, (u_sto g y 3 0 w i a).2.2.1, (u_sto g y 3 0 w i a).2.2.2) else if g (u_sto g y 3 0 w i a).2.2.1 = 47 then u_hou g n f (y + 1) (u_sto g y 3 0 w i a).2.1 ((u_sto g y 3 0 w i a).2.2.1 + 1) (u_sto g y 3 0 w i a).2.2.2 else (false, (u_sto g y 3 0 w i a).2.1, y + 1, (u_sto g y 3 0 w i a).2.2.1, (u_sto g y 3 0 w i a).2.2.2)
/-- what house answers -/
def u_ans (S : u_H) : Int := if S.1 = true then S.2.1 * S.2.2.1 else -1 - S.2.2.2.1
def u_eH (S T : u_H) : Prop := S.1 = T.1 ∧ S.2.1 = T.2.1 ∧ S.2.2.1 = T.2.2.1 ∧ S.2.2.2.1 = T.2.2.2.1
theorem u_eH.ans {S T : u_H} (h : u_eH S T) : u_ans S = u_ans T := by
  obtain ⟨h1, h2, h3, h4⟩ := h
  unfold u_ans
  rw [h1, h2, h3, h4]
theorem u_hou_e {g : Int → Int} {n : Int} : ∀ (f : Nat) (y w i : Int) (a b : Nat → Int), u_eH (u_hou g n f y w i a) (u_hou g n f y w i b) := by
  intro f
  induction f with
  | zero => intro y w i a b; exact ⟨rfl, rfl, rfl, rfl⟩
  | succ f ih =>
    intro y w i a b
    have e := u_sto_e (g := g) (y := y) 3 0 w i a b
    unfold u_hou
    generalize u_sto g y 3 0 w i a = S at e ⊢
    generalize u_sto g y 3 0 w i b = T at e ⊢
    obtain ⟨k1, w1, i1, b1⟩ := S
    obtain ⟨k2, w2, i2, b2⟩ := T
    obtain ⟨rfl, rfl, rfl⟩ : k1 = k2 ∧ w1 = w2 ∧ i1 = i2 := e
    simp only
    by_cases c1 : k1 = false
    · rw [if_pos c1, if_pos c1]; exact ⟨rfl, rfl, rfl, rfl⟩
    rw [if_neg c1, if_neg c1]
    by_cases c2 : n ≤ i1
    · rw [if_pos c2, if_pos c2]; exact ⟨rfl, rfl, rfl, rfl⟩
    rw [if_neg c2, if_neg c2]
    by_cases c3 : 3 ≤ y + 1
    · rw [if_pos c3, if_pos c3]; exact ⟨rfl, rfl, rfl, rfl⟩
    rw [if_neg c3, if_neg c3]
    by_cases c4 : g i1 = 47
    · rw [if_pos c4, if_pos c4]; exact ih _ _ _ _ _
    · rw [if_neg c4, if_neg c4]; exact ⟨rfl, rfl, rfl, rfl⟩
/-! the class's text -/
def u_g (m : z_M) : Int → Int := u_nx (m 2) (m 1 1) (m 1 3)
theorem u_g_eq {m m' : z_M} (h1 : m' 2 = m 2) (h2 : m' 1 1 = m 1 1) (h3 : m' 1 3 = m 1 3) : u_g m' = u_g m := by unfold u_g; rw [h1, h2, h3]
theorem u_g_at {m : z_M} {v : Int} : u_g (z_up m 1 2 v) = u_g m := u_g_eq (zu_rowne (by decide)) (zu_k (by decide)) (zu_k (by decide))
theorem c_next (m : z_M) (h0 : 0 ≤ m 1 2) (h1 : m 1 1 ≤ 80) : z_R 24 (m, 0, [(2, 1)], []) = some (m, some (0, u_g m (m 1 2))) := by
  rw [s_next_0, if_neg (by omega)]
  unfold u_g u_nx
  by_cases h : m 1 2 < m 1 1
  · rw [if_neg (by omega)]
    by_cases h' : m 1 2 < m 1 3
    · rw [if_neg (by omega), if_pos ⟨h0, by omega⟩, if_pos ⟨h0, h, h'⟩]
    · rw [if_pos (by omega), if_neg (fun z => h' z.2.2)]
  · rw [if_pos (by omega), if_neg (fun z => h z.2.1)]
theorem c_digit (m : z_M) (a : Int) : z_R 25 (m, 0, [(0, a)], []) = some (m, some (0, u_dg a)) := by
  rw [s_digit_0]
  unfold u_dg
  by_cases h : a < 48
  · rw [if_pos h, if_neg (by omega)]
  · rw [if_neg h]
    by_cases h' : 57 < a
    · rw [if_pos h', if_neg (by omega)]
    · rw [if_neg h', if_pos (by omega), z_sub_eq (by omega) (by omega)]
theorem c_nd (m : z_M) (h0 : 0 ≤ m 1 2) (h1 : m 1 1 ≤ 80) : z_R 23 (m, 0, [(2, 1)], []) = some (m, some (0, u_dg (u_g m (m 1 2)))) := by
  rw [s_nd_0, c_next m h0 h1]
  show z_R 23 (m, 4, [(2, 1)], [(0, u_g m (m 1 2))]) = _
  rw [s_nd_4, c_digit]
  exact s_nd_7 _ _
theorem c_step0 (m : z_M) : z_R 26 (m, 0, [(2, 1), (0, 0)], []) = some (m, some (0, 0)) := by rw [s_step_0, if_pos rfl]
theorem c_step1 (m : z_M) (h0 : 0 ≤ m 1 2) (h1 : m 1 2 ≤ 1000) : z_R 26 (m, 0, [(2, 1), (0, 1)], []) = some (z_up m 1 2 (m 1 2 + 1), some (0, 1)) := by rw [s_step_0, if_neg (by decide), z_add_eq (by omega) (by omega)]
theorem c_over (m : z_M) (c : Int) (h0 : 0 ≤ m 1 2) (h1 : m 1 1 ≤ 80) (h2 : m 1 2 ≤ 1000) : z_R 27 (m, 0, [(2, 1), (0, c)], []) = if u_g m (m 1 2) = c then some (z_up m 1 2 (m 1 2 + 1), some (0, 1)) else some (m, some (0, 0)) := by
  rw [s_over_0, c_next m h0 h1]
  show z_R 27 (m, 5, [(2, 1), (0, c)], [(0, u_g m (m 1 2)), (2, 1)]) = _
  rw [s_over_5]
  by_cases h : u_g m (m 1 2) = c
  · rw [if_pos h, if_pos h, c_step1 m h0 h2]
    exact s_over_17 _ _ _
  · rw [if_neg h, if_neg h, c_step0]
    exact s_over_17 _ _ _
theorem c_ice (m : z_M) (h0 : 0 ≤ m 1 2) (h1 : m 1 1 ≤ 80) (h2 : m 1 2 ≤ 80) : z_R 22 (m, 0, [(2, 1), (9, 0), (9, 0)], []) = some (z_up m 1 2 (u_ic (u_g m) (m 1 2)).1, some (0, (u_ic (u_g m) (m 1 2)).2)) := by
  rw [s_ice_0, c_nd m h0 h1]
  show z_R 22 (m, 4, [(2, 1), (9, 0), (9, 0)], [(0, u_dg (u_g m (m 1 2)))]) = _
  rw [s_ice_4]
  unfold u_ic
  have r1 := u_dg_rng (u_g m (m 1 2))
  have r2 := u_dg_rng (u_g m (m 1 2 + 1))
  by_cases h : u_dg (u_g m (m 1 2)) = -1
  · rw [if_pos h, if_pos h, c_step0]
    show z_R 22 (m, 19, [(2, 1), (0, u_dg (u_g m (m 1 2))), (9, 0)], [(0, 0)]) = some (z_up m 1 2 (m 1 2), some (0, -1))
    rw [s_ice_19, if_pos rfl, h, zu_id]
  · rw [if_neg h, if_neg h, c_step1 m h0 (by omega)]
    show z_R 22 (z_up m 1 2 (m 1 2 + 1), 19, [(2, 1), (0, u_dg (u_g m (m 1 2))), (9, 0)], [(0, 1)]) = _
    rw [s_ice_19, if_neg (by decide), c_nd _ (by rw [zu_self]; omega) (by rw [zu_k (by decide)]; exact h1), u_g_at, zu_self]
    show z_R 22 (z_up m 1 2 (m 1 2 + 1), 26, [(2, 1), (0, u_dg (u_g m (m 1 2))), (9, 0)], [(0, u_dg (u_g m (m 1 2 + 1)))]) = _
    rw [s_ice_26]
    by_cases h' : u_dg (u_g m (m 1 2 + 1)) = -1
    · rw [if_pos h', if_pos h', c_step0]
      show z_R 22 (z_up m 1 2 (m 1 2 + 1), 41, [(2, 1), (0, u_dg (u_g m (m 1 2))), (0, u_dg (u_g m (m 1 2 + 1)))], [(0, 0)]) = _
      rw [s_ice_41, if_pos rfl]
    · rw [if_neg h', if_neg h', c_step1 _ (by rw [zu_self]; omega) (by rw [zu_self]; omega), zu_self, zu_zu]
      show z_R 22 (z_up m 1 2 (m 1 2 + 1 + 1), 41, [(2, 1), (0, u_dg (u_g m (m 1 2))), (0, u_dg (u_g m (m 1 2 + 1)))], [(0, 1)]) = some (z_up m 1 2 (m 1 2 + 2), some (0, 10 * u_dg (u_g m (m 1 2)) + u_dg (u_g m (m 1 2 + 1))))
      rw [s_ice_41, if_neg (by decide), z_mul_eq (by omega) (by omega), z_add_eq (by omega) (by omega), show m 1 2 + 1 + 1 = m 1 2 + 2 by omega]
/-! the reference's text -/
def u_t (m : z_M) : Nat → Int := fun k => z_and (m 254 k) 255
def u_q (m : z_M) : Int → Int := u_nx (u_t m) (m 251 13) (m 251 14)
theorem u_q_eq {m m' : z_M} (h1 : m' 254 = m 254) (h2 : m' 251 13 = m 251 13) (h3 : m' 251 14 = m 251 14) : u_q m' = u_q m := by unfold u_q u_t; rw [h1, h2, h3]
/-- what holds while the reference reads the text -/
def u_W (m : z_M) : Prop := m 251 12 = 254 ∧ 0 ≤ m 251 15 ∧ m 251 15 ≤ 80 ∧ m 251 13 ≤ 80 ∧ ∀ k, k < 80 → -128 ≤ m 254 k ∧ m 254 k ≤ 127
theorem t_here (m : z_M) (h : u_W m) : z_R 168 (m, 0, [(2, 251)], []) = some (m, some (0, u_q m (m 251 15))) := by
  obtain ⟨e, h0, h0', h1, -⟩ := h
  rw [t_here_0]
  unfold u_q u_nx
  by_cases h : m 251 15 < m 251 13
  · rw [if_neg (by omega)]
    by_cases h' : m 251 15 < m 251 14
    · have hl : ((h_ln (m 251 12).toNat : Nat) : Int) = 80 := by rw [e]; decide +kernel
      rw [if_neg (by omega), hl, if_pos ⟨h0, by omega⟩, if_pos ⟨h0, h, h'⟩, e]
      rfl
    · rw [if_pos (by omega), if_neg (fun z => h' z.2.2)]
  · rw [if_pos (by omega), if_neg (fun z => h z.2.1)]
theorem t_fine1 (m : z_M) (h : m 251 16 = -1) : z_R 165 (m, 0, [(2, 251)], []) = some (m, some (0, 1)) := by rw [t_fine_0, if_pos h]
theorem t_fine0 (m : z_M) (h : ¬ m 251 16 = -1) : z_R 165 (m, 0, [(2, 251)], []) = some (m, some (0, 0)) := by rw [t_fine_0, if_neg h]
theorem t_fault1 (m : z_M) (a : Int) (h : m 251 16 = -1) : z_R 169 (m, 0, [(2, 251), (0, a)], []) = some (z_up m 251 16 a, none) := by
  rw [t_fault_0, t_fine1 m h]
  show z_R 169 (m, 4, [(2, 251), (0, a)], [(0, 1)]) = _
  rw [t_fault_4, if_neg (by decide)]
theorem t_fault0 (m : z_M) (a : Int) (h : ¬ m 251 16 = -1) : z_R 169 (m, 0, [(2, 251), (0, a)], []) = some (m, none) := by
  rw [t_fault_0, t_fine0 m h]
  show z_R 169 (m, 4, [(2, 251), (0, a)], [(0, 0)]) = _
  rw [t_fault_4, if_pos rfl]
theorem t_pass1 (m : z_M) (c : Int) (h : m 251 16 = -1) (hw : u_W m) : z_R 170 (m, 0, [(2, 251), (0, c)], []) = if u_q m (m 251 15) = c then some (z_up m 251 15 (m 251 15 + 1), some (0, 1)) else some (m, some (0, 0)) := by
  rw [t_pass_0, t_fine1 m h]
  show z_R 170 (m, 4, [(2, 251), (0, c)], [(0, 1)]) = _
  rw [t_pass_4, if_neg (by decide), t_here m hw]
  show z_R 170 (m, 11, [(2, 251), (0, c)], [(0, u_q m (m 251 15))]) = _
  obtain ⟨-, h0, h1, -⟩ := hw
  rw [t_pass_11, z_add_eq (by omega) (by omega)]
theorem t_pass0 (m : z_M) (c : Int) (h : ¬ m 251 16 = -1) : z_R 170 (m, 0, [(2, 251), (0, c)], []) = some (m, some (0, 0)) := by
  rw [t_pass_0, t_fine0 m h]
  show z_R 170 (m, 4, [(2, 251), (0, c)], [(0, 0)]) = _
  rw [t_pass_4, if_pos rfl]
theorem t_in (m : z_M) (a b c : Int) : z_R 162 (m, 0, [(0, a), (0, b), (0, c)], []) = some (m, some (0, if b ≤ a ∧ a ≤ c then 1 else 0)) := by
  rw [t_in_0]
  by_cases h1 : a < b
  · rw [if_pos h1, if_neg (by omega)]
  · rw [if_neg h1]
    by_cases h2 : c < a
    · rw [if_pos h2, if_neg (by omega)]
    · rw [if_neg h2, if_pos (by omega)]
/-- a byte that is read as a small number is that number -/
theorem z_and_small {x : Int} (h1 : -128 ≤ x) (h2 : x ≤ 127) (h3 : z_and x 255 ≤ 127) : z_and x 255 = x := by
  unfold z_and at h3 ⊢
  have e : (Int32.ofInt x).toInt = x := zr_of (by omega) (by omega)
  have e8 : ∀ y : Int8, (y.toInt32 &&& Int32.ofInt 255).toInt ≤ 127 → (y.toInt32 &&& Int32.ofInt 255) = y.toInt32 := by
    intro y
    have : ∀ b : BitVec 8, ((Int8.ofBitVec b).toInt32 &&& Int32.ofInt 255).toInt ≤ 127 → ((Int8.ofBitVec b).toInt32 &&& Int32.ofInt 255) = (Int8.ofBitVec b).toInt32 := by decide +kernel
    exact this y.toBitVec
  have ex : (Int8.ofInt x).toInt32 = Int32.ofInt x := by
    apply Int32.toInt_inj.mp
    rw [Int8.toInt_toInt32, e]
    exact Int8.toInt_ofInt_of_le (by omega) (by omega)
  rw [← ex] at h3 ⊢
  rw [e8 _ h3, ex, e]
/-- one of many signs, from c on -/
theorem t_one (m : z_M) (c k : Int) (h : m 251 16 = -1) (hw : u_W m) (hc : 0 ≤ c) (hk : 0 ≤ k) (hck : c + k ≤ 128) : z_R 167 (m, 0, [(2, 251), (0, c), (0, k)], []) = if c ≤ u_q m (m 251 15) ∧ u_q m (m 251 15) ≤ c + k - 1 then some (z_up m 251 15 (m 251 15 + 1), some (0, u_q m (m 251 15) - c)) else some (z_up m 251 16 (m 251 15), some (0, 0)) := by
  rw [t_one_0, t_fine1 m h]
  show z_R 167 (m, 4, [(2, 251), (0, c), (0, k)], [(0, 1)]) = _
  rw [t_one_4, if_neg (by decide), t_here m hw]
  show z_R 167 (m, 13, [(2, 251), (0, c), (0, k)], [(0, u_q m (m 251 15))]) = _
  rw [t_one_13, z_add_eq (by omega) (by omega), z_sub_eq (by omega) (by omega), t_in]
  show z_R 167 (m, 22, [(2, 251), (0, c), (0, k)], [(0, if c ≤ u_q m (m 251 15) ∧ u_q m (m 251 15) ≤ c + k - 1 then 1 else 0)]) = _
  rw [t_one_22]
  by_cases hb : c ≤ u_q m (m 251 15) ∧ u_q m (m 251 15) ≤ c + k - 1
  · rw [if_pos hb, if_pos hb, if_neg (by decide)]
    obtain ⟨e, h0, h0', h1, hr⟩ := hw
    have hq : 0 ≤ m 251 15 ∧ m 251 15 < m 251 13 ∧ m 251 15 < m 251 14 := by
      have hb' := hb
      unfold u_q u_nx at hb'
      by_cases z : 0 ≤ m 251 15 ∧ m 251 15 < m 251 13 ∧ m 251 15 < m 251 14
      · exact z
      · rw [if_neg z] at hb'; omega
    have eq : u_q m (m 251 15) = z_and (m 254 (m 251 15).toNat) 255 := by
      unfold u_q u_nx
      rw [if_pos hq]
      rfl
    have hr' := hr (m 251 15).toNat (by omega)
    have ea : z_and (m 254 (m 251 15).toNat) 255 = m 254 (m 251 15).toNat := z_and_small hr'.1 hr'.2 (by rw [← eq]; omega)
    have e2 : z_sub (z_add (m 251 15) 1) 1 = m 251 15 := by rw [z_add_eq (by omega) (by omega), z_sub_eq (by omega) (by omega)]; omega
    have hl : ((h_ln (m 251 12).toNat : Nat) : Int) = 80 := by rw [e]; decide +kernel
    rw [e2, hl, if_pos ⟨h0, by omega⟩, z_add_eq (by omega) (by omega), e, eq, ea]
    have e3 : (z_up m 251 15 (m 251 15 + 1)) (254 : Int).toNat (m 251 15).toNat = m 254 (m 251 15).toNat := zu_p (by decide)
    rw [e3, z_sub_eq (by omega) (by omega)]
  · rw [if_neg hb, if_neg hb, if_pos rfl, t_fault1 m _ h]
    exact t_one_33 _ _ _
theorem t_one0 (m : z_M) (c k : Int) (h : ¬ m 251 16 = -1) : z_R 167 (m, 0, [(2, 251), (0, c), (0, k)], []) = some (m, some (0, 0)) := by
  rw [t_one_0, t_fine0 m h]
  show z_R 167 (m, 4, [(2, 251), (0, c), (0, k)], [(0, 0)]) = _
  rw [t_one_4, if_pos rfl]
theorem u_W_at {m : z_M} {v : Int} (h : u_W m) (h0 : 0 ≤ v) (h1 : v ≤ 80) : u_W (z_up m 251 15 v) := by
  obtain ⟨a1, a2, a3, a4, a5⟩ := h
  refine ⟨by rw [zu_k (by decide)]; exact a1, by rw [zu_self]; exact h0, by rw [zu_self]; exact h1, by rw [zu_k (by decide)]; exact a4, fun k hk => ?_⟩
  rw [zu_p (by decide)]
  exact a5 k hk
theorem u_q_at {m : z_M} {v : Int} : u_q (z_up m 251 15 v) = u_q m := u_q_eq (zu_rowne (by decide)) (zu_k (by decide)) (zu_k (by decide))
theorem u_q_b {m : z_M} (h : u_W m) : u_gb (u_q m) := u_nx_b h.2.2.2.1
theorem u_dg_in {c : Int} : (48 ≤ c ∧ c ≤ 48 + 10 - 1) ↔ ¬ u_dg c = -1 := by
  unfold u_dg
  by_cases h : 48 ≤ c ∧ c ≤ 57
  · rw [if_pos h]; omega
  · rw [if_neg h]; omega
/-- ICE, as the reference reads it -/
theorem t_num2 (m : z_M) (h : m 251 16 = -1) (hw : u_W m) : z_R 166 (m, 0, [(2, 251), (0, 2), (9, 0), (9, 0)], []) = if (u_ic (u_q m) (m 251 15)).2 = -1 then some (z_up m 251 16 (u_ic (u_q m) (m 251 15)).1, some (0, 0)) else some (z_up m 251 15 (u_ic (u_q m) (m 251 15)).1, some (0, (u_ic (u_q m) (m 251 15)).2)) := by
  obtain ⟨w1, w2, w3, w4, w5⟩ := id hw
  have r1 := u_dg_rng (u_q m (m 251 15))
  have r2 := u_dg_rng (u_q m (m 251 15 + 1))
  have hb := u_q_b hw
  rw [t_num_0, t_one m 48 10 h hw (by decide) (by decide) (by decide)]
  unfold u_ic
  by_cases c1 : u_dg (u_q m (m 251 15)) = -1
  · rw [if_neg (fun z => u_dg_in.mp z c1), if_pos c1]
    show z_R 166 (z_up m 251 16 (m 251 15), 8, [(2, 251), (0, 2), (9, 0), (9, 0)], [(0, 0)]) = if (-1 : Int) = -1 then some (z_up m 251 16 (m 251 15), some (0, 0)) else _
    rw [if_pos rfl, t_num_8, t_num_11, if_neg (by decide), t_fine0 _ (by rw [zu_self]; omega)]
    show z_R 166 (z_up m 251 16 (m 251 15), 20, [(2, 251), (0, 2), (0, 0), (0, 1)], [(0, 0)]) = _
    rw [t_num_20, if_pos rfl]
  · have k1 := u_dg_ne c1
    have b1 := u_dg_b hb c1
    rw [if_pos (u_dg_in.mpr c1), if_neg c1]
    show z_R 166 (z_up m 251 15 (m 251 15 + 1), 8, [(2, 251), (0, 2), (9, 0), (9, 0)], [(0, u_q m (m 251 15) - 48)]) = _
    have hw1 := u_W_at (v := m 251 15 + 1) hw (by omega) (by omega)
    have f1 : (z_up m 251 15 (m 251 15 + 1)) 251 16 = -1 := by rw [zu_k (by decide)]; exact h
    rw [t_num_8, t_num_11, if_neg (by decide), t_fine1 _ f1]
    show z_R 166 (z_up m 251 15 (m 251 15 + 1), 20, [(2, 251), (0, 2), (0, u_q m (m 251 15) - 48), (0, 1)], [(0, 1)]) = _
    rw [t_num_20, if_neg (by decide), t_here _ hw1, u_q_at, zu_self]
    show z_R 166 (z_up m 251 15 (m 251 15 + 1), 27, [(2, 251), (0, 2), (0, u_q m (m 251 15) - 48), (0, 1)], [(0, u_q m (m 251 15 + 1))]) = _
    rw [t_num_27, t_in]
    show z_R 166 (z_up m 251 15 (m 251 15 + 1), 34, [(2, 251), (0, 2), (0, u_q m (m 251 15) - 48), (0, 1)], [(0, if 48 ≤ u_q m (m 251 15 + 1) ∧ u_q m (m 251 15 + 1) ≤ 57 then 1 else 0)]) = _
    rw [t_num_34]
    by_cases c2 : u_dg (u_q m (m 251 15 + 1)) = -1
    · have : ¬ (48 ≤ u_q m (m 251 15 + 1) ∧ u_q m (m 251 15 + 1) ≤ 57) := fun z => u_dg_in.mp z c2
      rw [if_neg this, if_pos rfl, if_pos c2]
      show _ = if u_dg (u_q m (m 251 15)) = -1 then _ else some (z_up m 251 15 (m 251 15 + 1), some (0, u_dg (u_q m (m 251 15))))
      rw [if_neg c1, k1.2.2]
    · have k2 := u_dg_ne c2
      have b2 := u_dg_b hb c2
      rw [if_pos (show 48 ≤ u_q m (m 251 15 + 1) ∧ u_q m (m 251 15 + 1) ≤ 57 from ⟨k2.1, k2.2.1⟩), if_neg (show ¬ (1 : Int) = 0 by decide), t_one _ 48 10 f1 hw1 (by decide) (by decide) (by decide), u_q_at, zu_self, if_pos (u_dg_in.mpr c2), if_neg c2, zu_zu]
      show z_R 166 (z_up m 251 15 (m 251 15 + 1 + 1), 49, [(2, 251), (0, 2), (0, u_q m (m 251 15) - 48), (0, 1)], [(0, u_q m (m 251 15 + 1) - 48), (0, z_mul 10 (u_q m (m 251 15) - 48))]) = if 10 * u_dg (u_q m (m 251 15)) + u_dg (u_q m (m 251 15 + 1)) = -1 then _ else some (z_up m 251 15 (m 251 15 + 2), some (0, 10 * u_dg (u_q m (m 251 15)) + u_dg (u_q m (m 251 15 + 1))))
      rw [if_neg (by omega), t_num_49, t_num_11, z_mul_eq (by omega) (by omega), z_add_eq (x := 1) (by omega) (by omega), if_pos (show (2 : Int) ≤ 1 + 1 by decide), z_add_eq (by omega) (by omega), show m 251 15 + 1 + 1 = m 251 15 + 2 by omega, k1.2.2, k2.2.2]
