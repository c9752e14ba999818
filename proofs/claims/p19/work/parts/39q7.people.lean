/-! PEOPLE in plain numbers -/
def u_d6 (g : Int → Int) : Nat → Int → Bool × Int
  | 0, i => (true, i)
  | f + 1, i => if u_dg (g i) = -1 then (false, i) else u_d6 g f (i + 1)
theorem u_d6_b {g : Int → Int} (hg : u_gb g) : ∀ (f : Nat) (i : Int), 0 ≤ i → i ≤ 80 → i ≤ (u_d6 g f i).2 ∧ (u_d6 g f i).2 ≤ 80 ∧ ((u_d6 g f i).1 = true → (u_d6 g f i).2 = i + (f : Int)) := by
  intro f
  induction f with
  | zero => intro i h0 h1; exact ⟨Int.le_refl _, h1, fun _ => by show i = i + ((0 : Nat) : Int); omega⟩
  | succ f ih =>
    intro i h0 h1
    unfold u_d6
    by_cases c : u_dg (g i) = -1
    · rw [if_pos c]; exact ⟨Int.le_refl _, h1, fun z => by cases z⟩
    · have b := u_dg_b hg c
      have := ih (i + 1) (by omega) (by omega)
      rw [if_neg c]
      exact ⟨by omega, this.2.1, fun z => by have := this.2.2 z; omega⟩
/-- a line of PEOPLE: whether it can be read, where reading stands -/
def u_line (g : Int → Int) (c s i : Int) : Bool × Int := if ¬ (0 ≤ g i - 97 ∧ g i - 97 < c) then (false, i) else if ¬ (0 ≤ u_dg (g (i + 1)) - 1 ∧ u_dg (g (i + 1)) - 1 < s) then (false, i + 1) else if ¬ g (i + 2) = 58 then (false, i + 2) else u_d6 g 6 (i + 3)
def u_rm (g : Int → Int) (i : Int) : Int := 3 * (u_dg (g (i + 1)) - 1) + (g i - 97)
theorem u_line_b {g : Int → Int} (hg : u_gb g) {c s i : Int} (h0 : 0 ≤ i) (h1 : i ≤ 80) : i ≤ (u_line g c s i).2 ∧ (u_line g c s i).2 ≤ 80 ∧ ((u_line g c s i).1 = true → (u_line g c s i).2 = i + 9) := by
  unfold u_line
  by_cases c1 : 0 ≤ g i - 97 ∧ g i - 97 < c
  · have b1 := hg i (by omega)
    rw [if_neg (not_not_intro c1)]
    by_cases c2 : 0 ≤ u_dg (g (i + 1)) - 1 ∧ u_dg (g (i + 1)) - 1 < s
    · have b2 := u_dg_b hg (i := i + 1) (by omega)
      rw [if_neg (not_not_intro c2)]
      by_cases c3 : g (i + 2) = 58
      · have b3 := hg (i + 2) (by omega)
        rw [if_neg (not_not_intro c3)]
        have := u_d6_b hg 6 (i + 3) (by omega) (by omega)
        exact ⟨by omega, this.2.1, fun z => by have := this.2.2 z; omega⟩
      · rw [if_pos c3]
        exact ⟨by show i ≤ i + 2; omega, by show i + 2 ≤ 80; omega, fun z => by cases z⟩
    · rw [if_pos c2]
      exact ⟨by show i ≤ i + 1; omega, by show i + 1 ≤ 80; omega, fun z => by cases z⟩
  · rw [if_pos c1]
    exact ⟨Int.le_refl _, h1, fun z => by cases z⟩
def u_gr (g : Int → Int) : Prop := ∀ i, -1 ≤ g i ∧ g i ≤ 65535
theorem c_d6 {p : Nat} (hp : p ≤ 4) (x3 x4 : Int) : ∀ (f k : Nat) (v6 : z_V) (m : z_M), k + f = 6 → 0 ≤ m 1 2 → m 1 2 ≤ 80 → m 1 1 ≤ 80 → ∃ m', z_R 37 (m, 94, [(2, 3), (2, 1), (0, (p : Int)), (0, x3), (0, x4), (0, (k : Int)), v6], []) = some (m', some (0, if (u_d6 (u_g m) f (m 1 2)).1 = true then 1 else 0)) ∧ m' 1 2 = (u_d6 (u_g m) f (m 1 2)).2 ∧ ((u_d6 (u_g m) f (m 1 2)).1 = true → ∀ j, j < f → m' 11 (6 * p + k + j) = u_dg (u_g m (m 1 2 + (j : Int)))) ∧ z_same [(1, 2, 2), (11, 6 * p + k, 6 * p + 5)] m m' := by
  intro f
  induction f with
  | zero =>
    intro k v6 m hk h0 h0' h1
    rw [s_line_94, if_pos (by omega)]
    exact ⟨m, rfl, rfl, (fun _ j hj => absurd hj (Nat.not_lt_zero j)), z_same.rf⟩
  | succ f ih =>
    intro k v6 m hk h0 h0' h1
    have hg : u_gb (u_g m) := u_nx_b h1
    rw [s_line_94, if_neg (by omega), c_nd m h0 h1]
    show ∃ m', z_R 37 (m, 105, [(2, 3), (2, 1), (0, (p : Int)), (0, x3), (0, x4), (0, (k : Int)), v6], [(0, u_dg (u_g m (m 1 2)))]) = _ ∧ _
    rw [s_line_105]
    unfold u_d6
    by_cases c : u_dg (u_g m (m 1 2)) = -1
    · rw [if_pos c, if_pos c, c_step0]
      show ∃ m', z_R 37 (m, 122, [(2, 3), (2, 1), (0, (p : Int)), (0, x3), (0, x4), (0, (k : Int)), (0, u_dg (u_g m (m 1 2)))], [(0, 0)]) = _ ∧ _
      rw [s_line_122, if_pos rfl]
      exact ⟨m, rfl, rfl, (fun z => by cases z), z_same.rf⟩
    · have b := u_dg_b hg c
      rw [if_neg c, if_neg c, c_step1 m h0 (by omega)]
      show ∃ m', z_R 37 (z_up m 1 2 (m 1 2 + 1), 122, [(2, 3), (2, 1), (0, (p : Int)), (0, x3), (0, x4), (0, (k : Int)), (0, u_dg (u_g m (m 1 2)))], [(0, 1)]) = _ ∧ _
      have ek : z_add (z_mul (p : Int) 6) (k : Int) = ((6 * p + k : Nat) : Int) := by rw [z_mul_eq (by omega) (by omega), z_add_eq (by omega) (by omega)]; omega
      have en : z_add (k : Int) 1 = ((k + 1 : Nat) : Int) := by rw [z_add_eq (by omega) (by omega)]; omega
      rw [s_line_122, if_neg (by decide), ek, en, if_pos ⟨by omega, by omega⟩, Int.toNat_natCast]
      have s1 : z_same [(1, 2, 2), (11, 6 * p + k, 6 * p + 5)] m (z_up (z_up m 1 2 (m 1 2 + 1)) 11 (6 * p + k) (u_dg (u_g m (m 1 2)))) := (z_same.rf.up1 (lo := 2) (hi := 2) List.mem_cons_self (by decide) (by decide)).up1 (lo := 6 * p + k) (hi := 6 * p + 5) (List.mem_cons_of_mem _ List.mem_cons_self) (by omega) (by omega)
      generalize hm2 : z_up (z_up m 1 2 (m 1 2 + 1)) 11 (6 * p + k) (u_dg (u_g m (m 1 2))) = m2 at s1 ⊢
      have f1 : m2 1 2 = m 1 2 + 1 := by rw [← hm2, zu_p (by decide), zu_self]
      have f2 : m2 1 1 = m 1 1 := by rw [← hm2, zu_p (by decide), zu_k (by decide)]
      have f3 : u_g m2 = u_g m := by rw [← hm2]; exact (u_g_eq (zu_rowne (by decide)) (zu_p (by decide)) (zu_p (by decide))).trans u_g_at
      have f4 : m2 11 (6 * p + k) = u_dg (u_g m (m 1 2)) := by rw [← hm2, zu_self]
      obtain ⟨m', a1, a2, a3, a4⟩ := ih (k + 1) (0, u_dg (u_g m (m 1 2))) m2 (by omega) (by omega) (by omega) (by omega)
      rw [f3, f1] at a1 a2 a3
      refine ⟨m', a1, a2, fun z j hj => ?_, s1.tr (fun p' k' hn => a4 p' k' fun q hq ⟨e1, e2, e3⟩ => ?_)⟩
      · cases j with
        | zero =>
          have e : m' 11 (6 * p + k) = m2 11 (6 * p + k) := a4 11 (6 * p + k) fun q hq ⟨e1, e2, e3⟩ => by
            simp only [List.mem_cons, List.not_mem_nil, or_false] at hq
            rcases hq with rfl | rfl
            · exact absurd e1 (by decide)
            · simp only at e2; omega
          show m' 11 (6 * p + k) = u_dg (u_g m (m 1 2 + ((0 : Nat) : Int)))
          rw [e, f4, show m 1 2 + ((0 : Nat) : Int) = m 1 2 by omega]
        | succ j =>
          have := a3 z j (by omega)
          rw [show 6 * p + k + (j + 1) = 6 * p + (k + 1) + j by omega, this, show m 1 2 + 1 + (j : Int) = m 1 2 + ((j + 1 : Nat) : Int) by omega]
      · simp only [List.mem_cons, List.not_mem_nil, or_false] at hq
        rcases hq with rfl | rfl
        · exact hn (1, 2, 2) List.mem_cons_self ⟨e1, e2, e3⟩
        · exact hn (11, 6 * p + k, 6 * p + 5) (List.mem_cons_of_mem _ List.mem_cons_self) ⟨e1, by simp only at e2 ⊢; omega, e3⟩
theorem c_line {p : Nat} (hp : p ≤ 4) (m : z_M) (h0 : 0 ≤ m 1 2) (h0' : m 1 2 ≤ 80) (h1 : m 1 1 ≤ 80) (hr : u_gr (u_g m)) (hc : m 3 8 ≤ 3) (hs : m 3 9 ≤ 3) : ∃ m', z_R 37 (m, 0, [(2, 3), (2, 1), (0, (p : Int)), (9, 0), (9, 0), (9, 0), (9, 0)], []) = some (m', some (0, if (u_line (u_g m) (m 3 8) (m 3 9) (m 1 2)).1 = true then 1 else 0)) ∧ m' 1 2 = (u_line (u_g m) (m 3 8) (m 3 9) (m 1 2)).2 ∧ ((u_line (u_g m) (m 3 8) (m 3 9) (m 1 2)).1 = true → m' 10 p = u_rm (u_g m) (m 1 2) ∧ ∀ j, j < 6 → m' 11 (6 * p + j) = u_dg (u_g m (m 1 2 + 3 + (j : Int)))) ∧ z_same [(1, 2, 2), (10, p, p), (11, 6 * p, 6 * p + 5)] m m' := by
  have hg : u_gb (u_g m) := u_nx_b h1
  have r0 := hr (m 1 2)
  have r1 := u_dg_rng (u_g m (m 1 2 + 1))
  have hs1 : ∀ v : Int, z_same [(1, 2, 2), (10, p, p), (11, 6 * p, 6 * p + 5)] m (z_up m 1 2 v) := fun v => z_same.rf.up1 (lo := 2) (hi := 2) List.mem_cons_self (by decide) (by decide)
  rw [s_line_0, c_next m h0 h1]
  show ∃ m', z_R 37 (m, 4, [(2, 3), (2, 1), (0, (p : Int)), (9, 0), (9, 0), (9, 0), (9, 0)], [(0, u_g m (m 1 2))]) = _ ∧ _
  rw [s_line_4, z_sub_eq (by omega) (by omega)]
  unfold u_line
  by_cases c1 : 0 ≤ u_g m (m 1 2) - 97 ∧ u_g m (m 1 2) - 97 < m 3 8
  · have b1 := hg (m 1 2) (by omega)
    rw [if_neg (show ¬ u_g m (m 1 2) - 97 < 0 by omega), if_neg (show ¬ m 3 8 ≤ u_g m (m 1 2) - 97 by omega), c_step1 m h0 (by omega), if_neg (not_not_intro c1)]
    show ∃ m', z_R 37 (z_up m 1 2 (m 1 2 + 1), 29, [(2, 3), (2, 1), (0, (p : Int)), (0, u_g m (m 1 2) - 97), (9, 0), (9, 0), (9, 0)], [(0, 1)]) = _ ∧ _
    rw [s_line_29, if_neg (by decide), c_nd _ (by rw [zu_self]; omega) (by rw [zu_k (by decide)]; exact h1), u_g_at, zu_self]
    show ∃ m', z_R 37 (z_up m 1 2 (m 1 2 + 1), 38, [(2, 3), (2, 1), (0, (p : Int)), (0, u_g m (m 1 2) - 97), (9, 0), (9, 0), (9, 0)], [(0, u_dg (u_g m (m 1 2 + 1)))]) = _ ∧ _
    have e39 : (z_up m 1 2 (m 1 2 + 1)) 3 9 = m 3 9 := zu_p (by decide)
    rw [s_line_38, z_sub_eq (by omega) (by omega), e39]
    by_cases c2 : 0 ≤ u_dg (u_g m (m 1 2 + 1)) - 1 ∧ u_dg (u_g m (m 1 2 + 1)) - 1 < m 3 9
    · have b2 := u_dg_b hg (i := m 1 2 + 1) (by omega)
      rw [if_neg (show ¬ u_dg (u_g m (m 1 2 + 1)) - 1 < 0 by omega), if_neg (show ¬ m 3 9 ≤ u_dg (u_g m (m 1 2 + 1)) - 1 by omega), c_step1 _ (by rw [zu_self]; omega) (by rw [zu_self]; omega), zu_self, zu_zu, if_neg (not_not_intro c2)]
      show ∃ m', z_R 37 (z_up m 1 2 (m 1 2 + 1 + 1), 65, [(2, 3), (2, 1), (0, (p : Int)), (0, u_g m (m 1 2) - 97), (0, u_dg (u_g m (m 1 2 + 1)) - 1), (9, 0), (9, 0)], [(0, 1)]) = _ ∧ _
      rw [s_line_65, if_neg (by decide), c_over _ 58 (by rw [zu_self]; omega) (by rw [zu_k (by decide)]; exact h1) (by rw [zu_self]; omega), u_g_at, zu_self, zu_zu, show m 1 2 + 1 + 1 = m 1 2 + 2 by omega]
      by_cases c3 : u_g m (m 1 2 + 2) = 58
      · have b3 := hg (m 1 2 + 2) (by omega)
        rw [if_pos c3, if_neg (not_not_intro c3)]
        show ∃ m', z_R 37 (z_up m 1 2 (m 1 2 + 2 + 1), 74, [(2, 3), (2, 1), (0, (p : Int)), (0, u_g m (m 1 2) - 97), (0, u_dg (u_g m (m 1 2 + 1)) - 1), (9, 0), (9, 0)], [(0, 1)]) = _ ∧ _
        rw [s_line_74, if_neg (by decide), if_pos ⟨by omega, by omega⟩, Int.toNat_natCast, z_mul_eq (by omega) (by omega), z_add_eq (by omega) (by omega), show m 1 2 + 2 + 1 = m 1 2 + 3 by omega]
        have s2 : z_same [(1, 2, 2), (10, p, p), (11, 6 * p, 6 * p + 5)] m (z_up (z_up m 1 2 (m 1 2 + 3)) 10 p (3 * (u_dg (u_g m (m 1 2 + 1)) - 1) + (u_g m (m 1 2) - 97))) := (hs1 _).up1 (lo := p) (hi := p) (List.mem_cons_of_mem _ List.mem_cons_self) (Nat.le_refl _) (Nat.le_refl _)
        generalize hm2 : z_up (z_up m 1 2 (m 1 2 + 3)) 10 p (3 * (u_dg (u_g m (m 1 2 + 1)) - 1) + (u_g m (m 1 2) - 97)) = m2 at s2 ⊢
        have f1 : m2 1 2 = m 1 2 + 3 := by rw [← hm2, zu_p (by decide), zu_self]
        have f2 : m2 1 1 = m 1 1 := by rw [← hm2, zu_p (by decide), zu_k (by decide)]
        have f3 : u_g m2 = u_g m := by rw [← hm2]; exact (u_g_eq (zu_rowne (by decide)) (zu_p (by decide)) (zu_p (by decide))).trans u_g_at
        have f4 : m2 10 p = u_rm (u_g m) (m 1 2) := by rw [← hm2, zu_self]; rfl
        obtain ⟨m', a1, a2, a3, a4⟩ := c_d6 hp (u_g m (m 1 2) - 97) (u_dg (u_g m (m 1 2 + 1)) - 1) 6 0 (9, 0) m2 (by decide) (by omega) (by omega) (by omega)
        rw [f3, f1] at a1 a2 a3
        have e : m' 10 p = m2 10 p := a4 10 p fun q hq ⟨e1, e2, e3⟩ => by
          simp only [List.mem_cons, List.not_mem_nil, or_false] at hq
          rcases hq with rfl | rfl
          · exact absurd e1 (show ¬ (1 : Nat) = 10 by decide)
          · exact absurd e1 (show ¬ (11 : Nat) = 10 by decide)
        refine ⟨m', a1, a2, fun z => ⟨e.trans f4, fun j hj => a3 z j hj⟩, s2.tr (fun p' k' hn => a4 p' k' fun q hq ⟨e1, e2, e3⟩ => ?_)⟩
        simp only [List.mem_cons, List.not_mem_nil, or_false] at hq
        rcases hq with rfl | rfl
        · exact hn (1, 2, 2) List.mem_cons_self ⟨e1, e2, e3⟩
        · exact hn (11, 6 * p, 6 * p + 5) (List.mem_cons_of_mem _ (List.mem_cons_of_mem _ List.mem_cons_self)) ⟨e1, by simp only at e2 ⊢; omega, e3⟩
      · rw [if_neg c3, if_pos c3]
        show ∃ m', z_R 37 (z_up m 1 2 (m 1 2 + 2), 74, [(2, 3), (2, 1), (0, (p : Int)), (0, u_g m (m 1 2) - 97), (0, u_dg (u_g m (m 1 2 + 1)) - 1), (9, 0), (9, 0)], [(0, 0)]) = _ ∧ _
        rw [s_line_74, if_pos rfl]
        exact ⟨_, rfl, zu_self, (fun z => by cases z), hs1 _⟩
    · have hn : ∃ m', (z_R 26 (z_up m 1 2 (m 1 2 + 1), 0, [(2, 1), (0, 0)], [])).bind (fun r => z_R 37 (r.1, 65, [(2, 3), (2, 1), (0, (p : Int)), (0, u_g m (m 1 2) - 97), (0, u_dg (u_g m (m 1 2 + 1)) - 1), (9, 0), (9, 0)], r.2.toList ++ [])) = some (m', some (0, 0)) ∧ m' = z_up m 1 2 (m 1 2 + 1) := by
        rw [c_step0]
        exact ⟨_, by show z_R 37 (z_up m 1 2 (m 1 2 + 1), 65, [(2, 3), (2, 1), (0, (p : Int)), (0, u_g m (m 1 2) - 97), (0, u_dg (u_g m (m 1 2 + 1)) - 1), (9, 0), (9, 0)], [(0, 0)]) = _; rw [s_line_65, if_pos rfl], rfl⟩
      obtain ⟨m', e, rfl⟩ := hn
      rw [if_pos c2]
      by_cases c4 : u_dg (u_g m (m 1 2 + 1)) - 1 < 0
      · rw [if_pos c4]
        exact ⟨_, e, zu_self, (fun z => by cases z), hs1 _⟩
      · rw [if_neg c4, if_pos (show m 3 9 ≤ u_dg (u_g m (m 1 2 + 1)) - 1 by omega)]
        exact ⟨_, e, zu_self, (fun z => by cases z), hs1 _⟩
  · have e : (z_R 26 (m, 0, [(2, 1), (0, 0)], [])).bind (fun r => z_R 37 (r.1, 29, [(2, 3), (2, 1), (0, (p : Int)), (0, u_g m (m 1 2) - 97), (9, 0), (9, 0), (9, 0)], r.2.toList ++ [])) = some (m, some (0, 0)) := by
      rw [c_step0]
      show z_R 37 (m, 29, [(2, 3), (2, 1), (0, (p : Int)), (0, u_g m (m 1 2) - 97), (9, 0), (9, 0), (9, 0)], [(0, 0)]) = _
      rw [s_line_29, if_pos rfl]
    rw [if_pos c1]
    by_cases c4 : u_g m (m 1 2) - 97 < 0
    · rw [if_pos c4]
      exact ⟨m, e, rfl, (fun z => by cases z), z_same.rf⟩
    · rw [if_neg c4, if_pos (show m 3 8 ≤ u_g m (m 1 2) - 97 by omega)]
      exact ⟨m, e, rfl, (fun z => by cases z), z_same.rf⟩
/-- LINES: whether all of them can be read, where reading stands, how many -/
def u_ls (g : Int → Int) (c s n : Int) : Nat → Int → Nat → Bool × Int × Nat
  | 0, i, j => (false, i, j)
  | f + 1, i, j => if (u_line g c s i).1 = false then (false, (u_line g c s i).2, j) else if n ≤ (u_line g c s i).2 then (true, (u_line g c s i).2, j + 1) else if g (u_line g c s i).2 = 59 then u_ls g c s n f ((u_line g c s i).2 + 1) (j + 1) else (false, (u_line g c s i).2, j + 1)
theorem u_ls_b {g : Int → Int} (hg : u_gb g) {c s n : Int} : ∀ (f : Nat) (i : Int) (j : Nat), 0 ≤ i → i ≤ 80 → 0 ≤ (u_ls g c s n f i j).2.1 ∧ (u_ls g c s n f i j).2.1 ≤ 80 ∧ j ≤ (u_ls g c s n f i j).2.2 ∧ (u_ls g c s n f i j).2.2 ≤ j + f := by
  intro f
  induction f with
  | zero => intro i j h0 h1; exact ⟨h0, h1, Nat.le_refl _, Nat.le_refl _⟩
  | succ f ih =>
    intro i j h0 h1
    have b := u_line_b hg (c := c) (s := s) h0 h1
    unfold u_ls
    by_cases c1 : (u_line g c s i).1 = false
    · rw [if_pos c1]; exact ⟨by show 0 ≤ (u_line g c s i).2; omega, b.2.1, Nat.le_refl _, by show j ≤ j + (f + 1); omega⟩
    rw [if_neg c1]
    by_cases c2 : n ≤ (u_line g c s i).2
    · rw [if_pos c2]; exact ⟨by show 0 ≤ (u_line g c s i).2; omega, b.2.1, by show j ≤ j + 1; omega, by show j + 1 ≤ j + (f + 1); omega⟩
    rw [if_neg c2]
    by_cases c3 : g (u_line g c s i).2 = 59
    · rw [if_pos c3]
      have b3 := hg (u_line g c s i).2 (by omega)
      have := ih ((u_line g c s i).2 + 1) (j + 1) (by omega) (by omega)
      exact ⟨this.1, this.2.1, by omega, by omega⟩
    · rw [if_neg c3]; exact ⟨by show 0 ≤ (u_line g c s i).2; omega, b.2.1, by show j ≤ j + 1; omega, by show j + 1 ≤ j + (f + 1); omega⟩
def u_LP (p : Nat) : List (Nat × Nat × Nat) := [(1, 2, 2), (3, 7, 7), (10, p, 4), (11, 6 * p, 29)]
theorem u_LP_off {p : Nat} {m m' : z_M} (h : z_same (u_LP p) m m') {p' k' : Nat} (h1 : ¬ (p' = 1 ∧ k' = 2)) (h2 : ¬ (p' = 3 ∧ k' = 7)) (h3 : ¬ (p' = 10 ∧ p ≤ k')) (h4 : ¬ (p' = 11 ∧ 6 * p ≤ k')) : m' p' k' = m p' k' := h p' k' fun q hq ⟨e1, e2, e3⟩ => by
  simp only [u_LP, List.mem_cons, List.not_mem_nil, or_false] at hq
  rcases hq with rfl | rfl | rfl | rfl <;> simp only at e1 e2 e3 <;> omega
theorem u_LP_g {p : Nat} {m m' : z_M} (h : z_same (u_LP p) m m') : u_g m' = u_g m := u_g_eq (funext fun k => u_LP_off h (by omega) (by omega) (by omega) (by omega)) (u_LP_off h (by omega) (by omega) (by omega) (by omega)) (u_LP_off h (by omega) (by omega) (by omega) (by omega))
theorem u_LP_up {p : Nat} {m m' : z_M} (h : z_same (u_LP (p + 1)) m m') : z_same (u_LP p) m m' := fun p' k' hn => h p' k' fun q hq ⟨e1, e2, e3⟩ => by
  simp only [u_LP, List.mem_cons, List.not_mem_nil, or_false] at hq
  have n1 := hn (1, 2, 2) (by simp [u_LP])
  have n2 := hn (3, 7, 7) (by simp [u_LP])
  have n3 := hn (10, p, 4) (by simp [u_LP])
  have n4 := hn (11, 6 * p, 29) (by simp [u_LP])
  simp only at n1 n2 n3 n4
  rcases hq with rfl | rfl | rfl | rfl <;> simp only at e1 e2 e3 <;> omega
theorem c_ls {w h : Int} (hw : w ≤ 3) (hh : h ≤ 3) : ∀ (f p : Nat) (j : Nat) (m : z_M), p + f = 5 → j ≤ p → 0 ≤ m 1 2 → m 1 2 ≤ 80 → m 1 1 ≤ 80 → u_gr (u_g m) → m 3 8 = w → m 3 9 = h → m 3 7 = (j : Int) → ∃ m', z_R 36 (m, 25, [(2, 3), (2, 1), (0, (p : Int))], []) = some (m', some (0, if (u_ls (u_g m) w h (m 1 1) f (m 1 2) j).1 = true then 1 else 0)) ∧ m' 1 2 = (u_ls (u_g m) w h (m 1 1) f (m 1 2) j).2.1 ∧ m' 3 7 = ((u_ls (u_g m) w h (m 1 1) f (m 1 2) j).2.2 : Int) ∧ (∀ d : Nat, j + d < (u_ls (u_g m) w h (m 1 1) f (m 1 2) j).2.2 → m' 10 (p + d) = u_rm (u_g m) (m 1 2 + 10 * (d : Int)) ∧ ∀ k : Nat, k < 6 → m' 11 (6 * (p + d) + k) = u_dg (u_g m (m 1 2 + 10 * (d : Int) + 3 + (k : Int)))) ∧ z_same (u_LP p) m m' := by
  intro f
  induction f with
  | zero =>
    intro p j m hp hj h0 h0' h1 hr h8 h9 h7
    rw [s_rp_25, if_pos (by omega)]
    exact ⟨m, rfl, rfl, h7, (fun d hd => absurd hd (show ¬ j + d < j by omega)), z_same.rf⟩
  | succ f ih =>
    intro p j m hp hj h0 h0' h1 hr h8 h9 h7
    have hg : u_gb (u_g m) := u_nx_b h1
    have b := u_line_b hg (c := w) (s := h) h0 h0'
    obtain ⟨m1, a1, a2, a3, a4⟩ := c_line (p := p) (by omega) m h0 h0' h1 hr (by omega) (by omega)
    rw [h8, h9] at a1 a2 a3
    rw [s_rp_25, if_neg (by omega), a1]
    unfold u_ls
    have s1 : z_same (u_LP p) m m1 := fun p' k' hn => a4 p' k' fun q hq ⟨e1, e2, e3⟩ => by
      have n1 := hn (1, 2, 2) (by simp [u_LP])
      have n3 := hn (10, p, 4) (by simp [u_LP])
      have n4 := hn (11, 6 * p, 29) (by simp [u_LP])
      simp only [List.mem_cons, List.not_mem_nil, or_false] at hq
      simp only at n1 n3 n4
      rcases hq with rfl | rfl | rfl <;> simp only at e1 e2 e3 <;> omega
    have f7 : m1 3 7 = (j : Int) := (a4 3 7 fun q hq ⟨e1, e2, e3⟩ => by
      simp only [List.mem_cons, List.not_mem_nil, or_false] at hq
      rcases hq with rfl | rfl | rfl <;> simp only at e1 e2 e3 <;> omega).trans h7
    generalize u_line (u_g m) w h (m 1 2) = q at a1 a2 a3 b ⊢
    show ∃ m', z_R 36 (m1, 36, [(2, 3), (2, 1), (0, (p : Int))], [(0, if q.1 = true then 1 else 0)]) = _ ∧ _
    rw [s_rp_36]
    by_cases c1 : q.1 = false
    · rw [if_pos (show (if q.1 = true then (1 : Int) else 0) = 0 by rw [c1]; rfl), if_pos c1]
      exact ⟨m1, rfl, a2, f7, (fun d hd => absurd hd (show ¬ j + d < j by omega)), s1⟩
    have c1' : q.1 = true := by cases hq : q.1 <;> simp_all
    have a3 := a3 c1'
    have ej : z_add (m1 3 7) 1 = ((j + 1 : Nat) : Int) := by rw [f7, z_add_eq (by omega) (by omega)]; omega
    rw [if_neg (show ¬ (if q.1 = true then (1 : Int) else 0) = 0 by rw [c1']; decide), if_neg c1, ej, s_ended_0]
    have s2 : z_same (u_LP p) m (z_up m1 3 7 ((j + 1 : Nat) : Int)) := s1.up1 (lo := 7) (hi := 7) (by simp [u_LP]) (by decide) (by decide)
    generalize hm2 : z_up m1 3 7 ((j + 1 : Nat) : Int) = m2 at s2 ⊢
    have g12 : m2 1 2 = q.2 := by rw [← hm2, zu_p (by decide)]; exact a2
    have g37 : m2 3 7 = ((j + 1 : Nat) : Int) := by rw [← hm2, zu_self]
    have g11 : m2 1 1 = m 1 1 := u_LP_off s2 (by omega) (by omega) (by omega) (by omega)
    have gg : u_g m2 = u_g m := u_LP_g s2
    have g10 : m2 10 p = u_rm (u_g m) (m 1 2) := by rw [← hm2, zu_p (by decide)]; exact a3.1
    have gd : ∀ k : Nat, k < 6 → m2 11 (6 * p + k) = u_dg (u_g m (m 1 2 + 3 + (k : Int))) := fun k hk => by rw [← hm2, zu_p (by decide)]; exact a3.2 k hk
    have first : ∀ m' : z_M, (∀ k, k < 6 * (p + 1) → m' 11 k = m2 11 k) → m' 10 p = m2 10 p → m' 10 (p + 0) = u_rm (u_g m) (m 1 2 + 10 * ((0 : Nat) : Int)) ∧ ∀ k : Nat, k < 6 → m' 11 (6 * (p + 0) + k) = u_dg (u_g m (m 1 2 + 10 * ((0 : Nat) : Int) + 3 + (k : Int))) := fun m' e1 e2 => by
      have ez : m 1 2 + 10 * ((0 : Nat) : Int) = m 1 2 := by omega
      rw [ez]
      refine ⟨e2.trans g10, fun k hk => ?_⟩
      have := e1 (6 * p + k) (by omega)
      exact this.trans (gd k hk)
    rw [g12, g11]
    by_cases c2 : m 1 1 ≤ q.2
    · rw [if_neg (by omega), if_pos c2]
      show ∃ m', z_R 36 (m2, 55, [(2, 3), (2, 1), (0, (p : Int))], [(0, 1)]) = _ ∧ _
      rw [s_rp_55, if_neg (by decide)]
      refine ⟨m2, rfl, g12, g37, fun d hd => ?_, s2⟩
      obtain rfl : d = 0 := by have : j + d < j + 1 := hd; omega
      exact first m2 (fun _ _ => rfl) rfl
    rw [if_pos (by omega), if_neg c2]
    show ∃ m', z_R 36 (m2, 55, [(2, 3), (2, 1), (0, (p : Int))], [(0, 0)]) = _ ∧ _
    rw [s_rp_55, if_pos rfl, c_over m2 59 (by omega) (by omega) (by omega), gg, g12]
    by_cases c3 : u_g m q.2 = 59
    · have b3 := hg q.2 (by omega)
      rw [if_pos c3, if_pos c3]
      show ∃ m', z_R 36 (z_up m2 1 2 (q.2 + 1), 66, [(2, 3), (2, 1), (0, (p : Int))], [(0, 1)]) = _ ∧ _
      have en : z_add (p : Int) 1 = ((p + 1 : Nat) : Int) := by rw [z_add_eq (by omega) (by omega)]; omega
      rw [s_rp_66, if_neg (by decide), en]
      have s3 : z_same (u_LP p) m (z_up m2 1 2 (q.2 + 1)) := s2.up1 (lo := 2) (hi := 2) (by simp [u_LP]) (by decide) (by decide)
      have k12 : (z_up m2 1 2 (q.2 + 1)) 1 2 = q.2 + 1 := zu_self
      have k11 : (z_up m2 1 2 (q.2 + 1)) 1 1 = m 1 1 := (zu_k (by decide)).trans g11
      have kg : u_g (z_up m2 1 2 (q.2 + 1)) = u_g m := u_g_at.trans gg
      have e9 := b.2.2 c1'
      obtain ⟨m', d1, d2, d3, d4, d5⟩ := ih (p + 1) (j + 1) (z_up m2 1 2 (q.2 + 1)) (by omega) (by omega) (by omega) (by omega) (by omega) (by rw [kg]; exact hr) ((zu_p (by decide)).trans ((u_LP_off s2 (by omega) (by omega) (by omega) (by omega)).trans h8)) ((zu_p (by decide)).trans ((u_LP_off s2 (by omega) (by omega) (by omega) (by omega)).trans h9)) ((zu_p (by decide)).trans g37)
      rw [kg, k11, k12] at d1 d2 d3 d4
      refine ⟨m', d1, d2, d3, fun d hd => ?_, s3.tr (u_LP_up d5)⟩
      cases d with
      | zero =>
        refine first m' (fun k hk => ?_) ?_
        · exact (u_LP_off d5 (by omega) (by omega) (by omega) (by omega)).trans (zu_p (by decide))
        · exact (u_LP_off d5 (by omega) (by omega) (by omega) (by omega)).trans (zu_p (by decide))
      | succ d =>
        have := d4 d (by omega)
        rw [show p + 1 + d = p + (d + 1) by omega, show q.2 + 1 + 10 * (d : Int) = m 1 2 + 10 * ((d + 1 : Nat) : Int) by omega] at this
        exact this
    · rw [if_neg c3, if_neg c3]
      show ∃ m', z_R 36 (m2, 66, [(2, 3), (2, 1), (0, (p : Int))], [(0, 0)]) = _ ∧ _
      rw [s_rp_66, if_pos rfl]
      refine ⟨m2, rfl, g12, g37, fun d hd => ?_, s2⟩
      obtain rfl : d = 0 := by have : j + d < j + 1 := hd; omega
      exact first m2 (fun _ _ => rfl) rfl
/-- PEOPLE in the class: what it answers, what it leaves -/
theorem c_readPeople {w h : Int} (hw : w ≤ 3) (hh : h ≤ 3) (p : Nat) (hp : p ≤ 5) (m : z_M) (h0 : 0 ≤ m 1 1) (h1 : m 1 1 ≤ 80) (hr : u_gr (u_nx (m 2) (m 1 1) 76)) (h8 : m 3 8 = w) (h9 : m 3 9 = h) (h11 : m 3 11 = (p : Int)) : ∃ m', z_R 36 (m, 0, [(2, 3), (2, 1), (9, 0)], []) = some (m', some (0, if m 1 1 = 0 then 1 else if (u_ls (u_nx (m 2) (m 1 1) 76) w h (m 1 1) (5 - p) 0 0).1 = true then 1 else 0)) ∧ m' 1 2 = (if m 1 1 = 0 then 0 else (u_ls (u_nx (m 2) (m 1 1) 76) w h (m 1 1) (5 - p) 0 0).2.1) ∧ m' 3 7 = (if m 1 1 = 0 then 0 else ((u_ls (u_nx (m 2) (m 1 1) 76) w h (m 1 1) (5 - p) 0 0).2.2 : Int)) ∧ (∀ d : Nat, (d : Int) < m' 3 7 → m' 10 (p + d) = u_rm (u_nx (m 2) (m 1 1) 76) (10 * (d : Int)) ∧ ∀ k : Nat, k < 6 → m' 11 (6 * (p + d) + k) = u_dg (u_nx (m 2) (m 1 1) 76 (10 * (d : Int) + 3 + (k : Int)))) ∧ (∀ p' k', ¬ (p' = 1 ∧ k' = 3) → ¬ (p' = 1 ∧ k' = 2) → ¬ (p' = 3 ∧ k' = 7) → ¬ (p' = 10 ∧ p ≤ k') → ¬ (p' = 11 ∧ 6 * p ≤ k') → m' p' k' = m p' k') := by
  rw [s_rp_0, s_begin_0]
  show ∃ m', z_R 36 (z_up (z_up m 1 2 0) 1 3 76, 6, [(2, 3), (2, 1), (9, 0)], []) = _ ∧ _
  rw [s_rp_6, s_ended_0]
  generalize hm : z_up (z_up (z_up m 1 2 0) 1 3 76) 3 7 0 = m0
  have g12 : m0 1 2 = 0 := by rw [← hm, zu_p (by decide), zu_k (by decide), zu_self]
  have g11 : m0 1 1 = m 1 1 := by rw [← hm, zu_p (by decide), zu_k (by decide), zu_k (by decide)]
  have g13 : m0 1 3 = 76 := by rw [← hm, zu_p (by decide), zu_self]
  have g37 : m0 3 7 = 0 := by rw [← hm, zu_self]
  have gr : ∀ p' k', ¬ (p' = 1 ∧ k' = 3) → ¬ (p' = 1 ∧ k' = 2) → ¬ (p' = 3 ∧ k' = 7) → m0 p' k' = m p' k' := fun p' k' n1 n2 n3 => by
    rw [← hm]
    unfold z_up
    rw [if_neg n3, if_neg n1, if_neg n2]
  have gg : u_g m0 = u_nx (m 2) (m 1 1) 76 := by
    unfold u_g
    rw [show m0 2 = m 2 from funext fun k => gr 2 k (by omega) (by omega) (by omega), g11, g13]
  rw [g12, g11]
  by_cases c : m 1 1 = 0
  · rw [if_neg (by omega), if_pos c, if_pos c, if_pos c]
    show ∃ m', z_R 36 (m0, 15, [(2, 3), (2, 1), (9, 0)], [(0, 1)]) = _ ∧ _
    rw [s_rp_15, if_neg (by decide)]
    exact ⟨m0, rfl, g12, g37, (fun d hd => by rw [g37] at hd; omega), fun p' k' n1 n2 n3 _ _ => gr p' k' n1 n2 n3⟩
  · rw [if_pos (by omega), if_neg c, if_neg c, if_neg c]
    show ∃ m', z_R 36 (m0, 15, [(2, 3), (2, 1), (9, 0)], [(0, 0)]) = _ ∧ _
    have e11 : m0 3 11 = (p : Int) := (gr 3 11 (by omega) (by omega) (by omega)).trans h11
    rw [s_rp_15, if_pos rfl, e11]
    obtain ⟨m', d1, d2, d3, d4, d5⟩ := c_ls hw hh (5 - p) p 0 m0 (by omega) (by omega) (by omega) (by omega) (by omega) (by rw [gg]; exact hr) ((gr 3 8 (by omega) (by omega) (by omega)).trans h8) ((gr 3 9 (by omega) (by omega) (by omega)).trans h9) (by rw [g37]; rfl)
    rw [gg, g11, g12] at d1 d2 d3 d4
    refine ⟨m', d1, d2, d3, fun d hd => ?_, fun p' k' n1 n2 n3 n4 n5 => (u_LP_off d5 n2 n3 n4 n5).trans (gr p' k' n1 n2 n3)⟩
    rw [d3] at hd
    have := d4 d (by omega)
    rw [show (0 : Int) + 10 * (d : Int) = 10 * (d : Int) by omega] at this
    exact this
/-- they come in: f lines from line x on -/
theorem c_admit : ∀ (f : Nat) (x p : Nat) (m : z_M), m 3 7 = ((x + f : Nat) : Int) → m 3 11 = (p : Int) → p + f ≤ 5 → x ≤ p → ∃ m', z_R 38 (m, 2, [(2, 3), (2, 12), (0, (x : Int))], []) = some (m', none) ∧ m' 3 11 = ((p + f : Nat) : Int) ∧ (∀ k : Nat, m' 8 k = if 6 * p ≤ k ∧ k < 6 * (p + f) then m 11 k else m 8 k) ∧ (∀ k : Nat, m' 15 k = if p ≤ k ∧ k < p + f then m 10 k else m 15 k) ∧ (∀ k : Nat, m' 16 k = if p ≤ k ∧ k < p + f then 0 else m 16 k) ∧ (∀ k : Nat, m' 17 k = if p ≤ k ∧ k < p + f then 0 else m 17 k) ∧ (∀ p' k', ¬ (p' = 3 ∧ k' = 11) → ¬ p' = 8 → ¬ p' = 15 → ¬ p' = 16 → ¬ p' = 17 → m' p' k' = m p' k') := by
  intro f
  induction f with
  | zero =>
    intro x p m h7 h11 hp hx
    rw [s_admit_2, if_pos (by omega)]
    refine ⟨m, rfl, h11, fun k => ?_, fun k => ?_, fun k => ?_, fun k => ?_, fun _ _ _ _ _ _ _ => rfl⟩ <;> rw [if_neg (by omega)]
  | succ f ih =>
    intro x p m h7 h11 hp hx
    have e6 : z_mul (m 3 11) 6 = ((6 * p : Nat) : Int) := by rw [h11, z_mul_eq (by omega) (by omega)]; omega
    have ep : z_add (m 3 11) 1 = ((p + 1 : Nat) : Int) := by rw [h11, z_add_eq (by omega) (by omega)]; omega
    have ex : z_add (x : Int) 1 = ((x + 1 : Nat) : Int) := by rw [z_add_eq (by omega) (by omega)]; omega
    have h5 : 0 ≤ m 3 11 ∧ m 3 11 < ((5 : Nat) : Int) := by omega
    rw [s_admit_2, if_neg (by omega), if_neg (by omega), if_pos h5, if_pos h5, if_pos h5, if_pos h5, e6, ep, ex]
    rw [decide_eq_true (show (0 : Int) ≤ 6 by decide), decide_eq_true (show (0 : Int) ≤ ((6 * p : Nat) : Int) by omega), decide_eq_true (show ((6 * p : Nat) : Int) + (6 : Int) ≤ ((30 : Nat) : Int) by omega)]
    show ∃ m', z_R 38 (z_up (z_cp (z_up (z_up (z_up m 15 (m 3 11).toNat (m 10 (m 3 11).toNat)) 16 (m 3 11).toNat 0) 17 (m 3 11).toNat 0) 11 (((6 * p : Nat) : Int).toNat) 8 (((6 * p : Nat) : Int).toNat) 6) 3 11 ((p + 1 : Nat) : Int), 2, [(2, 3), (2, 12), (0, ((x + 1 : Nat) : Int))], []) = _ ∧ _
    rw [Int.toNat_natCast, h11, Int.toNat_natCast]
    generalize hm : z_up (z_cp (z_up (z_up (z_up m 15 p (m 10 p)) 16 p 0) 17 p 0) 11 (6 * p) 8 (6 * p) 6) 3 11 ((p + 1 : Nat) : Int) = m2
    have k311 : m2 3 11 = ((p + 1 : Nat) : Int) := by rw [← hm, zu_self]
    have k8 : ∀ k, m2 8 k = if 6 * p ≤ k ∧ k < 6 * p + 6 then m 11 k else m 8 k := fun k => by
      rw [← hm, zu_p (by decide)]
      unfold z_cp
      by_cases c : 6 * p ≤ k ∧ k < 6 * p + 6
      · rw [if_pos ⟨rfl, c.1, c.2⟩, if_pos c, show 6 * p + (k - 6 * p) = k by omega, zu_p (by decide), zu_p (by decide), zu_p (by decide)]
      · rw [if_neg (fun z => c z.2), if_neg c, zu_p (by decide), zu_p (by decide), zu_p (by decide)]
    have k15 : ∀ k, m2 15 k = if k = p then m 10 p else m 15 k := fun k => by
      rw [← hm, zu_p (by decide), zc_p (by decide), zu_p (by decide), zu_p (by decide), zu_at]
    have k16 : ∀ k, m2 16 k = if k = p then 0 else m 16 k := fun k => by
      rw [← hm, zu_p (by decide), zc_p (by decide), zu_p (by decide), zu_at, zu_p (by decide)]
    have k17 : ∀ k, m2 17 k = if k = p then 0 else m 17 k := fun k => by
      rw [← hm, zu_p (by decide), zc_p (by decide), zu_at, zu_p (by decide), zu_p (by decide)]
    have ko : ∀ p' k', ¬ (p' = 3 ∧ k' = 11) → ¬ p' = 8 → ¬ p' = 15 → ¬ p' = 16 → ¬ p' = 17 → m2 p' k' = m p' k' := fun p' k' n1 n2 n3 n4 n5 => by
      rw [← hm]
      unfold z_up
      rw [if_neg n1, zc_p n2, if_neg (fun z => n5 z.1), if_neg (fun z => n4 z.1), if_neg (fun z => n3 z.1)]
    obtain ⟨m', a1, a2, a3, a4, a5, a6, a7⟩ := ih (x + 1) (p + 1) m2 (by rw [ko 3 7 (by omega) (by omega) (by omega) (by omega) (by omega), h7]; omega) k311 (by omega) (by omega)
    refine ⟨m', a1, by rw [a2]; omega, fun k => ?_, fun k => ?_, fun k => ?_, fun k => ?_, fun p' k' n1 n2 n3 n4 n5 => (a7 p' k' n1 n2 n3 n4 n5).trans (ko p' k' n1 n2 n3 n4 n5)⟩
    · rw [a3 k, k8 k, ko 11 k (by omega) (by omega) (by omega) (by omega) (by omega)]
      by_cases c1 : 6 * (p + 1) ≤ k ∧ k < 6 * (p + 1 + f)
      · rw [if_pos c1, if_pos (show 6 * p ≤ k ∧ k < 6 * (p + (f + 1)) by omega)]
      · rw [if_neg c1]
        by_cases c2 : 6 * p ≤ k ∧ k < 6 * p + 6
        · rw [if_pos c2, if_pos (show 6 * p ≤ k ∧ k < 6 * (p + (f + 1)) by omega)]
        · rw [if_neg c2, if_neg (show ¬ (6 * p ≤ k ∧ k < 6 * (p + (f + 1))) by omega)]
    · rw [a4 k, k15 k, ko 10 k (by omega) (by omega) (by omega) (by omega) (by omega)]
      by_cases c1 : p + 1 ≤ k ∧ k < p + 1 + f
      · rw [if_pos c1, if_pos (show p ≤ k ∧ k < p + (f + 1) by omega)]
      · rw [if_neg c1]
        by_cases c2 : k = p
        · rw [if_pos c2, if_pos (show p ≤ k ∧ k < p + (f + 1) by omega), c2]
        · rw [if_neg c2, if_neg (show ¬ (p ≤ k ∧ k < p + (f + 1)) by omega)]
    · rw [a5 k, k16 k]
      by_cases c1 : p + 1 ≤ k ∧ k < p + 1 + f
      · rw [if_pos c1, if_pos (show p ≤ k ∧ k < p + (f + 1) by omega)]
      · rw [if_neg c1]
        by_cases c2 : k = p
        · rw [if_pos c2, if_pos (show p ≤ k ∧ k < p + (f + 1) by omega)]
        · rw [if_neg c2, if_neg (show ¬ (p ≤ k ∧ k < p + (f + 1)) by omega)]
    · rw [a6 k, k17 k]
      by_cases c1 : p + 1 ≤ k ∧ k < p + 1 + f
      · rw [if_pos c1, if_pos (show p ≤ k ∧ k < p + (f + 1) by omega)]
      · rw [if_neg c1]
        by_cases c2 : k = p
        · rw [if_pos c2, if_pos (show p ≤ k ∧ k < p + (f + 1) by omega)]
        · rw [if_neg c2, if_neg (show ¬ (p ≤ k ∧ k < p + (f + 1)) by omega)]
