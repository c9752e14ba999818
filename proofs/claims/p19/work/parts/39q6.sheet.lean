/-! SHEET in plain numbers -/
def u_hs (w h a : Int) : Int := if a < 0 then 0 else if 9 ≤ a then 0 else if w ≤ z_rem a 3 then 0 else if h ≤ z_div a 3 then 0 else 1
theorem c_hasv (m : z_M) (a : Int) : z_R 32 (m, 0, [(2, 3), (0, a)], []) = some (m, some (0, u_hs (m 3 8) (m 3 9) a)) := by
  rw [s_has_0]
  unfold u_hs
  by_cases h1 : a < 0
  · rw [if_pos h1, if_pos h1]
  rw [if_neg h1, if_neg h1]
  by_cases h2 : 9 ≤ a
  · rw [if_pos h2, if_pos h2]
  rw [if_neg h2, if_neg h2]
  by_cases h3 : m 3 8 ≤ z_rem a 3
  · rw [if_pos h3, if_pos h3]
  rw [if_neg h3, if_neg h3]
  by_cases h4 : m 3 9 ≤ z_div a 3
  · rw [if_pos h4, if_pos h4]
  · rw [if_neg h4, if_neg h4]
theorem t_roomv (m : z_M) (a : Int) : z_R 171 (m, 0, [(2, 251), (0, a)], []) = some (m, some (0, u_hs (m 251 1) (m 251 2) a)) := by
  rw [t_room_0, t_in]
  show z_R 171 (m, 7, [(2, 251), (0, a)], [(0, if 0 ≤ a ∧ a ≤ 8 then 1 else 0)]) = _
  rw [t_room_7]
  unfold u_hs
  by_cases h1 : a < 0
  · rw [if_neg (show ¬ (0 ≤ a ∧ a ≤ 8) by omega), if_pos rfl, if_pos h1]
  rw [if_neg h1]
  by_cases h2 : 9 ≤ a
  · rw [if_neg (show ¬ (0 ≤ a ∧ a ≤ 8) by omega), if_pos rfl, if_pos h2]
  rw [if_neg h2, if_pos (show 0 ≤ a ∧ a ≤ 8 by omega), if_neg (by decide)]
  by_cases h3 : m 251 1 ≤ z_rem a 3
  · rw [if_pos h3, if_pos h3]
  rw [if_neg h3, if_neg h3]
  by_cases h4 : m 251 2 ≤ z_div a 3
  · rw [if_pos h4, if_pos h4]
  · rw [if_neg h4, if_neg h4]
def u_cap (e : Int) : Int := if 0 < if e < 99 then e else 99 then if e < 99 then e else 99 else 0
theorem u_cap_b (e : Int) : 0 ≤ u_cap e ∧ u_cap e ≤ 99 := by
  unfold u_cap
  by_cases h : e < 99
  · rw [if_pos h]
    by_cases h' : 0 < e
    · rw [if_pos h']; omega
    · rw [if_neg h']; omega
  · rw [if_neg h, if_pos (by decide)]; omega
def u_conv (kind v : Int) : Int := if kind = 0 then z_i2b v else if kind = 1 then z_i2s v else v
theorem c_entry (m : z_M) (a b : Int) : z_R 57 (m, 0, [(0, a), (0, b), (9, 0)], []) = some (m, some (0, u_cap (u_conv a b))) := by
  rw [s_entry_0]
  unfold u_conv
  by_cases h1 : a = 0
  · rw [if_pos h1, if_pos h1]; rfl
  rw [if_neg h1, if_neg h1]
  by_cases h2 : a = 1
  · rw [if_pos h2, if_pos h2]; rfl
  · rw [if_neg h2, if_neg h2]; rfl
/-- what a room gets -/
def u_val (kind n told v : Int) : Int := if kind = 3 ∨ n ≤ told then 0 else u_cap (u_conv kind v)
theorem u_val_b (kind n told v : Int) : 0 ≤ u_val kind n told v ∧ u_val kind n told v ≤ 99 := by
  unfold u_val
  by_cases h : kind = 3 ∨ n ≤ told
  · rw [if_pos h]; omega
  · rw [if_neg h]; exact u_cap_b _
/-- the sum -/
def u_sh (w h kind n a d : Int) : Nat → Int → Int → Int → Int
  | 0, _, _, s => s
  | f + 1, r, k, s => if u_hs w h r = 0 then u_sh w h kind n a d f (r + 1) k s else u_sh w h kind n a d f (r + 1) (k + 1) (s + u_val kind n k (z_add a (z_mul k d)))
theorem c_sh {w h kind n a d x5 : Int} (hx : x5 = if kind = 3 then 1 else 0) : ∀ (f : Nat) (r k s : Int) (v9 : z_V) (m : z_M), 0 ≤ r → r + (f : Int) = 9 → 0 ≤ k → k ≤ r → 0 ≤ s → s ≤ 99 * k → m 3 8 = w → m 3 9 = h → ∃ m', z_R 56 (m, 50, [(2, 0), (0, kind), (0, n), (0, a), (0, d), (0, x5), (0, k), (0, s), (0, r), v9], []) = some (m', some (0, if kind = 3 then -3 else u_sh w h kind n a d f r k s)) := by
  intro f
  induction f with
  | zero =>
    intro r k s v9 m h0 h1 h2 h3 h4 h5 hw hh
    rw [s_sheet_50, if_pos (by omega)]
    by_cases c : kind = 3
    · rw [if_pos c] at hx
      rw [if_pos c, if_neg (by omega)]; exact ⟨_, rfl⟩
    · rw [if_neg c] at hx
      rw [if_neg c, if_pos hx]; exact ⟨_, rfl⟩
  | succ f ih =>
    intro r k s v9 m h0 h1 h2 h3 h4 h5 hw hh
    rw [s_sheet_50, if_neg (by omega), c_hasv, hw, hh]
    show ∃ m', z_R 56 (m, 66, [(2, 0), (0, kind), (0, n), (0, a), (0, d), (0, x5), (0, k), (0, s), (0, r), v9], [(0, u_hs w h r)]) = _
    rw [s_sheet_66, z_add_eq (x := r) (by omega) (by omega)]
    unfold u_sh
    by_cases c : u_hs w h r = 0
    · rw [if_pos c, if_pos c]
      exact ih (r + 1) k s v9 m (by omega) (by omega) h2 (by omega) h4 h5 hw hh
    rw [if_neg c, if_neg c]
    have hb := u_val_b kind n k (z_add a (z_mul k d))
    have go : ∀ u : Int, u = u_val kind n k (z_add a (z_mul k d)) → ∃ m', z_R 56 (m, 95, [(2, 0), (0, kind), (0, n), (0, a), (0, d), (0, x5), (0, k), (0, s), (0, r), v9], [(0, u)]) = some (m', some (0, if kind = 3 then -3 else u_sh w h kind n a d f (r + 1) (k + 1) (s + u_val kind n k (z_add a (z_mul k d))))) := by
      intro u hu
      rw [s_sheet_95, if_pos ⟨h0, by omega⟩, z_add_eq (x := k) (by omega) (by omega), z_add_eq (x := s) (by omega) (by omega), z_add_eq (x := r) (by omega) (by omega), hu]
      exact ih (r + 1) (k + 1) _ _ _ (by omega) (by omega) (by omega) (by omega) (by omega) (by omega) ((zu_p (by decide)).trans hw) ((zu_p (by decide)).trans hh)
    by_cases c3 : kind = 3
    · rw [if_pos c3] at hx
      rw [if_neg (by omega)]
      exact go 0 (by unfold u_val; rw [if_pos (Or.inl c3)])
    · rw [if_neg c3] at hx
      rw [if_pos hx]
      by_cases c4 : n ≤ k
      · rw [if_pos c4]
        exact go 0 (by unfold u_val; rw [if_pos (Or.inr c4)])
      · rw [if_neg c4, c_entry]
        show ∃ m', z_R 56 (m, 91, [(2, 0), (0, kind), (0, n), (0, a), (0, d), (0, x5), (0, k), (0, s), (0, r), v9], [(0, u_cap (u_conv kind (z_add a (z_mul k d))))]) = _
        rw [s_sheet_91]
        exact go _ (by unfold u_val; rw [if_neg (fun z => z.elim c3 c4)])
/-- what sheet answers -/
def u_sheet (w h kind n a d : Int) : Int := if kind < 0 then -1 else if 3 < kind then -1 else if 9 < n then -1 else if kind = 3 then -3 else if n < 0 then -2 else u_sh w h kind n a d 9 0 0 0
theorem c_sheet (m : z_M) (kind n a d : Int) : ∃ m', z_R 56 (m, 0, [(2, 0), (0, kind), (0, n), (0, a), (0, d), (9, 0), (9, 0), (9, 0), (9, 0), (9, 0)], []) = some (m', some (0, u_sheet (m 3 8) (m 3 9) kind n a d)) := by
  rw [s_sheet_0]
  unfold u_sheet
  by_cases h1 : kind < 0
  · rw [if_pos h1, if_pos h1]; exact ⟨_, rfl⟩
  rw [if_neg h1, if_neg h1]
  by_cases h2 : 3 < kind
  · rw [if_pos h2, if_pos h2]; exact ⟨_, rfl⟩
  rw [if_neg h2, if_neg h2]
  by_cases h3 : 9 < n
  · rw [if_neg (by omega), if_pos h3]; exact ⟨_, rfl⟩
  rw [if_pos (by omega), if_neg h3]
  by_cases h4 : kind = 3
  · rw [if_pos h4, if_pos h4, s_sheet_41]
    obtain ⟨m', e⟩ := c_sh (w := m 3 8) (h := m 3 9) (kind := kind) (n := n) (a := a) (d := d) (x5 := 1) (by rw [if_pos h4]) 9 0 0 0 (9, 0) m (by decide) (by decide) (by decide) (by decide) (by decide) (by decide) rfl rfl
    rw [if_pos h4] at e
    exact ⟨m', e⟩
  rw [if_neg h4, if_neg h4]
  by_cases h5 : n < 0
  · rw [if_neg (by omega), if_pos h5]; exact ⟨_, rfl⟩
  rw [if_pos (by omega), if_neg h5, s_sheet_41]
  obtain ⟨m', e⟩ := c_sh (w := m 3 8) (h := m 3 9) (kind := kind) (n := n) (a := a) (d := d) (x5 := 0) (by rw [if_neg h4]) 9 0 0 0 (9, 0) m (by decide) (by decide) (by decide) (by decide) (by decide) (by decide) rfl rfl
  rw [if_neg h4] at e
  exact ⟨m', e⟩
theorem u_step {a k d : Int} : z_add (z_add a (z_mul k d)) d = z_add a (z_mul (k + 1) d) := by
  unfold z_add z_mul
  simp only [Int32.ofInt_toInt]
  rw [Int32.ofInt_add, Int32.add_mul, Int32.add_assoc]
  rw [show Int32.ofInt 1 = 1 from rfl, Int32.one_mul]
theorem t_sh59 (m : z_M) (kind n a d s v k r : Int) (v9 : z_V) {u : Int} (hu : ¬ u = 0) : z_R 194 (m, 59, [(2, 251), (0, kind), (0, n), (0, a), (0, d), (0, s), (0, v), (0, k), (0, r), v9], [(0, u)]) = z_R 194 (m, 122, [(2, 251), (0, kind), (0, n), (0, a), (0, d), (0, s), (0, v), (0, k), (0, r), (0, u_conv kind v)], [(0, u_val kind n k v), (0, r), (2, 252)]) := by
  rw [t_sheet_59, if_neg hu]
  unfold u_val
  by_cases c0 : kind = 0
  · have e : u_conv kind v = z_i2b v := by unfold u_conv; rw [if_pos c0]
    rw [if_pos c0, if_neg (by omega), e]
    by_cases c4 : k < n
    · rw [if_pos c4, if_neg (show ¬ (kind = 3 ∨ n ≤ k) by omega)]; rfl
    · rw [if_neg c4, if_pos (show kind = 3 ∨ n ≤ k by omega)]
  rw [if_neg c0]
  by_cases c1 : kind = 1
  · have e : u_conv kind v = z_i2s v := by unfold u_conv; rw [if_neg c0, if_pos c1]
    rw [if_pos c1, if_neg (by omega), e]
    by_cases c4 : k < n
    · rw [if_pos c4, if_neg (show ¬ (kind = 3 ∨ n ≤ k) by omega)]; rfl
    · rw [if_neg c4, if_pos (show kind = 3 ∨ n ≤ k by omega)]
  rw [if_neg c1]
  have e : u_conv kind v = v := by unfold u_conv; rw [if_neg c0, if_neg c1]
  rw [e]
  by_cases c3 : kind = 3
  · rw [if_pos c3, if_pos (Or.inl c3)]
  rw [if_neg c3]
  by_cases c4 : k < n
  · rw [if_pos c4, if_neg (show ¬ (kind = 3 ∨ n ≤ k) by omega)]; rfl
  · rw [if_neg c4, if_pos (show kind = 3 ∨ n ≤ k by omega)]
theorem t_sh {w h kind n a d : Int} : ∀ (f : Nat) (r k s : Int) (v9 : z_V) (m : z_M), 0 ≤ r → r + (f : Int) = 9 → 0 ≤ k → k ≤ r → 0 ≤ s → s ≤ 99 * k → m 251 1 = w → m 251 2 = h → ∃ m', z_R 194 (m, 46, [(2, 251), (0, kind), (0, n), (0, a), (0, d), (0, s), (0, z_add a (z_mul k d)), (0, k), (0, r), v9], []) = some (m', some (0, if kind = 3 then -3 else u_sh w h kind n a d f r k s)) := by
  intro f
  induction f with
  | zero =>
    intro r k s v9 m h0 h1 h2 h3 h4 h5 hw hh
    rw [t_sheet_46, if_pos (by omega)]
    by_cases c : kind = 3
    · rw [if_pos c, if_pos c]; exact ⟨_, rfl⟩
    · rw [if_neg c, if_neg c]; exact ⟨_, rfl⟩
  | succ f ih =>
    intro r k s v9 m h0 h1 h2 h3 h4 h5 hw hh
    rw [t_sheet_46, if_neg (by omega), t_roomv, hw, hh]
    show ∃ m', z_R 194 (m, 59, [(2, 251), (0, kind), (0, n), (0, a), (0, d), (0, s), (0, z_add a (z_mul k d)), (0, k), (0, r), v9], [(0, u_hs w h r)]) = _
    unfold u_sh
    by_cases c : u_hs w h r = 0
    · rw [t_sheet_59, if_pos c, if_pos c, t_sheet_145, z_add_eq (x := r) (by omega) (by omega)]
      exact ih (r + 1) k s v9 m (by omega) (by omega) h2 (by omega) h4 h5 hw hh
    have hb := u_val_b kind n k (z_add a (z_mul k d))
    rw [t_sh59 _ _ _ _ _ _ _ _ _ _ c, if_neg c, t_sheet_122, if_pos ⟨h0, by omega⟩, if_pos ⟨h0, by omega⟩, zu_self, t_sheet_145, z_add_eq (x := s) (by omega) (by omega), z_add_eq (x := k) (by omega) (by omega), z_add_eq (x := r) (by omega) (by omega), u_step]
    exact ih (r + 1) (k + 1) _ _ _ (by omega) (by omega) (by omega) (by omega) (by omega) (by omega) ((zu_p (by decide)).trans hw) ((zu_p (by decide)).trans hh)
theorem t_sheet (m : z_M) (kind n a d : Int) (ha : (Int32.ofInt a).toInt = a) : ∃ m', z_R 194 (m, 0, [(2, 251), (0, kind), (0, n), (0, a), (0, d), (9, 0), (9, 0), (9, 0), (9, 0), (9, 0)], []) = some (m', some (0, u_sheet (m 251 1) (m 251 2) kind n a d)) := by
  rw [t_sheet_0, t_in]
  show ∃ m', z_R 194 (z_up m 251 11 0, 11, [(2, 251), (0, kind), (0, n), (0, a), (0, d), (9, 0), (9, 0), (9, 0), (9, 0), (9, 0)], [(0, if 0 ≤ kind ∧ kind ≤ 3 then 1 else 0)]) = _
  rw [t_sheet_11]
  unfold u_sheet
  by_cases h1 : kind < 0
  · rw [if_neg (show ¬ (0 ≤ kind ∧ kind ≤ 3) by omega), if_pos rfl, if_pos h1]; exact ⟨_, rfl⟩
  rw [if_neg h1]
  by_cases h2 : 3 < kind
  · rw [if_neg (show ¬ (0 ≤ kind ∧ kind ≤ 3) by omega), if_pos rfl, if_pos h2]; exact ⟨_, rfl⟩
  rw [if_neg h2, if_pos (show 0 ≤ kind ∧ kind ≤ 3 by omega), if_neg (by decide)]
  by_cases h3 : 9 < n
  · rw [if_neg (by omega), if_pos h3]; exact ⟨_, rfl⟩
  rw [if_pos (by omega), if_neg h3]
  have hz : z_add a (z_mul 0 d) = a := by
    have e0 : z_mul 0 d = 0 := by unfold z_mul; rw [show Int32.ofInt 0 = 0 from rfl, Int32.zero_mul]; rfl
    rw [e0]
    unfold z_add
    rw [show Int32.ofInt 0 = 0 from rfl, Int32.add_zero, ha]
  obtain ⟨m', e⟩ := t_sh (w := m 251 1) (h := m 251 2) (kind := kind) (n := n) (a := a) (d := d) 9 0 0 0 (9, 0) (z_up m 251 11 0) (by decide) (by decide) (by decide) (by decide) (by decide) (by decide) (zu_k (by decide)) (zu_k (by decide))
  rw [hz] at e
  by_cases h4 : kind = 3
  · rw [if_pos (by omega), if_pos h4]
    rw [if_pos h4] at e
    exact ⟨m', e⟩
  rw [if_neg (by omega), if_neg h4]
  rw [if_neg h4] at e
  by_cases h5 : n < 0
  · rw [if_neg (by omega), if_pos h5]; exact ⟨_, rfl⟩
  rw [if_pos (by omega), if_neg h5]
  exact ⟨m', e⟩
