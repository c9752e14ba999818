/-! PEOPLE in the reference -/
theorem t_need1 (m : z_M) (c : Int) (h : m 251 16 = -1) (hw : u_W m) : z_R 174 (m, 0, [(2, 251), (0, c)], []) = if u_q m (m 251 15) = c then some (z_up m 251 15 (m 251 15 + 1), none) else some (z_up m 251 16 (m 251 15), none) := by
  rw [t_need_0, t_pass1 m c h hw]
  by_cases k : u_q m (m 251 15) = c
  · rw [if_pos k, if_pos k]
    show z_R 174 (z_up m 251 15 (m 251 15 + 1), 5, [(2, 251), (0, c)], [(0, 1)]) = _
    rw [t_need_5, if_neg (by decide)]
  · rw [if_neg k, if_neg k]
    show z_R 174 (m, 5, [(2, 251), (0, c)], [(0, 0)]) = _
    rw [t_need_5, if_pos rfl, t_fault1 m _ h]
    exact t_need_16 _ _
theorem t_need0 (m : z_M) (c : Int) (h : ¬ m 251 16 = -1) : z_R 174 (m, 0, [(2, 251), (0, c)], []) = some (m, none) := by
  rw [t_need_0, t_pass0 m c h]
  show z_R 174 (m, 5, [(2, 251), (0, c)], [(0, 0)]) = _
  rw [t_need_5, if_pos rfl, t_fault0 m _ h]
  exact t_need_16 _ _
/-- reading changes its place, its fault, and of what was read the cells from a to b -/
def u_N (a b : Nat) : List (Nat × Nat × Nat) := [(251, 15, 16), (257, a, b)]
theorem u_N_off {a b : Nat} {m m' : z_M} (h : z_same (u_N a b) m m') {p k : Nat} (h1 : ¬ (p = 251 ∧ 15 ≤ k ∧ k ≤ 16)) (h2 : ¬ (p = 257 ∧ a ≤ k ∧ k ≤ b)) : m' p k = m p k := h p k fun q hq ⟨e1, e2, e3⟩ => by
  simp only [u_N, List.mem_cons, List.not_mem_nil, or_false] at hq
  rcases hq with rfl | rfl <;> simp only at e1 e2 e3 <;> omega
theorem u_N_wide {a b a' b' : Nat} {m m' : z_M} (h : z_same (u_N a b) m m') (h1 : a' ≤ a) (h2 : b ≤ b') : z_same (u_N a' b') m m' := fun p k hn => u_N_off h (fun z => hn (251, 15, 16) List.mem_cons_self ⟨z.1.symm, z.2.1, z.2.2⟩) (fun z => hn (257, a', b') (List.mem_cons_of_mem _ List.mem_cons_self) ⟨z.1.symm, by simp only; omega, by simp only; omega⟩)
theorem u_N_q {a b : Nat} {m m' : z_M} (h : z_same (u_N a b) m m') : u_q m' = u_q m := u_q_eq (funext fun k => u_N_off h (by omega) (by omega)) (u_N_off h (by omega) (by omega)) (u_N_off h (by omega) (by omega))
theorem u_N_W {a b : Nat} {m m' : z_M} (hw : u_W m) (h : z_same (u_N a b) m m') (h0 : 0 ≤ m' 251 15) (h1 : m' 251 15 ≤ 80) : u_W m' := by
  obtain ⟨a1, a2, a3, a4, a5⟩ := hw
  refine ⟨(u_N_off h (by omega) (by omega)).trans a1, h0, h1, by rw [u_N_off h (p := 251) (k := 13) (by omega) (by omega)]; exact a4, fun k hk => ?_⟩
  rw [u_N_off h (p := 254) (k := k) (by omega) (by omega)]
  exact a5 k hk
theorem u_N_at {a b : Nat} {m m' : z_M} {k : Nat} {v : Int} (h : z_same (u_N a b) m m') (h1 : k = 15 ∨ k = 16) : z_same (u_N a b) m (z_up m' 251 k v) := h.up1 (lo := 15) (hi := 16) List.mem_cons_self (by omega) (by omega)
theorem u_N_co {a b : Nat} {m m' : z_M} {k : Nat} {v : Int} (h : z_same (u_N a b) m m') (h1 : a ≤ k) (h2 : k ≤ b) : z_same (u_N a b) m (z_up m' 257 k v) := h.up1 (lo := a) (hi := b) (List.mem_cons_of_mem _ List.mem_cons_self) h1 h2
/-- behind a fault: nothing more is read -/
theorem t_fd6 {n : Nat} (hn : n ≤ 4) (x2 : Int) : ∀ (f k : Nat) (m : z_M), k + f = 6 → ¬ m 251 16 = -1 → ∃ m', z_R 173 (m, 39, [(2, 251), (0, ((7 * n : Nat) : Int)), (0, x2), (0, (k : Int))], []) = some (m', none) ∧ m' 251 16 = m 251 16 ∧ z_same (u_N (7 * n + 1 + k) (7 * n + 6)) m m' := by
  intro f
  induction f with
  | zero =>
    intro k m hk h
    rw [t_rp_39, if_pos (by omega)]
    exact ⟨m, rfl, rfl, z_same.rf⟩
  | succ f ih =>
    intro k m hk h
    have ek : z_add (z_add ((7 * n : Nat) : Int) 1) (k : Int) = ((7 * n + 1 + k : Nat) : Int) := by rw [z_add_eq (x := ((7 * n : Nat) : Int)) (by omega) (by omega), z_add_eq (by omega) (by omega)]; omega
    have e1 : z_add (k : Int) 1 = ((k + 1 : Nat) : Int) := by rw [z_add_eq (by omega) (by omega)]; omega
    rw [t_rp_39, if_neg (by omega), t_one0 m 48 10 h, ek]
    show ∃ m', z_R 173 (m, 62, [(2, 251), (0, ((7 * n : Nat) : Int)), (0, x2), (0, (k : Int))], [(0, 0), (0, ((7 * n + 1 + k : Nat) : Int)), (2, 257)]) = _ ∧ _
    rw [t_rp_62, e1, if_pos ⟨by omega, by omega⟩, Int.toNat_natCast]
    have g16 : (z_up m 257 (7 * n + 1 + k) 0) 251 16 = m 251 16 := zu_p (by decide)
    obtain ⟨m', a1, a2, a3⟩ := ih (k + 1) (z_up m 257 (7 * n + 1 + k) 0) (by omega) (by rw [g16]; exact h)
    exact ⟨m', a1, a2.trans g16, (u_N_co z_same.rf (Nat.le_refl _) (by omega)).tr (u_N_wide a3 (by omega) (Nat.le_refl _))⟩
theorem t_d6 {n : Nat} (hn : n ≤ 4) (x2 : Int) : ∀ (f k : Nat) (m : z_M), k + f = 6 → u_W m → m 251 16 = -1 → ∃ m', z_R 173 (m, 39, [(2, 251), (0, ((7 * n : Nat) : Int)), (0, x2), (0, (k : Int))], []) = some (m', none) ∧ z_same (u_N (7 * n + 1 + k) (7 * n + 6)) m m' ∧ ((u_d6 (u_q m) f (m 251 15)).1 = true → m' 251 16 = -1 ∧ m' 251 15 = (u_d6 (u_q m) f (m 251 15)).2 ∧ ∀ j : Nat, j < f → m' 257 (7 * n + 1 + k + j) = u_dg (u_q m (m 251 15 + (j : Int)))) ∧ ((u_d6 (u_q m) f (m 251 15)).1 = false → m' 251 16 = (u_d6 (u_q m) f (m 251 15)).2) := by
  intro f
  induction f with
  | zero =>
    intro k m hk hw h
    rw [t_rp_39, if_pos (by omega)]
    exact ⟨m, rfl, z_same.rf, (fun _ => ⟨h, rfl, fun j hj => absurd hj (Nat.not_lt_zero j)⟩), fun z => by cases z⟩
  | succ f ih =>
    intro k m hk hw h
    have hg := u_q_b hw
    obtain ⟨w1, w2, w3, w4, w5⟩ := id hw
    have ek : z_add (z_add ((7 * n : Nat) : Int) 1) (k : Int) = ((7 * n + 1 + k : Nat) : Int) := by rw [z_add_eq (x := ((7 * n : Nat) : Int)) (by omega) (by omega), z_add_eq (by omega) (by omega)]; omega
    have e1 : z_add (k : Int) 1 = ((k + 1 : Nat) : Int) := by rw [z_add_eq (by omega) (by omega)]; omega
    rw [t_rp_39, if_neg (by omega), t_one m 48 10 h hw (by decide) (by decide) (by decide), ek]
    unfold u_d6
    by_cases c : u_dg (u_q m (m 251 15)) = -1
    · rw [if_neg (fun z => u_dg_in.mp z c), if_pos c]
      show ∃ m', z_R 173 (z_up m 251 16 (m 251 15), 62, [(2, 251), (0, ((7 * n : Nat) : Int)), (0, x2), (0, (k : Int))], [(0, 0), (0, ((7 * n + 1 + k : Nat) : Int)), (2, 257)]) = _ ∧ _
      rw [t_rp_62, e1, if_pos ⟨by omega, by omega⟩, Int.toNat_natCast]
      have s1 : z_same (u_N (7 * n + 1 + k) (7 * n + 6)) m (z_up (z_up m 251 16 (m 251 15)) 257 (7 * n + 1 + k) 0) := u_N_co (u_N_at z_same.rf (Or.inr rfl)) (Nat.le_refl _) (by omega)
      have g16 : (z_up (z_up m 251 16 (m 251 15)) 257 (7 * n + 1 + k) 0) 251 16 = m 251 15 := by rw [zu_p (by decide), zu_self]
      obtain ⟨m', a1, a2, a3⟩ := t_fd6 hn x2 f (k + 1) (z_up (z_up m 251 16 (m 251 15)) 257 (7 * n + 1 + k) 0) (by omega) (by rw [g16]; omega)
      exact ⟨m', a1, s1.tr (u_N_wide a3 (by omega) (Nat.le_refl _)), (fun z => by cases z), fun _ => a2.trans g16⟩
    · have b := u_dg_b hg c
      have kk := u_dg_ne c
      rw [if_pos (u_dg_in.mpr c), if_neg c]
      show ∃ m', z_R 173 (z_up m 251 15 (m 251 15 + 1), 62, [(2, 251), (0, ((7 * n : Nat) : Int)), (0, x2), (0, (k : Int))], [(0, u_q m (m 251 15) - 48), (0, ((7 * n + 1 + k : Nat) : Int)), (2, 257)]) = _ ∧ _
      rw [t_rp_62, e1, if_pos ⟨by omega, by omega⟩, Int.toNat_natCast]
      have s1 : z_same (u_N (7 * n + 1 + k) (7 * n + 6)) m (z_up (z_up m 251 15 (m 251 15 + 1)) 257 (7 * n + 1 + k) (u_q m (m 251 15) - 48)) := u_N_co (u_N_at z_same.rf (Or.inl rfl)) (Nat.le_refl _) (by omega)
      generalize hm2 : z_up (z_up m 251 15 (m 251 15 + 1)) 257 (7 * n + 1 + k) (u_q m (m 251 15) - 48) = m2 at s1 ⊢
      have g15 : m2 251 15 = m 251 15 + 1 := by rw [← hm2, zu_p (by decide), zu_self]
      have g16 : m2 251 16 = -1 := by rw [← hm2, zu_p (by decide), zu_k (by decide)]; exact h
      have gc : m2 257 (7 * n + 1 + k) = u_dg (u_q m (m 251 15)) := by rw [← hm2, zu_self, kk.2.2]
      have gq := u_N_q s1
      obtain ⟨m', a1, a2, a3, a4⟩ := ih (k + 1) m2 (by omega) (u_N_W hw s1 (by omega) (by omega)) g16
      rw [gq, g15] at a3 a4
      refine ⟨m', a1, s1.tr (u_N_wide a2 (by omega) (Nat.le_refl _)), fun z => ⟨(a3 z).1, (a3 z).2.1, fun j hj => ?_⟩, a4⟩
      cases j with
      | zero =>
        show m' 257 (7 * n + 1 + k) = u_dg (u_q m (m 251 15 + ((0 : Nat) : Int)))
        rw [u_N_off a2 (by omega) (by omega), gc, show m 251 15 + ((0 : Nat) : Int) = m 251 15 by omega]
      | succ j =>
        have := (a3 z).2.2 j (by omega)
        rw [show 7 * n + 1 + k + (j + 1) = 7 * n + 1 + (k + 1) + j by omega, this, show m 251 15 + 1 + (j : Int) = m 251 15 + ((j + 1 : Nat) : Int) by omega]
theorem u_dg_s {c s : Int} (h0 : 0 ≤ s) (h : s ≤ 3) : (49 ≤ c ∧ c ≤ 49 + s - 1) ↔ (0 ≤ u_dg c - 1 ∧ u_dg c - 1 < s) := by
  unfold u_dg
  by_cases k : 48 ≤ c ∧ c ≤ 57
  · rw [if_pos k]; omega
  · rw [if_neg k]; omega
/-- a line, as the reference reads it -/
theorem t_line {n : Nat} (hn : n ≤ 4) {c s : Int} (hc0 : 0 ≤ c) (hc : c ≤ 3) (hs0 : 0 ≤ s) (hs : s ≤ 3) (m : z_M) (hw : u_W m) (h : m 251 16 = -1) (h1 : m 251 1 = c) (h2 : m 251 2 = s) : ∃ m', z_R 173 (m, 0, [(2, 251), (0, ((7 * n : Nat) : Int)), (9, 0), (9, 0)], []) = some (m', none) ∧ z_same (u_N (7 * n) (7 * n + 6)) m m' ∧ ((u_line (u_q m) c s (m 251 15)).1 = true → m' 251 16 = -1 ∧ m' 251 15 = (u_line (u_q m) c s (m 251 15)).2 ∧ m' 257 (7 * n) = u_rm (u_q m) (m 251 15) ∧ ∀ j : Nat, j < 6 → m' 257 (7 * n + 1 + j) = u_dg (u_q m (m 251 15 + 3 + (j : Int)))) ∧ ((u_line (u_q m) c s (m 251 15)).1 = false → m' 251 16 = (u_line (u_q m) c s (m 251 15)).2) := by
  have hg := u_q_b hw
  obtain ⟨w1, w2, w3, w4, w5⟩ := id hw
  have cs0 : z_same (u_N (7 * n) (7 * n + 6)) m m := z_same.rf
  -- behind a fault
  have bad : ∀ (m1 : z_M) (x2 s0 u : Int), z_same (u_N (7 * n) (7 * n + 6)) m m1 → ¬ m1 251 16 = -1 → ∃ m', z_R 173 (m1, 27, [(2, 251), (0, ((7 * n : Nat) : Int)), (0, x2), (9, 0)], [(0, u), (0, s0), (0, ((7 * n : Nat) : Int)), (2, 257)]) = some (m', none) ∧ z_same (u_N (7 * n) (7 * n + 6)) m m' ∧ m' 251 16 = m1 251 16 := by
    intro m1 x2 s0 u hs1 hf
    have g16 : (z_up m1 257 (7 * n) (z_add (z_mul s0 u) x2)) 251 16 = m1 251 16 := zu_p (by decide)
    rw [t_rp_27, if_pos ⟨by omega, by omega⟩, Int.toNat_natCast, t_need0 _ 58 (by rw [g16]; exact hf)]
    show ∃ m', z_R 173 (z_up m1 257 (7 * n) (z_add (z_mul s0 u) x2), 37, [(2, 251), (0, ((7 * n : Nat) : Int)), (0, x2), (9, 0)], []) = _ ∧ _
    rw [t_rp_37]
    obtain ⟨m', a1, a2, a3⟩ := t_fd6 hn x2 6 0 (z_up m1 257 (7 * n) (z_add (z_mul s0 u) x2)) (by decide) (by rw [g16]; exact hf)
    exact ⟨m', a1, (u_N_co hs1 (Nat.le_refl _) (by omega)).tr (u_N_wide a3 (by omega) (Nat.le_refl _)), a2.trans g16⟩
  rw [t_rp_0, h1, t_one m 97 c h hw (by decide) hc0 (by omega)]
  unfold u_line
  by_cases c1 : 0 ≤ u_q m (m 251 15) - 97 ∧ u_q m (m 251 15) - 97 < c
  · have b1 := hg (m 251 15) (by omega)
    rw [if_pos (show 97 ≤ u_q m (m 251 15) ∧ u_q m (m 251 15) ≤ 97 + c - 1 by omega), if_neg (not_not_intro c1)]
    show ∃ m', z_R 173 (z_up m 251 15 (m 251 15 + 1), 10, [(2, 251), (0, ((7 * n : Nat) : Int)), (9, 0), (9, 0)], [(0, u_q m (m 251 15) - 97)]) = _ ∧ _
    have hw1 := u_W_at (v := m 251 15 + 1) hw (by omega) (by omega)
    have f1 : (z_up m 251 15 (m 251 15 + 1)) 251 16 = -1 := by rw [zu_k (by decide)]; exact h
    have f2 : (z_up m 251 15 (m 251 15 + 1)) 251 2 = s := by rw [zu_k (by decide)]; exact h2
    rw [t_rp_10, f2, t_one _ 49 s f1 hw1 (by decide) hs0 (by omega), u_q_at, zu_self]
    by_cases c2 : 0 ≤ u_dg (u_q m (m 251 15 + 1)) - 1 ∧ u_dg (u_q m (m 251 15 + 1)) - 1 < s
    · have b2 := u_dg_b hg (i := m 251 15 + 1) (by omega)
      have k2 := u_dg_ne (c := u_q m (m 251 15 + 1)) (by omega)
      rw [if_pos ((u_dg_s hs0 hs).mpr c2), if_neg (not_not_intro c2), zu_zu]
      show ∃ m', z_R 173 (z_up m 251 15 (m 251 15 + 1 + 1), 27, [(2, 251), (0, ((7 * n : Nat) : Int)), (0, u_q m (m 251 15) - 97), (9, 0)], [(0, u_q m (m 251 15 + 1) - 49), (0, 3), (0, ((7 * n : Nat) : Int)), (2, 257)]) = _ ∧ _
      rw [t_rp_27, if_pos ⟨by omega, by omega⟩, Int.toNat_natCast, z_mul_eq (by omega) (by omega), z_add_eq (by omega) (by omega), show m 251 15 + 1 + 1 = m 251 15 + 2 by omega]
      have er : 3 * (u_q m (m 251 15 + 1) - 49) + (u_q m (m 251 15) - 97) = u_rm (u_q m) (m 251 15) := by unfold u_rm; omega
      rw [er]
      have s2 : z_same (u_N (7 * n) (7 * n + 6)) m (z_up (z_up m 251 15 (m 251 15 + 2)) 257 (7 * n) (u_rm (u_q m) (m 251 15))) := u_N_co (u_N_at cs0 (Or.inl rfl)) (Nat.le_refl _) (by omega)
      generalize hm2 : z_up (z_up m 251 15 (m 251 15 + 2)) 257 (7 * n) (u_rm (u_q m) (m 251 15)) = m2 at s2 ⊢
      have g15 : m2 251 15 = m 251 15 + 2 := by rw [← hm2, zu_p (by decide), zu_self]
      have g16 : m2 251 16 = -1 := by rw [← hm2, zu_p (by decide), zu_k (by decide)]; exact h
      have gc : m2 257 (7 * n) = u_rm (u_q m) (m 251 15) := by rw [← hm2, zu_self]
      have gw : u_W m2 := u_N_W hw s2 (by omega) (by omega)
      rw [t_need1 m2 58 g16 gw, u_N_q s2, g15]
      by_cases c3 : u_q m (m 251 15 + 2) = 58
      · have b3 := hg (m 251 15 + 2) (by omega)
        rw [if_pos c3, if_neg (not_not_intro c3)]
        show ∃ m', z_R 173 (z_up m2 251 15 (m 251 15 + 2 + 1), 37, [(2, 251), (0, ((7 * n : Nat) : Int)), (0, u_q m (m 251 15) - 97), (9, 0)], []) = _ ∧ _
        rw [t_rp_37, show m 251 15 + 2 + 1 = m 251 15 + 3 by omega]
        have s3 : z_same (u_N (7 * n) (7 * n + 6)) m (z_up m2 251 15 (m 251 15 + 3)) := u_N_at s2 (Or.inl rfl)
        have k15 : (z_up m2 251 15 (m 251 15 + 3)) 251 15 = m 251 15 + 3 := zu_self
        obtain ⟨m', a1, a2, a3, a4⟩ := t_d6 hn (u_q m (m 251 15) - 97) 6 0 (z_up m2 251 15 (m 251 15 + 3)) (by decide) (u_W_at gw (by omega) (by omega)) ((zu_k (by decide)).trans g16)
        rw [u_N_q s3, k15] at a3 a4
        refine ⟨m', a1, s3.tr (u_N_wide a2 (by omega) (Nat.le_refl _)), fun z => ⟨(a3 z).1, (a3 z).2.1, ?_, fun j hj => (a3 z).2.2 j hj⟩, a4⟩
        rw [u_N_off a2 (by omega) (by omega), zu_p (by decide), gc]
      · rw [if_neg c3, if_pos c3]
        show ∃ m', z_R 173 (z_up m2 251 16 (m 251 15 + 2), 37, [(2, 251), (0, ((7 * n : Nat) : Int)), (0, u_q m (m 251 15) - 97), (9, 0)], []) = _ ∧ _
        rw [t_rp_37]
        have k16 : (z_up m2 251 16 (m 251 15 + 2)) 251 16 = m 251 15 + 2 := zu_self
        obtain ⟨m', a1, a2, a3⟩ := t_fd6 hn (u_q m (m 251 15) - 97) 6 0 (z_up m2 251 16 (m 251 15 + 2)) (by decide) (by rw [k16]; omega)
        exact ⟨m', a1, (u_N_at s2 (Or.inr rfl)).tr (u_N_wide a3 (by omega) (Nat.le_refl _)), (fun z => by cases z), fun _ => a2.trans k16⟩
    · rw [if_neg (fun z => c2 ((u_dg_s hs0 hs).mp z)), if_pos c2]
      show ∃ m', z_R 173 (z_up (z_up m 251 15 (m 251 15 + 1)) 251 16 (m 251 15 + 1), 27, [(2, 251), (0, ((7 * n : Nat) : Int)), (0, u_q m (m 251 15) - 97), (9, 0)], [(0, 0), (0, 3), (0, ((7 * n : Nat) : Int)), (2, 257)]) = _ ∧ _
      obtain ⟨m', a1, a2, a3⟩ := bad (z_up (z_up m 251 15 (m 251 15 + 1)) 251 16 (m 251 15 + 1)) (u_q m (m 251 15) - 97) 3 0 (u_N_at (u_N_at cs0 (Or.inl rfl)) (Or.inr rfl)) (by rw [zu_self]; omega)
      exact ⟨m', a1, a2, (fun z => by cases z), fun _ => by rw [a3, zu_self]⟩
  · rw [if_neg (show ¬ (97 ≤ u_q m (m 251 15) ∧ u_q m (m 251 15) ≤ 97 + c - 1) by omega), if_pos c1]
    show ∃ m', z_R 173 (z_up m 251 16 (m 251 15), 10, [(2, 251), (0, ((7 * n : Nat) : Int)), (9, 0), (9, 0)], [(0, 0)]) = _ ∧ _
    have f0 : ¬ (z_up m 251 16 (m 251 15)) 251 16 = -1 := by rw [zu_self]; omega
    rw [t_rp_10, t_one0 _ 49 _ f0]
    show ∃ m', z_R 173 (z_up m 251 16 (m 251 15), 27, [(2, 251), (0, ((7 * n : Nat) : Int)), (0, 0), (9, 0)], [(0, 0), (0, 3), (0, ((7 * n : Nat) : Int)), (2, 257)]) = _ ∧ _
    obtain ⟨m', a1, a2, a3⟩ := bad (z_up m 251 16 (m 251 15)) 0 3 0 (u_N_at cs0 (Or.inr rfl)) f0
    exact ⟨m', a1, a2, (fun z => by cases z), fun _ => by rw [a3, zu_self]⟩
