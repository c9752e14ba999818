/-! PEOPLE: both sides, whole -/
/-- how many come, what is answered -/
def u_pn (n : Int) (S : Bool × Int × Nat) : Nat := if n = 0 then 0 else if S.1 = true then S.2.2 else 0
def u_pa (n : Int) (S : Bool × Int × Nat) : Int := if n = 0 then 0 else if S.1 = true then (S.2.2 : Int) else -1 - S.2.1
theorem c_people {w h : Int} (hw : w ≤ 3) (hh : h ≤ 3) (p : Nat) (hp : p ≤ 5) (m : z_M) (h0 : 0 ≤ m 1 1) (h1 : m 1 1 ≤ 80) (hr : u_gr (u_nx (m 2) (m 1 1) 76)) (h8 : m 3 8 = w) (h9 : m 3 9 = h) (h11 : m 3 11 = (p : Int)) {G : Int → Int} (hG : u_nx (m 2) (m 1 1) 76 = G) {S : Bool × Int × Nat} (hS : u_ls G w h (m 1 1) (5 - p) 0 0 = S) : ∃ m', z_R 35 (m, 0, [(2, 0), (9, 0)], []) = some (m', some (0, u_pa (m 1 1) S)) ∧ m' 3 11 = ((p + u_pn (m 1 1) S : Nat) : Int) ∧ (∀ d k : Nat, d < u_pn (m 1 1) S → k < 6 → m' 8 (6 * (p + d) + k) = u_dg (G (10 * (d : Int) + 3 + (k : Int)))) ∧ (∀ j, ¬ (6 * p ≤ j ∧ j < 6 * (p + u_pn (m 1 1) S)) → m' 8 j = m 8 j) := by
  obtain ⟨m1, a1, a2, a3, a4, a5⟩ := c_readPeople hw hh p hp m h0 h1 hr h8 h9 h11
  rw [hG, hS] at a1 a2 a3
  rw [hG] at a4
  have hb := u_ls_b (g := G) (by rw [← hG]; exact u_nx_b h1) (c := w) (s := h) (n := m 1 1) (5 - p) 0 0 (by decide) (by decide)
  rw [hS] at hb
  have e8 : ∀ j, m1 8 j = m 8 j := fun j => a5 8 j (by omega) (by omega) (by omega) (by omega) (by omega)
  have e11 : m1 3 11 = (p : Int) := (a5 3 11 (by omega) (by omega) (by omega) (by omega) (by omega)).trans h11
  rw [s_people_0, a1]
  unfold u_pa u_pn
  by_cases c : m 1 1 = 0
  · rw [if_pos c] at a2 a3
    rw [if_pos c, if_pos c, if_pos c]
    show ∃ m', z_R 35 (m1, 11, [(2, 0), (9, 0)], [(0, 1)]) = _ ∧ _
    rw [s_people_11, s_empty_0]
    show ∃ m', z_R 35 (z_up m1 1 1 0, 19, [(2, 0), (0, 1)], []) = _ ∧ _
    have k37 : (z_up m1 1 1 0) 3 7 = 0 := (zu_p (by decide)).trans a3
    rw [s_people_19, if_neg (by decide), if_pos (by omega), s_people_61, k37]
    exact ⟨_, rfl, (zu_p (by decide)).trans e11, (fun d k hd => absurd hd (Nat.not_lt_zero d)), fun j _ => (zu_p (by decide)).trans (e8 j)⟩
  rw [if_neg c] at a2 a3
  rw [if_neg c, if_neg c, if_neg c]
  by_cases k : S.1 = true
  · rw [if_pos k, if_pos k, if_pos k]
    show ∃ m', z_R 35 (m1, 11, [(2, 0), (9, 0)], [(0, 1)]) = _ ∧ _
    rw [s_people_11, s_empty_0]
    show ∃ m', z_R 35 (z_up m1 1 1 0, 19, [(2, 0), (0, 1)], []) = _ ∧ _
    have k37 : (z_up m1 1 1 0) 3 7 = (S.2.2 : Int) := (zu_p (by decide)).trans a3
    rw [s_people_19, if_neg (by decide), k37]
    by_cases z : (S.2.2 : Int) ≤ 0
    · rw [if_pos z, s_people_61, k37]
      have z0 : S.2.2 = 0 := by omega
      rw [z0]
      exact ⟨_, rfl, (zu_p (by decide)).trans e11, (fun d k hd => absurd hd (Nat.not_lt_zero d)), fun j _ => (zu_p (by decide)).trans (e8 j)⟩
    · rw [if_neg z, s_admit_0]
      obtain ⟨m2, b1, b2, b3, -, -, -, b7⟩ := c_admit S.2.2 0 p (z_up m1 1 1 0) (by rw [k37, Nat.zero_add]) ((zu_p (by decide)).trans e11) (by omega) (Nat.zero_le _)
      rw [show ((0 : Nat) : Int) = 0 from rfl] at b1
      rw [b1]
      show ∃ m', z_R 35 (m2, 54, [(2, 0), (0, 1)], []) = _ ∧ _
      rw [s_people_54, s_fd_0]
      show ∃ m', z_R 35 (z_up m2 28 4 0, 61, [(2, 0), (0, 1)], []) = _ ∧ _
      have j37 : (z_up m2 28 4 0) 3 7 = (S.2.2 : Int) := (zu_p (by decide)).trans ((b7 3 7 (by omega) (by omega) (by omega) (by omega) (by omega)).trans k37)
      rw [s_people_61, j37]
      refine ⟨_, rfl, (zu_p (by decide)).trans b2, fun d k hd hk => ?_, fun j hj => ?_⟩
      · rw [zu_p (by decide), b3, if_pos ⟨by omega, by omega⟩, zu_p (by decide)]
        exact (a4 d (by rw [a3]; omega)).2 k hk
      · rw [zu_p (by decide), b3, if_neg hj, zu_p (by decide)]
        exact e8 j
  · rw [if_neg k, if_neg k, if_neg k]
    show ∃ m', z_R 35 (m1, 11, [(2, 0), (9, 0)], [(0, 0)]) = _ ∧ _
    rw [s_people_11, s_empty_0]
    show ∃ m', z_R 35 (z_up m1 1 1 0, 19, [(2, 0), (0, 0)], []) = _ ∧ _
    have k12 : (z_up m1 1 1 0) 1 2 = S.2.1 := (zu_k (by decide)).trans a2
    rw [s_people_19, if_pos rfl, k12, z_sub_eq (by omega) (by omega)]
    exact ⟨_, rfl, (zu_p (by decide)).trans e11, (fun d k hd => absurd hd (Nat.not_lt_zero d)), fun j _ => (zu_p (by decide)).trans (e8 j)⟩
theorem t_people {c s : Int} (hc0 : 0 ≤ c) (hc : c ≤ 3) (hs0 : 0 ≤ s) (hs : s ≤ 3) (p : Nat) (hp : p ≤ 5) (m : z_M) (h0 : 0 ≤ m 251 8) (h1 : m 251 8 ≤ 80) (hr : ∀ k, k < 80 → -128 ≤ m 254 k ∧ m 254 k ≤ 127) (e1 : m 251 1 = c) (e2 : m 251 2 = s) (e3 : m 251 3 = (p : Int)) {G : Int → Int} (hG : u_nx (u_t m) (m 251 8) 76 = G) {S : Bool × Int × Nat} (hS : u_ls G c s (m 251 8) (5 - p) 0 0 = S) : ∃ m', z_R 172 (m, 0, [(2, 251), (9, 0), (9, 0), (9, 0), (9, 0), (9, 0)], []) = some (m', some (0, u_pa (m 251 8) S)) ∧ m' 251 3 = ((p + u_pn (m 251 8) S : Nat) : Int) ∧ (∀ d k : Nat, d < u_pn (m 251 8) S → k < 6 → m' 253 (6 * (p + d) + k) = u_dg (G (10 * (d : Int) + 3 + (k : Int)))) ∧ (∀ j, ¬ (6 * p ≤ j ∧ j < 6 * (p + u_pn (m 251 8) S)) → m' 253 j = m 253 j) ∧ m' 251 52 = (if m 251 8 = 0 then m 251 52 else if S.1 = true then z_add (m 251 52) 1 else m 251 52) := by
  have hb := u_ls_b (g := G) (by rw [← hG]; exact u_nx_b h1) (c := c) (s := s) (n := m 251 8) (5 - p) 0 0 (by decide) (by decide)
  rw [hS] at hb
  rw [t_people_0, t_begin_0]
  have e8 : (z_up m 251 11 0) 251 8 = m 251 8 := zu_k (by decide)
  show ∃ m', z_R 172 (z_up (z_up (z_up (z_up (z_up (z_up m 251 11 0) 251 12 254) 251 13 (m 251 8)) 251 14 76) 251 15 0) 251 16 (-1), 19, [(2, 251), (9, 0), (9, 0), (9, 0), (9, 0), (9, 0)], []) = _ ∧ _
  rw [t_people_19]
  generalize hm : z_up (z_up (z_up (z_up (z_up (z_up m 251 11 0) 251 12 254) 251 13 (m 251 8)) 251 14 76) 251 15 0) 251 16 (-1) = m9
  have j13 : m9 251 13 = m 251 8 := by rw [← hm, zu_k (by decide), zu_k (by decide), zu_k (by decide), zu_self]
  have o9 : ∀ p' k', ¬ (p' = 251 ∧ 11 ≤ k' ∧ k' ≤ 16) → m9 p' k' = m p' k' := fun p' k' n => by
    rw [← hm]
    unfold z_up
    rw [if_neg (by omega), if_neg (by omega), if_neg (by omega), if_neg (by omega), if_neg (by omega), if_neg (by omega)]
  rw [j13]
  unfold u_pa u_pn
  by_cases z : m 251 8 = 0
  · rw [if_pos z, if_pos z, if_pos z]
    exact ⟨_, rfl, (zu_k (by decide)).trans ((o9 251 3 (by omega)).trans e3), (fun d k hd => absurd hd (Nat.not_lt_zero d)), (fun j _ => (zu_p (by decide)).trans (o9 253 j (by omega))), by rw [if_pos z]; exact (zu_k (by decide)).trans (o9 251 52 (by omega))⟩
  rw [if_neg z, if_neg z, if_neg z]
  generalize hm0 : z_up m9 251 8 0 = m0
  have o0 : ∀ p' k', ¬ (p' = 251 ∧ 11 ≤ k' ∧ k' ≤ 16) → ¬ (p' = 251 ∧ k' = 8) → m0 p' k' = m p' k' := fun p' k' n n' => by
    rw [← hm0]
    unfold z_up
    rw [if_neg n']
    exact o9 p' k' n
  have g12 : m0 251 12 = 254 := by rw [← hm0, zu_k (by decide), ← hm, zu_k (by decide), zu_k (by decide), zu_k (by decide), zu_k (by decide), zu_self]
  have g13 : m0 251 13 = m 251 8 := by rw [← hm0, zu_k (by decide)]; exact j13
  have g14 : m0 251 14 = 76 := by rw [← hm0, zu_k (by decide), ← hm, zu_k (by decide), zu_k (by decide), zu_self]
  have g15 : m0 251 15 = 0 := by rw [← hm0, zu_k (by decide), ← hm, zu_k (by decide), zu_self]
  have g16 : m0 251 16 = -1 := by rw [← hm0, zu_k (by decide), ← hm, zu_self]
  have gq : u_q m0 = G := by
    rw [← hG]
    unfold u_q u_t
    rw [show m0 254 = m 254 from funext fun k => o0 254 k (by omega) (by omega), g13, g14]
  obtain ⟨m1, r1, r2, r3⟩ := t_ls hc0 hc hs0 hs p (5 - p) 0 m0 (by omega) ⟨g12, by omega, by omega, by omega, fun k hk => by rw [o0 254 k (by omega) (by omega)]; exact hr k hk⟩ g16 ((o0 251 1 (by omega) (by omega)).trans e1) ((o0 251 2 (by omega) (by omega)).trans e2) ((o0 251 3 (by omega) (by omega)).trans e3)
  rw [gq, g13, g15, hS] at r1 r2
  by_cases k : S.1 = true
  · rw [if_pos k, if_pos k]
    obtain ⟨q1, q2⟩ := r1 k
    obtain ⟨m2, b1, b2, b52, b3, b4⟩ := t_a125 (cnt := S.2.2) (by omega) 0 S.2.2 0 p (9, 0) (9, 0) m1 (Nat.zero_add _) (by omega) ((u_N_off r3 (by omega) (by omega)).trans ((o0 251 3 (by omega) (by omega)).trans e3))
    refine ⟨m2, q1.trans b1, b2, fun d k hd hk => ?_, fun j hj => ?_, by rw [if_neg z, if_pos k, b52, u_N_off r3 (by omega) (by omega), o0 251 52 (by omega) (by omega)]⟩
    · rw [(b3 d hd).1 k hk]
      have := (q2 d (by omega)).2 k hk
      rw [show (0 : Int) + 10 * (d : Int) = 10 * (d : Int) by omega] at this
      exact this
    · rw [b4 253 j (by omega) (by omega) (by omega) (by omega) (by omega), u_N_off r3 (by omega) (by omega), o0 253 j (by omega) (by omega)]
  · have k' : S.1 = false := by cases hq : S.1 <;> simp_all
    rw [if_neg k, if_neg k]
    refine ⟨m1, r2 k', (u_N_off r3 (by omega) (by omega)).trans ((o0 251 3 (by omega) (by omega)).trans e3), (fun d k hd => absurd hd (Nat.not_lt_zero d)), (fun j _ => (u_N_off r3 (by omega) (by omega)).trans (o0 253 j (by omega) (by omega))), by rw [if_neg z, if_neg k]; exact (u_N_off r3 (by omega) (by omega)).trans (o0 251 52 (by omega) (by omega))⟩
