/-! PEOPLE in the reference: the loop over lines, and their coming in -/
theorem t_pf90 (m : z_M) (x1 x2 : Int) (h : ¬ m 251 16 = -1) : z_R 172 (m, 90, [(2, 251), (0, x1), (0, x2), (9, 0), (9, 0), (9, 0)], []) = some (m, some (0, z_sub (-1) (m 251 16))) := by
  have e : z_R 172 (m, 109, [(2, 251), (0, x1), (0, x2), (9, 0), (9, 0), (9, 0)], []) = some (m, some (0, z_sub (-1) (m 251 16))) := by
    rw [t_people_109, t_fine0 m h]
    show z_R 172 (m, 113, [(2, 251), (0, x1), (0, x2), (9, 0), (9, 0), (9, 0)], [(0, 0)]) = _
    rw [t_people_113, if_pos rfl]
  rw [t_people_90]
  by_cases c : m 251 13 ≤ m 251 15
  · rw [if_pos c]; exact e
  · rw [if_neg c, t_fault0 m _ h]
    exact e
theorem t_pf77 (m : z_M) (x1 x2 : Int) (h : ¬ m 251 16 = -1) : z_R 172 (m, 77, [(2, 251), (0, x1), (0, x2), (9, 0), (9, 0), (9, 0)], []) = some (m, some (0, z_sub (-1) (m 251 16))) := by
  rw [t_people_77, t_pass0 m _ h]
  show z_R 172 (m, 86, [(2, 251), (0, z_add x1 1), (0, x2), (9, 0), (9, 0), (9, 0)], [(0, 0)]) = _
  rw [t_people_86, t_people_37, if_pos rfl]
  exact t_pf90 m _ _ h
theorem t_ls {c s : Int} (hc0 : 0 ≤ c) (hc : c ≤ 3) (hs0 : 0 ≤ s) (hs : s ≤ 3) (p : Nat) : ∀ (f n : Nat) (m : z_M), p + n + f = 5 → u_W m → m 251 16 = -1 → m 251 1 = c → m 251 2 = s → m 251 3 = (p : Int) → ∃ m', ((u_ls (u_q m) c s (m 251 13) f (m 251 15) n).1 = true → z_R 172 (m, 37, [(2, 251), (0, (n : Int)), (0, 1), (9, 0), (9, 0), (9, 0)], []) = z_R 172 (m', 125, [(2, 251), (0, ((u_ls (u_q m) c s (m 251 13) f (m 251 15) n).2.2 : Int)), (0, 0), (0, 0), (9, 0), (9, 0)], []) ∧ ∀ d : Nat, n + d < (u_ls (u_q m) c s (m 251 13) f (m 251 15) n).2.2 → m' 257 (7 * (n + d)) = u_rm (u_q m) (m 251 15 + 10 * (d : Int)) ∧ ∀ k : Nat, k < 6 → m' 257 (7 * (n + d) + 1 + k) = u_dg (u_q m (m 251 15 + 10 * (d : Int) + 3 + (k : Int)))) ∧ ((u_ls (u_q m) c s (m 251 13) f (m 251 15) n).1 = false → z_R 172 (m, 37, [(2, 251), (0, (n : Int)), (0, 1), (9, 0), (9, 0), (9, 0)], []) = some (m', some (0, -1 - (u_ls (u_q m) c s (m 251 13) f (m 251 15) n).2.1))) ∧ z_same (u_N (7 * n) 34) m m' := by
  intro f
  induction f with
  | zero =>
    intro n m hn hw h h1 h2 h3
    obtain ⟨w1, w2, w3, w4, w5⟩ := id hw
    refine ⟨z_up m 251 16 (m 251 15), (fun z => by cases z), fun _ => ?_, u_N_at z_same.rf (Or.inr rfl)⟩
    rw [t_people_37, if_neg (by decide), t_fine1 m h]
    show z_R 172 (m, 45, [(2, 251), (0, (n : Int)), (0, 1), (9, 0), (9, 0), (9, 0)], [(0, 1)]) = _
    rw [t_people_45, if_neg (by decide), h3, z_add_eq (by omega) (by omega), if_pos (by omega), t_fault1 m _ h]
    show z_R 172 (z_up m 251 16 (m 251 15), 66, [(2, 251), (0, (n : Int)), (0, 1), (9, 0), (9, 0), (9, 0)], []) = _
    have k16 : (z_up m 251 16 (m 251 15)) 251 16 = m 251 15 := zu_self
    rw [t_people_66, t_pf77 _ _ _ (by rw [k16]; omega), k16, z_sub_eq (by omega) (by omega)]
    rfl
  | succ f ih =>
    intro n m hn hw h h1 h2 h3
    have hg := u_q_b hw
    obtain ⟨w1, w2, w3, w4, w5⟩ := id hw
    have b := u_line_b hg (c := c) (s := s) w2 w3
    obtain ⟨m1, a1, a2, a3, a4⟩ := t_line (n := n) (by omega) hc0 hc hs0 hs m hw h h1 h2
    have head : z_R 172 (m, 37, [(2, 251), (0, (n : Int)), (0, 1), (9, 0), (9, 0), (9, 0)], []) = z_R 172 (m1, 77, [(2, 251), (0, (n : Int)), (0, 1), (9, 0), (9, 0), (9, 0)], []) := by
      rw [t_people_37, if_neg (by decide), t_fine1 m h]
      show z_R 172 (m, 45, [(2, 251), (0, (n : Int)), (0, 1), (9, 0), (9, 0), (9, 0)], [(0, 1)]) = _
      have e7 : z_mul 7 (n : Int) = ((7 * n : Nat) : Int) := by rw [z_mul_eq (by omega) (by omega)]; omega
      rw [t_people_45, if_neg (by decide), h3, z_add_eq (by omega) (by omega), if_neg (by omega), e7, a1]
      rfl
    rw [head]
    unfold u_ls
    generalize u_line (u_q m) c s (m 251 15) = q at a3 a4 b ⊢
    have s1 : z_same (u_N (7 * n) 34) m m1 := u_N_wide a2 (Nat.le_refl _) (by omega)
    by_cases c1 : q.1 = false
    · rw [if_pos c1]
      have k16 := a4 c1
      refine ⟨m1, (fun z => by cases z), fun _ => ?_, s1⟩
      rw [t_pf77 _ _ _ (by rw [k16]; omega), k16, z_sub_eq (by omega) (by omega)]
    have c1' : q.1 = true := by cases hq : q.1 <;> simp_all
    obtain ⟨d1, d2, d3, d4⟩ := a3 c1'
    rw [if_neg c1]
    have gw : u_W m1 := u_N_W hw s1 (by omega) (by omega)
    have gq := u_N_q s1
    have g13 : m1 251 13 = m 251 13 := u_N_off s1 (by omega) (by omega)
    have en : z_add (n : Int) 1 = ((n + 1 : Nat) : Int) := by rw [z_add_eq (by omega) (by omega)]; omega
    have e9 := b.2.2 c1'
    have first : ∀ m' : z_M, (∀ k, k < 7 * (n + 1) → m' 257 k = m1 257 k) → m' 257 (7 * (n + 0)) = u_rm (u_q m) (m 251 15 + 10 * ((0 : Nat) : Int)) ∧ ∀ k : Nat, k < 6 → m' 257 (7 * (n + 0) + 1 + k) = u_dg (u_q m (m 251 15 + 10 * ((0 : Nat) : Int) + 3 + (k : Int))) := fun m' e1 => by
      rw [show m 251 15 + 10 * ((0 : Nat) : Int) = m 251 15 by omega]
      exact ⟨(e1 (7 * n) (by omega)).trans d3, fun k hk => (e1 (7 * n + 1 + k) (by omega)).trans (d4 k hk)⟩
    rw [t_people_77, t_pass1 m1 59 d1 gw, gq, d2, en]
    -- no more lines
    have stop : ∀ u : Int, u = 0 → z_R 172 (m1, 86, [(2, 251), (0, ((n + 1 : Nat) : Int)), (0, 1), (9, 0), (9, 0), (9, 0)], [(0, u)]) = z_R 172 (m1, 90, [(2, 251), (0, ((n + 1 : Nat) : Int)), (0, 0), (9, 0), (9, 0), (9, 0)], []) := fun u hu => by
      subst hu
      rw [t_people_86, t_people_37, if_pos rfl]
    by_cases c2 : m 251 13 ≤ q.2
    · have hn59 : ¬ u_q m q.2 = 59 := fun z => by
        have : u_q m q.2 = -1 := by unfold u_q u_nx; rw [if_neg (fun z => by omega)]
        omega
      rw [if_pos c2, if_neg hn59]
      refine ⟨m1, fun _ => ⟨?_, fun d hd => ?_⟩, (fun z => by cases z), s1⟩
      · show z_R 172 (m1, 86, [(2, 251), (0, ((n + 1 : Nat) : Int)), (0, 1), (9, 0), (9, 0), (9, 0)], [(0, 0)]) = _
        rw [stop 0 rfl, t_people_90, if_pos (by omega), t_people_109, t_fine1 m1 d1]
        show z_R 172 (m1, 113, [(2, 251), (0, ((n + 1 : Nat) : Int)), (0, 0), (9, 0), (9, 0), (9, 0)], [(0, 1)]) = _
        rw [t_people_113, if_neg (by decide)]
      · obtain rfl : d = 0 := by have : n + d < n + 1 := hd; omega
        exact first m1 (fun _ _ => rfl)
    rw [if_neg c2]
    by_cases c3 : u_q m q.2 = 59
    · have b3 := hg q.2 (by omega)
      rw [if_pos c3, if_pos c3]
      have s3 : z_same (u_N (7 * n) 34) m (z_up m1 251 15 (q.2 + 1)) := u_N_at s1 (Or.inl rfl)
      have k15 : (z_up m1 251 15 (q.2 + 1)) 251 15 = q.2 + 1 := zu_self
      have k13 : (z_up m1 251 15 (q.2 + 1)) 251 13 = m 251 13 := (zu_k (by decide)).trans g13
      obtain ⟨m', r1, r2, r3⟩ := ih (n + 1) (z_up m1 251 15 (q.2 + 1)) (by omega) (u_W_at gw (by omega) (by omega)) ((zu_k (by decide)).trans d1) ((zu_k (by decide)).trans ((u_N_off s1 (by omega) (by omega)).trans h1)) ((zu_k (by decide)).trans ((u_N_off s1 (by omega) (by omega)).trans h2)) ((zu_k (by decide)).trans ((u_N_off s1 (by omega) (by omega)).trans h3))
      rw [u_N_q s3, k15, k13] at r1 r2
      have go : (some (z_up m1 251 15 (q.2 + 1), some ((0, 1) : z_V))).bind (fun r => z_R 172 (r.1, 86, [(2, 251), (0, ((n + 1 : Nat) : Int)), (0, 1), (9, 0), (9, 0), (9, 0)], r.2.toList ++ [])) = z_R 172 (z_up m1 251 15 (q.2 + 1), 37, [(2, 251), (0, ((n + 1 : Nat) : Int)), (0, 1), (9, 0), (9, 0), (9, 0)], []) := t_people_86 _ _ _ _
      refine ⟨m', fun z => ⟨go.trans (r1 z).1, fun d hd => ?_⟩, fun z => go.trans (r2 z), s3.tr (u_N_wide r3 (by omega) (Nat.le_refl _))⟩
      cases d with
      | zero => exact first m' (fun k hk => (u_N_off r3 (by omega) (by omega)).trans (zu_p (by decide)))
      | succ d =>
        have := (r1 z).2 d (by omega)
        rw [show n + 1 + d = n + (d + 1) by omega, show q.2 + 1 + 10 * (d : Int) = m 251 15 + 10 * ((d + 1 : Nat) : Int) by omega] at this
        exact this
    · rw [if_neg c3, if_neg c3]
      refine ⟨z_up m1 251 16 q.2, (fun z => by cases z), fun _ => ?_, u_N_at s1 (Or.inr rfl)⟩
      show z_R 172 (m1, 86, [(2, 251), (0, ((n + 1 : Nat) : Int)), (0, 1), (9, 0), (9, 0), (9, 0)], [(0, 0)]) = _
      rw [stop 0 rfl, t_people_90, if_neg (by omega), t_fault1 m1 _ d1, d2]
      show z_R 172 (z_up m1 251 16 q.2, 109, [(2, 251), (0, ((n + 1 : Nat) : Int)), (0, 0), (9, 0), (9, 0), (9, 0)], []) = _
      have k16 : (z_up m1 251 16 q.2) 251 16 = q.2 := zu_self
      rw [t_people_109, t_fine0 _ (by rw [k16]; omega)]
      show z_R 172 (z_up m1 251 16 q.2, 113, [(2, 251), (0, ((n + 1 : Nat) : Int)), (0, 0), (9, 0), (9, 0), (9, 0)], [(0, 0)]) = _
      rw [t_people_113, if_pos rfl, k16, z_sub_eq (by omega) (by omega)]
