/-! house, of the reference, with the State -/
theorem T_hou : ∀ (f : Nat) (y x1 w : Int) (v4 v5 : z_V) (m : z_M), u_W m → m 251 16 = -1 → 0 ≤ y → y + (f : Int) = 3 → y < 3 → 1 ≤ w → w ≤ 3 → (y = 0 → w = 3) → (¬ y = 0 → w = x1) → ∃ (m1 : z_M) (v3 : Int) (v4' v5' : z_V), z_same u_M m m1 ∧ ((u_hou (u_q m) (m 251 13) f y w (m 251 15) (m 256)).1 = false → z_R 163 (m, 30, [(2, 251), (0, x1), (0, y), (0, 1), v4, v5], []) = some (m1, some (0, -1 - (u_hou (u_q m) (m 251 13) f y w (m 251 15) (m 256)).2.2.2.1))) ∧ ((u_hou (u_q m) (m 251 13) f y w (m 251 15) (m 256)).1 = true → z_R 163 (m, 30, [(2, 251), (0, x1), (0, y), (0, 1), v4, v5], []) = z_R 163 (m1, 162, [(2, 251), (0, (u_hou (u_q m) (m 251 13) f y w (m 251 15) (m 256)).2.1), (0, (u_hou (u_q m) (m 251 13) f y w (m 251 15) (m 256)).2.2.1), (0, v3), v4', v5'], []) ∧ m1 251 16 = -1 ∧ m1 251 13 ≤ m1 251 15 ∧ m1 256 = (u_hou (u_q m) (m 251 13) f y w (m 251 15) (m 256)).2.2.2.2) := by
  intro f
  induction f with
  | zero => intro y x1 w v4 v5 m hw hf hy0 hy hy3; omega
  | succ f ih =>
    intro y x1 w v4 v5 m hw hf hy0 hy hy3 hw0 hw3 hwy hwn
    have hg := u_q_b hw
    obtain ⟨w1, w2, w3, w4, w5⟩ := id hw
    have ey : z_add y 1 = y + 1 := z_add_eq (by omega) (by omega)
    rw [t_house_30, if_neg (by decide), t_fine1 m hf]
    have e38 : ((some (m, some (0, 1)) : Option z_Q).bind fun r => z_R 163 (r.1, 38, [(2, 251), (0, x1), (0, y), (0, 1), v4, v5], r.2.toList ++ [])) = z_R 163 (m, 47, [(2, 251), (0, x1), (0, y), (0, 1), (0, 0), (0, 1)], []) := by
      show z_R 163 (m, 38, [(2, 251), (0, x1), (0, y), (0, 1), v4, v5], [(0, 1)]) = _
      rw [t_house_38, if_neg (by decide)]
    rw [e38]
    obtain ⟨m1, x4, a1, a2, d4⟩ := t_sto hy0 (by omega) 3 0 x1 1 w m hw hf (by decide) (by decide) (by omega) hw3 hwy hwn
    rw [a1]
    have b := u_sto_b hg (y := y) 3 0 w (m 251 15) (m 256) (by decide) hw0 hw3 w2 w3
    unfold u_hou
    generalize u_sto (u_q m) y 3 0 w (m 251 15) (m 256) = S at a2 b ⊢
    obtain ⟨ok, c1, i1, b1⟩ := S
    try simp only at a2 b ⊢
    by_cases k1 : ok = false
    · subst k1
      rw [if_neg (show ¬ ((false : Bool) = true) by decide), if_pos (show (false : Bool) = false from rfl)]
      exact ⟨m1, 0, (9, 0), (9, 0), d4, fun _ => rfl, fun z => by cases z⟩
    have k1' : ok = true := by cases ok <;> simp_all
    obtain ⟨d1, d2, d3⟩ := a2 k1'
    have hw1 : u_W m1 := u_W_sm hw d4 (by omega) (by omega)
    have e13 : m1 251 13 = m 251 13 := d4.at (by decide)
    rw [if_pos k1', if_neg k1, t_house_136, ey]
    by_cases k2 : m 251 13 ≤ i1
    · rw [if_pos k2]
      have fin : ∃ (m2 : z_M) (v3 : Int) (v4' v5' : z_V), z_same u_M m m2 ∧ (((true, c1, y + 1, i1, b1) : u_H).1 = false → z_R 163 (m1, 30, [(2, 251), (0, c1), (0, y + 1), (0, 0), (0, x4), (0, 0)], []) = some (m2, some (0, -1 - ((true, c1, y + 1, i1, b1) : u_H).2.2.2.1))) ∧ (((true, c1, y + 1, i1, b1) : u_H).1 = true → z_R 163 (m1, 30, [(2, 251), (0, c1), (0, y + 1), (0, 0), (0, x4), (0, 0)], []) = z_R 163 (m2, 162, [(2, 251), (0, ((true, c1, y + 1, i1, b1) : u_H).2.1), (0, ((true, c1, y + 1, i1, b1) : u_H).2.2.1), (0, v3), v4', v5'], []) ∧ m2 251 16 = -1 ∧ m2 251 13 ≤ m2 251 15 ∧ m2 256 = ((true, c1, y + 1, i1, b1) : u_H).2.2.2.2) := by
        rw [t_house_30, if_pos rfl]
        exact ⟨m1, 0, (0, x4), (0, 0), d4, (fun z => by cases z), fun _ => ⟨rfl, d1, by omega, d3⟩⟩
      by_cases k3 : 3 ≤ y + 1
      · rw [if_pos k3]; exact fin
      · have hn : ¬ u_q m1 (m1 251 15) = 47 := fun z => by
          have : u_q m1 (m1 251 15) = -1 := by
            unfold u_q u_nx
            rw [if_neg (fun z => by omega)]
          omega
        rw [if_neg k3, t_pass1 m1 47 d1 hw1, if_neg hn]
        have e150 : ((some (m1, some (0, 0)) : Option z_Q).bind fun r => z_R 163 (r.1, 150, [(2, 251), (0, c1), (0, y + 1), (0, 1), (0, x4), (0, 0)], r.2.toList ++ [])) = z_R 163 (m1, 30, [(2, 251), (0, c1), (0, y + 1), (0, 0), (0, x4), (0, 0)], []) := by
          show z_R 163 (m1, 150, [(2, 251), (0, c1), (0, y + 1), (0, 1), (0, x4), (0, 0)], [(0, 0)]) = _
          rw [t_house_150, if_pos rfl]
        rw [e150]
        exact fin
    rw [if_neg k2]
    have nofin : ∃ (m2 : z_M) (v3 : Int) (v4' v5' : z_V), z_same u_M m m2 ∧ (((false, c1, y + 1, i1, b1) : u_H).1 = false → z_R 163 (m1, 30, [(2, 251), (0, c1), (0, y + 1), (0, 0), (0, x4), (0, 0)], []) = some (m2, some (0, -1 - ((false, c1, y + 1, i1, b1) : u_H).2.2.2.1))) ∧ (((false, c1, y + 1, i1, b1) : u_H).1 = true → z_R 163 (m1, 30, [(2, 251), (0, c1), (0, y + 1), (0, 0), (0, x4), (0, 0)], []) = z_R 163 (m2, 162, [(2, 251), (0, ((false, c1, y + 1, i1, b1) : u_H).2.1), (0, ((false, c1, y + 1, i1, b1) : u_H).2.2.1), (0, v3), v4', v5'], []) ∧ m2 251 16 = -1 ∧ m2 251 13 ≤ m2 251 15 ∧ m2 256 = ((false, c1, y + 1, i1, b1) : u_H).2.2.2.2) := by
      rw [t_house_30, if_pos rfl]
      obtain ⟨m', z, z'⟩ := t_no162 m1 c1 (y + 1) 0 (0, x4) (0, 0) d1 (by omega) (by omega) (by omega)
      exact ⟨m', 0, (9, 0), (9, 0), d4.tr z', (fun _ => by rw [z, d2]), fun w => by cases w⟩
    by_cases k3 : 3 ≤ y + 1
    · rw [if_pos k3, if_pos k3]; exact nofin
    rw [if_neg k3, if_neg k3, t_pass1 m1 47 d1 hw1, u_q_sm d4, d2]
    by_cases k4 : u_q m i1 = 47
    · rw [if_pos k4, if_pos k4]
      have hb := hg i1 (by omega)
      have e150 : ((some (z_up m1 251 15 (i1 + 1), some (0, 1)) : Option z_Q).bind fun r => z_R 163 (r.1, 150, [(2, 251), (0, c1), (0, y + 1), (0, 1), (0, x4), (0, 0)], r.2.toList ++ [])) = z_R 163 (z_up m1 251 15 (i1 + 1), 30, [(2, 251), (0, c1), (0, y + 1), (0, 1), (0, x4), (0, 0)], []) := by
        show z_R 163 (z_up m1 251 15 (i1 + 1), 150, [(2, 251), (0, c1), (0, y + 1), (0, 1), (0, x4), (0, 0)], [(0, 1)]) = _
        rw [t_house_150, if_neg (by decide)]
      rw [e150]
      have g1 : (z_up m1 251 15 (i1 + 1)) 251 15 = i1 + 1 := zu_self
      have g2 : (z_up m1 251 15 (i1 + 1)) 256 = b1 := (zu_rowne (by decide)).trans d3
      have g3 : (z_up m1 251 15 (i1 + 1)) 251 16 = -1 := (zu_k (by decide)).trans d1
      have g4 : (z_up m1 251 15 (i1 + 1)) 251 13 = m 251 13 := (zu_k (by decide)).trans e13
      obtain ⟨m', v3, v4', v5', z0, z, z'⟩ := ih (y + 1) c1 c1 (0, x4) (0, 0) (z_up m1 251 15 (i1 + 1)) (u_W_at hw1 (by omega) (by omega)) g3 (by omega) (by omega) (by omega) b.1 b.2.1 (fun z => by omega) (fun _ => rfl)
      rw [u_q_at, u_q_sm d4, g4, g1, g2] at z z'
      exact ⟨m', v3, v4', v5', (d4.up1 (lo := 15) (hi := 16) (by decide) (by decide) (by decide)).tr z0, z, z'⟩
    · rw [if_neg k4, if_neg k4]
      have e150 : ((some (m1, some (0, 0)) : Option z_Q).bind fun r => z_R 163 (r.1, 150, [(2, 251), (0, c1), (0, y + 1), (0, 1), (0, x4), (0, 0)], r.2.toList ++ [])) = z_R 163 (m1, 30, [(2, 251), (0, c1), (0, y + 1), (0, 0), (0, x4), (0, 0)], []) := by
        show z_R 163 (m1, 150, [(2, 251), (0, c1), (0, y + 1), (0, 1), (0, x4), (0, 0)], [(0, 0)]) = _
        rw [t_house_150, if_pos rfl]
      rw [e150]
      exact nofin
theorem T_l307 : ∀ (f x : Nat) (x1 x2 x3 x4 : Int) (m : z_M), x + f = 2 → ∃ m', z_R 163 (m, 307, [(2, 251), (0, x1), (0, x2), (0, x3), (0, x4), (0, (x : Int))], []) = some (m', some (0, z_mul x1 x2)) ∧ (∀ k, x ≤ k → k < 2 → m' 276 k = 0) ∧ ∀ p k, ¬ (p = 276 ∧ x ≤ k ∧ k < 2) → m' p k = m p k := by
  intro f
  induction f with
  | zero =>
    intro x x1 x2 x3 x4 m hx
    rw [t_house_307, if_pos (by omega)]
    exact ⟨m, rfl, fun k h1 h2 => by omega, fun _ _ _ => rfl⟩
  | succ f ih =>
    intro x x1 x2 x3 x4 m hx
    obtain ⟨m', a1, a2, a3⟩ := ih (x + 1) x1 x2 x3 x4 (z_up m 276 x 0) (by omega)
    rw [t_house_307, if_neg (by omega), if_pos (by omega), z_add_eq (by omega) (by omega), show z_bo 0 = 0 by decide +kernel, Int.toNat_natCast, tc1]
    refine ⟨m', a1, fun k h1 h2 => ?_, fun p k hn => ?_⟩
    · by_cases hk : k = x
      · rw [hk, a3 276 x (by omega), zu_self]
      · exact a2 k (by omega) h2
    · rw [a3 p k (by omega), X_up (by omega)]
abbrev u_KL : List (Nat × Nat × Nat) := [(251, 3, 3), (251, 25, 25), (252, 0, 36), (276, 0, 1)]
theorem T_l241 {w h : Int} : ∀ (f x : Nat) (x1 x2 x3 x4 : Int) (m : z_M), x + f = 9 → m 251 1 = w → m 251 2 = h → ∃ m', z_R 163 (m, 241, [(2, 251), (0, x1), (0, x2), (0, x3), (0, x4), (0, (x : Int))], []) = some (m', some (0, z_mul x1 x2)) ∧ (m' 251 3 = 0 ∧ m' 251 25 = 0 ∧ m' 252 34 = -1 ∧ m' 252 36 = x4 ∧ ∀ i, i < 2 → m' 276 i = 0) ∧ (∀ k, ¬ k = 34 → ¬ k = 36 → m' 252 k = if x ≤ k ∧ k < 9 ∧ ¬ u_hs w h (k : Int) = 0 then m 256 k else m 252 k) ∧ z_same u_KL m m' := by
  intro f
  induction f with
  | zero =>
    intro x x1 x2 x3 x4 m hx hw hh
    rw [t_house_241, if_pos (by omega)]
    obtain ⟨m', a1, a2, a3⟩ := T_l307 2 0 x1 x2 x3 x4 (z_up (z_up (z_up (z_up m 252 34 (-1)) 252 36 x4) 251 3 0) 251 25 0) rfl
    have a1 : z_R 163 (z_up (z_up (z_up (z_up m 252 34 (-1)) 252 36 x4) 251 3 0) 251 25 0, 307, [(2, 251), (0, x1), (0, x2), (0, x3), (0, x4), (0, 0)], []) = some (m', some (0, z_mul x1 x2)) := a1
    have s0 : z_same u_KL m (z_up (z_up (z_up (z_up m 252 34 (-1)) 252 36 x4) 251 3 0) 251 25 0) := (((z_same.rf.upo (by (try unfold u_KL); (try unfold u_M); first | exact z_on_h rfl (by omega) (by omega) | exact z_on_t (z_on_h rfl (by omega) (by omega)) | exact z_on_t (z_on_t (z_on_h rfl (by omega) (by omega))) | exact z_on_t (z_on_t (z_on_t (z_on_h rfl (by omega) (by omega)))) | exact z_on_t (z_on_t (z_on_t (z_on_t (z_on_h rfl (by omega) (by omega))))) | exact z_on_t (z_on_t (z_on_t (z_on_t (z_on_t (z_on_h rfl (by omega) (by omega)))))) | exact z_on_t (z_on_t (z_on_t (z_on_t (z_on_t (z_on_t (z_on_h rfl (by omega) (by omega))))))) | exact z_on_t (z_on_t (z_on_t (z_on_t (z_on_t (z_on_t (z_on_t (z_on_h rfl (by omega) (by omega)))))))) | exact z_on_t (z_on_t (z_on_t (z_on_t (z_on_t (z_on_t (z_on_t (z_on_t (z_on_h rfl (by omega) (by omega))))))))) | exact z_on_t (z_on_t (z_on_t (z_on_t (z_on_t (z_on_t (z_on_t (z_on_t (z_on_t (z_on_h rfl (by omega) (by omega)))))))))) | exact z_on_t (z_on_t (z_on_t (z_on_t (z_on_t (z_on_t (z_on_t (z_on_t (z_on_t (z_on_t (z_on_h rfl (by omega) (by omega))))))))))) | exact z_on_t (z_on_t (z_on_t (z_on_t (z_on_t (z_on_t (z_on_t (z_on_t (z_on_t (z_on_t (z_on_t (z_on_h rfl (by omega) (by omega)))))))))))) | exact z_on_t (z_on_t (z_on_t (z_on_t (z_on_t (z_on_t (z_on_t (z_on_t (z_on_t (z_on_t (z_on_t (z_on_t (z_on_h rfl (by omega) (by omega))))))))))))))).upo (by (try unfold u_KL); (try unfold u_M); first | exact z_on_h rfl (by omega) (by omega) | exact z_on_t (z_on_h rfl (by omega) (by omega)) | exact z_on_t (z_on_t (z_on_h rfl (by omega) (by omega))) | exact z_on_t (z_on_t (z_on_t (z_on_h rfl (by omega) (by omega)))) | exact z_on_t (z_on_t (z_on_t (z_on_t (z_on_h rfl (by omega) (by omega))))) | exact z_on_t (z_on_t (z_on_t (z_on_t (z_on_t (z_on_h rfl (by omega) (by omega)))))) | exact z_on_t (z_on_t (z_on_t (z_on_t (z_on_t (z_on_t (z_on_h rfl (by omega) (by omega))))))) | exact z_on_t (z_on_t (z_on_t (z_on_t (z_on_t (z_on_t (z_on_t (z_on_h rfl (by omega) (by omega)))))))) | exact z_on_t (z_on_t (z_on_t (z_on_t (z_on_t (z_on_t (z_on_t (z_on_t (z_on_h rfl (by omega) (by omega))))))))) | exact z_on_t (z_on_t (z_on_t (z_on_t (z_on_t (z_on_t (z_on_t (z_on_t (z_on_t (z_on_h rfl (by omega) (by omega)))))))))) | exact z_on_t (z_on_t (z_on_t (z_on_t (z_on_t (z_on_t (z_on_t (z_on_t (z_on_t (z_on_t (z_on_h rfl (by omega) (by omega))))))))))) | exact z_on_t (z_on_t (z_on_t (z_on_t (z_on_t (z_on_t (z_on_t (z_on_t (z_on_t (z_on_t (z_on_t (z_on_h rfl (by omega) (by omega)))))))))))) | exact z_on_t (z_on_t (z_on_t (z_on_t (z_on_t (z_on_t (z_on_t (z_on_t (z_on_t (z_on_t (z_on_t (z_on_t (z_on_h rfl (by omega) (by omega))))))))))))))).upo (by (try unfold u_KL); (try unfold u_M); first | exact z_on_h rfl (by omega) (by omega) | exact z_on_t (z_on_h rfl (by omega) (by omega)) | exact z_on_t (z_on_t (z_on_h rfl (by omega) (by omega))) | exact z_on_t (z_on_t (z_on_t (z_on_h rfl (by omega) (by omega)))) | exact z_on_t (z_on_t (z_on_t (z_on_t (z_on_h rfl (by omega) (by omega))))) | exact z_on_t (z_on_t (z_on_t (z_on_t (z_on_t (z_on_h rfl (by omega) (by omega)))))) | exact z_on_t (z_on_t (z_on_t (z_on_t (z_on_t (z_on_t (z_on_h rfl (by omega) (by omega))))))) | exact z_on_t (z_on_t (z_on_t (z_on_t (z_on_t (z_on_t (z_on_t (z_on_h rfl (by omega) (by omega)))))))) | exact z_on_t (z_on_t (z_on_t (z_on_t (z_on_t (z_on_t (z_on_t (z_on_t (z_on_h rfl (by omega) (by omega))))))))) | exact z_on_t (z_on_t (z_on_t (z_on_t (z_on_t (z_on_t (z_on_t (z_on_t (z_on_t (z_on_h rfl (by omega) (by omega)))))))))) | exact z_on_t (z_on_t (z_on_t (z_on_t (z_on_t (z_on_t (z_on_t (z_on_t (z_on_t (z_on_t (z_on_h rfl (by omega) (by omega))))))))))) | exact z_on_t (z_on_t (z_on_t (z_on_t (z_on_t (z_on_t (z_on_t (z_on_t (z_on_t (z_on_t (z_on_t (z_on_h rfl (by omega) (by omega)))))))))))) | exact z_on_t (z_on_t (z_on_t (z_on_t (z_on_t (z_on_t (z_on_t (z_on_t (z_on_t (z_on_t (z_on_t (z_on_t (z_on_h rfl (by omega) (by omega))))))))))))))).upo (by (try unfold u_KL); (try unfold u_M); first | exact z_on_h rfl (by omega) (by omega) | exact z_on_t (z_on_h rfl (by omega) (by omega)) | exact z_on_t (z_on_t (z_on_h rfl (by omega) (by omega))) | exact z_on_t (z_on_t (z_on_t (z_on_h rfl (by omega) (by omega)))) | exact z_on_t (z_on_t (z_on_t (z_on_t (z_on_h rfl (by omega) (by omega))))) | exact z_on_t (z_on_t (z_on_t (z_on_t (z_on_t (z_on_h rfl (by omega) (by omega)))))) | exact z_on_t (z_on_t (z_on_t (z_on_t (z_on_t (z_on_t (z_on_h rfl (by omega) (by omega))))))) | exact z_on_t (z_on_t (z_on_t (z_on_t (z_on_t (z_on_t (z_on_t (z_on_h rfl (by omega) (by omega)))))))) | exact z_on_t (z_on_t (z_on_t (z_on_t (z_on_t (z_on_t (z_on_t (z_on_t (z_on_h rfl (by omega) (by omega))))))))) | exact z_on_t (z_on_t (z_on_t (z_on_t (z_on_t (z_on_t (z_on_t (z_on_t (z_on_t (z_on_h rfl (by omega) (by omega)))))))))) | exact z_on_t (z_on_t (z_on_t (z_on_t (z_on_t (z_on_t (z_on_t (z_on_t (z_on_t (z_on_t (z_on_h rfl (by omega) (by omega))))))))))) | exact z_on_t (z_on_t (z_on_t (z_on_t (z_on_t (z_on_t (z_on_t (z_on_t (z_on_t (z_on_t (z_on_t (z_on_h rfl (by omega) (by omega)))))))))))) | exact z_on_t (z_on_t (z_on_t (z_on_t (z_on_t (z_on_t (z_on_t (z_on_t (z_on_t (z_on_t (z_on_t (z_on_t (z_on_h rfl (by omega) (by omega))))))))))))))
    refine ⟨m', a1, ⟨?_, ?_, ?_, ?_, fun i hi => a2 i (Nat.zero_le _) hi⟩, fun k h1 h2 => ?_, s0.tr fun p k hn => a3 p k fun z => hn (276, 0, 1) (by decide) ⟨z.1.symm, Nat.zero_le _, by show k ≤ 1; omega⟩⟩
    · rw [a3 251 3 (by decide), zu_k (by decide), zu_self]
    · rw [a3 251 25 (by decide), zu_self]
    · rw [a3 252 34 (by decide), zu_p (by decide), zu_p (by decide), zu_k (by decide), zu_self]
    · rw [a3 252 36 (by decide), zu_p (by decide), zu_p (by decide), zu_self]
    · rw [a3 252 k (by omega), zu_p (by decide), zu_p (by decide), zu_k h2, zu_k h1, if_neg (by omega)]
  | succ f ih =>
    intro x x1 x2 x3 x4 m hx hw hh
    rw [t_house_241, if_neg (by omega), t_roomv, hw, hh]
    show ∃ m', z_R 163 (m, 254, [(2, 251), (0, x1), (0, x2), (0, x3), (0, x4), (0, (x : Int))], [(0, u_hs w h (x : Int))]) = _ ∧ _
    rw [t_house_254, z_add_eq (by omega) (by omega), Int.toNat_natCast, tc1]
    by_cases c : u_hs w h (x : Int) = 0
    · rw [if_pos c]
      obtain ⟨m', a1, a2, a3, a4⟩ := ih (x + 1) x1 x2 x3 x4 m (by omega) hw hh
      refine ⟨m', a1, a2, fun k h1 h2 => ?_, a4⟩
      rw [a3 k h1 h2]
      by_cases hkx : k = x
      · rw [hkx, if_neg (fun z => by omega), if_neg (fun z => z.2.2 c)]
      · by_cases z : x + 1 ≤ k ∧ k < 9 ∧ ¬ u_hs w h (k : Int) = 0
        · rw [if_pos z, if_pos ⟨by omega, z.2⟩]
        · rw [if_neg z, if_neg (fun y => z ⟨by omega, y.2⟩)]
    · rw [if_neg c, if_pos (by omega), if_pos (by omega)]
      obtain ⟨m', a1, a2, a3, a4⟩ := ih (x + 1) x1 x2 x3 x4 (z_up m 252 x (m 256 x)) (by omega) ((zu_p (by decide)).trans hw) ((zu_p (by decide)).trans hh)
      refine ⟨m', a1, a2, fun k h1 h2 => ?_, (z_same.rf.upo (by (try unfold u_KL); (try unfold u_M); first | exact z_on_h rfl (by omega) (by omega) | exact z_on_t (z_on_h rfl (by omega) (by omega)) | exact z_on_t (z_on_t (z_on_h rfl (by omega) (by omega))) | exact z_on_t (z_on_t (z_on_t (z_on_h rfl (by omega) (by omega)))) | exact z_on_t (z_on_t (z_on_t (z_on_t (z_on_h rfl (by omega) (by omega))))) | exact z_on_t (z_on_t (z_on_t (z_on_t (z_on_t (z_on_h rfl (by omega) (by omega)))))) | exact z_on_t (z_on_t (z_on_t (z_on_t (z_on_t (z_on_t (z_on_h rfl (by omega) (by omega))))))) | exact z_on_t (z_on_t (z_on_t (z_on_t (z_on_t (z_on_t (z_on_t (z_on_h rfl (by omega) (by omega)))))))) | exact z_on_t (z_on_t (z_on_t (z_on_t (z_on_t (z_on_t (z_on_t (z_on_t (z_on_h rfl (by omega) (by omega))))))))) | exact z_on_t (z_on_t (z_on_t (z_on_t (z_on_t (z_on_t (z_on_t (z_on_t (z_on_t (z_on_h rfl (by omega) (by omega)))))))))) | exact z_on_t (z_on_t (z_on_t (z_on_t (z_on_t (z_on_t (z_on_t (z_on_t (z_on_t (z_on_t (z_on_h rfl (by omega) (by omega))))))))))) | exact z_on_t (z_on_t (z_on_t (z_on_t (z_on_t (z_on_t (z_on_t (z_on_t (z_on_t (z_on_t (z_on_t (z_on_h rfl (by omega) (by omega)))))))))))) | exact z_on_t (z_on_t (z_on_t (z_on_t (z_on_t (z_on_t (z_on_t (z_on_t (z_on_t (z_on_t (z_on_t (z_on_t (z_on_h rfl (by omega) (by omega))))))))))))))).tr a4⟩
      rw [a3 k h1 h2, zu_p (by decide), zu_at]
      by_cases hkx : k = x
      · rw [hkx, if_neg (fun z => by omega), if_pos rfl, if_pos ⟨Nat.le_refl _, by omega, c⟩]
      · rw [if_neg hkx]
        by_cases z : x + 1 ≤ k ∧ k < 9 ∧ ¬ u_hs w h (k : Int) = 0
        · rw [if_pos z, if_pos ⟨by omega, z.2⟩]
        · rw [if_neg z, if_neg (fun y => z ⟨by omega, y.2⟩)]
theorem T_l217 {w h : Int} : ∀ (f x : Nat) (x1 x2 x3 x4 : Int) (m : z_M), x + f = 37 → m 251 1 = w → m 251 2 = h → ∃ m', z_R 163 (m, 217, [(2, 251), (0, x1), (0, x2), (0, x3), (0, x4), (0, (x : Int))], []) = some (m', some (0, z_mul x1 x2)) ∧ (m' 251 3 = 0 ∧ m' 251 25 = 0 ∧ m' 252 34 = -1 ∧ m' 252 36 = x4 ∧ ∀ i, i < 2 → m' 276 i = 0) ∧ (∀ k, ¬ k = 34 → ¬ k = 36 → k < 37 → m' 252 k = if k < 9 ∧ ¬ u_hs w h (k : Int) = 0 then m 256 k else if x ≤ k then 0 else m 252 k) ∧ z_same u_KL m m' := by
  intro f
  induction f with
  | zero =>
    intro x x1 x2 x3 x4 m hx hw hh
    rw [t_house_217, if_pos (by omega)]
    obtain ⟨m', a1, a2, a3, a4⟩ := T_l241 (w := w) (h := h) 9 0 x1 x2 x3 x4 m rfl hw hh
    refine ⟨m', a1, a2, fun k h1 h2 h3 => ?_, a4⟩
    rw [a3 k h1 h2]
    by_cases z : k < 9 ∧ ¬ u_hs w h (k : Int) = 0
    · rw [if_pos z, if_pos ⟨Nat.zero_le _, z⟩]
    · rw [if_neg z, if_neg (fun y => z y.2), if_neg (by omega)]
  | succ f ih =>
    intro x x1 x2 x3 x4 m hx hw hh
    obtain ⟨m', a1, a2, a3, a4⟩ := ih (x + 1) x1 x2 x3 x4 (z_up m 252 x 0) (by omega) ((zu_p (by decide)).trans hw) ((zu_p (by decide)).trans hh)
    rw [t_house_217, if_neg (by omega), if_pos (by omega), z_add_eq (by omega) (by omega), Int.toNat_natCast, tc1]
    refine ⟨m', a1, a2, fun k h1 h2 h3 => ?_, (z_same.rf.upo (by (try unfold u_KL); (try unfold u_M); first | exact z_on_h rfl (by omega) (by omega) | exact z_on_t (z_on_h rfl (by omega) (by omega)) | exact z_on_t (z_on_t (z_on_h rfl (by omega) (by omega))) | exact z_on_t (z_on_t (z_on_t (z_on_h rfl (by omega) (by omega)))) | exact z_on_t (z_on_t (z_on_t (z_on_t (z_on_h rfl (by omega) (by omega))))) | exact z_on_t (z_on_t (z_on_t (z_on_t (z_on_t (z_on_h rfl (by omega) (by omega)))))) | exact z_on_t (z_on_t (z_on_t (z_on_t (z_on_t (z_on_t (z_on_h rfl (by omega) (by omega))))))) | exact z_on_t (z_on_t (z_on_t (z_on_t (z_on_t (z_on_t (z_on_t (z_on_h rfl (by omega) (by omega)))))))) | exact z_on_t (z_on_t (z_on_t (z_on_t (z_on_t (z_on_t (z_on_t (z_on_t (z_on_h rfl (by omega) (by omega))))))))) | exact z_on_t (z_on_t (z_on_t (z_on_t (z_on_t (z_on_t (z_on_t (z_on_t (z_on_t (z_on_h rfl (by omega) (by omega)))))))))) | exact z_on_t (z_on_t (z_on_t (z_on_t (z_on_t (z_on_t (z_on_t (z_on_t (z_on_t (z_on_t (z_on_h rfl (by omega) (by omega))))))))))) | exact z_on_t (z_on_t (z_on_t (z_on_t (z_on_t (z_on_t (z_on_t (z_on_t (z_on_t (z_on_t (z_on_t (z_on_h rfl (by omega) (by omega)))))))))))) | exact z_on_t (z_on_t (z_on_t (z_on_t (z_on_t (z_on_t (z_on_t (z_on_t (z_on_t (z_on_t (z_on_t (z_on_t (z_on_h rfl (by omega) (by omega))))))))))))))).tr a4⟩
    rw [a3 k h1 h2 h3, zu_p (by decide), zu_at]
    by_cases z : k < 9 ∧ ¬ u_hs w h (k : Int) = 0
    · rw [if_pos z, if_pos z]
    · rw [if_neg z, if_neg z]
      by_cases hk : k = x
      · rw [if_neg (by omega), if_pos hk, if_pos (by omega)]
      · by_cases hx' : x + 1 ≤ k
        · rw [if_pos hx', if_pos (by omega)]
        · rw [if_neg hx', if_neg hk, if_neg (by omega)]
section
variable {w h n : Nat} {heat price : Int} {D A : Nat → Int} {c : Nat} {U : Nat → Nat → Int} {kn : Nat → Int} {KS : Nat → Nat → Int} {cs : List Int} {m : z_M}
theorem R_houseC (hi : R_is w h n heat price D A c U kn KS cs m) (h0 : 0 ≤ m 251 8) (h1 : m 251 8 ≤ 80) (hr : ∀ k, k < 80 → -128 ≤ m 254 k ∧ m 254 k ≤ 127) {S : u_H} (hS : u_hou (u_nx (u_t m) (m 251 8) 80) (m 251 8) 3 0 3 0 (m 256) = S) : ∃ m', z_R 163 (m, 0, [(2, 251), (9, 0), (9, 0), (9, 0), (9, 0), (9, 0)], []) = some (m', some (0, u_ans S)) ∧ (S.1 = false → R_is w h n heat price D A c U kn KS cs m') ∧ (S.1 = true → ∃ w' h' : Nat, S.2.1 = (w' : Int) ∧ S.2.2.1 = (h' : Int) ∧ R_is w' h' 0 heat price D (u_hA (w' : Int) (h' : Int) S.2.2.2.2 (A 36)) 0 U (fun _ => -1) KS cs m') := by
  have b := u_hou_b (g := u_nx (u_t m) (m 251 8) 80) (u_nx_b h1) (n := m 251 8) 3 0 3 0 (m 256) (by decide) (by decide) (by decide) (by decide) (by decide) (by decide)
  rw [hS] at b
  rw [t_house_0, t_begin_0]
  have e8 : (z_up m 251 11 0) 251 8 = m 251 8 := zu_k (by decide)
  show ∃ m', z_R 163 (z_up (z_up (z_up (z_up (z_up (z_up m 251 11 0) 251 12 254) 251 13 (m 251 8)) 251 14 80) 251 15 0) 251 16 (-1), 19, [(2, 251), (9, 0), (9, 0), (9, 0), (9, 0), (9, 0)], []) = _ ∧ _
  rw [t_house_19]
  have q0 : z_same [(251, 8, 16)] m (z_up (z_up (z_up (z_up (z_up (z_up (z_up m 251 11 0) 251 12 254) 251 13 (m 251 8)) 251 14 80) 251 15 0) 251 16 (-1)) 251 8 0) := ((((((z_same.rf.upo (by (try unfold u_KL); (try unfold u_M); first | exact z_on_h rfl (by omega) (by omega) | exact z_on_t (z_on_h rfl (by omega) (by omega)) | exact z_on_t (z_on_t (z_on_h rfl (by omega) (by omega))) | exact z_on_t (z_on_t (z_on_t (z_on_h rfl (by omega) (by omega)))) | exact z_on_t (z_on_t (z_on_t (z_on_t (z_on_h rfl (by omega) (by omega))))) | exact z_on_t (z_on_t (z_on_t (z_on_t (z_on_t (z_on_h rfl (by omega) (by omega)))))) | exact z_on_t (z_on_t (z_on_t (z_on_t (z_on_t (z_on_t (z_on_h rfl (by omega) (by omega))))))) | exact z_on_t (z_on_t (z_on_t (z_on_t (z_on_t (z_on_t (z_on_t (z_on_h rfl (by omega) (by omega)))))))) | exact z_on_t (z_on_t (z_on_t (z_on_t (z_on_t (z_on_t (z_on_t (z_on_t (z_on_h rfl (by omega) (by omega))))))))) | exact z_on_t (z_on_t (z_on_t (z_on_t (z_on_t (z_on_t (z_on_t (z_on_t (z_on_t (z_on_h rfl (by omega) (by omega)))))))))) | exact z_on_t (z_on_t (z_on_t (z_on_t (z_on_t (z_on_t (z_on_t (z_on_t (z_on_t (z_on_t (z_on_h rfl (by omega) (by omega))))))))))) | exact z_on_t (z_on_t (z_on_t (z_on_t (z_on_t (z_on_t (z_on_t (z_on_t (z_on_t (z_on_t (z_on_t (z_on_h rfl (by omega) (by omega)))))))))))) | exact z_on_t (z_on_t (z_on_t (z_on_t (z_on_t (z_on_t (z_on_t (z_on_t (z_on_t (z_on_t (z_on_t (z_on_t (z_on_h rfl (by omega) (by omega))))))))))))))).upo (by (try unfold u_KL); (try unfold u_M); first | exact z_on_h rfl (by omega) (by omega) | exact z_on_t (z_on_h rfl (by omega) (by omega)) | exact z_on_t (z_on_t (z_on_h rfl (by omega) (by omega))) | exact z_on_t (z_on_t (z_on_t (z_on_h rfl (by omega) (by omega)))) | exact z_on_t (z_on_t (z_on_t (z_on_t (z_on_h rfl (by omega) (by omega))))) | exact z_on_t (z_on_t (z_on_t (z_on_t (z_on_t (z_on_h rfl (by omega) (by omega)))))) | exact z_on_t (z_on_t (z_on_t (z_on_t (z_on_t (z_on_t (z_on_h rfl (by omega) (by omega))))))) | exact z_on_t (z_on_t (z_on_t (z_on_t (z_on_t (z_on_t (z_on_t (z_on_h rfl (by omega) (by omega)))))))) | exact z_on_t (z_on_t (z_on_t (z_on_t (z_on_t (z_on_t (z_on_t (z_on_t (z_on_h rfl (by omega) (by omega))))))))) | exact z_on_t (z_on_t (z_on_t (z_on_t (z_on_t (z_on_t (z_on_t (z_on_t (z_on_t (z_on_h rfl (by omega) (by omega)))))))))) | exact z_on_t (z_on_t (z_on_t (z_on_t (z_on_t (z_on_t (z_on_t (z_on_t (z_on_t (z_on_t (z_on_h rfl (by omega) (by omega))))))))))) | exact z_on_t (z_on_t (z_on_t (z_on_t (z_on_t (z_on_t (z_on_t (z_on_t (z_on_t (z_on_t (z_on_t (z_on_h rfl (by omega) (by omega)))))))))))) | exact z_on_t (z_on_t (z_on_t (z_on_t (z_on_t (z_on_t (z_on_t (z_on_t (z_on_t (z_on_t (z_on_t (z_on_t (z_on_h rfl (by omega) (by omega))))))))))))))).upo (by (try unfold u_KL); (try unfold u_M); first | exact z_on_h rfl (by omega) (by omega) | exact z_on_t (z_on_h rfl (by omega) (by omega)) | exact z_on_t (z_on_t (z_on_h rfl (by omega) (by omega))) | exact z_on_t (z_on_t (z_on_t (z_on_h rfl (by omega) (by omega)))) | exact z_on_t (z_on_t (z_on_t (z_on_t (z_on_h rfl (by omega) (by omega))))) | exact z_on_t (z_on_t (z_on_t (z_on_t (z_on_t (z_on_h rfl (by omega) (by omega)))))) | exact z_on_t (z_on_t (z_on_t (z_on_t (z_on_t (z_on_t (z_on_h rfl (by omega) (by omega))))))) | exact z_on_t (z_on_t (z_on_t (z_on_t (z_on_t (z_on_t (z_on_t (z_on_h rfl (by omega) (by omega)))))))) | exact z_on_t (z_on_t (z_on_t (z_on_t (z_on_t (z_on_t (z_on_t (z_on_t (z_on_h rfl (by omega) (by omega))))))))) | exact z_on_t (z_on_t (z_on_t (z_on_t (z_on_t (z_on_t (z_on_t (z_on_t (z_on_t (z_on_h rfl (by omega) (by omega)))))))))) | exact z_on_t (z_on_t (z_on_t (z_on_t (z_on_t (z_on_t (z_on_t (z_on_t (z_on_t (z_on_t (z_on_h rfl (by omega) (by omega))))))))))) | exact z_on_t (z_on_t (z_on_t (z_on_t (z_on_t (z_on_t (z_on_t (z_on_t (z_on_t (z_on_t (z_on_t (z_on_h rfl (by omega) (by omega)))))))))))) | exact z_on_t (z_on_t (z_on_t (z_on_t (z_on_t (z_on_t (z_on_t (z_on_t (z_on_t (z_on_t (z_on_t (z_on_t (z_on_h rfl (by omega) (by omega))))))))))))))).upo (by (try unfold u_KL); (try unfold u_M); first | exact z_on_h rfl (by omega) (by omega) | exact z_on_t (z_on_h rfl (by omega) (by omega)) | exact z_on_t (z_on_t (z_on_h rfl (by omega) (by omega))) | exact z_on_t (z_on_t (z_on_t (z_on_h rfl (by omega) (by omega)))) | exact z_on_t (z_on_t (z_on_t (z_on_t (z_on_h rfl (by omega) (by omega))))) | exact z_on_t (z_on_t (z_on_t (z_on_t (z_on_t (z_on_h rfl (by omega) (by omega)))))) | exact z_on_t (z_on_t (z_on_t (z_on_t (z_on_t (z_on_t (z_on_h rfl (by omega) (by omega))))))) | exact z_on_t (z_on_t (z_on_t (z_on_t (z_on_t (z_on_t (z_on_t (z_on_h rfl (by omega) (by omega)))))))) | exact z_on_t (z_on_t (z_on_t (z_on_t (z_on_t (z_on_t (z_on_t (z_on_t (z_on_h rfl (by omega) (by omega))))))))) | exact z_on_t (z_on_t (z_on_t (z_on_t (z_on_t (z_on_t (z_on_t (z_on_t (z_on_t (z_on_h rfl (by omega) (by omega)))))))))) | exact z_on_t (z_on_t (z_on_t (z_on_t (z_on_t (z_on_t (z_on_t (z_on_t (z_on_t (z_on_t (z_on_h rfl (by omega) (by omega))))))))))) | exact z_on_t (z_on_t (z_on_t (z_on_t (z_on_t (z_on_t (z_on_t (z_on_t (z_on_t (z_on_t (z_on_t (z_on_h rfl (by omega) (by omega)))))))))))) | exact z_on_t (z_on_t (z_on_t (z_on_t (z_on_t (z_on_t (z_on_t (z_on_t (z_on_t (z_on_t (z_on_t (z_on_t (z_on_h rfl (by omega) (by omega))))))))))))))).upo (by (try unfold u_KL); (try unfold u_M); first | exact z_on_h rfl (by omega) (by omega) | exact z_on_t (z_on_h rfl (by omega) (by omega)) | exact z_on_t (z_on_t (z_on_h rfl (by omega) (by omega))) | exact z_on_t (z_on_t (z_on_t (z_on_h rfl (by omega) (by omega)))) | exact z_on_t (z_on_t (z_on_t (z_on_t (z_on_h rfl (by omega) (by omega))))) | exact z_on_t (z_on_t (z_on_t (z_on_t (z_on_t (z_on_h rfl (by omega) (by omega)))))) | exact z_on_t (z_on_t (z_on_t (z_on_t (z_on_t (z_on_t (z_on_h rfl (by omega) (by omega))))))) | exact z_on_t (z_on_t (z_on_t (z_on_t (z_on_t (z_on_t (z_on_t (z_on_h rfl (by omega) (by omega)))))))) | exact z_on_t (z_on_t (z_on_t (z_on_t (z_on_t (z_on_t (z_on_t (z_on_t (z_on_h rfl (by omega) (by omega))))))))) | exact z_on_t (z_on_t (z_on_t (z_on_t (z_on_t (z_on_t (z_on_t (z_on_t (z_on_t (z_on_h rfl (by omega) (by omega)))))))))) | exact z_on_t (z_on_t (z_on_t (z_on_t (z_on_t (z_on_t (z_on_t (z_on_t (z_on_t (z_on_t (z_on_h rfl (by omega) (by omega))))))))))) | exact z_on_t (z_on_t (z_on_t (z_on_t (z_on_t (z_on_t (z_on_t (z_on_t (z_on_t (z_on_t (z_on_t (z_on_h rfl (by omega) (by omega)))))))))))) | exact z_on_t (z_on_t (z_on_t (z_on_t (z_on_t (z_on_t (z_on_t (z_on_t (z_on_t (z_on_t (z_on_t (z_on_t (z_on_h rfl (by omega) (by omega))))))))))))))).upo (by (try unfold u_KL); (try unfold u_M); first | exact z_on_h rfl (by omega) (by omega) | exact z_on_t (z_on_h rfl (by omega) (by omega)) | exact z_on_t (z_on_t (z_on_h rfl (by omega) (by omega))) | exact z_on_t (z_on_t (z_on_t (z_on_h rfl (by omega) (by omega)))) | exact z_on_t (z_on_t (z_on_t (z_on_t (z_on_h rfl (by omega) (by omega))))) | exact z_on_t (z_on_t (z_on_t (z_on_t (z_on_t (z_on_h rfl (by omega) (by omega)))))) | exact z_on_t (z_on_t (z_on_t (z_on_t (z_on_t (z_on_t (z_on_h rfl (by omega) (by omega))))))) | exact z_on_t (z_on_t (z_on_t (z_on_t (z_on_t (z_on_t (z_on_t (z_on_h rfl (by omega) (by omega)))))))) | exact z_on_t (z_on_t (z_on_t (z_on_t (z_on_t (z_on_t (z_on_t (z_on_t (z_on_h rfl (by omega) (by omega))))))))) | exact z_on_t (z_on_t (z_on_t (z_on_t (z_on_t (z_on_t (z_on_t (z_on_t (z_on_t (z_on_h rfl (by omega) (by omega)))))))))) | exact z_on_t (z_on_t (z_on_t (z_on_t (z_on_t (z_on_t (z_on_t (z_on_t (z_on_t (z_on_t (z_on_h rfl (by omega) (by omega))))))))))) | exact z_on_t (z_on_t (z_on_t (z_on_t (z_on_t (z_on_t (z_on_t (z_on_t (z_on_t (z_on_t (z_on_t (z_on_h rfl (by omega) (by omega)))))))))))) | exact z_on_t (z_on_t (z_on_t (z_on_t (z_on_t (z_on_t (z_on_t (z_on_t (z_on_t (z_on_t (z_on_t (z_on_t (z_on_h rfl (by omega) (by omega))))))))))))))).upo (by (try unfold u_KL); (try unfold u_M); first | exact z_on_h rfl (by omega) (by omega) | exact z_on_t (z_on_h rfl (by omega) (by omega)) | exact z_on_t (z_on_t (z_on_h rfl (by omega) (by omega))) | exact z_on_t (z_on_t (z_on_t (z_on_h rfl (by omega) (by omega)))) | exact z_on_t (z_on_t (z_on_t (z_on_t (z_on_h rfl (by omega) (by omega))))) | exact z_on_t (z_on_t (z_on_t (z_on_t (z_on_t (z_on_h rfl (by omega) (by omega)))))) | exact z_on_t (z_on_t (z_on_t (z_on_t (z_on_t (z_on_t (z_on_h rfl (by omega) (by omega))))))) | exact z_on_t (z_on_t (z_on_t (z_on_t (z_on_t (z_on_t (z_on_t (z_on_h rfl (by omega) (by omega)))))))) | exact z_on_t (z_on_t (z_on_t (z_on_t (z_on_t (z_on_t (z_on_t (z_on_t (z_on_h rfl (by omega) (by omega))))))))) | exact z_on_t (z_on_t (z_on_t (z_on_t (z_on_t (z_on_t (z_on_t (z_on_t (z_on_t (z_on_h rfl (by omega) (by omega)))))))))) | exact z_on_t (z_on_t (z_on_t (z_on_t (z_on_t (z_on_t (z_on_t (z_on_t (z_on_t (z_on_t (z_on_h rfl (by omega) (by omega))))))))))) | exact z_on_t (z_on_t (z_on_t (z_on_t (z_on_t (z_on_t (z_on_t (z_on_t (z_on_t (z_on_t (z_on_t (z_on_h rfl (by omega) (by omega)))))))))))) | exact z_on_t (z_on_t (z_on_t (z_on_t (z_on_t (z_on_t (z_on_t (z_on_t (z_on_t (z_on_t (z_on_t (z_on_t (z_on_h rfl (by omega) (by omega))))))))))))))
  generalize hm : z_up (z_up (z_up (z_up (z_up (z_up (z_up m 251 11 0) 251 12 254) 251 13 (m 251 8)) 251 14 80) 251 15 0) 251 16 (-1)) 251 8 0 = m0 at q0 ⊢
  have r : ∀ p, ¬ p = 251 → m0 p = m p := fun p hp => by rw [← hm, zu_rowne hp, zu_rowne hp, zu_rowne hp, zu_rowne hp, zu_rowne hp, zu_rowne hp, zu_rowne hp]
  have g12 : m0 251 12 = 254 := by rw [← hm, zu_k (by decide), zu_k (by decide), zu_k (by decide), zu_k (by decide), zu_k (by decide), zu_self]
  have g13 : m0 251 13 = m 251 8 := by rw [← hm, zu_k (by decide), zu_k (by decide), zu_k (by decide), zu_k (by decide), zu_self]
  have g14 : m0 251 14 = 80 := by rw [← hm, zu_k (by decide), zu_k (by decide), zu_k (by decide), zu_self]
  have g15 : m0 251 15 = 0 := by rw [← hm, zu_k (by decide), zu_k (by decide), zu_self]
  have g16 : m0 251 16 = -1 := by rw [← hm, zu_k (by decide), zu_self]
  have gq : u_q m0 = u_nx (u_t m) (m 251 8) 80 := by
    unfold u_q u_t
    rw [r 254 (by decide), g13, g14]
  obtain ⟨m1, v3, v4, v5, t0, t1, t2⟩ := T_hou 3 0 0 3 (9, 0) (9, 0) m0 ⟨g12, by omega, by omega, by omega, fun k hk => by rw [r 254 (by decide)]; exact hr k hk⟩ g16 (by decide) (by decide) (by decide) (by decide) (by decide) (fun _ => rfl) (fun z => absurd rfl z)
  rw [gq, g13, g15, r 256 (by decide), hS] at t1 t2
  have s1 : ∀ p k, ¬ (p = 251 ∧ 8 ≤ k ∧ k ≤ 16) → ¬ p = 256 → m1 p k = m p k := fun p k n1 n2 => by
    rw [t0.of (by
      unfold u_M
      (repeat' (first | exact trivial | refine z_of_c ?_ ?_)) <;> omega)]
    exact q0.of (by
      refine z_of_c ?_ trivial
      omega)
  have hi1 : R_is w h n heat price D A c U kn KS cs m1 := R_fr hi fun p k hk => by
    have hk' := hk
    unfold R_hit at hk'
    have hk' := of_decide_eq_true hk'
    exact s1 p k (by omega) (by omega)
  obtain ⟨ok, w', h', i, a⟩ := S
  try simp only at t1 t2 b
  unfold u_ans
  try simp only
  cases ok with
  | false =>
    rw [t1 rfl]
    exact ⟨m1, by rw [if_neg (by decide)], fun _ => hi1, fun z => by cases z⟩
  | true =>
    obtain ⟨t3, t4, t5, t6⟩ := t2 rfl
    obtain ⟨w2, rfl⟩ : ∃ w2 : Nat, w' = (w2 : Int) := ⟨w'.toNat, by omega⟩
    obtain ⟨h2, rfl⟩ : ∃ h2 : Nat, h' = (h2 : Int) := ⟨h'.toNat, by omega⟩
    rw [t3, t_house_162, if_pos t5, t_fine1 m1 t4]
    show ∃ m', z_R 163 (m1, 185, [(2, 251), (0, (w2 : Int)), (0, (h2 : Int)), (0, v3), v4, v5], [(0, 1)]) = _ ∧ _
    rw [t_house_185, if_neg (by decide)]
    obtain ⟨m', a1, ⟨a2, a3, a4, a5, a6⟩, a7, a8⟩ := T_l217 (w := (w2 : Int)) (h := (h2 : Int)) 37 0 (w2 : Int) (h2 : Int) v3 (m1 252 36) (z_up (z_up m1 251 1 (w2 : Int)) 251 2 (h2 : Int)) rfl (by rw [zu_k (by decide), zu_self]) zu_self
    have a1 : z_R 163 (z_up (z_up m1 251 1 (w2 : Int)) 251 2 (h2 : Int), 217, [(2, 251), (0, (w2 : Int)), (0, (h2 : Int)), (0, v3), (0, m1 252 36), (0, 0)], []) = some (m', some (0, z_mul (w2 : Int) (h2 : Int))) := a1
    rw [a1]
    refine ⟨m', by rw [if_pos rfl, u_mul3 b.1 b.2.1 b.2.2.1 b.2.2.2.1], (fun z => by cases z), fun _ => ⟨w2, h2, rfl, rfl, ?_⟩⟩
    have hfa : ∀ p k, R_hit p k k = true → ¬ (p = 251 ∧ (k = 1 ∨ k = 2 ∨ k = 3 ∨ k = 25)) → ¬ p = 252 → ¬ (p = 276 ∧ k ≤ 1) → m' p k = m1 p k := fun p k hk n1 n2 n3 => by
      rw [a8.of (by
        unfold u_KL
        (repeat' (first | exact trivial | refine z_of_c ?_ ?_)) <;> omega), X_up (by omega), X_up (by omega)]
    obtain ⟨⟨q1, q2, q3, q4, q5, q6⟩, qb, qd, qu, qe, qf⟩ := hi1
    refine ⟨⟨?_, ?_, a2, ?_, ?_, ?_⟩, fun j hj => (hfa 253 j hit_253 (by omega) (by omega) (by omega)).trans (qb j hj), rS_hA (fun k hk => ?_), ⟨a3, by decide, fun i hi => absurd hi (Nat.not_lt_zero i)⟩, fun i hi => ⟨Or.inl ⟨a6 i hi, rfl⟩, fun z => by cases z⟩, ?_⟩
    · rw [a8.of (p := 251) (k := 1) (by
        unfold u_KL
        exact (by (try unfold u_KL); (try unfold u_M); (repeat' (first | exact trivial | refine z_of_c ?_ ?_)) <;> omega)), zu_k (by decide), zu_self]
    · rw [a8.of (p := 251) (k := 2) (by
        unfold u_KL
        exact (by (try unfold u_KL); (try unfold u_M); (repeat' (first | exact trivial | refine z_of_c ?_ ?_)) <;> omega)), zu_self]
    · exact (hfa 251 5 (by decide) (by decide) (by decide) (by decide)).trans q4
    · exact (hfa 251 6 (by decide) (by decide) (by decide) (by decide)).trans q5
    · exact (hfa 251 23 (by decide) (by decide) (by decide) (by decide)).trans q6
    · by_cases k34 : k = 34
      · rw [k34, if_neg (by decide), if_pos rfl]; exact a4
      by_cases k36 : k = 36
      · rw [k36, if_neg (by decide), if_neg (by decide), if_pos rfl, a5, ← qd]
        exact (rS_at (by decide) (a_vis_hi (by decide))).symm
      rw [a7 k k34 k36 hk, if_neg k34, if_neg k36]
      by_cases k9 : k < 9
      · rw [if_pos k9]
        by_cases z : u_hs (w2 : Int) (h2 : Int) (k : Int) = 0
        · rw [if_pos z, if_neg (fun y => y.2 z), if_pos (Nat.zero_le _)]
        · rw [if_neg z, if_pos ⟨k9, z⟩, zu_p (by decide), zu_p (by decide), t6]
      · rw [if_neg k9, if_neg (fun y => k9 y.1), if_pos (Nat.zero_le _)]
    · unfold r_ru
      rw [hfa 251 20 (by decide) (by decide) (by decide) (by decide), show m' 258 = m1 258 from funext fun k => hfa 258 k hit_258 (by omega) (by omega) (by omega)]
      exact qf
end
