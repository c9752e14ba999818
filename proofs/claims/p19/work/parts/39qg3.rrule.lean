/-! THE REFERENCE READS A RULE, and what it makes of it -/
def r_W (P : Nat) (g : Int → Int) (m : z_M) : Prop := m 251 12 = (P : Int) ∧ (P = 254 ∨ P = 258) ∧ m 251 14 = 40 ∧ m 251 13 ≤ 80 ∧ (0 ≤ m 251 15 ∧ m 251 15 ≤ 80) ∧ u_nx (fun k => z_and (m P k) 255) (m 251 13) 40 = g ∧ ∀ k, k < 40 → -128 ≤ m P k ∧ m P k ≤ 127
theorem r_W_gb {P : Nat} {g : Int → Int} {m : z_M} (h : r_W P g m) : q_gb g := by
  obtain ⟨-, -, -, -, -, h6, -⟩ := h
  rw [← h6]
  intro i hi
  unfold u_nx at hi
  by_cases hc : 0 ≤ i ∧ i < m 251 13 ∧ i < 40
  · omega
  · rw [if_neg hc] at hi; exact absurd rfl hi
theorem r_W_sm {P : Nat} {g : Int → Int} {m m' : z_M} (h : r_W P g m) (hs : z_same [(251, 15, 16)] m m') (h0 : 0 ≤ m' 251 15) (h1 : m' 251 15 ≤ 80) : r_W P g m' := by
  obtain ⟨a1, a2, a3, a4, a5, a6, a7⟩ := h
  have eP : m' P = m P := hs.ofr (by
    refine z_ofr_c ?_ trivial
    omega)
  exact ⟨(hs.of (by (try unfold r_LR); (repeat' (first | exact trivial | refine z_of_c ?_ ?_)) <;> omega)).trans a1, a2, (hs.of (by (try unfold r_LR); (repeat' (first | exact trivial | refine z_of_c ?_ ?_)) <;> omega)).trans a3, by rw [hs.of (by (try unfold r_LR); (repeat' (first | exact trivial | refine z_of_c ?_ ?_)) <;> omega)]; exact a4, ⟨h0, h1⟩, by rw [eP, hs.of (by (try unfold r_LR); (repeat' (first | exact trivial | refine z_of_c ?_ ?_)) <;> omega)]; exact a6, by rw [eP]; exact a7⟩
theorem r_here {P : Nat} {g : Int → Int} (m : z_M) (h : r_W P g m) : z_R 168 (m, 0, [(2, 251)], []) = some (m, some (0, g (m 251 15))) := by
  obtain ⟨e, hP, h14, h13, h15, hg, -⟩ := h
  have hl : ((h_ln (m 251 12).toNat : Nat) : Int) = 80 ∨ ((h_ln (m 251 12).toNat : Nat) : Int) = 40 := by
    rw [e, Int.toNat_natCast]
    rcases hP with rfl | rfl
    · exact Or.inl (by decide +kernel)
    · exact Or.inr (by decide +kernel)
  rw [t_here_0, ← hg]
  unfold u_nx
  by_cases c : m 251 15 < m 251 13
  · rw [if_neg (by omega)]
    by_cases c' : m 251 15 < m 251 14
    · rw [if_neg (by omega), if_pos ⟨h15.1, by omega⟩, if_pos ⟨h15.1, c, by omega⟩, e, Int.toNat_natCast]
    · rw [if_pos (by omega), if_neg (fun z => by omega)]
  · rw [if_pos (by omega), if_neg (fun z => c z.2.1)]
theorem r_pass {P : Nat} {g : Int → Int} (m : z_M) (c : Int) (h : m 251 16 = -1) (hw : r_W P g m) : z_R 170 (m, 0, [(2, 251), (0, c)], []) = if g (m 251 15) = c then some (z_up m 251 15 (m 251 15 + 1), some (0, 1)) else some (m, some (0, 0)) := by
  rw [t_pass_0, t_fine1 m h, zb_v, t_pass_4, if_neg (by decide), r_here m hw, zb_v, t_pass_11, z_add_eq (by have := hw.2.2.2.2.1; omega) (by have := hw.2.2.2.2.1; omega)]
theorem r_one {P : Nat} {g : Int → Int} (m : z_M) (h : m 251 16 = -1) (hw : r_W P g m) (hd : ¬ u_dg (g (m 251 15)) = -1) : z_R 167 (m, 0, [(2, 251), (0, 48), (0, 10)], []) = some (z_up m 251 15 (m 251 15 + 1), some (0, u_dg (g (m 251 15)))) := by
  have d := u_dg_ne hd
  have hb := r_W_gb hw (m 251 15) (by omega)
  obtain ⟨e, hP, h14, h13, h15, hg, hr⟩ := id hw
  have hl : ((h_ln (m 251 12).toNat : Nat) : Int) = 80 ∨ ((h_ln (m 251 12).toNat : Nat) : Int) = 40 := by
    rw [e, Int.toNat_natCast]
    rcases hP with rfl | rfl
    · exact Or.inl (by decide +kernel)
    · exact Or.inr (by decide +kernel)
  have hq : 0 ≤ m 251 15 ∧ m 251 15 < m 251 13 ∧ m 251 15 < 40 := by
    have hd' := d.1
    rw [← hg] at hd'
    unfold u_nx at hd'
    by_cases z : 0 ≤ m 251 15 ∧ m 251 15 < m 251 13 ∧ m 251 15 < 40
    · exact z
    · rw [if_neg z] at hd'; omega
  have eq : g (m 251 15) = z_and (m P (m 251 15).toNat) 255 := by
    rw [← hg]
    unfold u_nx
    rw [if_pos hq]
  have hr' := hr (m 251 15).toNat (by omega)
  have ea : z_and (m P (m 251 15).toNat) 255 = m P (m 251 15).toNat := z_and_small hr'.1 hr'.2 (by rw [← eq]; omega)
  have e2 : z_sub (z_add (m 251 15) 1) 1 = m 251 15 := by rw [z_add_eq (by omega) (by omega), z_sub_eq (by omega) (by omega)]; omega
  rw [t_one_0, t_fine1 m h, zb_v, t_one_4, if_neg (by decide), r_here m hw, zb_v, t_one_13, t_in, show z_sub (z_add 48 10) 1 = 57 by decide +kernel, if_pos ⟨d.1, d.2.1⟩, zb_v, t_one_22, if_neg (by decide), e2, if_pos ⟨by omega, by omega⟩, z_add_eq (by omega) (by omega), e, Int.toNat_natCast, zu_p (by omega), ← ea, ← eq, d.2.2, z_sub_eq (by omega) (by omega)]
abbrev r_LR : List (Nat × Nat × Nat) := [(251, 15, 16)]
/-- what a part of it leaves, and its number -/
def r_RP (m m' : z_M) (r : q_Q) (v : Int) : Prop := z_same r_LR m m' ∧ (r.1 = true → m' 251 16 = -1 ∧ m' 251 15 = r.2.1 ∧ (-2147483648 ≤ v ∧ v ≤ 2147483647) ∧ (m 251 21 = 1 → evs (m 259) r.2.2 v)) ∧ (r.1 = false → m' 251 16 = r.2.1)
def r_RB (P : Nat) (g : Int → Int) (m : z_M) : Prop := r_W P g m ∧ m 251 16 = -1 ∧ m 251 15 ≤ 40 ∧ (m 251 21 = 0 ∨ m 251 21 = 1) ∧ ∀ k, k < 7 → -2147483648 ≤ m 259 k ∧ m 259 k ≤ 2147483647
theorem r_RB_sm {P : Nat} {g : Int → Int} {m m' : z_M} (h : r_RB P g m) (hs : z_same r_LR m m') (hf : m' 251 16 = -1) (h0 : 0 ≤ m' 251 15) (h1 : m' 251 15 ≤ 40) : r_RB P g m' := by
  obtain ⟨a1, a2, a3, a4, a5⟩ := h
  refine ⟨r_W_sm a1 hs h0 (by omega), hf, h1, ?_, ?_⟩
  · rw [hs.of (by (try unfold r_LR); (repeat' (first | exact trivial | refine z_of_c ?_ ?_)) <;> omega)]; exact a4
  · rw [hs.ofr (by (try unfold r_LR); (repeat' (first | exact trivial | refine z_ofr_c ?_ ?_)) <;> omega)]; exact a5
theorem r_letter (m : z_M) (c : Int) : z_R 180 (m, 0, [(0, c)], []) = some (m, some (0, z_idx c)) := by
  rw [t_letter_0]
  unfold z_idx
  by_cases h1 : c = 119
  · rw [if_pos h1, if_pos h1]
  rw [if_neg h1, if_neg h1]
  by_cases h2 : c = 105
  · rw [if_pos h2, if_pos h2]
  rw [if_neg h2, if_neg h2]
  by_cases h3 : c = 97
  · rw [if_pos h3, if_pos h3]
  rw [if_neg h3, if_neg h3]
  by_cases h4 : c = 102
  · rw [if_pos h4, if_pos h4]
  rw [if_neg h4, if_neg h4]
  by_cases h5 : c = 121
  · rw [if_pos h5, if_pos h5]
  rw [if_neg h5, if_neg h5]
  by_cases h6 : c = 110
  · rw [if_pos h6, if_pos h6]
  rw [if_neg h6, if_neg h6]
  by_cases h7 : c = 104
  · rw [if_pos h7, if_pos h7]
  · rw [if_neg h7, if_neg h7]
theorem r_num1 {P : Nat} {g : Int → Int} : ∀ (k : Nat) (x3 v : Int) (m : z_M), x3 + (k : Int) = 3 → 1 ≤ x3 → r_W P g m → m 251 16 = -1 → 0 ≤ v → v ≤ q_bnd k → ∃ m', z_R 166 (m, 11, [(2, 251), (0, 3), (0, v), (0, x3)], []) = some (m', some (0, (q_nm g k (m 251 15) v).2)) ∧ m' 251 15 = (q_nm g k (m 251 15) v).1 ∧ z_same [(251, 15, 15)] m m' := by
  intro k
  induction k with
  | zero =>
    intro x3 v m hx h1 hw hf hv0 hv
    rw [t_num_11, if_pos (by omega)]
    exact ⟨m, rfl, rfl, z_same.rf⟩
  | succ k ih =>
    intro x3 v m hx h1 hw hf hv0 hv
    have b15 := hw.2.2.2.2.1
    have r := u_dg_rng (g (m 251 15))
    rw [t_num_11, if_neg (by omega), t_fine1 m hf, zb_v, t_num_20, if_neg (by decide), r_here m hw, zb_v, t_num_27, t_in]
    unfold q_nm
    by_cases c : u_dg (g (m 251 15)) = -1
    · have hn : ¬ (48 ≤ g (m 251 15) ∧ g (m 251 15) ≤ 57) := fun z => by
        unfold u_dg at c
        rw [if_pos z] at c
        omega
      rw [if_pos c, if_neg hn, zb_v, t_num_34, if_pos rfl]
      exact ⟨m, rfl, rfl, z_same.rf⟩
    · have d := u_dg_ne c
      have hb := r_W_gb hw (m 251 15) (by omega)
      have hv9 : v ≤ 99 := by
        rcases (show k = 0 ∨ k = 1 by omega) with rfl | rfl
        · exact hv
        · have hv : v ≤ 9 := hv
          omega
      have s1 : z_same [(251, 15, 15)] m (z_up m 251 15 (m 251 15 + 1)) := z_same.rf.upo (by (try unfold r_LR); first | exact z_on_h rfl (by omega) (by omega) | exact z_on_t (z_on_h rfl (by omega) (by omega)) | exact z_on_t (z_on_t (z_on_h rfl (by omega) (by omega))) | exact z_on_t (z_on_t (z_on_t (z_on_h rfl (by omega) (by omega)))) | exact z_on_t (z_on_t (z_on_t (z_on_t (z_on_h rfl (by omega) (by omega))))) | exact z_on_t (z_on_t (z_on_t (z_on_t (z_on_t (z_on_h rfl (by omega) (by omega)))))) | exact z_on_t (z_on_t (z_on_t (z_on_t (z_on_t (z_on_t (z_on_h rfl (by omega) (by omega))))))) | exact z_on_t (z_on_t (z_on_t (z_on_t (z_on_t (z_on_t (z_on_t (z_on_h rfl (by omega) (by omega)))))))) | exact z_on_t (z_on_t (z_on_t (z_on_t (z_on_t (z_on_t (z_on_t (z_on_t (z_on_h rfl (by omega) (by omega))))))))) | exact z_on_t (z_on_t (z_on_t (z_on_t (z_on_t (z_on_t (z_on_t (z_on_t (z_on_t (z_on_h rfl (by omega) (by omega)))))))))) | exact z_on_t (z_on_t (z_on_t (z_on_t (z_on_t (z_on_t (z_on_t (z_on_t (z_on_t (z_on_t (z_on_h rfl (by omega) (by omega))))))))))) | exact z_on_t (z_on_t (z_on_t (z_on_t (z_on_t (z_on_t (z_on_t (z_on_t (z_on_t (z_on_t (z_on_t (z_on_h rfl (by omega) (by omega)))))))))))) | exact z_on_t (z_on_t (z_on_t (z_on_t (z_on_t (z_on_t (z_on_t (z_on_t (z_on_t (z_on_t (z_on_t (z_on_t (z_on_h rfl (by omega) (by omega))))))))))))))
      have e15 : (z_up m 251 15 (m 251 15 + 1)) 251 15 = m 251 15 + 1 := zu_self
      rw [if_neg c, if_pos ⟨d.1, d.2.1⟩, zb_v, t_num_34, if_neg (by decide), r_one m hf hw c, zb_v, t_num_49, z_mul_eq (by omega) (by omega), z_add_eq (x := 10 * v) (by omega) (by omega), z_add_eq (x := x3) (by omega) (by omega)]
      obtain ⟨m', a1, a2, a3⟩ := ih (x3 + 1) (10 * v + u_dg (g (m 251 15))) (z_up m 251 15 (m 251 15 + 1)) (by omega) (by omega) (r_W_sm hw (s1.subo (by (try unfold r_LR); (repeat' (first | exact trivial | refine z_sbo_c ?_ ?_)) <;> (intro k h1 h2; first | exact z_on_h rfl (by omega) (by omega) | exact z_on_t (z_on_h rfl (by omega) (by omega)) | exact z_on_t (z_on_t (z_on_h rfl (by omega) (by omega))) | exact z_on_t (z_on_t (z_on_t (z_on_h rfl (by omega) (by omega)))) | exact z_on_t (z_on_t (z_on_t (z_on_t (z_on_h rfl (by omega) (by omega))))) | exact z_on_t (z_on_t (z_on_t (z_on_t (z_on_t (z_on_h rfl (by omega) (by omega)))))) | exact z_on_t (z_on_t (z_on_t (z_on_t (z_on_t (z_on_t (z_on_h rfl (by omega) (by omega))))))) | exact z_on_t (z_on_t (z_on_t (z_on_t (z_on_t (z_on_t (z_on_t (z_on_h rfl (by omega) (by omega)))))))) | exact z_on_t (z_on_t (z_on_t (z_on_t (z_on_t (z_on_t (z_on_t (z_on_t (z_on_h rfl (by omega) (by omega))))))))) | exact z_on_t (z_on_t (z_on_t (z_on_t (z_on_t (z_on_t (z_on_t (z_on_t (z_on_t (z_on_h rfl (by omega) (by omega)))))))))) | exact z_on_t (z_on_t (z_on_t (z_on_t (z_on_t (z_on_t (z_on_t (z_on_t (z_on_t (z_on_t (z_on_h rfl (by omega) (by omega))))))))))) | exact z_on_t (z_on_t (z_on_t (z_on_t (z_on_t (z_on_t (z_on_t (z_on_t (z_on_t (z_on_t (z_on_t (z_on_h rfl (by omega) (by omega)))))))))))) | exact z_on_t (z_on_t (z_on_t (z_on_t (z_on_t (z_on_t (z_on_t (z_on_t (z_on_t (z_on_t (z_on_t (z_on_t (z_on_h rfl (by omega) (by omega)))))))))))))))) (by omega) (by omega)) (by rw [zu_k (by decide)]; exact hf) (by omega) (by
        rcases (show k = 0 ∨ k = 1 by omega) with rfl | rfl
        · have hv : v ≤ 99 := hv
          show 10 * v + u_dg (g (m 251 15)) ≤ 999
          omega
        · have hv : v ≤ 9 := hv
          show 10 * v + u_dg (g (m 251 15)) ≤ 99
          omega)
      rw [e15] at a1 a2
      exact ⟨m', a1, a2, s1.tr a3⟩
theorem r_num {P : Nat} {g : Int → Int} (m : z_M) (hw : r_W P g m) (hf : m 251 16 = -1) (hd : ¬ u_dg (g (m 251 15)) = -1) : ∃ m', z_R 166 (m, 0, [(2, 251), (0, 3), (9, 0), (9, 0)], []) = some (m', some (0, (q_nm g 3 (m 251 15) 0).2)) ∧ m' 251 15 = (q_nm g 3 (m 251 15) 0).1 ∧ z_same [(251, 15, 15)] m m' := by
  have d := u_dg_ne hd
  have hb := r_W_gb hw (m 251 15) (by omega)
  have b15 := hw.2.2.2.2.1
  have r := u_dg_rng (g (m 251 15))
  have s1 : z_same [(251, 15, 15)] m (z_up m 251 15 (m 251 15 + 1)) := z_same.rf.upo (by (try unfold r_LR); first | exact z_on_h rfl (by omega) (by omega) | exact z_on_t (z_on_h rfl (by omega) (by omega)) | exact z_on_t (z_on_t (z_on_h rfl (by omega) (by omega))) | exact z_on_t (z_on_t (z_on_t (z_on_h rfl (by omega) (by omega)))) | exact z_on_t (z_on_t (z_on_t (z_on_t (z_on_h rfl (by omega) (by omega))))) | exact z_on_t (z_on_t (z_on_t (z_on_t (z_on_t (z_on_h rfl (by omega) (by omega)))))) | exact z_on_t (z_on_t (z_on_t (z_on_t (z_on_t (z_on_t (z_on_h rfl (by omega) (by omega))))))) | exact z_on_t (z_on_t (z_on_t (z_on_t (z_on_t (z_on_t (z_on_t (z_on_h rfl (by omega) (by omega)))))))) | exact z_on_t (z_on_t (z_on_t (z_on_t (z_on_t (z_on_t (z_on_t (z_on_t (z_on_h rfl (by omega) (by omega))))))))) | exact z_on_t (z_on_t (z_on_t (z_on_t (z_on_t (z_on_t (z_on_t (z_on_t (z_on_t (z_on_h rfl (by omega) (by omega)))))))))) | exact z_on_t (z_on_t (z_on_t (z_on_t (z_on_t (z_on_t (z_on_t (z_on_t (z_on_t (z_on_t (z_on_h rfl (by omega) (by omega))))))))))) | exact z_on_t (z_on_t (z_on_t (z_on_t (z_on_t (z_on_t (z_on_t (z_on_t (z_on_t (z_on_t (z_on_t (z_on_h rfl (by omega) (by omega)))))))))))) | exact z_on_t (z_on_t (z_on_t (z_on_t (z_on_t (z_on_t (z_on_t (z_on_t (z_on_t (z_on_t (z_on_t (z_on_t (z_on_h rfl (by omega) (by omega))))))))))))))
  have e15 : (z_up m 251 15 (m 251 15 + 1)) 251 15 = m 251 15 + 1 := zu_self
  obtain ⟨m', a1, a2, a3⟩ := r_num1 (P := P) (g := g) 2 1 (u_dg (g (m 251 15))) (z_up m 251 15 (m 251 15 + 1)) (by decide) (by decide) (r_W_sm hw (s1.subo (by (try unfold r_LR); (repeat' (first | exact trivial | refine z_sbo_c ?_ ?_)) <;> (intro k h1 h2; first | exact z_on_h rfl (by omega) (by omega) | exact z_on_t (z_on_h rfl (by omega) (by omega)) | exact z_on_t (z_on_t (z_on_h rfl (by omega) (by omega))) | exact z_on_t (z_on_t (z_on_t (z_on_h rfl (by omega) (by omega)))) | exact z_on_t (z_on_t (z_on_t (z_on_t (z_on_h rfl (by omega) (by omega))))) | exact z_on_t (z_on_t (z_on_t (z_on_t (z_on_t (z_on_h rfl (by omega) (by omega)))))) | exact z_on_t (z_on_t (z_on_t (z_on_t (z_on_t (z_on_t (z_on_h rfl (by omega) (by omega))))))) | exact z_on_t (z_on_t (z_on_t (z_on_t (z_on_t (z_on_t (z_on_t (z_on_h rfl (by omega) (by omega)))))))) | exact z_on_t (z_on_t (z_on_t (z_on_t (z_on_t (z_on_t (z_on_t (z_on_t (z_on_h rfl (by omega) (by omega))))))))) | exact z_on_t (z_on_t (z_on_t (z_on_t (z_on_t (z_on_t (z_on_t (z_on_t (z_on_t (z_on_h rfl (by omega) (by omega)))))))))) | exact z_on_t (z_on_t (z_on_t (z_on_t (z_on_t (z_on_t (z_on_t (z_on_t (z_on_t (z_on_t (z_on_h rfl (by omega) (by omega))))))))))) | exact z_on_t (z_on_t (z_on_t (z_on_t (z_on_t (z_on_t (z_on_t (z_on_t (z_on_t (z_on_t (z_on_t (z_on_h rfl (by omega) (by omega)))))))))))) | exact z_on_t (z_on_t (z_on_t (z_on_t (z_on_t (z_on_t (z_on_t (z_on_t (z_on_t (z_on_t (z_on_t (z_on_t (z_on_h rfl (by omega) (by omega)))))))))))))))) (by omega) (by omega)) (by rw [zu_k (by decide)]; exact hf) (by omega) (by show u_dg (g (m 251 15)) ≤ 9; omega)
  have e : q_nm g 3 (m 251 15) 0 = q_nm g 2 (m 251 15 + 1) (u_dg (g (m 251 15))) := by
    show (if u_dg (g (m 251 15)) = -1 then (m 251 15, 0) else q_nm g 2 (m 251 15 + 1) (10 * 0 + u_dg (g (m 251 15)))) = _
    rw [if_neg hd, show 10 * 0 + u_dg (g (m 251 15)) = u_dg (g (m 251 15)) by omega]
  rw [e15] at a1 a2
  rw [t_num_0, r_one m hf hw hd, zb_v, t_num_8, a1, e]
  exact ⟨m', rfl, a2, s1.tr a3⟩
noncomputable def r_PE (P : Nat) (g : Int → Int) (d : Nat) : Prop := ∀ m : z_M, r_RB P g m → ∃ m' v, z_R 176 (m, 0, [(2, 251), (0, (d : Int)), (9, 0)], []) = some (m', some (0, v)) ∧ r_RP m m' (q_ex g (4 - d) (m 251 15)) v
theorem r_fail {m m' : z_M} {i v : Int} {c : List Int} (h : z_same r_LR m m') (hp : m' 251 16 = i) : r_RP m m' (false, i, c) v := ⟨h, (fun z => by cases z), fun _ => hp⟩
/-- a thing without - ahead of it -/
theorem r_base {P : Nat} {g : Int → Int} {d : Nat} (hd : d ≤ 4) (hE : d < 4 → r_PE P g (d + 1)) (m : z_M) (hB : r_RB P g m) (h45 : ¬ g (m 251 15) = 45) : ∃ m' v, z_R 179 (m, 0, [(2, 251), (0, (d : Int)), (9, 0), (9, 0)], []) = some (m', some (0, v)) ∧ r_RP m m' (q_th g (q_E g d) (m 251 15)) v := by
  obtain ⟨hw, hf, h40, h21, henv⟩ := id hB
  have hgb := r_W_gb hw
  have b15 := hw.2.2.2.2.1
  rw [t_thing_0, r_pass m 45 hf hw, if_neg h45, zb_v, t_thing_6, if_pos rfl, t_fine1 m hf, zb_v, t_thing_20, if_neg (by decide), r_here m hw, zb_v, t_thing_29]
  have nodig : u_dg (g (m 251 15)) = -1 → z_idx (g (m 251 15)) = -1 → ∃ m' v, ((z_R 162 (m, 0, [(0, g (m 251 15)), (0, 48), (0, 57)], [])).bind fun qq => z_R 179 (qq.1, 75, [(2, 251), (0, (d : Int)), (0, g (m 251 15)), (9, 0)], qq.2.toList ++ [])) = some (m', some (0, v)) ∧ r_RP m m' (false, m 251 15, []) v := by
    intro z1 z2
    have hn : ¬ (48 ≤ g (m 251 15) ∧ g (m 251 15) ≤ 57) := fun z => by
      unfold u_dg at z1
      rw [if_pos z] at z1
      omega
    rw [t_in, if_neg hn, zb_v, t_thing_75, if_pos rfl, r_letter, zb_v, t_thing_88, if_pos z2, t_fault1 m _ hf, zb_n, t_thing_100]
    exact ⟨_, 0, rfl, r_fail (z_same.rf.upo (by (try unfold r_LR); first | exact z_on_h rfl (by omega) (by omega) | exact z_on_t (z_on_h rfl (by omega) (by omega)) | exact z_on_t (z_on_t (z_on_h rfl (by omega) (by omega))) | exact z_on_t (z_on_t (z_on_t (z_on_h rfl (by omega) (by omega)))) | exact z_on_t (z_on_t (z_on_t (z_on_t (z_on_h rfl (by omega) (by omega))))) | exact z_on_t (z_on_t (z_on_t (z_on_t (z_on_t (z_on_h rfl (by omega) (by omega)))))) | exact z_on_t (z_on_t (z_on_t (z_on_t (z_on_t (z_on_t (z_on_h rfl (by omega) (by omega))))))) | exact z_on_t (z_on_t (z_on_t (z_on_t (z_on_t (z_on_t (z_on_t (z_on_h rfl (by omega) (by omega)))))))) | exact z_on_t (z_on_t (z_on_t (z_on_t (z_on_t (z_on_t (z_on_t (z_on_t (z_on_h rfl (by omega) (by omega))))))))) | exact z_on_t (z_on_t (z_on_t (z_on_t (z_on_t (z_on_t (z_on_t (z_on_t (z_on_t (z_on_h rfl (by omega) (by omega)))))))))) | exact z_on_t (z_on_t (z_on_t (z_on_t (z_on_t (z_on_t (z_on_t (z_on_t (z_on_t (z_on_t (z_on_h rfl (by omega) (by omega))))))))))) | exact z_on_t (z_on_t (z_on_t (z_on_t (z_on_t (z_on_t (z_on_t (z_on_t (z_on_t (z_on_t (z_on_t (z_on_h rfl (by omega) (by omega)))))))))))) | exact z_on_t (z_on_t (z_on_t (z_on_t (z_on_t (z_on_t (z_on_t (z_on_t (z_on_t (z_on_t (z_on_t (z_on_t (z_on_h rfl (by omega) (by omega))))))))))))))) zu_self⟩
  unfold q_th
  by_cases c1 : g (m 251 15) = 40
  · have bb := hgb (m 251 15) (by omega)
    rw [if_pos c1, if_pos c1]
    by_cases c2 : 4 ≤ d
    · have e : q_E g d = none := by unfold q_E; rw [if_pos c2]
      rw [if_pos (by omega), e]
      exact nodig (by rw [c1]; decide) (by rw [c1]; decide)
    · have e : q_E g d = some (q_ex g (4 - (d + 1))) := by unfold q_E; rw [if_neg c2, show 3 - d = 4 - (d + 1) by omega]
      have s1 : z_same r_LR m (z_up m 251 15 (m 251 15 + 1)) := z_same.rf.upo (by (try unfold r_LR); first | exact z_on_h rfl (by omega) (by omega) | exact z_on_t (z_on_h rfl (by omega) (by omega)) | exact z_on_t (z_on_t (z_on_h rfl (by omega) (by omega))) | exact z_on_t (z_on_t (z_on_t (z_on_h rfl (by omega) (by omega)))) | exact z_on_t (z_on_t (z_on_t (z_on_t (z_on_h rfl (by omega) (by omega))))) | exact z_on_t (z_on_t (z_on_t (z_on_t (z_on_t (z_on_h rfl (by omega) (by omega)))))) | exact z_on_t (z_on_t (z_on_t (z_on_t (z_on_t (z_on_t (z_on_h rfl (by omega) (by omega))))))) | exact z_on_t (z_on_t (z_on_t (z_on_t (z_on_t (z_on_t (z_on_t (z_on_h rfl (by omega) (by omega)))))))) | exact z_on_t (z_on_t (z_on_t (z_on_t (z_on_t (z_on_t (z_on_t (z_on_t (z_on_h rfl (by omega) (by omega))))))))) | exact z_on_t (z_on_t (z_on_t (z_on_t (z_on_t (z_on_t (z_on_t (z_on_t (z_on_t (z_on_h rfl (by omega) (by omega)))))))))) | exact z_on_t (z_on_t (z_on_t (z_on_t (z_on_t (z_on_t (z_on_t (z_on_t (z_on_t (z_on_t (z_on_h rfl (by omega) (by omega))))))))))) | exact z_on_t (z_on_t (z_on_t (z_on_t (z_on_t (z_on_t (z_on_t (z_on_t (z_on_t (z_on_t (z_on_t (z_on_h rfl (by omega) (by omega)))))))))))) | exact z_on_t (z_on_t (z_on_t (z_on_t (z_on_t (z_on_t (z_on_t (z_on_t (z_on_t (z_on_t (z_on_t (z_on_t (z_on_h rfl (by omega) (by omega))))))))))))))
      have e15 : (z_up m 251 15 (m 251 15 + 1)) 251 15 = m 251 15 + 1 := zu_self
      have e21 : (z_up m 251 15 (m 251 15 + 1)) 251 21 = m 251 21 := zu_k (by decide)
      have e259 : (z_up m 251 15 (m 251 15 + 1)) 259 = m 259 := zu_rowne (by decide)
      obtain ⟨m1, v, a1, a2, a3, a4⟩ := hE (by omega) (z_up m 251 15 (m 251 15 + 1)) (r_RB_sm hB s1 (by rw [zu_k (by decide)]; exact hf) (by omega) (by omega))
      rw [e15] at a3 a4
      rw [e21, e259] at a3
      have gd := q_ex_good hgb (4 - (d + 1)) (m 251 15 + 1) (by omega) (by omega)
      rw [if_neg (by omega), z_add_eq (x := m 251 15) (by omega) (by omega), z_add_eq (x := (d : Int)) (by omega) (by omega), tc1, a1, zb_v, t_thing_58, t_need_0, e]
      simp only
      generalize q_ex g (4 - (d + 1)) (m 251 15 + 1) = R at a3 a4 gd ⊢
      obtain ⟨ok, pos, code⟩ := R
      simp only at a3 a4 gd ⊢
      cases ok with
      | false =>
        have hf1 : ¬ m1 251 16 = -1 := by rw [a4 rfl]; omega
        rw [t_pass0 m1 41 hf1, zb_v, t_need_5, if_pos rfl, t_fault0 m1 _ hf1, zb_n, t_need_16, zb_n, t_thing_65, if_neg (fun z => by cases z.1)]
        exact ⟨m1, v, rfl, r_fail (s1.tr a2) (a4 rfl)⟩
      | true =>
        obtain ⟨p1, p2, p3, p4⟩ := a3 rfl
        have w1 : r_W P g m1 := r_W_sm hw (s1.tr a2) (by omega) (by omega)
        rw [r_pass m1 41 p1 w1, p2]
        by_cases c3 : g pos = 41
        · rw [if_pos c3, if_pos ⟨rfl, c3⟩, zb_v, t_need_5, if_neg (by decide), zb_n, t_thing_65]
          exact ⟨_, v, rfl, (s1.tr a2).upo (by (try unfold r_LR); first | exact z_on_h rfl (by omega) (by omega) | exact z_on_t (z_on_h rfl (by omega) (by omega)) | exact z_on_t (z_on_t (z_on_h rfl (by omega) (by omega))) | exact z_on_t (z_on_t (z_on_t (z_on_h rfl (by omega) (by omega)))) | exact z_on_t (z_on_t (z_on_t (z_on_t (z_on_h rfl (by omega) (by omega))))) | exact z_on_t (z_on_t (z_on_t (z_on_t (z_on_t (z_on_h rfl (by omega) (by omega)))))) | exact z_on_t (z_on_t (z_on_t (z_on_t (z_on_t (z_on_t (z_on_h rfl (by omega) (by omega))))))) | exact z_on_t (z_on_t (z_on_t (z_on_t (z_on_t (z_on_t (z_on_t (z_on_h rfl (by omega) (by omega)))))))) | exact z_on_t (z_on_t (z_on_t (z_on_t (z_on_t (z_on_t (z_on_t (z_on_t (z_on_h rfl (by omega) (by omega))))))))) | exact z_on_t (z_on_t (z_on_t (z_on_t (z_on_t (z_on_t (z_on_t (z_on_t (z_on_t (z_on_h rfl (by omega) (by omega)))))))))) | exact z_on_t (z_on_t (z_on_t (z_on_t (z_on_t (z_on_t (z_on_t (z_on_t (z_on_t (z_on_t (z_on_h rfl (by omega) (by omega))))))))))) | exact z_on_t (z_on_t (z_on_t (z_on_t (z_on_t (z_on_t (z_on_t (z_on_t (z_on_t (z_on_t (z_on_t (z_on_h rfl (by omega) (by omega)))))))))))) | exact z_on_t (z_on_t (z_on_t (z_on_t (z_on_t (z_on_t (z_on_t (z_on_t (z_on_t (z_on_t (z_on_t (z_on_t (z_on_h rfl (by omega) (by omega)))))))))))))), fun _ => ⟨by rw [zu_k (by decide)]; exact p1, zu_self, p3, p4⟩, fun z => by cases z⟩
        · rw [if_neg c3, if_neg (fun z => c3 z.2), zb_v, t_need_5, if_pos rfl, t_fault1 m1 _ p1, zb_n, t_need_16, zb_n, t_thing_65, p2]
          exact ⟨_, v, rfl, r_fail ((s1.tr a2).upo (by (try unfold r_LR); first | exact z_on_h rfl (by omega) (by omega) | exact z_on_t (z_on_h rfl (by omega) (by omega)) | exact z_on_t (z_on_t (z_on_h rfl (by omega) (by omega))) | exact z_on_t (z_on_t (z_on_t (z_on_h rfl (by omega) (by omega)))) | exact z_on_t (z_on_t (z_on_t (z_on_t (z_on_h rfl (by omega) (by omega))))) | exact z_on_t (z_on_t (z_on_t (z_on_t (z_on_t (z_on_h rfl (by omega) (by omega)))))) | exact z_on_t (z_on_t (z_on_t (z_on_t (z_on_t (z_on_t (z_on_h rfl (by omega) (by omega))))))) | exact z_on_t (z_on_t (z_on_t (z_on_t (z_on_t (z_on_t (z_on_t (z_on_h rfl (by omega) (by omega)))))))) | exact z_on_t (z_on_t (z_on_t (z_on_t (z_on_t (z_on_t (z_on_t (z_on_t (z_on_h rfl (by omega) (by omega))))))))) | exact z_on_t (z_on_t (z_on_t (z_on_t (z_on_t (z_on_t (z_on_t (z_on_t (z_on_t (z_on_h rfl (by omega) (by omega)))))))))) | exact z_on_t (z_on_t (z_on_t (z_on_t (z_on_t (z_on_t (z_on_t (z_on_t (z_on_t (z_on_t (z_on_h rfl (by omega) (by omega))))))))))) | exact z_on_t (z_on_t (z_on_t (z_on_t (z_on_t (z_on_t (z_on_t (z_on_t (z_on_t (z_on_t (z_on_t (z_on_h rfl (by omega) (by omega)))))))))))) | exact z_on_t (z_on_t (z_on_t (z_on_t (z_on_t (z_on_t (z_on_t (z_on_t (z_on_t (z_on_t (z_on_t (z_on_t (z_on_h rfl (by omega) (by omega))))))))))))))) zu_self⟩
  rw [if_neg c1, if_neg c1]
  by_cases c2 : u_dg (g (m 251 15)) = -1
  · rw [if_pos c2]
    by_cases c3 : z_idx (g (m 251 15)) = -1
    · rw [if_pos c3]
      exact nodig c2 c3
    · have hn : ¬ (48 ≤ g (m 251 15) ∧ g (m 251 15) ≤ 57) := fun z => by
        unfold u_dg at c2
        rw [if_pos z] at c2
        omega
      have bb := hgb (m 251 15) (fun z => c3 (by rw [z]; decide))
      have bi := z_idx_b (g (m 251 15))
      have s1 : z_same r_LR m (z_up m 251 15 (m 251 15 + 1)) := z_same.rf.upo (by (try unfold r_LR); first | exact z_on_h rfl (by omega) (by omega) | exact z_on_t (z_on_h rfl (by omega) (by omega)) | exact z_on_t (z_on_t (z_on_h rfl (by omega) (by omega))) | exact z_on_t (z_on_t (z_on_t (z_on_h rfl (by omega) (by omega)))) | exact z_on_t (z_on_t (z_on_t (z_on_t (z_on_h rfl (by omega) (by omega))))) | exact z_on_t (z_on_t (z_on_t (z_on_t (z_on_t (z_on_h rfl (by omega) (by omega)))))) | exact z_on_t (z_on_t (z_on_t (z_on_t (z_on_t (z_on_t (z_on_h rfl (by omega) (by omega))))))) | exact z_on_t (z_on_t (z_on_t (z_on_t (z_on_t (z_on_t (z_on_t (z_on_h rfl (by omega) (by omega)))))))) | exact z_on_t (z_on_t (z_on_t (z_on_t (z_on_t (z_on_t (z_on_t (z_on_t (z_on_h rfl (by omega) (by omega))))))))) | exact z_on_t (z_on_t (z_on_t (z_on_t (z_on_t (z_on_t (z_on_t (z_on_t (z_on_t (z_on_h rfl (by omega) (by omega)))))))))) | exact z_on_t (z_on_t (z_on_t (z_on_t (z_on_t (z_on_t (z_on_t (z_on_t (z_on_t (z_on_t (z_on_h rfl (by omega) (by omega))))))))))) | exact z_on_t (z_on_t (z_on_t (z_on_t (z_on_t (z_on_t (z_on_t (z_on_t (z_on_t (z_on_t (z_on_t (z_on_h rfl (by omega) (by omega)))))))))))) | exact z_on_t (z_on_t (z_on_t (z_on_t (z_on_t (z_on_t (z_on_t (z_on_t (z_on_t (z_on_t (z_on_t (z_on_t (z_on_h rfl (by omega) (by omega))))))))))))))
      rw [if_neg c3, t_in, if_neg hn, zb_v, t_thing_75, if_pos rfl, r_letter, zb_v, t_thing_88, if_neg c3, z_add_eq (by omega) (by omega)]
      by_cases c4 : m 251 21 = 0
      · rw [if_pos c4]
        exact ⟨_, 0, rfl, s1, fun _ => ⟨by rw [zu_k (by decide)]; exact hf, zu_self, by omega, fun z => by omega⟩, fun z => by cases z⟩
      · rw [if_neg c4, r_letter, zb_v, t_thing_127, if_pos ⟨by omega, by omega⟩]
        refine ⟨_, _, rfl, s1, fun _ => ⟨by rw [zu_k (by decide)]; exact hf, zu_self, ?_, fun _ => ?_⟩, fun z => by cases z⟩
        · rw [zu_p (by decide)]; exact henv _ (by omega)
        · intro S
          rw [zu_p (by decide)]
          show ev1 (m 259) (1000 + z_idx (g (m 251 15))) S = _
          unfold ev1
          rw [if_neg (by omega), if_neg (by omega), if_neg (by omega), if_pos (by omega), show 1000 + z_idx (g (m 251 15)) - 1000 = z_idx (g (m 251 15)) by omega]
  · have d2 := u_dg_ne c2
    rw [if_neg c2, t_in, if_pos ⟨d2.1, d2.2.1⟩, zb_v, t_thing_75, if_neg (by decide)]
    obtain ⟨m1, a1, a2, a3⟩ := r_num m hw hf c2
    have nv := q_nm_v (g := g) 3 (m 251 15) 0 1 (by decide) (by decide)
    have nv2 : (q_nm g 3 (m 251 15) 0).2 ≤ 999 := nv.2
    rw [a1, zb_v, t_thing_83]
    refine ⟨m1, _, rfl, a3.subo (by (try unfold r_LR); (repeat' (first | exact trivial | refine z_sbo_c ?_ ?_)) <;> (intro k h1 h2; first | exact z_on_h rfl (by omega) (by omega) | exact z_on_t (z_on_h rfl (by omega) (by omega)) | exact z_on_t (z_on_t (z_on_h rfl (by omega) (by omega))) | exact z_on_t (z_on_t (z_on_t (z_on_h rfl (by omega) (by omega)))) | exact z_on_t (z_on_t (z_on_t (z_on_t (z_on_h rfl (by omega) (by omega))))) | exact z_on_t (z_on_t (z_on_t (z_on_t (z_on_t (z_on_h rfl (by omega) (by omega)))))) | exact z_on_t (z_on_t (z_on_t (z_on_t (z_on_t (z_on_t (z_on_h rfl (by omega) (by omega))))))) | exact z_on_t (z_on_t (z_on_t (z_on_t (z_on_t (z_on_t (z_on_t (z_on_h rfl (by omega) (by omega)))))))) | exact z_on_t (z_on_t (z_on_t (z_on_t (z_on_t (z_on_t (z_on_t (z_on_t (z_on_h rfl (by omega) (by omega))))))))) | exact z_on_t (z_on_t (z_on_t (z_on_t (z_on_t (z_on_t (z_on_t (z_on_t (z_on_t (z_on_h rfl (by omega) (by omega)))))))))) | exact z_on_t (z_on_t (z_on_t (z_on_t (z_on_t (z_on_t (z_on_t (z_on_t (z_on_t (z_on_t (z_on_h rfl (by omega) (by omega))))))))))) | exact z_on_t (z_on_t (z_on_t (z_on_t (z_on_t (z_on_t (z_on_t (z_on_t (z_on_t (z_on_t (z_on_t (z_on_h rfl (by omega) (by omega)))))))))))) | exact z_on_t (z_on_t (z_on_t (z_on_t (z_on_t (z_on_t (z_on_t (z_on_t (z_on_t (z_on_t (z_on_t (z_on_t (z_on_h rfl (by omega) (by omega))))))))))))))), fun _ => ⟨(a3.of (by (try unfold r_LR); (repeat' (first | exact trivial | refine z_of_c ?_ ?_)) <;> omega)).trans hf, a2, by omega, fun _ S => ?_⟩, fun z => by cases z⟩
    show ev1 (m 259) (q_nm g 3 (m 251 15) 0).2 S = _
    unfold ev1
    rw [if_neg (by omega), if_neg (by omega), if_pos (by omega)]
/-- with so many - ahead -/
theorem r_minus {P : Nat} {g : Int → Int} {d : Nat} (hd : d ≤ 4) (hE : d < 4 → r_PE P g (d + 1)) : ∀ (f : Nat) (m : z_M), r_RB P g m → 40 - m 251 15 ≤ (f : Int) → ∃ m' v, z_R 179 (m, 0, [(2, 251), (0, (d : Int)), (9, 0), (9, 0)], []) = some (m', some (0, q_ng (q_mn g f (m 251 15)) v)) ∧ r_RP m m' (q_th g (q_E g d) (m 251 15 + (q_mn g f (m 251 15) : Int))) v := by
  intro f
  induction f with
  | zero =>
    intro m hB hf40
    have hgb := r_W_gb hB.1
    have h45 : ¬ g (m 251 15) = 45 := fun z => by have := hgb (m 251 15) (by omega); omega
    show ∃ m' v, _ = some (m', some (0, v)) ∧ r_RP m m' (q_th g (q_E g d) (m 251 15 + ((0 : Nat) : Int))) v
    rw [show m 251 15 + ((0 : Nat) : Int) = m 251 15 by omega]
    exact r_base hd hE m hB h45
  | succ f ih =>
    intro m hB hf40
    obtain ⟨hw, hf, h40, h21, henv⟩ := id hB
    have hgb := r_W_gb hw
    have b15 := hw.2.2.2.2.1
    unfold q_mn
    by_cases c : g (m 251 15) = 45
    · have bb := hgb (m 251 15) (by omega)
      have s1 : z_same r_LR m (z_up m 251 15 (m 251 15 + 1)) := z_same.rf.upo (by (try unfold r_LR); first | exact z_on_h rfl (by omega) (by omega) | exact z_on_t (z_on_h rfl (by omega) (by omega)) | exact z_on_t (z_on_t (z_on_h rfl (by omega) (by omega))) | exact z_on_t (z_on_t (z_on_t (z_on_h rfl (by omega) (by omega)))) | exact z_on_t (z_on_t (z_on_t (z_on_t (z_on_h rfl (by omega) (by omega))))) | exact z_on_t (z_on_t (z_on_t (z_on_t (z_on_t (z_on_h rfl (by omega) (by omega)))))) | exact z_on_t (z_on_t (z_on_t (z_on_t (z_on_t (z_on_t (z_on_h rfl (by omega) (by omega))))))) | exact z_on_t (z_on_t (z_on_t (z_on_t (z_on_t (z_on_t (z_on_t (z_on_h rfl (by omega) (by omega)))))))) | exact z_on_t (z_on_t (z_on_t (z_on_t (z_on_t (z_on_t (z_on_t (z_on_t (z_on_h rfl (by omega) (by omega))))))))) | exact z_on_t (z_on_t (z_on_t (z_on_t (z_on_t (z_on_t (z_on_t (z_on_t (z_on_t (z_on_h rfl (by omega) (by omega)))))))))) | exact z_on_t (z_on_t (z_on_t (z_on_t (z_on_t (z_on_t (z_on_t (z_on_t (z_on_t (z_on_t (z_on_h rfl (by omega) (by omega))))))))))) | exact z_on_t (z_on_t (z_on_t (z_on_t (z_on_t (z_on_t (z_on_t (z_on_t (z_on_t (z_on_t (z_on_t (z_on_h rfl (by omega) (by omega)))))))))))) | exact z_on_t (z_on_t (z_on_t (z_on_t (z_on_t (z_on_t (z_on_t (z_on_t (z_on_t (z_on_t (z_on_t (z_on_t (z_on_h rfl (by omega) (by omega))))))))))))))
      have e15 : (z_up m 251 15 (m 251 15 + 1)) 251 15 = m 251 15 + 1 := zu_self
      have e21 : (z_up m 251 15 (m 251 15 + 1)) 251 21 = m 251 21 := zu_k (by decide)
      have e259 : (z_up m 251 15 (m 251 15 + 1)) 259 = m 259 := zu_rowne (by decide)
      obtain ⟨m1, v, a1, a2, a3, a4⟩ := ih (z_up m 251 15 (m 251 15 + 1)) (r_RB_sm hB s1 (by rw [zu_k (by decide)]; exact hf) (by omega) (by omega)) (by omega)
      rw [e15] at a3 a4
      rw [e21, e259] at a3
      rw [if_pos c, t_thing_0, r_pass m 45 hf hw, if_pos c, zb_v, t_thing_6, if_neg (by decide), a1, zb_v, t_thing_14, show m 251 15 + ((q_mn g f (m 251 15 + 1) + 1 : Nat) : Int) = m 251 15 + 1 + (q_mn g f (m 251 15 + 1) : Int) by omega]
      exact ⟨m1, v, rfl, s1.tr a2, a3, a4⟩
    · rw [if_neg c]
      show ∃ m' v, _ = some (m', some (0, v)) ∧ r_RP m m' (q_th g (q_E g d) (m 251 15 + ((0 : Nat) : Int))) v
      rw [show m 251 15 + ((0 : Nat) : Int) = m 251 15 by omega]
      exact r_base hd hE m hB c
theorem r_signed {P : Nat} {g : Int → Int} {d : Nat} (hd : d ≤ 4) (hE : d < 4 → r_PE P g (d + 1)) (m : z_M) (hB : r_RB P g m) : ∃ m' v, z_R 179 (m, 0, [(2, 251), (0, (d : Int)), (9, 0), (9, 0)], []) = some (m', some (0, v)) ∧ r_RP m m' (q_sg g (q_E g d) (m 251 15)) v := by
  obtain ⟨m', v, a1, a2, a3, a4⟩ := r_minus hd hE 40 m hB (by have := hB.1.2.2.2.2.1; omega)
  refine ⟨m', _, a1, a2, fun z => ?_, a4⟩
  obtain ⟨p1, p2, p3, p4⟩ := a3 z
  exact ⟨p1, p2, q_ng_b p3.1 p3.2 _, fun y => evs_ng (p4 y) p3.1 p3.2 _⟩
theorem q_op_b (c l r : Int) (hl : -2147483648 ≤ l ∧ l ≤ 2147483647) : -2147483648 ≤ q_op c l r ∧ q_op c l r ≤ 2147483647 := by
  unfold q_op
  split
  · exact i32_rng _
  split
  · exact i32_rng _
  split
  · exact i32_rng _
  split
  · split
    · omega
    · exact i32_rng _
  split
  · split <;> omega
  split
  · split <;> omega
  · split <;> omega
theorem r_prod1 {P : Nat} {g : Int → Int} {d : Nat} (hp : ∀ m : z_M, r_RB P g m → ∃ m' v, z_R 179 (m, 0, [(2, 251), (0, (d : Int)), (9, 0), (9, 0)], []) = some (m', some (0, v)) ∧ r_RP m m' (q_sg g (q_E g d) (m 251 15)) v) (hgood : q_good (q_sg g (q_E g d))) {m0 : z_M} (hB : r_RB P g m0) : ∀ (k : Nat) (r : q_Q) (v : Int) (v3 v4 : z_V) (m : z_M), r_RP m0 m r v → 0 ≤ r.2.1 → r.2.1 ≤ 40 → 40 - r.2.1 ≤ (k : Int) → ∃ m' w, z_R 178 (m, 6, [(2, 251), (0, (d : Int)), (0, v), v3, v4], []) = some (m', some (0, w)) ∧ r_RP m0 m' (q_lp g (q_sg g (q_E g d)) 42 47 k r) w := by
  obtain ⟨hw0, hf0, h400, h210, henv0⟩ := id hB
  have hgb := r_W_gb hw0
  have hb15 := hw0.2.2.2.2.1
  have stop : ∀ (r : q_Q) (v : Int) (v3 v4 : z_V) (m : z_M), r_RP m0 m r v → 0 ≤ r.2.1 → r.2.1 ≤ 40 → ¬ (r.1 = true ∧ (g r.2.1 = 42 ∨ g r.2.1 = 47)) → ∃ m' w, z_R 178 (m, 6, [(2, 251), (0, (d : Int)), (0, v), v3, v4], []) = some (m', some (0, w)) ∧ r_RP m0 m' r w := by
    intro r v v3 v4 m hP h0 h1 hn
    obtain ⟨p1, p2, p3⟩ := id hP
    rw [t_prod_6]
    cases hr : r.1 with
    | false =>
      rw [t_fine0 m (by rw [p3 hr]; omega), zb_v, t_prod_10, if_pos rfl]
      exact ⟨m, v, rfl, hP⟩
    | true =>
      obtain ⟨q1, q2, q3, q4⟩ := p2 hr
      have w1 : r_W P g m := r_W_sm hw0 p1 (by omega) (by omega)
      have hg1 : ¬ g r.2.1 = 42 := fun z => hn ⟨hr, Or.inl z⟩
      have hg2 : ¬ g r.2.1 = 47 := fun z => hn ⟨hr, Or.inr z⟩
      rw [t_fine1 m q1, zb_v, t_prod_10, if_neg (by decide), r_here m w1, zb_v, t_prod_17, q2, if_neg hg1, r_here m w1, zb_v, t_prod_26, q2, if_neg hg2]
      exact ⟨m, v, rfl, hP⟩
  intro k
  induction k with
  | zero =>
    intro r v v3 v4 m hP h0 h1 h2
    refine stop r v v3 v4 m hP h0 h1 (fun z => ?_)
    have := hgb r.2.1 (by rcases z.2 with y | y <;> rw [y] <;> decide)
    omega
  | succ k ih =>
    intro r v v3 v4 m hP h0 h1 h2
    unfold q_lp
    by_cases c' : ¬ (r.1 = true ∧ (g r.2.1 = 42 ∨ g r.2.1 = 47))
    · rw [if_neg c']
      exact stop r v v3 v4 m hP h0 h1 c'
    have c : r.1 = true ∧ (g r.2.1 = 42 ∨ g r.2.1 = 47) := Decidable.not_not.mp c'
    rw [if_pos c]
    obtain ⟨p1, p2, p3⟩ := id hP
    obtain ⟨q1, q2, q3, q4⟩ := p2 c.1
    have w1 : r_W P g m := r_W_sm hw0 p1 (by omega) (by omega)
    have bb := hgb r.2.1 (by rcases c.2 with y | y <;> rw [y] <;> decide)
    have s1 : z_same r_LR m (z_up m 251 15 (r.2.1 + 1)) := z_same.rf.upo (by (try unfold r_LR); first | exact z_on_h rfl (by omega) (by omega) | exact z_on_t (z_on_h rfl (by omega) (by omega)) | exact z_on_t (z_on_t (z_on_h rfl (by omega) (by omega))) | exact z_on_t (z_on_t (z_on_t (z_on_h rfl (by omega) (by omega)))) | exact z_on_t (z_on_t (z_on_t (z_on_t (z_on_h rfl (by omega) (by omega))))) | exact z_on_t (z_on_t (z_on_t (z_on_t (z_on_t (z_on_h rfl (by omega) (by omega)))))) | exact z_on_t (z_on_t (z_on_t (z_on_t (z_on_t (z_on_t (z_on_h rfl (by omega) (by omega))))))) | exact z_on_t (z_on_t (z_on_t (z_on_t (z_on_t (z_on_t (z_on_t (z_on_h rfl (by omega) (by omega)))))))) | exact z_on_t (z_on_t (z_on_t (z_on_t (z_on_t (z_on_t (z_on_t (z_on_t (z_on_h rfl (by omega) (by omega))))))))) | exact z_on_t (z_on_t (z_on_t (z_on_t (z_on_t (z_on_t (z_on_t (z_on_t (z_on_t (z_on_h rfl (by omega) (by omega)))))))))) | exact z_on_t (z_on_t (z_on_t (z_on_t (z_on_t (z_on_t (z_on_t (z_on_t (z_on_t (z_on_t (z_on_h rfl (by omega) (by omega))))))))))) | exact z_on_t (z_on_t (z_on_t (z_on_t (z_on_t (z_on_t (z_on_t (z_on_t (z_on_t (z_on_t (z_on_t (z_on_h rfl (by omega) (by omega)))))))))))) | exact z_on_t (z_on_t (z_on_t (z_on_t (z_on_t (z_on_t (z_on_t (z_on_t (z_on_t (z_on_t (z_on_t (z_on_t (z_on_h rfl (by omega) (by omega))))))))))))))
    have e15 : (z_up m 251 15 (r.2.1 + 1)) 251 15 = r.2.1 + 1 := zu_self
    have e21 : (z_up m 251 15 (r.2.1 + 1)) 251 21 = m0 251 21 := (zu_k (by decide)).trans (p1.of (by (try unfold r_LR); (repeat' (first | exact trivial | refine z_of_c ?_ ?_)) <;> omega))
    have e259 : (z_up m 251 15 (r.2.1 + 1)) 259 = m0 259 := (zu_rowne (by decide)).trans (p1.ofr (by (try unfold r_LR); (repeat' (first | exact trivial | refine z_ofr_c ?_ ?_)) <;> omega))
    obtain ⟨m2, w, a1, a2, a3, a4⟩ := hp (z_up m 251 15 (r.2.1 + 1)) (r_RB_sm hB (p1.tr s1) (by rw [zu_k (by decide)]; exact q1) (by omega) (by omega))
    have gd := hgood (r.2.1 + 1) (by omega) (by omega)
    rw [e15] at a3 a4
    rw [e21, e259] at a3
    have key : ∀ (op u : Int) (v3 v4 : z_V), g r.2.1 = op → u = q_op op v w → 0 ≤ op → ¬ op = 126 → ∃ m' w', z_R 178 (m2, 6, [(2, 251), (0, (d : Int)), (0, u), v3, v4], []) = some (m', some (0, w')) ∧ r_RP m0 m' (q_lp g (q_sg g (q_E g d)) 42 47 k ((q_sg g (q_E g d) (r.2.1 + 1)).1, (q_sg g (q_E g d) (r.2.1 + 1)).2.1, r.2.2 ++ (q_sg g (q_E g d) (r.2.1 + 1)).2.2 ++ [2000 + g r.2.1])) w' := by
      intro op u v3 v4 ho hu ho0 ho1
      refine ih _ u v3 v4 m2 ⟨(p1.tr s1).tr a2, fun z => ?_, fun z => a4 z⟩ (by simp only; omega) (by simp only; exact gd.2.1) (by simp only; omega)
      obtain ⟨t1, t2, t3, t4⟩ := a3 z
      refine ⟨t1, t2, by rw [hu]; exact q_op_b _ _ _ q3, fun y => ?_⟩
      rw [ho, hu]
      exact evs_op (q4 y) (t4 y) ho0 ho1
    rw [t_prod_6, t_fine1 m q1, zb_v, t_prod_10, if_neg (by decide), r_here m w1, zb_v, t_prod_17, q2]
    by_cases c1 : g r.2.1 = 42
    · rw [if_pos c1, r_here m w1, zb_v, t_prod_35, q2, if_pos c1, z_add_eq (by omega) (by omega), a1, zb_v, t_prod_61, if_neg (by decide)]
      exact key 42 _ _ _ c1 (by unfold q_op; rw [if_neg (by decide), if_neg (by decide), if_pos rfl]) (by decide) (by decide)
    · have c2 : g r.2.1 = 47 := c.2.resolve_left c1
      rw [if_neg c1, r_here m w1, zb_v, t_prod_26, q2, if_pos c2, r_here m w1, zb_v, t_prod_35, q2, if_neg c1, z_add_eq (by omega) (by omega), a1, zb_v, t_prod_61, if_pos rfl]
      by_cases c3 : w = 0
      · rw [if_pos c3]
        exact key 47 _ _ _ c2 (by unfold q_op; rw [if_neg (by decide), if_neg (by decide), if_neg (by decide), if_pos rfl, if_pos c3]) (by decide) (by decide)
      · rw [if_neg c3, if_neg c3]
        exact key 47 _ _ _ c2 (by unfold q_op; rw [if_neg (by decide), if_neg (by decide), if_neg (by decide), if_pos rfl, if_neg c3]) (by decide) (by decide)
theorem r_product {P : Nat} {g : Int → Int} {d : Nat} (hd : d ≤ 4) (hE : d < 4 → r_PE P g (d + 1)) (m : z_M) (hB : r_RB P g m) : ∃ m' v, z_R 178 (m, 0, [(2, 251), (0, (d : Int)), (9, 0), (9, 0), (9, 0)], []) = some (m', some (0, v)) ∧ r_RP m m' (q_pr g (q_E g d) (m 251 15)) v := by
  have hgb := r_W_gb hB.1
  have hb15 := hB.1.2.2.2.2.1
  have hgood := q_sg_good hgb (q_E_good hgb d)
  obtain ⟨m1, v, a1, a2⟩ := r_signed hd hE m hB
  have gd := hgood (m 251 15) hb15.1 hB.2.2.1
  rw [t_prod_0, a1, zb_v, t_prod_5]
  exact r_prod1 (r_signed hd hE) hgood hB 40 _ v _ _ m1 a2 (by omega) gd.2.1 (by omega)
theorem r_sum1 {P : Nat} {g : Int → Int} {d : Nat} (hp : ∀ m : z_M, r_RB P g m → ∃ m' v, z_R 178 (m, 0, [(2, 251), (0, (d : Int)), (9, 0), (9, 0), (9, 0)], []) = some (m', some (0, v)) ∧ r_RP m m' (q_pr g (q_E g d) (m 251 15)) v) (hgood : q_good (q_pr g (q_E g d))) {m0 : z_M} (hB : r_RB P g m0) : ∀ (k : Nat) (r : q_Q) (v : Int) (v3 v4 : z_V) (m : z_M), r_RP m0 m r v → 0 ≤ r.2.1 → r.2.1 ≤ 40 → 40 - r.2.1 ≤ (k : Int) → ∃ m' w, z_R 177 (m, 6, [(2, 251), (0, (d : Int)), (0, v), v3, v4], []) = some (m', some (0, w)) ∧ r_RP m0 m' (q_lp g (q_pr g (q_E g d)) 43 45 k r) w := by
  obtain ⟨hw0, hf0, h400, h210, henv0⟩ := id hB
  have hgb := r_W_gb hw0
  have hb15 := hw0.2.2.2.2.1
  have stop : ∀ (r : q_Q) (v : Int) (v3 v4 : z_V) (m : z_M), r_RP m0 m r v → 0 ≤ r.2.1 → r.2.1 ≤ 40 → ¬ (r.1 = true ∧ (g r.2.1 = 43 ∨ g r.2.1 = 45)) → ∃ m' w, z_R 177 (m, 6, [(2, 251), (0, (d : Int)), (0, v), v3, v4], []) = some (m', some (0, w)) ∧ r_RP m0 m' r w := by
    intro r v v3 v4 m hP h0 h1 hn
    obtain ⟨p1, p2, p3⟩ := id hP
    rw [t_sum_6]
    cases hr : r.1 with
    | false =>
      rw [t_fine0 m (by rw [p3 hr]; omega), zb_v, t_sum_10, if_pos rfl]
      exact ⟨m, v, rfl, hP⟩
    | true =>
      obtain ⟨q1, q2, q3, q4⟩ := p2 hr
      have w1 : r_W P g m := r_W_sm hw0 p1 (by omega) (by omega)
      have hg1 : ¬ g r.2.1 = 43 := fun z => hn ⟨hr, Or.inl z⟩
      have hg2 : ¬ g r.2.1 = 45 := fun z => hn ⟨hr, Or.inr z⟩
      rw [t_fine1 m q1, zb_v, t_sum_10, if_neg (by decide), r_here m w1, zb_v, t_sum_17, q2, if_neg hg1, r_here m w1, zb_v, t_sum_26, q2, if_neg hg2]
      exact ⟨m, v, rfl, hP⟩
  intro k
  induction k with
  | zero =>
    intro r v v3 v4 m hP h0 h1 h2
    refine stop r v v3 v4 m hP h0 h1 (fun z => ?_)
    have := hgb r.2.1 (by rcases z.2 with y | y <;> rw [y] <;> decide)
    omega
  | succ k ih =>
    intro r v v3 v4 m hP h0 h1 h2
    unfold q_lp
    by_cases c' : ¬ (r.1 = true ∧ (g r.2.1 = 43 ∨ g r.2.1 = 45))
    · rw [if_neg c']
      exact stop r v v3 v4 m hP h0 h1 c'
    have c : r.1 = true ∧ (g r.2.1 = 43 ∨ g r.2.1 = 45) := Decidable.not_not.mp c'
    rw [if_pos c]
    obtain ⟨p1, p2, p3⟩ := id hP
    obtain ⟨q1, q2, q3, q4⟩ := p2 c.1
    have w1 : r_W P g m := r_W_sm hw0 p1 (by omega) (by omega)
    have bb := hgb r.2.1 (by rcases c.2 with y | y <;> rw [y] <;> decide)
    have s1 : z_same r_LR m (z_up m 251 15 (r.2.1 + 1)) := z_same.rf.upo (by (try unfold r_LR); first | exact z_on_h rfl (by omega) (by omega) | exact z_on_t (z_on_h rfl (by omega) (by omega)) | exact z_on_t (z_on_t (z_on_h rfl (by omega) (by omega))) | exact z_on_t (z_on_t (z_on_t (z_on_h rfl (by omega) (by omega)))) | exact z_on_t (z_on_t (z_on_t (z_on_t (z_on_h rfl (by omega) (by omega))))) | exact z_on_t (z_on_t (z_on_t (z_on_t (z_on_t (z_on_h rfl (by omega) (by omega)))))) | exact z_on_t (z_on_t (z_on_t (z_on_t (z_on_t (z_on_t (z_on_h rfl (by omega) (by omega))))))) | exact z_on_t (z_on_t (z_on_t (z_on_t (z_on_t (z_on_t (z_on_t (z_on_h rfl (by omega) (by omega)))))))) | exact z_on_t (z_on_t (z_on_t (z_on_t (z_on_t (z_on_t (z_on_t (z_on_t (z_on_h rfl (by omega) (by omega))))))))) | exact z_on_t (z_on_t (z_on_t (z_on_t (z_on_t (z_on_t (z_on_t (z_on_t (z_on_t (z_on_h rfl (by omega) (by omega)))))))))) | exact z_on_t (z_on_t (z_on_t (z_on_t (z_on_t (z_on_t (z_on_t (z_on_t (z_on_t (z_on_t (z_on_h rfl (by omega) (by omega))))))))))) | exact z_on_t (z_on_t (z_on_t (z_on_t (z_on_t (z_on_t (z_on_t (z_on_t (z_on_t (z_on_t (z_on_t (z_on_h rfl (by omega) (by omega)))))))))))) | exact z_on_t (z_on_t (z_on_t (z_on_t (z_on_t (z_on_t (z_on_t (z_on_t (z_on_t (z_on_t (z_on_t (z_on_t (z_on_h rfl (by omega) (by omega))))))))))))))
    have e15 : (z_up m 251 15 (r.2.1 + 1)) 251 15 = r.2.1 + 1 := zu_self
    have e21 : (z_up m 251 15 (r.2.1 + 1)) 251 21 = m0 251 21 := (zu_k (by decide)).trans (p1.of (by (try unfold r_LR); (repeat' (first | exact trivial | refine z_of_c ?_ ?_)) <;> omega))
    have e259 : (z_up m 251 15 (r.2.1 + 1)) 259 = m0 259 := (zu_rowne (by decide)).trans (p1.ofr (by (try unfold r_LR); (repeat' (first | exact trivial | refine z_ofr_c ?_ ?_)) <;> omega))
    obtain ⟨m2, w, a1, a2, a3, a4⟩ := hp (z_up m 251 15 (r.2.1 + 1)) (r_RB_sm hB (p1.tr s1) (by rw [zu_k (by decide)]; exact q1) (by omega) (by omega))
    have gd := hgood (r.2.1 + 1) (by omega) (by omega)
    rw [e15] at a3 a4
    rw [e21, e259] at a3
    have key : ∀ (op u : Int) (v3 v4 : z_V), g r.2.1 = op → u = q_op op v w → 0 ≤ op → ¬ op = 126 → ∃ m' w', z_R 177 (m2, 6, [(2, 251), (0, (d : Int)), (0, u), v3, v4], []) = some (m', some (0, w')) ∧ r_RP m0 m' (q_lp g (q_pr g (q_E g d)) 43 45 k ((q_pr g (q_E g d) (r.2.1 + 1)).1, (q_pr g (q_E g d) (r.2.1 + 1)).2.1, r.2.2 ++ (q_pr g (q_E g d) (r.2.1 + 1)).2.2 ++ [2000 + g r.2.1])) w' := by
      intro op u v3 v4 ho hu ho0 ho1
      refine ih _ u v3 v4 m2 ⟨(p1.tr s1).tr a2, fun z => ?_, fun z => a4 z⟩ (by simp only; omega) (by simp only; exact gd.2.1) (by simp only; omega)
      obtain ⟨t1, t2, t3, t4⟩ := a3 z
      refine ⟨t1, t2, by rw [hu]; exact q_op_b _ _ _ q3, fun y => ?_⟩
      rw [ho, hu]
      exact evs_op (q4 y) (t4 y) ho0 ho1
    rw [t_sum_6, t_fine1 m q1, zb_v, t_sum_10, if_neg (by decide), r_here m w1, zb_v, t_sum_17, q2]
    by_cases c1 : g r.2.1 = 43
    · rw [if_pos c1, r_here m w1, zb_v, t_sum_35, q2, if_pos c1, z_add_eq (by omega) (by omega), a1, zb_v, t_sum_61, if_neg (by decide)]
      exact key 43 _ _ _ c1 (by unfold q_op; rw [if_pos rfl]) (by decide) (by decide)
    · have c2 : g r.2.1 = 45 := c.2.resolve_left c1
      rw [if_neg c1, r_here m w1, zb_v, t_sum_26, q2, if_pos c2, r_here m w1, zb_v, t_sum_35, q2, if_neg c1, z_add_eq (by omega) (by omega), a1, zb_v, t_sum_61, if_pos rfl]
      exact key 45 _ _ _ c2 (by unfold q_op; rw [if_neg (by decide), if_pos rfl]) (by decide) (by decide)
theorem r_sum {P : Nat} {g : Int → Int} {d : Nat} (hd : d ≤ 4) (hE : d < 4 → r_PE P g (d + 1)) (m : z_M) (hB : r_RB P g m) : ∃ m' v, z_R 177 (m, 0, [(2, 251), (0, (d : Int)), (9, 0), (9, 0), (9, 0)], []) = some (m', some (0, v)) ∧ r_RP m m' (q_su g (q_E g d) (m 251 15)) v := by
  have hgb := r_W_gb hB.1
  have hb15 := hB.1.2.2.2.2.1
  have hgood := q_pr_good hgb (q_E_good hgb d)
  obtain ⟨m1, v, a1, a2⟩ := r_product hd hE m hB
  have gd := hgood (m 251 15) hb15.1 hB.2.2.1
  rw [t_sum_0, a1, zb_v, t_sum_5]
  exact r_sum1 (r_product hd hE) hgood hB 40 _ v _ _ m1 a2 (by omega) gd.2.1 (by omega)
theorem r_expr {P : Nat} {g : Int → Int} {d : Nat} (hd : d ≤ 4) (hE : d < 4 → r_PE P g (d + 1)) : r_PE P g d := by
  intro m hB
  obtain ⟨hw0, hf0, h400, h210, henv0⟩ := id hB
  have hgb := r_W_gb hw0
  have hb15 := hw0.2.2.2.2.1
  have hgood := q_su_good hgb (q_E_good hgb d)
  obtain ⟨m1, v, a1, a2⟩ := r_sum hd hE m hB
  have gd := hgood (m 251 15) hb15.1 h400
  rw [q_ex_he g hd, t_held_0, a1, zb_v, t_held_5]
  unfold q_he
  generalize hR : q_su g (q_E g d) (m 251 15) = R at a2 gd ⊢
  obtain ⟨ok, pos, code⟩ := R
  simp only at gd ⊢
  obtain ⟨p1, p2, p3⟩ := id a2
  cases ok with
  | false =>
    have hf1 : ¬ m1 251 16 = -1 := by rw [p3 rfl]; simp only; omega
    rw [if_neg (fun z => by cases z.1), t_pass0 m1 60 hf1, zb_v, t_held_12, if_pos rfl, t_pass0 m1 62 hf1, zb_v, t_held_36, if_pos rfl, t_pass0 m1 61 hf1, zb_v, t_held_60, if_pos rfl]
    exact ⟨m1, v, rfl, a2⟩
  | true =>
    obtain ⟨q1, q2, q3, q4⟩ := p2 rfl
    simp only at q2 q4
    have w1 : r_W P g m1 := r_W_sm hw0 p1 (by omega) (by omega)
    have second : g pos = 60 ∨ g pos = 62 ∨ g pos = 61 → ∃ m2 w, z_R 177 (z_up m1 251 15 (pos + 1), 0, [(2, 251), (0, (d : Int)), (9, 0), (9, 0), (9, 0)], []) = some (m2, some (0, w)) ∧ ∀ u, u = q_op (g pos) v w → r_RP m m2 ((q_su g (q_E g d) (pos + 1)).1, (q_su g (q_E g d) (pos + 1)).2.1, code ++ (q_su g (q_E g d) (pos + 1)).2.2 ++ [2000 + g pos]) u := by
      intro hc
      have bb := hgb pos (by rcases hc with y | y | y <;> rw [y] <;> decide)
      have s1 : z_same r_LR m1 (z_up m1 251 15 (pos + 1)) := z_same.rf.upo (by (try unfold r_LR); first | exact z_on_h rfl (by omega) (by omega) | exact z_on_t (z_on_h rfl (by omega) (by omega)) | exact z_on_t (z_on_t (z_on_h rfl (by omega) (by omega))) | exact z_on_t (z_on_t (z_on_t (z_on_h rfl (by omega) (by omega)))) | exact z_on_t (z_on_t (z_on_t (z_on_t (z_on_h rfl (by omega) (by omega))))) | exact z_on_t (z_on_t (z_on_t (z_on_t (z_on_t (z_on_h rfl (by omega) (by omega)))))) | exact z_on_t (z_on_t (z_on_t (z_on_t (z_on_t (z_on_t (z_on_h rfl (by omega) (by omega))))))) | exact z_on_t (z_on_t (z_on_t (z_on_t (z_on_t (z_on_t (z_on_t (z_on_h rfl (by omega) (by omega)))))))) | exact z_on_t (z_on_t (z_on_t (z_on_t (z_on_t (z_on_t (z_on_t (z_on_t (z_on_h rfl (by omega) (by omega))))))))) | exact z_on_t (z_on_t (z_on_t (z_on_t (z_on_t (z_on_t (z_on_t (z_on_t (z_on_t (z_on_h rfl (by omega) (by omega)))))))))) | exact z_on_t (z_on_t (z_on_t (z_on_t (z_on_t (z_on_t (z_on_t (z_on_t (z_on_t (z_on_t (z_on_h rfl (by omega) (by omega))))))))))) | exact z_on_t (z_on_t (z_on_t (z_on_t (z_on_t (z_on_t (z_on_t (z_on_t (z_on_t (z_on_t (z_on_t (z_on_h rfl (by omega) (by omega)))))))))))) | exact z_on_t (z_on_t (z_on_t (z_on_t (z_on_t (z_on_t (z_on_t (z_on_t (z_on_t (z_on_t (z_on_t (z_on_t (z_on_h rfl (by omega) (by omega))))))))))))))
      have e15 : (z_up m1 251 15 (pos + 1)) 251 15 = pos + 1 := zu_self
      have e21 : (z_up m1 251 15 (pos + 1)) 251 21 = m 251 21 := (zu_k (by decide)).trans (p1.of (by (try unfold r_LR); (repeat' (first | exact trivial | refine z_of_c ?_ ?_)) <;> omega))
      have e259 : (z_up m1 251 15 (pos + 1)) 259 = m 259 := (zu_rowne (by decide)).trans (p1.ofr (by (try unfold r_LR); (repeat' (first | exact trivial | refine z_ofr_c ?_ ?_)) <;> omega))
      obtain ⟨m2, w, b1, b2, b3, b4⟩ := r_sum hd hE (z_up m1 251 15 (pos + 1)) (r_RB_sm hB (p1.tr s1) (by rw [zu_k (by decide)]; exact q1) (by omega) (by omega))
      rw [e15] at b3 b4
      rw [e21, e259] at b3
      refine ⟨m2, w, b1, fun u hu => ⟨(p1.tr s1).tr b2, fun z => ?_, fun z => b4 z⟩⟩
      obtain ⟨t1, t2, t3, t4⟩ := b3 z
      refine ⟨t1, t2, by rw [hu]; exact q_op_b _ _ _ q3, fun y => ?_⟩
      rw [hu]
      exact evs_op (q4 y) (t4 y) (by omega) (by omega)
    rw [r_pass m1 60 q1 w1, q2]
    by_cases c1 : g pos = 60
    · obtain ⟨m2, w, b1, b2⟩ := second (Or.inl c1)
      rw [if_pos c1, if_pos ⟨rfl, Or.inl c1⟩, zb_v, t_held_12, if_neg (by decide), b1, zb_v, t_held_21]
      by_cases c : w ≤ v
      · rw [if_pos c]
        exact ⟨m2, 0, rfl, b2 0 (by rw [c1]; show 0 = if v < w then 1 else 0; rw [if_neg (by omega)])⟩
      · rw [if_neg c]
        exact ⟨m2, 1, rfl, b2 1 (by rw [c1]; show 1 = if v < w then 1 else 0; rw [if_pos (by omega)])⟩
    rw [if_neg c1, zb_v, t_held_12, if_pos rfl, r_pass m1 62 q1 w1, q2]
    by_cases c2 : g pos = 62
    · obtain ⟨m2, w, b1, b2⟩ := second (Or.inr (Or.inl c2))
      rw [if_pos c2, if_pos ⟨rfl, Or.inr (Or.inl c2)⟩, zb_v, t_held_36, if_neg (by decide), b1, zb_v, t_held_45]
      by_cases c : v ≤ w
      · rw [if_pos c]
        exact ⟨m2, 0, rfl, b2 0 (by rw [c2]; show 0 = if w < v then 1 else 0; rw [if_neg (by omega)])⟩
      · rw [if_neg c]
        exact ⟨m2, 1, rfl, b2 1 (by rw [c2]; show 1 = if w < v then 1 else 0; rw [if_pos (by omega)])⟩
    rw [if_neg c2, zb_v, t_held_36, if_pos rfl, r_pass m1 61 q1 w1, q2]
    by_cases c3 : g pos = 61
    · obtain ⟨m2, w, b1, b2⟩ := second (Or.inr (Or.inr c3))
      rw [if_pos c3, if_pos ⟨rfl, Or.inr (Or.inr c3)⟩, zb_v, t_held_60, if_neg (by decide), b1, zb_v, t_held_69]
      by_cases c : v = w
      · rw [if_pos c]
        exact ⟨m2, 1, rfl, b2 1 (by rw [c3]; show 1 = if v = w then 1 else 0; rw [if_pos c])⟩
      · rw [if_neg c]
        exact ⟨m2, 0, rfl, b2 0 (by rw [c3]; show 0 = if v = w then 1 else 0; rw [if_neg c])⟩
    · rw [if_neg c3, if_neg (fun z => by omega), zb_v, t_held_60, if_pos rfl]
      exact ⟨m1, v, rfl, a2⟩
theorem r_exprs {P : Nat} {g : Int → Int} : ∀ D, D ≤ 4 → r_PE P g (4 - D)
  | 0, _ => r_expr (by decide) (fun z => by omega)
  | D + 1, h => r_expr (by omega) (fun _ => by
    rw [show 4 - (D + 1) + 1 = 4 - D by omega]
    exact r_exprs D (by omega))
