section
/-! THE REFERENCE READS A RULE, and what it makes of it -/
def r_W (P : Nat) (g : Int → Int) (m : z_M) : Prop := m 251 12 = (P : Int) ∧ (P = 254 ∨ P = 258) ∧ m 251 14 = 40 ∧ m 251 13 ≤ 80 ∧ (0 ≤ m 251 15 ∧ m 251 15 ≤ 80) ∧ u_nx (fun k => z_and (m P k) 255) (m 251 13) 40 = g ∧ ∀ k, k < 40 → -128 ≤ m P k ∧ m P k ≤ 127
theorem r_W_gb {P : Nat} {g : Int → Int} {m : z_M} (h : r_W P g m) : q_gb g := by
  obtain ⟨-, -, -, -, -, h6, -⟩ := h
  rw [← h6]
  intro i hi
  unfold u_nx at hi
  by_cases hc : 0 ≤ i ∧ i < m 251 13 ∧ i < 40
  · omega
  · rw [if_neg hc] at hi; exact absurd rfl hi
theorem r_W_sm {P : Nat} {g : Int → Int} {m m' : z_M} (h : r_W P g m) (hs : z_same [(251, 15, 16)] m m') (h0 : 0 ≤ m' 251 15) (h1 : m' 251 15 ≤ 80) : r_W P g m' := by
  obtain ⟨a1, a2, a3, a4, a5, a6, a7⟩ := h
  have eP : m' P = m P := hs.ofr (by
    refine z_ofr_c ?_ trivial
    omega)
  exact ⟨(hs.of (by (try unfold r_LR); (repeat' (first | exact trivial | refine z_of_c ?_ ?_)) <;> omega)).trans a1, a2, (hs.of (by (try unfold r_LR); (repeat' (first | exact trivial | refine z_of_c ?_ ?_)) <;> omega)).trans a3, by rw [hs.of (by (try unfold r_LR); (repeat' (first | exact trivial | refine z_of_c ?_ ?_)) <;> omega)]; exact a4, ⟨h0, h1⟩, by rw [eP, hs.of (by (try unfold r_LR); (repeat' (first | exact trivial | refine z_of_c ?_ ?_)) <;> omega)]; exact a6, by rw [eP]; exact a7⟩
theorem r_here {P : Nat} {g : Int → Int} (m : z_M) (h : r_W P g m) : z_R 168 (m, 0, [(2, 251)], []) = some (m, some (0, g (m 251 15))) := by
  obtain ⟨e, hP, h14, h13, h15, hg, -⟩ := h
  have hl : ((h_ln (m 251 12).toNat : Nat) : Int) = 80 ∨ ((h_ln (m 251 12).toNat : Nat) : Int) = 40 := by
    rw [e, Int.toNat_natCast]
    rcases hP with rfl | rfl
    · exact Or.inl (by decide +kernel)
    · exact Or.inr (by decide +kernel)
  rw [t_here_0, ← hg]
  unfold u_nx
  by_cases c : m 251 15 < m 251 13
  · rw [if_neg (by omega)]
    by_cases c' : m 251 15 < m 251 14
    · rw [if_neg (by omega), if_pos ⟨h15.1, by omega⟩, if_pos ⟨h15.1, c, by omega⟩, e, Int.toNat_natCast]
    · rw [if_pos (by omega), if_neg (fun z => by omega)]
  · rw [if_pos (by omega), if_neg (fun z => c z.2.1)]
theorem r_pass {P : Nat} {g : Int → Int} (m : z_M) (c : Int) (h : m 251 16 = -1) (hw : r_W P g m) : z_R 170 (m, 0, [(2, 251), (0, c)], []) = if g (m 251 15) = c then some (z_up m 251 15 (m 251 15 + 1), some (0, 1)) else some (m, some (0, 0)) := by
  rw [t_pass_0, t_fine1 m h, zb_v, t_pass_4, if_neg (by decide), r_here m hw, zb_v, t_pass_11, z_add_eq (by have := hw.2.2.2.2.1; omega) (by have := hw.2.2.2.2.1; omega)]
theorem r_one {P : Nat} {g : Int → Int} (m : z_M) (h : m 251 16 = -1) (hw : r_W P g m) (hd : ¬ u_dg (g (m 251 15)) = -1) : z_R 167 (m, 0, [(2, 251), (0, 48), (0, 10)], []) = some (z_up m 251 15 (m 251 15 + 1), some (0, u_dg (g (m 251 15)))) := by
  have d := u_dg_ne hd
  have hb := r_W_gb hw (m 251 15) (by omega)
  obtain ⟨e, hP, h14, h13, h15, hg, hr⟩ := id hw
  have hl : ((h_ln (m 251 12).toNat : Nat) : Int) = 80 ∨ ((h_ln (m 251 12).toNat : Nat) : Int) = 40 := by
    rw [e, Int.toNat_natCast]
    rcases hP with rfl | rfl
    · exact Or.inl (by decide +kernel)
    · exact Or.inr (by decide +kernel)
  have hq : 0 ≤ m 251 15 ∧ m 251 15 < m 251 13 ∧ m 251 15 < 40 := by
    have hd' := d.1
    rw [← hg] at hd'
    unfold u_nx at hd'
    by_cases z : 0 ≤ m 251 15 ∧ m 251 15 < m 251 13 ∧ m 251 15 < 40
    · exact z
    · rw [if_neg z] at hd'; omega
  have eq : g (m 251 15) = z_and (m P (m 251 15).toNat) 255 := by
    rw [← hg]
    unfold u_nx
    rw [if_pos hq]
  have hr' := hr (m 251 15).toNat (by omega)
  have ea : z_and (m P (m 251 15).toNat) 255 = m P (m 251 15).toNat := z_and_small hr'.1 hr'.2 (by rw [← eq]; omega)
  have e2 : z_sub (z_add (m 251 15) 1) 1 = m 251 15 := by rw [z_add_eq (by omega) (by omega), z_sub_eq (by omega) (by omega)]; omega
  rw [t_one_0, t_fine1 m h, zb_v, t_one_4, if_neg (by decide), r_here m hw, zb_v, t_one_13, t_in, show z_sub (z_add 48 10) 1 = 57 by decide +kernel, if_pos ⟨d.1, d.2.1⟩, zb_v, t_one_22, if_neg (by decide), e2, if_pos ⟨by omega, by omega⟩, z_add_eq (by omega) (by omega), e, Int.toNat_natCast, zu_p (by omega), ← ea, ← eq, d.2.2, z_sub_eq (by omega) (by omega)]
abbrev r_LR : List (Nat × Nat × Nat) := [(251, 15, 16)]
/-- what a part of it leaves, and its number -/
def r_RP (m m' : z_M) (r : q_Q) (v : Int) : Prop := z_same r_LR m m' ∧ (r.1 = true → m' 251 16 = -1 ∧ m' 251 15 = r.2.1 ∧ (-2147483648 ≤ v ∧ v ≤ 2147483647) ∧ (m 251 21 = 1 → evs (m 259) r.2.2 v)) ∧ (r.1 = false → m' 251 16 = r.2.1)
def r_RB (P : Nat) (g : Int → Int) (m : z_M) : Prop := r_W P g m ∧ m 251 16 = -1 ∧ m 251 15 ≤ 40 ∧ (m 251 21 = 0 ∨ m 251 21 = 1) ∧ ∀ k, k < 7 → -2147483648 ≤ m 259 k ∧ m 259 k ≤ 2147483647
theorem r_RB_sm {P : Nat} {g : Int → Int} {m m' : z_M} (h : r_RB P g m) (hs : z_same r_LR m m') (hf : m' 251 16 = -1) (h0 : 0 ≤ m' 251 15) (h1 : m' 251 15 ≤ 40) : r_RB P g m' := by
  obtain ⟨a1, a2, a3, a4, a5⟩ := h
  refine ⟨r_W_sm a1 hs h0 (by omega), hf, h1, ?_, ?_⟩
  · rw [hs.of (by (try unfold r_LR); (repeat' (first | exact trivial | refine z_of_c ?_ ?_)) <;> omega)]; exact a4
  · rw [hs.ofr (by (try unfold r_LR); (repeat' (first | exact trivial | refine z_ofr_c ?_ ?_)) <;> omega)]; exact a5
theorem r_letter (m : z_M) (c : Int) : z_R 180 (m, 0, [(0, c)], []) = some (m, some (0, z_idx c)) := by
  rw [t_letter_0]
  unfold z_idx
  by_cases h1 : c = 119
  · rw [if_pos h1, if_pos h1]
  rw [if_neg h1, if_neg h1]
  by_cases h2 : c = 105
  · rw [if_pos h2, if_pos h2]
  rw [if_neg h2, if_neg h2]
  by_cases h3 : c = 97
  · rw [if_pos h3, if_pos h3]
  rw [if_neg h3, if_neg h3]
  by_cases h4 : c = 102
  · rw [if_pos h4, if_pos h4]
  rw [if_neg h4, if_neg h4]
  by_cases h5 : c = 121
  · rw [if_pos h5, if_pos h5]
  rw [if_neg h5, if_neg h5]
  by_cases h6 : c = 110
  · rw [if_pos h6, if_pos h6]
  rw [if_neg h6, if_neg h6]
  by_cases h7 : c = 104
  · rw [if_pos h7, if_pos h7]
  · rw [if_neg h7, if_neg h7]
theorem r_num1 {P : Nat} {g : Int → Int} : ∀ (k : Nat) (x3 v : Int) (m : z_M), x3 + (k : Int) = 3 → 1 ≤ x3 → r_W P g m → m 251 16 = -1 → 0 ≤ v → v ≤ q_bnd k → ∃ m', z_R 166 (m, 11, [(2, 251), (0, 3), (0, v), (0, x3)], []) = some (m', some (0, (q_nm g k (m 251 15) v).2)) ∧ m' 251 15 = (q_nm g k (m 251 15) v).1 ∧ z_same [(251, 15, 15)] m m' := by
  intro k
  induction k with
  | zero =>
    intro x3 v m hx h1 hw hf hv0 hv
    rw [t_num_11, if_pos (by omega)]
    exact ⟨m, rfl, rfl, z_same.rf⟩
  | succ k ih =>
    intro x3 v m hx h1 hw hf hv0 hv
    have b15 := hw.2.2.2.2.1
    have r := u_dg_rng (g (m 251 15))
    rw [t_num_11, if_neg (by omega), t_fine1 m hf, zb_v, t_num_20, if_neg (by decide), r_here m hw, zb_v, t_num_27, t_in]
    unfold q_nm
    by_cases c : u_dg (g (m 251 15)) = -1
    · have hn : ¬ (48 ≤ g (m 251 15) ∧ g (m 251 15) ≤ 57) := fun z => by
        unfold u_dg at c
        rw [if_pos z] at c
        omega
      rw [if_pos c, if_neg hn, zb_v, t_num_34, if_pos rfl]
      exact ⟨m, rfl, rfl, z_same.rf⟩
    · have d := u_dg_ne c
      have hb := r_W_gb hw (m 251 15) (by omega)
      have hv9 : v ≤ 99 := by
        rcases (show k = 0 ∨ k = 1 by omega) with rfl | rfl
        · exact hv
        · have hv : v ≤ 9 := hv
          omega
      have s1 : z_same [(251, 15, 15)] m (z_up m 251 15 (m 251 15 + 1)) := z_same.rf.upo (by (try unfold r_LR); first | exact z_on_h rfl (by omega) (by omega) | exact z_on_t (z_on_h rfl (by omega) (by omega)) | exact z_on_t (z_on_t (z_on_h rfl (by omega) (by omega))) | exact z_on_t (z_on_t (z_on_t (z_on_h rfl (by omega) (by omega)))) | exact z_on_t (z_on_t (z_on_t (z_on_t (z_on_h rfl (by omega) (by omega))))) | exact z_on_t (z_on_t (z_on_t (z_on_t (z_on_t (z_on_h rfl (by omega) (by omega)))))) | exact z_on_t (z_on_t (z_on_t (z_on_t (z_on_t (z_on_t (z_on_h rfl (by omega) (by omega))))))) | exact z_on_t (z_on_t (z_on_t (z_on_t (z_on_t (z_on_t (z_on_t (z_on_h rfl (by omega) (by omega)))))))) | exact z_on_t (z_on_t (z_on_t (z_on_t (z_on_t (z_on_t (z_on_t (z_on_t (z_on_h rfl (by omega) (by omega))))))))) | exact z_on_t (z_on_t (z_on_t (z_on_t (z_on_t (z_on_t (z_on_t (z_on_t (z_on_t (z_on_h rfl (by omega) (by omega)))))))))) | exact z_on_t (z_on_t (z_on_t (z_on_t (z_on_t (z_on_t (z_on_t (z_on_t (z_on_t (z_on_t (z_on_h rfl (by omega) (by omega))))))))))) | exact z_on_t (z_on_t (z_on_t (z_on_t (z_on_t (z_on_t (z_on_t (z_on_t (z_on_t (z_on_t (z_on_t (z_on_h rfl (by omega) (by omega)))))))))))) | exact z_on_t (z_on_t (z_on_t (z_on_t (z_on_t (z_on_t (z_on_t (z_on_t (z_on_t (z_on_t (z_on_t (z_on_t (z_on_h rfl (by omega) (by omega))))))))))))))
      have e15 : (z_up m 251 15 (m 251 15 + 1)) 251 15 = m 251 15 + 1 := zu_self
      rw [if_neg c, if_pos ⟨d.1, d.2.1⟩, zb_v, t_num_34, if_neg (by decide), r_one m hf hw c, zb_v, t_num_49, z_mul_eq (by omega) (by omega), z_add_eq (x := 10 * v) (by omega) (by omega), z_add_eq (x := x3) (by omega) (by omega)]
      obtain ⟨m', a1, a2, a3⟩ := ih (x3 + 1) (10 * v + u_dg (g (m 251 15))) (z_up m 251 15 (m 251 15 + 1)) (by omega) (by omega) (r_W_sm hw (s1.subo (by (try unfold r_LR); (repeat' (first | exact trivial | refine z_sbo_c ?_ ?_)) <;> (intro k h1 h2; first | exact z_on_h rfl (by omega) (by omega) | exact z_on_t (z_on_h rfl (by omega) (by omega)) | exact z_on_t (z_on_t (z_on_h rfl (by omega) (by omega))) | exact z_on_t (z_on_t (z_on_t (z_on_h rfl (by omega) (by omega)))) | exact z_on_t (z_on_t (z_on_t (z_on_t (z_on_h rfl (by omega) (by omega))))) | exact z_on_t (z_on_t (z_on_t (z_on_t (z_on_t (z_on_h rfl (by omega) (by omega)))))) | exact z_on_t (z_on_t (z_on_t (z_on_t (z_on_t (z_on_t (z_on_h rfl (by omega) (by omega))))))) | exact z_on_t (z_on_t (z_on_t (z_on_t (z_on_t (z_on_t (z_on_t (z_on_h rfl (by omega) (by omega)))))))) | exact z_on_t (z_on_t (z_on_t (z_on_t (z_on_t (z_on_t (z_on_t (z_on_t (z_on_h rfl (by omega) (by omega))))))))) | exact z_on_t (z_on_t (z_on_t (z_on_t (z_on_t (z_on_t (z_on_t (z_on_t (z_on_t (z_on_h rfl (by omega) (by omega)))))))))) | exact z_on_t (z_on_t (z_on_t (z_on_t (z_on_t (z_on_t (z_on_t (z_on_t (z_on_t (z_on_t (z_on_h rfl (by omega) (by omega))))))))))) | exact z_on_t (z_on_t (z_on_t (z_on_t (z_on_t (z_on_t (z_on_t (z_on_t (z_on_t (z_on_t (z_on_t (z_on_h rfl (by omega) (by omega)))))))))))) | exact z_on_t (z_on_t (z_on_t (z_on_t (z_on_t (z_on_t (z_on_t (z_on_t (z_on_t (z_on_t (z_on_t (z_on_t (z_on_h rfl (by omega) (by omega)))))))))))))))) (by omega) (by omega)) (by rw [zu_k (by decide)]; exact hf) (by omega) (by
        rcases (show k = 0 ∨ k = 1 by omega) with rfl | rfl
        · have hv : v ≤ 99 := hv
          show 10 * v + u_dg (g (m 251 15)) ≤ 999
          omega
        · have hv : v ≤ 9 := hv
          show 10 * v + u_dg (g (m 251 15)) ≤ 99
          omega)
      rw [e15] at a1 a2
      exact ⟨m', a1, a2, s1.tr a3⟩
theorem r_num {P : Nat} {g : Int → Int} (m : z_M) (hw : r_W P g m) (hf : m 251 16 = -1) (hd : ¬ u_dg (g (m 251 15)) = -1) : ∃ m', z_R 166 (m, 0, [(2, 251), (0, 3), (9, 0), (9, 0)], []) = some (m', some (0, (q_nm g 3 (m 251 15) 0).2)) ∧ m' 251 15 = (q_nm g 3 (m 251 15) 0).1 ∧ z_same [(251, 15, 15)] m m' := by
  have d := u_dg_ne hd
  have hb := r_W_gb hw (m 251 15) (by omega)
  have b15 := hw.2.2.2.2.1
  have r := u_dg_rng (g (m 251 15))
  have s1 : z_same [(251, 15, 15)] m (z_up m 251 15 (m 251 15 + 1)) := z_same.rf.upo (by (try unfold r_LR); first | exact z_on_h rfl (by omega) (by omega) | exact z_on_t (z_on_h rfl (by omega) (by omega)) | exact z_on_t (z_on_t (z_on_h rfl (by omega) (by omega))) | exact z_on_t (z_on_t (z_on_t (z_on_h rfl (by omega) (by omega)))) | exact z_on_t (z_on_t (z_on_t (z_on_t (z_on_h rfl (by omega) (by omega))))) | exact z_on_t (z_on_t (z_on_t (z_on_t (z_on_t (z_on_h rfl (by omega) (by omega)))))) | exact z_on_t (z_on_t (z_on_t (z_on_t (z_on_t (z_on_t (z_on_h rfl (by omega) (by omega))))))) | exact z_on_t (z_on_t (z_on_t (z_on_t (z_on_t (z_on_t (z_on_t (z_on_h rfl (by omega) (by omega)))))))) | exact z_on_t (z_on_t (z_on_t (z_on_t (z_on_t (z_on_t (z_on_t (z_on_t (z_on_h rfl (by omega) (by omega))))))))) | exact z_on_t (z_on_t (z_on_t (z_on_t (z_on_t (z_on_t (z_on_t (z_on_t (z_on_t (z_on_h rfl (by omega) (by omega)))))))))) | exact z_on_t (z_on_t (z_on_t (z_on_t (z_on_t (z_on_t (z_on_t (z_on_t (z_on_t (z_on_t (z_on_h rfl (by omega) (by omega))))))))))) | exact z_on_t (z_on_t (z_on_t (z_on_t (z_on_t (z_on_t (z_on_t (z_on_t (z_on_t (z_on_t (z_on_t (z_on_h rfl (by omega) (by omega)))))))))))) | exact z_on_t (z_on_t (z_on_t (z_on_t (z_on_t (z_on_t (z_on_t (z_on_t (z_on_t (z_on_t (z_on_t (z_on_t (z_on_h rfl (by omega) (by omega))))))))))))))
  have e15 : (z_up m 251 15 (m 251 15 + 1)) 251 15 = m 251 15 + 1 := zu_self
  obtain ⟨m', a1, a2, a3⟩ := r_num1 (P := P) (g := g) 2 1 (u_dg (g (m 251 15))) (z_up m 251 15 (m 251 15 + 1)) (by decide) (by decide) (r_W_sm hw (s1.subo (by (try unfold r_LR); (repeat' (first | exact trivial | refine z_sbo_c ?_ ?_)) <;> (intro k h1 h2; first | exact z_on_h rfl (by omega) (by omega) | exact z_on_t (z_on_h rfl (by omega) (by omega)) | exact z_on_t (z_on_t (z_on_h rfl (by omega) (by omega))) | exact z_on_t (z_on_t (z_on_t (z_on_h rfl (by omega) (by omega)))) | exact z_on_t (z_on_t (z_on_t (z_on_t (z_on_h rfl (by omega) (by omega))))) | exact z_on_t (z_on_t (z_on_t (z_on_t (z_on_t (z_on_h rfl (by omega) (by omega)))))) | exact z_on_t (z_on_t (z_on_t (z_on_t (z_on_t (z_on_t (z_on_h rfl (by omega) (by omega))))))) | exact z_on_t (z_on_t (z_on_t (z_on_t (z_on_t (z_on_t (z_on_t (z_on_h rfl (by omega) (by omega)))))))) | exact z_on_t (z_on_t (z_on_t (z_on_t (z_on_t (z_on_t (z_on_t (z_on_t (z_on_h rfl (by omega) (by omega))))))))) | exact z_on_t (z_on_t (z_on_t (z_on_t (z_on_t (z_on_t (z_on_t (z_on_t (z_on_t (z_on_h rfl (by omega) (by omega)))))))))) | exact z_on_t (z_on_t (z_on_t (z_on_t (z_on_t (z_on_t (z_on_t (z_on_t (z_on_t (z_on_t (z_on_h rfl (by omega) (by omega))))))))))) | exact z_on_t (z_on_t (z_on_t (z_on_t (z_on_t (z_on_t (z_on_t (z_on_t (z_on_t (z_on_t (z_on_t (z_on_h rfl (by omega) (by omega)))))))))))) | exact z_on_t (z_on_t (z_on_t (z_on_t (z_on_t (z_on_t (z_on_t (z_on_t (z_on_t (z_on_t (z_on_t (z_on_t (z_on_h rfl (by omega) (by omega)))))))))))))))) (by omega) (by omega)) (by rw [zu_k (by decide)]; exact hf) (by omega) (by show u_dg (g (m 251 15)) ≤ 9; omega)
  have e : q_nm g 3 (m 251 15) 0 = q_nm g 2 (m 251 15 + 1) (u_dg (g (m 251 15))) := by
    show (if u_dg (g (m 251 15)) = -1 then (m 251 15, 0) else q_nm g 2 (m 251 15 + 1) (10 * 0 + u_dg (g (m 251 15)))) = _
    rw [if_neg hd, show 10 * 0 + u_dg (g (m 251 15)) = u_dg (g (m 251 15)) by omega]
  rw [e15] at a1 a2
  rw [t_num_0, r_one m hf hw hd, zb_v, t_num_8, a1, e]
  exact ⟨m', rfl, a2, s1.tr a3⟩
noncomputable def r_PE (P : Nat) (g : Int → Int) (d : Nat) : Prop := ∀ m : z_M, r_RB P g m → ∃ m' v, z_R 176 (m, 0, [(2, 251), (0, (d : Int)), (9, 0)], []) = some (m', some (0, v)) ∧ r_RP m m' (q_ex g (4 - d) (m 251 15)) v
theorem r_fail {m m' : z_M} {i v : Int} {c : List Int} (h : z_same r_LR m m') (hp : m' 251 16 = i) : r_RP m m' (false, i, c) v := ⟨h, (fun z => by cases z), fun _ => hp⟩
/-- a thing without - ahead of it -/
theorem r_base {P : Nat} {g : Int → Int} {d : Nat} (hd : d ≤ 4) (hE : d < 4 → r_PE P g (d + 1)) (m : z_M) (hB : r_RB P g m) (h45 : ¬ g (m 251 15) = 45) : ∃ m' v, z_R 179 (m, 0, [(2, 251), (0, (d : Int)), (9, 0), (9, 0)], []) = some (m', some (0, v)) ∧ r_RP m m' (q_th g (q_E g d) (m 251 15)) v := by
  obtain ⟨hw, hf, h40, h21, henv⟩ := id hB
  have hgb := r_W_gb hw
  have b15 := hw.2.2.2.2.1
  rw [t_thing_0, r_pass m 45 hf hw, if_neg h45, zb_v, t_thing_6, if_pos rfl, t_fine1 m hf, zb_v, t_thing_20, if_neg (by decide), r_here m hw, zb_v, t_thing_29]
  have nodig : u_dg (g (m 251 15)) = -1 → z_idx (g (m 251 15)) = -1 → ∃ m' v, ((z_R 162 (m, 0, [(0, g (m 251 15)), (0, 48), (0, 57)], [])).bind fun qq => z_R 179 (qq.1, 75, [(2, 251), (0, (d : Int)), (0, g (m 251 15)), (9, 0)], qq.2.toList ++ [])) = some (m', some (0, v)) ∧ r_RP m m' (false, m 251 15, []) v := by
    intro z1 z2
    have hn : ¬ (48 ≤ g (m 251 15) ∧ g (m 251 15) ≤ 57) := fun z => by
      unfold u_dg at z1
      rw [if_pos z] at z1
      omega
    rw [t_in, if_neg hn, zb_v, t_thing_75, if_pos rfl, r_letter, zb_v, t_thing_88, if_pos z2, t_fault1 m _ hf, zb_n, t_thing_100]
    exact ⟨_, 0, rfl, r_fail (z_same.rf.upo (by (try unfold r_LR); first | exact z_on_h rfl (by omega) (by omega) | exact z_on_t (z_on_h rfl (by omega) (by omega)) | exact z_on_t (z_on_t (z_on_h rfl (by omega) (by omega))) | exact z_on_t (z_on_t (z_on_t (z_on_h rfl (by omega) (by omega)))) | exact z_on_t (z_on_t (z_on_t (z_on_t (z_on_h rfl (by omega) (by omega))))) | exact z_on_t (z_on_t (z_on_t (z_on_t (z_on_t (z_on_h rfl (by omega) (by omega)))))) | exact z_on_t (z_on_t (z_on_t (z_on_t (z_on_t (z_on_t (z_on_h rfl (by omega) (by omega))))))) | exact z_on_t (z_on_t (z_on_t (z_on_t (z_on_t (z_on_t (z_on_t (z_on_h rfl (by omega) (by omega)))))))) | exact z_on_t (z_on_t (z_on_t (z_on_t (z_on_t (z_on_t (z_on_t (z_on_t (z_on_h rfl (by omega) (by omega))))))))) | exact z_on_t (z_on_t (z_on_t (z_on_t (z_on_t (z_on_t (z_on_t (z_on_t (z_on_t (z_on_h rfl (by omega) (by omega)))))))))) | exact z_on_t (z_on_t (z_on_t (z_on_t (z_on_t (z_on_t (z_on_t (z_on_t (z_on_t (z_on_t (z_on_h rfl (by omega) (by omega))))))))))) | exact z_on_t (z_on_t (z_on_t (z_on_t (z_on_t (z_on_t (z_on_t (z_on_t (z_on_t (z_on_t (z_on_t (z_on_h rfl (by omega) (by omega)))))))))))) | exact z_on_t (z_on_t (z_on_t (z_on_t (z_on_t (z_on_t (z_on_t (z_on_t (z_on_t (z_on_t (z_on_t (z_on_t (z_on_h rfl (by omega) (by omega))))))))))))))) zu_self⟩
  unfold q_th
  by_cases c1 : g (m 251 15) = 40
  · have bb := hgb (m 251 15) (by omega)
    rw [if_pos c1, if_pos c1]
    by_cases c2 : 4 ≤ d
    · have e : q_E g d = none := by unfold q_E; rw [if_pos c2]
      rw [if_pos (by omega), e]
      exact nodig (by rw [c1]; decide) (by rw [c1]; decide)
    · have e : q_E g d = some (q_ex g (4 - (d + 1))) := by unfold q_E; rw [if_neg c2, show 3 - d = 4 - (d + 1) by omega]
      have s1 : z_same r_LR m (z_up m 251 15 (m 251 15 + 1)) := z_same.rf.upo (by (try unfold r_LR); first | exact z_on_h rfl (by omega) (by omega) | exact z_on_t (z_on_h rfl (by omega) (by omega)) | exact z_on_t (z_on_t (z_on_h rfl (by omega) (by omega))) | exact z_on_t (z_on_t (z_on_t (z_on_h rfl (by omega) (by omega)))) | exact z_on_t (z_on_t (z_on_t (z_on_t (z_on_h rfl (by omega) (by omega))))) | exact z_on_t (z_on_t (z_on_t (z_on_t (z_on_t (z_on_h rfl (by omega) (by omega)))))) | exact z_on_t (z_on_t (z_on_t (z_on_t (z_on_t (z_on_t (z_on_h rfl (by omega) (by omega))))))) | exact z_on_t (z_on_t (z_on_t (z_on_t (z_on_t (z_on_t (z_on_t (z_on_h rfl (by omega) (by omega)))))))) | exact z_on_t (z_on_t (z_on_t (z_on_t (z_on_t (z_on_t (z_on_t (z_on_t (z_on_h rfl (by omega) (by omega))))))))) | exact z_on_t (z_on_t (z_on_t (z_on_t (z_on_t (z_on_t (z_on_t (z_on_t (z_on_t (z_on_h rfl (by omega) (by omega)))))))))) | exact z_on_t (z_on_t (z_on_t (z_on_t (z_on_t (z_on_t (z_on_t (z_on_t (z_on_t (z_on_t (z_on_h rfl (by omega) (by omega))))))))))) | exact z_on_t (z_on_t (z_on_t (z_on_t (z_on_t (z_on_t (z_on_t (z_on_t (z_on_t (z_on_t (z_on_t (z_on_h rfl (by omega) (by omega)))))))))))) | exact z_on_t (z_on_t (z_on_t (z_on_t (z_on_t (z_on_t (z_on_t (z_on_t (z_on_t (z_on_t (z_on_t (z_on_t (z_on_h rfl (by omega) (by omega))))))))))))))
      have e15 : (z_up m 251 15 (m 251 15 + 1)) 251 15 = m 251 15 + 1 := zu_self
      have e21 : (z_up m 251 15 (m 251 15 + 1)) 251 21 = m 251 21 := zu_k (by decide)
      have e259 : (z_up m 251 15 (m 251 15 + 1)) 259 = m 259 := zu_rowne (by decide)
      obtain ⟨m1, v, a1, a2, a3, a4⟩ := hE (by omega) (z_up m 251 15 (m 251 15 + 1)) (r_RB_sm hB s1 (by rw [zu_k (by decide)]; exact hf) (by omega) (by omega))
      rw [e15] at a3 a4
      rw [e21, e259] at a3
      have gd := q_ex_good hgb (4 - (d + 1)) (m 251 15 + 1) (by omega) (by omega)
      rw [if_neg (by omega), z_add_eq (x := m 251 15) (by omega) (by omega), z_add_eq (x := (d : Int)) (by omega) (by omega), tc1, a1, zb_v, t_thing_58, t_need_0, e]
      simp only
      generalize q_ex g (4 - (d + 1)) (m 251 15 + 1) = R at a3 a4 gd ⊢
      obtain ⟨ok, pos, code⟩ := R
      simp only at a3 a4 gd ⊢
      cases ok with
      | false =>
        have hf1 : ¬ m1 251 16 = -1 := by rw [a4 rfl]; omega
        rw [t_pass0 m1 41 hf1, zb_v, t_need_5, if_pos rfl, t_fault0 m1 _ hf1, zb_n, t_need_16, zb_n, t_thing_65, if_neg (fun z => by cases z.1)]
        exact ⟨m1, v, rfl, r_fail (s1.tr a2) (a4 rfl)⟩
      | true =>
        obtain ⟨p1, p2, p3, p4⟩ := a3 rfl
        have w1 : r_W P g m1 := r_W_sm hw (s1.tr a2) (by omega) (by omega)
        rw [r_pass m1 41 p1 w1, p2]
        by_cases c3 : g pos = 41
        · rw [if_pos c3, if_pos ⟨rfl, c3⟩, zb_v, t_need_5, if_neg (by decide), zb_n, t_thing_65]
          exact ⟨_, v, rfl, (s1.tr a2).upo (by (try unfold r_LR); first | exact z_on_h rfl (by omega) (by omega) | exact z_on_t (z_on_h rfl (by omega) (by omega)) | exact z_on_t (z_on_t (z_on_h rfl (by omega) (by omega))) | exact z_on_t (z_on_t (z_on_t (z_on_h rfl (by omega) (by omega)))) | exact z_on_t (z_on_t (z_on_t (z_on_t (z_on_h rfl (by omega) (by omega))))) | exact z_on_t (z_on_t (z_on_t (z_on_t (z_on_t (z_on_h rfl (by omega) (by omega)))))) | exact z_on_t (z_on_t (z_on_t (z_on_t (z_on_t (z_on_t (z_on_h rfl (by omega) (by omega))))))) | exact z_on_t (z_on_t (z_on_t (z_on_t (z_on_t (z_on_t (z_on_t (z_on_h rfl (by omega) (by omega)))))))) | exact z_on_t (z_on_t (z_on_t (z_on_t (z_on_t (z_on_t (z_on_t (z_on_t (z_on_h rfl (by omega) (by omega))))))))) | exact z_on_t (z_on_t (z_on_t (z_on_t (z_on_t (z_on_t (z_on_t (z_on_t (z_on_t (z_on_h rfl (by omega) (by omega)))))))))) | exact z_on_t (z_on_t (z_on_t (z_on_t (z_on_t (z_on_t (z_on_t (z_on_t (z_on_t (z_on_t (z_on_h rfl (by omega) (by omega))))))))))) | exact z_on_t (z_on_t (z_on_t (z_on_t (z_on_t (z_on_t (z_on_t (z_on_t (z_on_t (z_on_t (z_on_t (z_on_h rfl (by omega) (by omega)))))))))))) | exact z_on_t (z_on_t (z_on_t (z_on_t (z_on_t (z_on_t (z_on_t (z_on_t (z_on_t (z_on_t (z_on_t (z_on_t (z_on_h rfl (by omega) (by omega)))))))))))))), fun _ => ⟨by rw [zu_k (by decide)]; exact p1, zu_self, p3, p4⟩, fun z => by cases z⟩
        · rw [if_neg c3, if_neg (fun z => c3 z.2), zb_v, t_need_5, if_pos rfl, t_fault1 m1 _ p1, zb_n, t_need_16, zb_n, t_thing_65, p2]
          exact ⟨_, v, rfl, r_fail ((s1.tr a2).upo (by (try unfold r_LR); first | exact z_on_h rfl (by omega) (by omega) | exact z_on_t (z_on_h rfl (by omega) (by omega)) | exact z_on_t (z_on_t (z_on_h rfl (by omega) (by omega))) | exact z_on_t (z_on_t (z_on_t (z_on_h rfl (by omega) (by omega)))) | exact z_on_t (z_on_t (z_on_t (z_on_t (z_on_h rfl (by omega) (by omega))))) | exact z_on_t (z_on_t (z_on_t (z_on_t (z_on_t (z_on_h rfl (by omega) (by omega)))))) | exact z_on_t (z_on_t (z_on_t (z_on_t (z_on_t (z_on_t (z_on_h rfl (by omega) (by omega))))))) | exact z_on_t (z_on_t (z_on_t (z_on_t (z_on_t (z_on_t (z_on_t (z_on_h rfl (by omega) (by omega)))))))) | exact z_on_t (z_on_t (z_on_t (z_on_t (z_on_t (z_on_t (z_on_t (z_on_t (z_on_h rfl (by omega) (by omega))))))))) | exact z_on_t (z_on_t (z_on_t (z_on_t (z_on_t (z_on_t (z_on_t (z_on_t (z_on_t (z_on_h rfl (by omega) (by omega)))))))))) | exact z_on_t (z_on_t (z_on_t (z_on_t (z_on_t (z_on_t (z_on_t (z_on_t (z_on_t (z_on_t (z_on_h rfl (by omega) (by omega))))))))))) | exact z_on_t (z_on_t (z_on_t (z_on_t (z_on_t (z_on_t (z_on_t (z_on_t (z_on_t (z_on_t (z_on_t (z_on_h rfl (by omega) (by omega)))))))))))) | exact z_on_t (z_on_t (z_on_t (z_on_t (z_on_t (z_on_t (z_on_t (z_on_t (z_on_t (z_on_t (z_on_t (z_on_t (z_on_h rfl (by omega) (by omega))))))))))))))) zu_self⟩
  rw [if_neg c1, if_neg c1]
  by_cases c2 : u_dg (g (m 251 15)) = -1
  · rw [if_pos c2]
    by_cases c3 : z_idx (g (m 251 15)) = -1
    · rw [if_pos c3]
      exact nodig c2 c3
    · have hn : ¬ (48 ≤ g (m 251 15) ∧ g (m 251 15) ≤ 57) := fun z => by
        unfold u_dg at c2
        rw [if_pos z] at c2
        omega
      have bb := hgb (m 251 15) (fun z => c3 (by rw [z]; decide))
      have bi := z_idx_b (g (m 251 15))
      have s1 : z_same r_LR m (z_up m 251 15 (m 251 15 + 1)) := z_same.rf.upo (by (try unfold r_LR); first | exact z_on_h rfl (by omega) (by omega) | exact z_on_t (z_on_h rfl (by omega) (by omega)) | exact z_on_t (z_on_t (z_on_h rfl (by omega) (by omega))) | exact z_on_t (z_on_t (z_on_t (z_on_h rfl (by omega) (by omega)))) | exact z_on_t (z_on_t (z_on_t (z_on_t (z_on_h rfl (by omega) (by omega))))) | exact z_on_t (z_on_t (z_on_t (z_on_t (z_on_t (z_on_h rfl (by omega) (by omega)))))) | exact z_on_t (z_on_t (z_on_t (z_on_t (z_on_t (z_on_t (z_on_h rfl (by omega) (by omega))))))) | exact z_on_t (z_on_t (z_on_t (z_on_t (z_on_t (z_on_t (z_on_t (z_on_h rfl (by omega) (by omega)))))))) | exact z_on_t (z_on_t (z_on_t (z_on_t (z_on_t (z_on_t (z_on_t (z_on_t (z_on_h rfl (by omega) (by omega))))))))) | exact z_on_t (z_on_t (z_on_t (z_on_t (z_on_t (z_on_t (z_on_t (z_on_t (z_on_t (z_on_h rfl (by omega) (by omega)))))))))) | exact z_on_t (z_on_t (z_on_t (z_on_t (z_on_t (z_on_t (z_on_t (z_on_t (z_on_t (z_on_t (z_on_h rfl (by omega) (by omega))))))))))) | exact z_on_t (z_on_t (z_on_t (z_on_t (z_on_t (z_on_t (z_on_t (z_on_t (z_on_t (z_on_t (z_on_t (z_on_h rfl (by omega) (by omega)))))))))))) | exact z_on_t (z_on_t (z_on_t (z_on_t (z_on_t (z_on_t (z_on_t (z_on_t (z_on_t (z_on_t (z_on_t (z_on_t (z_on_h rfl (by omega) (by omega))))))))))))))
      rw [if_neg c3, t_in, if_neg hn, zb_v, t_thing_75, if_pos rfl, r_letter, zb_v, t_thing_88, if_neg c3, z_add_eq (by omega) (by omega)]
      by_cases c4 : m 251 21 = 0
      · rw [if_pos c4]
        exact ⟨_, 0, rfl, s1, fun _ => ⟨by rw [zu_k (by decide)]; exact hf, zu_self, by omega, fun z => by omega⟩, fun z => by cases z⟩
      · rw [if_neg c4, r_letter, zb_v, t_thing_127, if_pos ⟨by omega, by omega⟩]
        refine ⟨_, _, rfl, s1, fun _ => ⟨by rw [zu_k (by decide)]; exact hf, zu_self, ?_, fun _ => ?_⟩, fun z => by cases z⟩
        · rw [zu_p (by decide)]; exact henv _ (by omega)
        · intro S
          rw [zu_p (by decide)]
          show ev1 (m 259) (1000 + z_idx (g (m 251 15))) S = _
          unfold ev1
          rw [if_neg (by omega), if_neg (by omega), if_neg (by omega), if_pos (by omega), show 1000 + z_idx (g (m 251 15)) - 1000 = z_idx (g (m 251 15)) by omega]
  · have d2 := u_dg_ne c2
    rw [if_neg c2, t_in, if_pos ⟨d2.1, d2.2.1⟩, zb_v, t_thing_75, if_neg (by decide)]
    obtain ⟨m1, a1, a2, a3⟩ := r_num m hw hf c2
    have nv := q_nm_v (g := g) 3 (m 251 15) 0 1 (by decide) (by decide)
    have nv2 : (q_nm g 3 (m 251 15) 0).2 ≤ 999 := nv.2
    rw [a1, zb_v, t_thing_83]
    refine ⟨m1, _, rfl, a3.subo (by (try unfold r_LR); (repeat' (first | exact trivial | refine z_sbo_c ?_ ?_)) <;> (intro k h1 h2; first | exact z_on_h rfl (by omega) (by omega) | exact z_on_t (z_on_h rfl (by omega) (by omega)) | exact z_on_t (z_on_t (z_on_h rfl (by omega) (by omega))) | exact z_on_t (z_on_t (z_on_t (z_on_h rfl (by omega) (by omega)))) | exact z_on_t (z_on_t (z_on_t (z_on_t (z_on_h rfl (by omega) (by omega))))) | exact z_on_t (z_on_t (z_on_t (z_on_t (z_on_t (z_on_h rfl (by omega) (by omega)))))) | exact z_on_t (z_on_t (z_on_t (z_on_t (z_on_t (z_on_t (z_on_h rfl (by omega) (by omega))))))) | exact z_on_t (z_on_t (z_on_t (z_on_t (z_on_t (z_on_t (z_on_t (z_on_h rfl (by omega) (by omega)))))))) | exact z_on_t (z_on_t (z_on_t (z_on_t (z_on_t (z_on_t (z_on_t (z_on_t (z_on_h rfl (by omega) (by omega))))))))) | exact z_on_t (z_on_t (z_on_t (z_on_t (z_on_t (z_on_t (z_on_t (z_on_t (z_on_t (z_on_h rfl (by omega) (by omega)))))))))) | exact z_on_t (z_on_t (z_on_t (z_on_t (z_on_t (z_on_t (z_on_t (z_on_t (z_on_t (z_on_t (z_on_h rfl (by omega) (by omega))))))))))) | exact z_on_t (z_on_t (z_on_t (z_on_t (z_on_t (z_on_t (z_on_t (z_on_t (z_on_t (z_on_t (z_on_t (z_on_h rfl (by omega) (by omega)))))))))))) | exact z_on_t (z_on_t (z_on_t (z_on_t (z_on_t (z_on_t (z_on_t (z_on_t (z_on_t (z_on_t (z_on_t (z_on_t (z_on_h rfl (by omega) (by omega))))))))))))))), fun _ => ⟨(a3.of (by (try unfold r_LR); (repeat' (first | exact trivial | refine z_of_c ?_ ?_)) <;> omega)).trans hf, a2, by omega, fun _ S => ?_⟩, fun z => by cases z⟩
    show ev1 (m 259) (q_nm g 3 (m 251 15) 0).2 S = _
    unfold ev1
    rw [if_neg (by omega), if_neg (by omega), if_pos (by omega)]
/-- with so many - ahead -/
theorem r_minus {P : Nat} {g : Int → Int} {d : Nat} (hd : d ≤ 4) (hE : d < 4 → r_PE P g (d + 1)) : ∀ (f : Nat) (m : z_M), r_RB P g m → 40 - m 251 15 ≤ (f : Int) → ∃ m' v, z_R 179 (m, 0, [(2, 251), (0, (d : Int)), (9, 0), (9, 0)], []) = some (m', some (0, q_ng (q_mn g f (m 251 15)) v)) ∧ r_RP m m' (q_th g (q_E g d) (m 251 15 + (q_mn g f (m 251 15) : Int))) v := by
  intro f
  induction f with
  | zero =>
    intro m hB hf40
    have hgb := r_W_gb hB.1
    have h45 : ¬ g (m 251 15) = 45 := fun z => by have := hgb (m 251 15) (by omega); omega
    show ∃ m' v, _ = some (m', some (0, v)) ∧ r_RP m m' (q_th g (q_E g d) (m 251 15 + ((0 : Nat) : Int))) v
    rw [show m 251 15 + ((0 : Nat) : Int) = m 251 15 by omega]
    exact r_base hd hE m hB h45
  | succ f ih =>
    intro m hB hf40
    obtain ⟨hw, hf, h40, h21, henv⟩ := id hB
    have hgb := r_W_gb hw
    have b15 := hw.2.2.2.2.1
    unfold q_mn
    by_cases c : g (m 251 15) = 45
    · have bb := hgb (m 251 15) (by omega)
      have s1 : z_same r_LR m (z_up m 251 15 (m 251 15 + 1)) := z_same.rf.upo (by (try unfold r_LR); first | exact z_on_h rfl (by omega) (by omega) | exact z_on_t (z_on_h rfl (by omega) (by omega)) | exact z_on_t (z_on_t (z_on_h rfl (by omega) (by omega))) | exact z_on_t (z_on_t (z_on_t (z_on_h rfl (by omega) (by omega)))) | exact z_on_t (z_on_t (z_on_t (z_on_t (z_on_h rfl (by omega) (by omega))))) | exact z_on_t (z_on_t (z_on_t (z_on_t (z_on_t (z_on_h rfl (by omega) (by omega)))))) | exact z_on_t (z_on_t (z_on_t (z_on_t (z_on_t (z_on_t (z_on_h rfl (by omega) (by omega))))))) | exact z_on_t (z_on_t (z_on_t (z_on_t (z_on_t (z_on_t (z_on_t (z_on_h rfl (by omega) (by omega)))))))) | exact z_on_t (z_on_t (z_on_t (z_on_t (z_on_t (z_on_t (z_on_t (z_on_t (z_on_h rfl (by omega) (by omega))))))))) | exact z_on_t (z_on_t (z_on_t (z_on_t (z_on_t (z_on_t (z_on_t (z_on_t (z_on_t (z_on_h rfl (by omega) (by omega)))))))))) | exact z_on_t (z_on_t (z_on_t (z_on_t (z_on_t (z_on_t (z_on_t (z_on_t (z_on_t (z_on_t (z_on_h rfl (by omega) (by omega))))))))))) | exact z_on_t (z_on_t (z_on_t (z_on_t (z_on_t (z_on_t (z_on_t (z_on_t (z_on_t (z_on_t (z_on_t (z_on_h rfl (by omega) (by omega)))))))))))) | exact z_on_t (z_on_t (z_on_t (z_on_t (z_on_t (z_on_t (z_on_t (z_on_t (z_on_t (z_on_t (z_on_t (z_on_t (z_on_h rfl (by omega) (by omega))))))))))))))
      have e15 : (z_up m 251 15 (m 251 15 + 1)) 251 15 = m 251 15 + 1 := zu_self
      have e21 : (z_up m 251 15 (m 251 15 + 1)) 251 21 = m 251 21 := zu_k (by decide)
      have e259 : (z_up m 251 15 (m 251 15 + 1)) 259 = m 259 := zu_rowne (by decide)
      obtain ⟨m1, v, a1, a2, a3, a4⟩ := ih (z_up m 251 15 (m 251 15 + 1)) (r_RB_sm hB s1 (by rw [zu_k (by decide)]; exact hf) (by omega) (by omega)) (by omega)
      rw [e15] at a3 a4
      rw [e21, e259] at a3
      rw [if_pos c, t_thing_0, r_pass m 45 hf hw, if_pos c, zb_v, t_thing_6, if_neg (by decide), a1, zb_v, t_thing_14, show m 251 15 + ((q_mn g f (m 251 15 + 1) + 1 : Nat) : Int) = m 251 15 + 1 + (q_mn g f (m 251 15 + 1) : Int) by omega]
      exact ⟨m1, v, rfl, s1.tr a2, a3, a4⟩
    · rw [if_neg c]
      show ∃ m' v, _ = some (m', some (0, v)) ∧ r_RP m m' (q_th g (q_E g d) (m 251 15 + ((0 : Nat) : Int))) v
      rw [show m 251 15 + ((0 : Nat) : Int) = m 251 15 by omega]
      exact r_base hd hE m hB c
theorem r_signed {P : Nat} {g : Int → Int} {d : Nat} (hd : d ≤ 4) (hE : d < 4 → r_PE P g (d + 1)) (m : z_M) (hB : r_RB P g m) : ∃ m' v, z_R 179 (m, 0, [(2, 251), (0, (d : Int)), (9, 0), (9, 0)], []) = some (m', some (0, v)) ∧ r_RP m m' (q_sg g (q_E g d) (m 251 15)) v := by
  obtain ⟨m', v, a1, a2, a3, a4⟩ := r_minus hd hE 40 m hB (by have := hB.1.2.2.2.2.1; omega)
  refine ⟨m', _, a1, a2, fun z => ?_, a4⟩
  obtain ⟨p1, p2, p3, p4⟩ := a3 z
  exact ⟨p1, p2, q_ng_b p3.1 p3.2 _, fun y => evs_ng (p4 y) p3.1 p3.2 _⟩
theorem q_op_b (c l r : Int) (hl : -2147483648 ≤ l ∧ l ≤ 2147483647) : -2147483648 ≤ q_op c l r ∧ q_op c l r ≤ 2147483647 := by
  unfold q_op
  split
  · exact i32_rng _
  split
  · exact i32_rng _
  split
  · exact i32_rng _
  split
  · split
    · omega
    · exact i32_rng _
  split
  · split <;> omega
  split
  · split <;> omega
  · split <;> omega
theorem r_prod1 {P : Nat} {g : Int → Int} {d : Nat} (hp : ∀ m : z_M, r_RB P g m → ∃ m' v, z_R 179 (m, 0, [(2, 251), (0, (d : Int)), (9, 0), (9, 0)], []) = some (m', some (0, v)) ∧ r_RP m m' (q_sg g (q_E g d) (m 251 15)) v) (hgood : q_good (q_sg g (q_E g d))) {m0 : z_M} (hB : r_RB P g m0) : ∀ (k : Nat) (r : q_Q) (v : Int) (v3 v4 : z_V) (m : z_M), r_RP m0 m r v → 0 ≤ r.2.1 → r.2.1 ≤ 40 → 40 - r.2.1 ≤ (k : Int) → ∃ m' w, z_R 178 (m, 6, [(2, 251), (0, (d : Int)), (0, v), v3, v4], []) = some (m', some (0, w)) ∧ r_RP m0 m' (q_lp g (q_sg g (q_E g d)) 42 47 k r) w := by
  obtain ⟨hw0, hf0, h400, h210, henv0⟩ := id hB
  have hgb := r_W_gb hw0
  have hb15 := hw0.2.2.2.2.1
  have stop : ∀ (r : q_Q) (v : Int) (v3 v4 : z_V) (m : z_M), r_RP m0 m r v → 0 ≤ r.2.1 → r.2.1 ≤ 40 → ¬ (r.1 = true ∧ (g r.2.1 = 42 ∨ g r.2.1 = 47)) → ∃ m' w, z_R 178 (m, 6, [(2, 251), (0, (d : Int)), (0, v), v3, v4], []) = some (m', some (0, w)) ∧ r_RP m0 m' r w := by
    intro r v v3 v4 m hP h0 h1 hn
    obtain ⟨p1, p2, p3⟩ := id hP
    rw [t_prod_6]
    cases hr : r.1 with
    | false =>
      rw [t_fine0 m (by rw [p3 hr]; omega), zb_v, t_prod_10, if_pos rfl]
      exact ⟨m, v, rfl, hP⟩
    | true =>
      obtain ⟨q1, q2, q3, q4⟩ := p2 hr
      have w1 : r_W P g m := r_W_sm hw0 p1 (by omega) (by omega)
      have hg1 : ¬ g r.2.1 = 42 := fun z => hn ⟨hr, Or.inl z⟩
      have hg2 : ¬ g r.2.1 = 47 := fun z => hn ⟨hr, Or.inr z⟩
      rw [t_fine1 m q1, zb_v, t_prod_10, if_neg (by decide), r_here m w1, zb_v, t_prod_17, q2, if_neg hg1, r_here m w1, zb_v, t_prod_26, q2, if_neg hg2]
      exact ⟨m, v, rfl, hP⟩
  intro k
  induction k with
  | zero =>
    intro r v v3 v4 m hP h0 h1 h2
    refine stop r v v3 v4 m hP h0 h1 (fun z => ?_)
    have := hgb r.2.1 (by rcases z.2 with y | y <;> rw [y] <;> decide)
    omega
  | succ k ih =>
    intro r v v3 v4 m hP h0 h1 h2
    unfold q_lp
    by_cases c' : ¬ (r.1 = true ∧ (g r.2.1 = 42 ∨ g r.2.1 = 47))
    · rw [if_neg c']
      exact stop r v v3 v4 m hP h0 h1 c'
    have c : r.1 = true ∧ (g r.2.1 = 42 ∨ g r.2.1 = 47) := Decidable.not_not.mp c'
    rw [if_pos c]
    obtain ⟨p1, p2, p3⟩ := id hP
    obtain ⟨q1, q2, q3, q4⟩ := p2 c.1
    have w1 : r_W P g m := r_W_sm hw0 p1 (by omega) (by omega)
    have bb := hgb r.2.1 (by rcases c.2 with y | y <;> rw [y] <;> decide)
    have s1 : z_same r_LR m (z_up m 251 15 (r.2.1 + 1)) := z_same.rf.upo (by (try unfold r_LR); first | exact z_on_h rfl (by omega) (by omega) | exact z_on_t (z_on_h rfl (by omega) (by omega)) | exact z_on_t (z_on_t (z_on_h rfl (by omega) (by omega))) | exact z_on_t (z_on_t (z_on_t (z_on_h rfl (by omega) (by omega)))) | exact z_on_t (z_on_t (z_on_t (z_on_t (z_on_h rfl (by omega) (by omega))))) | exact z_on_t (z_on_t (z_on_t (z_on_t (z_on_t (z_on_h rfl (by omega) (by omega)))))) | exact z_on_t (z_on_t (z_on_t (z_on_t (z_on_t (z_on_t (z_on_h rfl (by omega) (by omega))))))) | exact z_on_t (z_on_t (z_on_t (z_on_t (z_on_t (z_on_t (z_on_t (z_on_h rfl (by omega) (by omega)))))))) | exact z_on_t (z_on_t (z_on_t (z_on_t (z_on_t (z_on_t (z_on_t (z_on_t (z_on_h rfl (by omega) (by omega))))))))) | exact z_on_t (z_on_t (z_on_t (z_on_t (z_on_t (z_on_t (z_on_t (z_on_t (z_on_t (z_on_h rfl (by omega) (by omega)))))))))) | exact z_on_t (z_on_t (z_on_t (z_on_t (z_on_t (z_on_t (z_on_t (z_on_t (z_on_t (z_on_t (z_on_h rfl (by omega) (by omega))))))))))) | exact z_on_t (z_on_t (z_on_t (z_on_t (z_on_t (z_on_t (z_on_t (z_on_t (z_on_t (z_on_t (z_on_t (z_on_h rfl (by omega) (by omega)))))))))))) | exact z_on_t (z_on_t (z_on_t (z_on_t (z_on_t (z_on_t (z_on_t (z_on_t (z_on_t (z_on_t (z_on_t (z_on_t (z_on_h rfl (by omega) (by omega))))))))))))))
    have e15 : (z_up m 251 15 (r.2.1 + 1)) 251 15 = r.2.1 + 1 := zu_self
    have e21 : (z_up m 251 15 (r.2.1 + 1)) 251 21 = m0 251 21 := (zu_k (by decide)).trans (p1.of (by (try unfold r_LR); (repeat' (first | exact trivial | refine z_of_c ?_ ?_)) <;> omega))
    have e259 : (z_up m 251 15 (r.2.1 + 1)) 259 = m0 259 := (zu_rowne (by decide)).trans (p1.ofr (by (try unfold r_LR); (repeat' (first | exact trivial | refine z_ofr_c ?_ ?_)) <;> omega))
    obtain ⟨m2, w, a1, a2, a3, a4⟩ := hp (z_up m 251 15 (r.2.1 + 1)) (r_RB_sm hB (p1.tr s1) (by rw [zu_k (by decide)]; exact q1) (by omega) (by omega))
    have gd := hgood (r.2.1 + 1) (by omega) (by omega)
    rw [e15] at a3 a4
    rw [e21, e259] at a3
    have key : ∀ (op u : Int) (v3 v4 : z_V), g r.2.1 = op → u = q_op op v w → 0 ≤ op → ¬ op = 126 → ∃ m' w', z_R 178 (m2, 6, [(2, 251), (0, (d : Int)), (0, u), v3, v4], []) = some (m', some (0, w')) ∧ r_RP m0 m' (q_lp g (q_sg g (q_E g d)) 42 47 k ((q_sg g (q_E g d) (r.2.1 + 1)).1, (q_sg g (q_E g d) (r.2.1 + 1)).2.1, r.2.2 ++ (q_sg g (q_E g d) (r.2.1 + 1)).2.2 ++ [2000 + g r.2.1])) w' := by
      intro op u v3 v4 ho hu ho0 ho1
      refine ih _ u v3 v4 m2 ⟨(p1.tr s1).tr a2, fun z => ?_, fun z => a4 z⟩ (by simp only; omega) (by simp only; exact gd.2.1) (by simp only; omega)
      obtain ⟨t1, t2, t3, t4⟩ := a3 z
      refine ⟨t1, t2, by rw [hu]; exact q_op_b _ _ _ q3, fun y => ?_⟩
      rw [ho, hu]
      exact evs_op (q4 y) (t4 y) ho0 ho1
    rw [t_prod_6, t_fine1 m q1, zb_v, t_prod_10, if_neg (by decide), r_here m w1, zb_v, t_prod_17, q2]
    by_cases c1 : g r.2.1 = 42
    · rw [if_pos c1, r_here m w1, zb_v, t_prod_35, q2, if_pos c1, z_add_eq (by omega) (by omega), a1, zb_v, t_prod_61, if_neg (by decide)]
      exact key 42 _ _ _ c1 (by unfold q_op; rw [if_neg (by decide), if_neg (by decide), if_pos rfl]) (by decide) (by decide)
    · have c2 : g r.2.1 = 47 := c.2.resolve_left c1
      rw [if_neg c1, r_here m w1, zb_v, t_prod_26, q2, if_pos c2, r_here m w1, zb_v, t_prod_35, q2, if_neg c1, z_add_eq (by omega) (by omega), a1, zb_v, t_prod_61, if_pos rfl]
      by_cases c3 : w = 0
      · rw [if_pos c3]
        exact key 47 _ _ _ c2 (by unfold q_op; rw [if_neg (by decide), if_neg (by decide), if_neg (by decide), if_pos rfl, if_pos c3]) (by decide) (by decide)
      · rw [if_neg c3, if_neg c3]
        exact key 47 _ _ _ c2 (by unfold q_op; rw [if_neg (by decide), if_neg (by decide), if_neg (by decide), if_pos rfl, if_neg c3]) (by decide) (by decide)
theorem r_product {P : Nat} {g : Int → Int} {d : Nat} (hd : d ≤ 4) (hE : d < 4 → r_PE P g (d + 1)) (m : z_M) (hB : r_RB P g m) : ∃ m' v, z_R 178 (m, 0, [(2, 251), (0, (d : Int)), (9, 0), (9, 0), (9, 0)], []) = some (m', some (0, v)) ∧ r_RP m m' (q_pr g (q_E g d) (m 251 15)) v := by
  have hgb := r_W_gb hB.1
  have hb15 := hB.1.2.2.2.2.1
  have hgood := q_sg_good hgb (q_E_good hgb d)
  obtain ⟨m1, v, a1, a2⟩ := r_signed hd hE m hB
  have gd := hgood (m 251 15) hb15.1 hB.2.2.1
  rw [t_prod_0, a1, zb_v, t_prod_5]
  exact r_prod1 (r_signed hd hE) hgood hB 40 _ v _ _ m1 a2 (by omega) gd.2.1 (by omega)
theorem r_sum1 {P : Nat} {g : Int → Int} {d : Nat} (hp : ∀ m : z_M, r_RB P g m → ∃ m' v, z_R 178 (m, 0, [(2, 251), (0, (d : Int)), (9, 0), (9, 0), (9, 0)], []) = some (m', some (0, v)) ∧ r_RP m m' (q_pr g (q_E g d) (m 251 15)) v) (hgood : q_good (q_pr g (q_E g d))) {m0 : z_M} (hB : r_RB P g m0) : ∀ (k : Nat) (r : q_Q) (v : Int) (v3 v4 : z_V) (m : z_M), r_RP m0 m r v → 0 ≤ r.2.1 → r.2.1 ≤ 40 → 40 - r.2.1 ≤ (k : Int) → ∃ m' w, z_R 177 (m, 6, [(2, 251), (0, (d : Int)), (0, v), v3, v4], []) = some (m', some (0, w)) ∧ r_RP m0 m' (q_lp g (q_pr g (q_E g d)) 43 45 k r) w := by
  obtain ⟨hw0, hf0, h400, h210, henv0⟩ := id hB
  have hgb := r_W_gb hw0
  have hb15 := hw0.2.2.2.2.1
  have stop : ∀ (r : q_Q) (v : Int) (v3 v4 : z_V) (m : z_M), r_RP m0 m r v → 0 ≤ r.2.1 → r.2.1 ≤ 40 → ¬ (r.1 = true ∧ (g r.2.1 = 43 ∨ g r.2.1 = 45)) → ∃ m' w, z_R 177 (m, 6, [(2, 251), (0, (d : Int)), (0, v), v3, v4], []) = some (m', some (0, w)) ∧ r_RP m0 m' r w := by
    intro r v v3 v4 m hP h0 h1 hn
    obtain ⟨p1, p2, p3⟩ := id hP
    rw [t_sum_6]
    cases hr : r.1 with
    | false =>
      rw [t_fine0 m (by rw [p3 hr]; omega), zb_v, t_sum_10, if_pos rfl]
      exact ⟨m, v, rfl, hP⟩
    | true =>
      obtain ⟨q1, q2, q3, q4⟩ := p2 hr
      have w1 : r_W P g m := r_W_sm hw0 p1 (by omega) (by omega)
      have hg1 : ¬ g r.2.1 = 43 := fun z => hn ⟨hr, Or.inl z⟩
      have hg2 : ¬ g r.2.1 = 45 := fun z => hn ⟨hr, Or.inr z⟩
      rw [t_fine1 m q1, zb_v, t_sum_10, if_neg (by decide), r_here m w1, zb_v, t_sum_17, q2, if_neg hg1, r_here m w1, zb_v, t_sum_26, q2, if_neg hg2]
      exact ⟨m, v, rfl, hP⟩
  intro k
  induction k with
  | zero =>
    intro r v v3 v4 m hP h0 h1 h2
    refine stop r v v3 v4 m hP h0 h1 (fun z => ?_)
    have := hgb r.2.1 (by rcases z.2 with y | y <;> rw [y] <;> decide)
    omega
  | succ k ih =>
    intro r v v3 v4 m hP h0 h1 h2
    unfold q_lp
    by_cases c' : ¬ (r.1 = true ∧ (g r.2.1 = 43 ∨ g r.2.1 = 45))
    · rw [if_neg c']
      exact stop r v v3 v4 m hP h0 h1 c'
    have c : r.1 = true ∧ (g r.2.1 = 43 ∨ g r.2.1 = 45) := Decidable.not_not.mp c'
    rw [if_pos c]
    obtain ⟨p1, p2, p3⟩ := id hP
    obtain ⟨q1, q2, q3, q4⟩ := p2 c.1
    have w1 : r_W P g m := r_W_sm hw0 p1 (by omega) (by omega)
    have bb := hgb r.2.1 (by rcases c.2 with y | y <;> rw [y] <;> decide)
    have s1 : z_same r_LR m (z_up m 251 15 (r.2.1 + 1)) := z_same.rf.upo (by (try unfold r_LR); first | exact z_on_h rfl (by omega) (by omega) | exact z_on_t (z_on_h rfl (by omega) (by omega)) | exact z_on_t (z_on_t (z_on_h rfl (by omega) (by omega))) | exact z_on_t (z_on_t (z_on_t (z_on_h rfl (by omega) (by omega)))) | exact z_on_t (z_on_t (z_on_t (z_on_t (z_on_h rfl (by omega) (by omega))))) | exact z_on_t (z_on_t (z_on_t (z_on_t (z_on_t (z_on_h rfl (by omega) (by omega)))))) | exact z_on_t (z_on_t (z_on_t (z_on_t (z_on_t (z_on_t (z_on_h rfl (by omega) (by omega))))))) | exact z_on_t (z_on_t (z_on_t (z_on_t (z_on_t (z_on_t (z_on_t (z_on_h rfl (by omega) (by omega)))))))) | exact z_on_t (z_on_t (z_on_t (z_on_t (z_on_t (z_on_t (z_on_t (z_on_t (z_on_h rfl (by omega) (by omega))))))))) | exact z_on_t (z_on_t (z_on_t (z_on_t (z_on_t (z_on_t (z_on_t (z_on_t (z_on_t (z_on_h rfl (by omega) (by omega)))))))))) | exact z_on_t (z_on_t (z_on_t (z_on_t (z_on_t (z_on_t (z_on_t (z_on_t (z_on_t (z_on_t (z_on_h rfl (by omega) (by omega))))))))))) | exact z_on_t (z_on_t (z_on_t (z_on_t (z_on_t (z_on_t (z_on_t (z_on_t (z_on_t (z_on_t (z_on_t (z_on_h rfl (by omega) (by omega)))))))))))) | exact z_on_t (z_on_t (z_on_t (z_on_t (z_on_t (z_on_t (z_on_t (z_on_t (z_on_t (z_on_t (z_on_t (z_on_t (z_on_h rfl (by omega) (by omega))))))))))))))
    have e15 : (z_up m 251 15 (r.2.1 + 1)) 251 15 = r.2.1 + 1 := zu_self
    have e21 : (z_up m 251 15 (r.2.1 + 1)) 251 21 = m0 251 21 := (zu_k (by decide)).trans (p1.of (by (try unfold r_LR); (repeat' (first | exact trivial | refine z_of_c ?_ ?_)) <;> omega))
    have e259 : (z_up m 251 15 (r.2.1 + 1)) 259 = m0 259 := (zu_rowne (by decide)).trans (p1.ofr (by (try unfold r_LR); (repeat' (first | exact trivial | refine z_ofr_c ?_ ?_)) <;> omega))
    obtain ⟨m2, w, a1, a2, a3, a4⟩ := hp (z_up m 251 15 (r.2.1 + 1)) (r_RB_sm hB (p1.tr s1) (by rw [zu_k (by decide)]; exact q1) (by omega) (by omega))
    have gd := hgood (r.2.1 + 1) (by omega) (by omega)
    rw [e15] at a3 a4
    rw [e21, e259] at a3
    have key : ∀ (op u : Int) (v3 v4 : z_V), g r.2.1 = op → u = q_op op v w → 0 ≤ op → ¬ op = 126 → ∃ m' w', z_R 177 (m2, 6, [(2, 251), (0, (d : Int)), (0, u), v3, v4], []) = some (m', some (0, w')) ∧ r_RP m0 m' (q_lp g (q_pr g (q_E g d)) 43 45 k ((q_pr g (q_E g d) (r.2.1 + 1)).1, (q_pr g (q_E g d) (r.2.1 + 1)).2.1, r.2.2 ++ (q_pr g (q_E g d) (r.2.1 + 1)).2.2 ++ [2000 + g r.2.1])) w' := by
      intro op u v3 v4 ho hu ho0 ho1
      refine ih _ u v3 v4 m2 ⟨(p1.tr s1).tr a2, fun z => ?_, fun z => a4 z⟩ (by simp only; omega) (by simp only; exact gd.2.1) (by simp only; omega)
      obtain ⟨t1, t2, t3, t4⟩ := a3 z
      refine ⟨t1, t2, by rw [hu]; exact q_op_b _ _ _ q3, fun y => ?_⟩
      rw [ho, hu]
      exact evs_op (q4 y) (t4 y) ho0 ho1
    rw [t_sum_6, t_fine1 m q1, zb_v, t_sum_10, if_neg (by decide), r_here m w1, zb_v, t_sum_17, q2]
    by_cases c1 : g r.2.1 = 43
    · rw [if_pos c1, r_here m w1, zb_v, t_sum_35, q2, if_pos c1, z_add_eq (by omega) (by omega), a1, zb_v, t_sum_61, if_neg (by decide)]
      exact key 43 _ _ _ c1 (by unfold q_op; rw [if_pos rfl]) (by decide) (by decide)
    · have c2 : g r.2.1 = 45 := c.2.resolve_left c1
      rw [if_neg c1, r_here m w1, zb_v, t_sum_26, q2, if_pos c2, r_here m w1, zb_v, t_sum_35, q2, if_neg c1, z_add_eq (by omega) (by omega), a1, zb_v, t_sum_61, if_pos rfl]
      exact key 45 _ _ _ c2 (by unfold q_op; rw [if_neg (by decide), if_pos rfl]) (by decide) (by decide)
theorem r_sum {P : Nat} {g : Int → Int} {d : Nat} (hd : d ≤ 4) (hE : d < 4 → r_PE P g (d + 1)) (m : z_M) (hB : r_RB P g m) : ∃ m' v, z_R 177 (m, 0, [(2, 251), (0, (d : Int)), (9, 0), (9, 0), (9, 0)], []) = some (m', some (0, v)) ∧ r_RP m m' (q_su g (q_E g d) (m 251 15)) v := by
  have hgb := r_W_gb hB.1
  have hb15 := hB.1.2.2.2.2.1
  have hgood := q_pr_good hgb (q_E_good hgb d)
  obtain ⟨m1, v, a1, a2⟩ := r_product hd hE m hB
  have gd := hgood (m 251 15) hb15.1 hB.2.2.1
  rw [t_sum_0, a1, zb_v, t_sum_5]
  exact r_sum1 (r_product hd hE) hgood hB 40 _ v _ _ m1 a2 (by omega) gd.2.1 (by omega)
theorem r_expr {P : Nat} {g : Int → Int} {d : Nat} (hd : d ≤ 4) (hE : d < 4 → r_PE P g (d + 1)) : r_PE P g d := by
  intro m hB
  obtain ⟨hw0, hf0, h400, h210, henv0⟩ := id hB
  have hgb := r_W_gb hw0
  have hb15 := hw0.2.2.2.2.1
  have hgood := q_su_good hgb (q_E_good hgb d)
  obtain ⟨m1, v, a1, a2⟩ := r_sum hd hE m hB
  have gd := hgood (m 251 15) hb15.1 h400
  rw [q_ex_he g hd, t_held_0, a1, zb_v, t_held_5]
  unfold q_he
  generalize hR : q_su g (q_E g d) (m 251 15) = R at a2 gd ⊢
  obtain ⟨ok, pos, code⟩ := R
  simp only at gd ⊢
  obtain ⟨p1, p2, p3⟩ := id a2
  cases ok with
  | false =>
    have hf1 : ¬ m1 251 16 = -1 := by rw [p3 rfl]; simp only; omega
    rw [if_neg (fun z => by cases z.1), t_pass0 m1 60 hf1, zb_v, t_held_12, if_pos rfl, t_pass0 m1 62 hf1, zb_v, t_held_36, if_pos rfl, t_pass0 m1 61 hf1, zb_v, t_held_60, if_pos rfl]
    exact ⟨m1, v, rfl, a2⟩
  | true =>
    obtain ⟨q1, q2, q3, q4⟩ := p2 rfl
    simp only at q2 q4
    have w1 : r_W P g m1 := r_W_sm hw0 p1 (by omega) (by omega)
    have second : g pos = 60 ∨ g pos = 62 ∨ g pos = 61 → ∃ m2 w, z_R 177 (z_up m1 251 15 (pos + 1), 0, [(2, 251), (0, (d : Int)), (9, 0), (9, 0), (9, 0)], []) = some (m2, some (0, w)) ∧ ∀ u, u = q_op (g pos) v w → r_RP m m2 ((q_su g (q_E g d) (pos + 1)).1, (q_su g (q_E g d) (pos + 1)).2.1, code ++ (q_su g (q_E g d) (pos + 1)).2.2 ++ [2000 + g pos]) u := by
      intro hc
      have bb := hgb pos (by rcases hc with y | y | y <;> rw [y] <;> decide)
      have s1 : z_same r_LR m1 (z_up m1 251 15 (pos + 1)) := z_same.rf.upo (by (try unfold r_LR); first | exact z_on_h rfl (by omega) (by omega) | exact z_on_t (z_on_h rfl (by omega) (by omega)) | exact z_on_t (z_on_t (z_on_h rfl (by omega) (by omega))) | exact z_on_t (z_on_t (z_on_t (z_on_h rfl (by omega) (by omega)))) | exact z_on_t (z_on_t (z_on_t (z_on_t (z_on_h rfl (by omega) (by omega))))) | exact z_on_t (z_on_t (z_on_t (z_on_t (z_on_t (z_on_h rfl (by omega) (by omega)))))) | exact z_on_t (z_on_t (z_on_t (z_on_t (z_on_t (z_on_t (z_on_h rfl (by omega) (by omega))))))) | exact z_on_t (z_on_t (z_on_t (z_on_t (z_on_t (z_on_t (z_on_t (z_on_h rfl (by omega) (by omega)))))))) | exact z_on_t (z_on_t (z_on_t (z_on_t (z_on_t (z_on_t (z_on_t (z_on_t (z_on_h rfl (by omega) (by omega))))))))) | exact z_on_t (z_on_t (z_on_t (z_on_t (z_on_t (z_on_t (z_on_t (z_on_t (z_on_t (z_on_h rfl (by omega) (by omega)))))))))) | exact z_on_t (z_on_t (z_on_t (z_on_t (z_on_t (z_on_t (z_on_t (z_on_t (z_on_t (z_on_t (z_on_h rfl (by omega) (by omega))))))))))) | exact z_on_t (z_on_t (z_on_t (z_on_t (z_on_t (z_on_t (z_on_t (z_on_t (z_on_t (z_on_t (z_on_t (z_on_h rfl (by omega) (by omega)))))))))))) | exact z_on_t (z_on_t (z_on_t (z_on_t (z_on_t (z_on_t (z_on_t (z_on_t (z_on_t (z_on_t (z_on_t (z_on_t (z_on_h rfl (by omega) (by omega))))))))))))))
      have e15 : (z_up m1 251 15 (pos + 1)) 251 15 = pos + 1 := zu_self
      have e21 : (z_up m1 251 15 (pos + 1)) 251 21 = m 251 21 := (zu_k (by decide)).trans (p1.of (by (try unfold r_LR); (repeat' (first | exact trivial | refine z_of_c ?_ ?_)) <;> omega))
      have e259 : (z_up m1 251 15 (pos + 1)) 259 = m 259 := (zu_rowne (by decide)).trans (p1.ofr (by (try unfold r_LR); (repeat' (first | exact trivial | refine z_ofr_c ?_ ?_)) <;> omega))
      obtain ⟨m2, w, b1, b2, b3, b4⟩ := r_sum hd hE (z_up m1 251 15 (pos + 1)) (r_RB_sm hB (p1.tr s1) (by rw [zu_k (by decide)]; exact q1) (by omega) (by omega))
      rw [e15] at b3 b4
      rw [e21, e259] at b3
      refine ⟨m2, w, b1, fun u hu => ⟨(p1.tr s1).tr b2, fun z => ?_, fun z => b4 z⟩⟩
      obtain ⟨t1, t2, t3, t4⟩ := b3 z
      refine ⟨t1, t2, by rw [hu]; exact q_op_b _ _ _ q3, fun y => ?_⟩
      rw [hu]
      exact evs_op (q4 y) (t4 y) (by omega) (by omega)
    rw [r_pass m1 60 q1 w1, q2]
    by_cases c1 : g pos = 60
    · obtain ⟨m2, w, b1, b2⟩ := second (Or.inl c1)
      rw [if_pos c1, if_pos ⟨rfl, Or.inl c1⟩, zb_v, t_held_12, if_neg (by decide), b1, zb_v, t_held_21]
      by_cases c : w ≤ v
      · rw [if_pos c]
        exact ⟨m2, 0, rfl, b2 0 (by rw [c1]; show 0 = if v < w then 1 else 0; rw [if_neg (by omega)])⟩
      · rw [if_neg c]
        exact ⟨m2, 1, rfl, b2 1 (by rw [c1]; show 1 = if v < w then 1 else 0; rw [if_pos (by omega)])⟩
    rw [if_neg c1, zb_v, t_held_12, if_pos rfl, r_pass m1 62 q1 w1, q2]
    by_cases c2 : g pos = 62
    · obtain ⟨m2, w, b1, b2⟩ := second (Or.inr (Or.inl c2))
      rw [if_pos c2, if_pos ⟨rfl, Or.inr (Or.inl c2)⟩, zb_v, t_held_36, if_neg (by decide), b1, zb_v, t_held_45]
      by_cases c : v ≤ w
      · rw [if_pos c]
        exact ⟨m2, 0, rfl, b2 0 (by rw [c2]; show 0 = if w < v then 1 else 0; rw [if_neg (by omega)])⟩
      · rw [if_neg c]
        exact ⟨m2, 1, rfl, b2 1 (by rw [c2]; show 1 = if w < v then 1 else 0; rw [if_pos (by omega)])⟩
    rw [if_neg c2, zb_v, t_held_36, if_pos rfl, r_pass m1 61 q1 w1, q2]
    by_cases c3 : g pos = 61
    · obtain ⟨m2, w, b1, b2⟩ := second (Or.inr (Or.inr c3))
      rw [if_pos c3, if_pos ⟨rfl, Or.inr (Or.inr c3)⟩, zb_v, t_held_60, if_neg (by decide), b1, zb_v, t_held_69]
      by_cases c : v = w
      · rw [if_pos c]
        exact ⟨m2, 1, rfl, b2 1 (by rw [c3]; show 1 = if v = w then 1 else 0; rw [if_pos c])⟩
      · rw [if_neg c]
        exact ⟨m2, 0, rfl, b2 0 (by rw [c3]; show 0 = if v = w then 1 else 0; rw [if_neg c])⟩
    · rw [if_neg c3, if_neg (fun z => by omega), zb_v, t_held_60, if_pos rfl]
      exact ⟨m1, v, rfl, a2⟩
theorem r_exprs {P : Nat} {g : Int → Int} : ∀ D, D ≤ 4 → r_PE P g (4 - D)
  | 0, _ => r_expr (by decide) (fun z => by omega)
  | D + 1, h => r_expr (by omega) (fun _ => by
    rw [show 4 - (D + 1) + 1 = 4 - D by omega]
    exact r_exprs D (by omega))
end
section
/-! rule, of both: what it answers, what stands then -/
theorem z_by_sm {x : Int} (h1 : -128 ≤ x) (h2 : x ≤ 127) : z_by x = x := by
  have e : (Int32.ofInt x).toInt = x := zr_of (by omega) (by omega)
  unfold z_by
  rw [vp_nar_byte, (nar_b _).2 (by rw [e]; exact h1) (by rw [e]; exact h2), e]
/-- codes of the row, from k on -/
def cds : (Nat → Int) → Nat → List Int → Prop
  | _, _, [] => True
  | row, k, c :: cs => row k = c ∧ cds row (k + 1) cs
theorem wr_lo : ∀ (cs : List Int) (row : Nat → Int) (n k : Nat), k < n → wr row n cs k = row k
  | [], row, n, k, h => rfl
  | c :: cs, row, n, k, h => by
    show wr (u_up row n c) (n + 1) cs k = row k
    rw [wr_lo cs _ (n + 1) k (by omega)]
    unfold u_up
    rw [if_neg (by omega)]
theorem cds_wr : ∀ (cs : List Int) (row : Nat → Int) (n : Nat), cds (wr row n cs) n cs
  | [], row, n => trivial
  | c :: cs, row, n => by
    refine ⟨?_, cds_wr cs (u_up row n c) (n + 1)⟩
    show wr (u_up row n c) (n + 1) cs n = c
    rw [wr_lo cs _ (n + 1) n (by omega)]
    unfold u_up
    rw [if_pos rfl]
theorem cds_cg {row row' : Nat → Int} : ∀ (cs : List Int) (n : Nat), (∀ k, n ≤ k → k < n + cs.length → row' k = row k) → cds row n cs → cds row' n cs
  | [], n, _, _ => trivial
  | c :: cs, n, h, hc => by
    have hl : (c :: cs).length = cs.length + 1 := rfl
    exact ⟨(h n (by omega) (by omega)).trans hc.1, cds_cg cs (n + 1) (fun k h1 h2 => h k (by omega) (by omega)) hc.2⟩
/-- what rule answers of a text of n signs -/
def q_ans (g : Int → Int) (n : Int) : Int := if n = 0 then 0 else if (q_ex g 4 0).1 = true ∧ n ≤ (q_ex g 4 0).2.1 then 0 else -1 - (q_ex g 4 0).2.1
theorem u_nx_qgb {t : Nat → Int} {n : Int} : q_gb (u_nx t n 40) := by
  intro i hi
  unfold u_nx at hi
  by_cases hc : 0 ≤ i ∧ i < n ∧ i < 40
  · omega
  · rw [if_neg hc] at hi; exact absurd rfl hi
theorem c_bec (m : z_M) {a : Int} (h0 : 0 ≤ a) (h1 : a ≤ 40) : z_R 52 (m, 0, [(2, 4), (2, 117), (0, a)], []) = some (z_cp (z_up m 4 3 a) 117 0 5 0 a.toNat, none) := by
  have e : (if 0 < (if 40 < a then 40 else a) then (if 40 < a then 40 else a) else 0) = a := by
    rw [if_neg (show ¬ 40 < a by omega)]
    by_cases c : 0 < a
    · rw [if_pos c]
    · rw [if_neg c]; omega
  rw [s_become_0, e, decide_eq_true h0, decide_eq_true (show (0 : Int) ≤ 0 by decide), decide_eq_true (show (0 : Int) + a ≤ ((40 : Nat) : Int) by omega)]
  rfl
theorem z_same.cpR {L : List (Nat × Nat × Nat)} {m m' : z_M} {a s b d n : Nat} (h : z_same L m m') (hq : ∀ k, d ≤ k → k < d + n → ∃ q ∈ L, q.1 = b ∧ q.2.1 ≤ k ∧ k ≤ q.2.2) : z_same L m (z_cp m' a s b d n) := fun p' k' hn => by
  have : ¬ (p' = b ∧ d ≤ k' ∧ k' < d + n) := fun ⟨e1, e2, e3⟩ => by
    obtain ⟨q, q1, q2, q3, q4⟩ := hq k' e2 e3
    exact hn q q1 ⟨q2.trans e1.symm, q3, q4⟩
  unfold z_cp
  rw [if_neg this]
  exact h p' k' hn
abbrev c_RU : List (Nat × Nat × Nat) := [(1, 1, 3), (116, 2, 2), (117, 0, 39), (4, 3, 3), (5, 0, 39)]
theorem c_rule (m : z_M) (h0 : 0 ≤ m 1 1) (h80 : m 1 1 ≤ 80) (hr : ∀ i, -1 ≤ u_nx (m 2) (m 1 1) 40 i ∧ u_nx (m 2) (m 1 1) 40 i ≤ 255) : ∃ m', z_R 39 (m, 0, [(2, 0), (9, 0)], []) = some (m', some (0, q_ans (u_nx (m 2) (m 1 1) 40) (m 1 1))) ∧ z_same c_RU m m' ∧ (m 1 1 = 0 → m' 4 3 = 3 ∧ m' 5 0 = 1000 ∧ m' 5 1 = 2 ∧ m' 5 2 = 2047) ∧ (¬ m 1 1 = 0 → ((q_ex (u_nx (m 2) (m 1 1) 40) 4 0).1 = true ∧ m 1 1 ≤ (q_ex (u_nx (m 2) (m 1 1) 40) 4 0).2.1) → m' 4 3 = (((q_ex (u_nx (m 2) (m 1 1) 40) 4 0).2.2).length : Int) ∧ cds (m' 5) 0 (q_ex (u_nx (m 2) (m 1 1) 40) 4 0).2.2) ∧ (¬ m 1 1 = 0 → ¬ ((q_ex (u_nx (m 2) (m 1 1) 40) 4 0).1 = true ∧ m 1 1 ≤ (q_ex (u_nx (m 2) (m 1 1) 40) 4 0).2.1) → m' 5 = m 5 ∧ m' 4 3 = m 4 3) := by
  have hg : q_gb (u_nx (m 2) (m 1 1) 40) := u_nx_qgb
  generalize hG : u_nx (m 2) (m 1 1) 40 = g at hr hg
  unfold q_ans
  rw [s_rule_0]
  by_cases c : m 1 1 = 0
  · rw [if_pos c, if_pos c, s_untold_0, zb_n, s_rule_20]
    refine ⟨_, rfl, (((z_same.rf.upo (by (try unfold c_RU); (try unfold r_RU); first | exact z_on_h rfl (by omega) (by omega) | exact z_on_t (z_on_h rfl (by omega) (by omega)) | exact z_on_t (z_on_t (z_on_h rfl (by omega) (by omega))) | exact z_on_t (z_on_t (z_on_t (z_on_h rfl (by omega) (by omega)))) | exact z_on_t (z_on_t (z_on_t (z_on_t (z_on_h rfl (by omega) (by omega))))) | exact z_on_t (z_on_t (z_on_t (z_on_t (z_on_t (z_on_h rfl (by omega) (by omega)))))) | exact z_on_t (z_on_t (z_on_t (z_on_t (z_on_t (z_on_t (z_on_h rfl (by omega) (by omega))))))) | exact z_on_t (z_on_t (z_on_t (z_on_t (z_on_t (z_on_t (z_on_t (z_on_h rfl (by omega) (by omega)))))))) | exact z_on_t (z_on_t (z_on_t (z_on_t (z_on_t (z_on_t (z_on_t (z_on_t (z_on_h rfl (by omega) (by omega))))))))) | exact z_on_t (z_on_t (z_on_t (z_on_t (z_on_t (z_on_t (z_on_t (z_on_t (z_on_t (z_on_h rfl (by omega) (by omega)))))))))) | exact z_on_t (z_on_t (z_on_t (z_on_t (z_on_t (z_on_t (z_on_t (z_on_t (z_on_t (z_on_t (z_on_h rfl (by omega) (by omega))))))))))) | exact z_on_t (z_on_t (z_on_t (z_on_t (z_on_t (z_on_t (z_on_t (z_on_t (z_on_t (z_on_t (z_on_t (z_on_h rfl (by omega) (by omega)))))))))))) | exact z_on_t (z_on_t (z_on_t (z_on_t (z_on_t (z_on_t (z_on_t (z_on_t (z_on_t (z_on_t (z_on_t (z_on_t (z_on_h rfl (by omega) (by omega))))))))))))))).upo (by (try unfold c_RU); (try unfold r_RU); first | exact z_on_h rfl (by omega) (by omega) | exact z_on_t (z_on_h rfl (by omega) (by omega)) | exact z_on_t (z_on_t (z_on_h rfl (by omega) (by omega))) | exact z_on_t (z_on_t (z_on_t (z_on_h rfl (by omega) (by omega)))) | exact z_on_t (z_on_t (z_on_t (z_on_t (z_on_h rfl (by omega) (by omega))))) | exact z_on_t (z_on_t (z_on_t (z_on_t (z_on_t (z_on_h rfl (by omega) (by omega)))))) | exact z_on_t (z_on_t (z_on_t (z_on_t (z_on_t (z_on_t (z_on_h rfl (by omega) (by omega))))))) | exact z_on_t (z_on_t (z_on_t (z_on_t (z_on_t (z_on_t (z_on_t (z_on_h rfl (by omega) (by omega)))))))) | exact z_on_t (z_on_t (z_on_t (z_on_t (z_on_t (z_on_t (z_on_t (z_on_t (z_on_h rfl (by omega) (by omega))))))))) | exact z_on_t (z_on_t (z_on_t (z_on_t (z_on_t (z_on_t (z_on_t (z_on_t (z_on_t (z_on_h rfl (by omega) (by omega)))))))))) | exact z_on_t (z_on_t (z_on_t (z_on_t (z_on_t (z_on_t (z_on_t (z_on_t (z_on_t (z_on_t (z_on_h rfl (by omega) (by omega))))))))))) | exact z_on_t (z_on_t (z_on_t (z_on_t (z_on_t (z_on_t (z_on_t (z_on_t (z_on_t (z_on_t (z_on_t (z_on_h rfl (by omega) (by omega)))))))))))) | exact z_on_t (z_on_t (z_on_t (z_on_t (z_on_t (z_on_t (z_on_t (z_on_t (z_on_t (z_on_t (z_on_t (z_on_t (z_on_h rfl (by omega) (by omega))))))))))))))).upo (by (try unfold c_RU); (try unfold r_RU); first | exact z_on_h rfl (by omega) (by omega) | exact z_on_t (z_on_h rfl (by omega) (by omega)) | exact z_on_t (z_on_t (z_on_h rfl (by omega) (by omega))) | exact z_on_t (z_on_t (z_on_t (z_on_h rfl (by omega) (by omega)))) | exact z_on_t (z_on_t (z_on_t (z_on_t (z_on_h rfl (by omega) (by omega))))) | exact z_on_t (z_on_t (z_on_t (z_on_t (z_on_t (z_on_h rfl (by omega) (by omega)))))) | exact z_on_t (z_on_t (z_on_t (z_on_t (z_on_t (z_on_t (z_on_h rfl (by omega) (by omega))))))) | exact z_on_t (z_on_t (z_on_t (z_on_t (z_on_t (z_on_t (z_on_t (z_on_h rfl (by omega) (by omega)))))))) | exact z_on_t (z_on_t (z_on_t (z_on_t (z_on_t (z_on_t (z_on_t (z_on_t (z_on_h rfl (by omega) (by omega))))))))) | exact z_on_t (z_on_t (z_on_t (z_on_t (z_on_t (z_on_t (z_on_t (z_on_t (z_on_t (z_on_h rfl (by omega) (by omega)))))))))) | exact z_on_t (z_on_t (z_on_t (z_on_t (z_on_t (z_on_t (z_on_t (z_on_t (z_on_t (z_on_t (z_on_h rfl (by omega) (by omega))))))))))) | exact z_on_t (z_on_t (z_on_t (z_on_t (z_on_t (z_on_t (z_on_t (z_on_t (z_on_t (z_on_t (z_on_t (z_on_h rfl (by omega) (by omega)))))))))))) | exact z_on_t (z_on_t (z_on_t (z_on_t (z_on_t (z_on_t (z_on_t (z_on_t (z_on_t (z_on_t (z_on_t (z_on_t (z_on_h rfl (by omega) (by omega))))))))))))))).upo (by (try unfold c_RU); (try unfold r_RU); first | exact z_on_h rfl (by omega) (by omega) | exact z_on_t (z_on_h rfl (by omega) (by omega)) | exact z_on_t (z_on_t (z_on_h rfl (by omega) (by omega))) | exact z_on_t (z_on_t (z_on_t (z_on_h rfl (by omega) (by omega)))) | exact z_on_t (z_on_t (z_on_t (z_on_t (z_on_h rfl (by omega) (by omega))))) | exact z_on_t (z_on_t (z_on_t (z_on_t (z_on_t (z_on_h rfl (by omega) (by omega)))))) | exact z_on_t (z_on_t (z_on_t (z_on_t (z_on_t (z_on_t (z_on_h rfl (by omega) (by omega))))))) | exact z_on_t (z_on_t (z_on_t (z_on_t (z_on_t (z_on_t (z_on_t (z_on_h rfl (by omega) (by omega)))))))) | exact z_on_t (z_on_t (z_on_t (z_on_t (z_on_t (z_on_t (z_on_t (z_on_t (z_on_h rfl (by omega) (by omega))))))))) | exact z_on_t (z_on_t (z_on_t (z_on_t (z_on_t (z_on_t (z_on_t (z_on_t (z_on_t (z_on_h rfl (by omega) (by omega)))))))))) | exact z_on_t (z_on_t (z_on_t (z_on_t (z_on_t (z_on_t (z_on_t (z_on_t (z_on_t (z_on_t (z_on_h rfl (by omega) (by omega))))))))))) | exact z_on_t (z_on_t (z_on_t (z_on_t (z_on_t (z_on_t (z_on_t (z_on_t (z_on_t (z_on_t (z_on_t (z_on_h rfl (by omega) (by omega)))))))))))) | exact z_on_t (z_on_t (z_on_t (z_on_t (z_on_t (z_on_t (z_on_t (z_on_t (z_on_t (z_on_t (z_on_t (z_on_t (z_on_h rfl (by omega) (by omega)))))))))))))), fun _ => ⟨zu_self, ?_, ?_, ?_⟩, fun z => absurd c z, fun z => absurd c z⟩
    · rw [zu_p (by decide), zu_k (by decide), zu_k (by decide), zu_self]
    · rw [zu_p (by decide), zu_k (by decide), zu_self]
    · rw [zu_p (by decide), zu_self]
  · rw [if_neg c, if_neg c, s_rrd_0, s_begin_0, zb_n, s_rrd_9]
    have s0 : z_same c_RU m (z_up (z_up (z_up m 1 2 0) 1 3 40) 116 2 0) := ((z_same.rf.upo (by (try unfold c_RU); (try unfold r_RU); first | exact z_on_h rfl (by omega) (by omega) | exact z_on_t (z_on_h rfl (by omega) (by omega)) | exact z_on_t (z_on_t (z_on_h rfl (by omega) (by omega))) | exact z_on_t (z_on_t (z_on_t (z_on_h rfl (by omega) (by omega)))) | exact z_on_t (z_on_t (z_on_t (z_on_t (z_on_h rfl (by omega) (by omega))))) | exact z_on_t (z_on_t (z_on_t (z_on_t (z_on_t (z_on_h rfl (by omega) (by omega)))))) | exact z_on_t (z_on_t (z_on_t (z_on_t (z_on_t (z_on_t (z_on_h rfl (by omega) (by omega))))))) | exact z_on_t (z_on_t (z_on_t (z_on_t (z_on_t (z_on_t (z_on_t (z_on_h rfl (by omega) (by omega)))))))) | exact z_on_t (z_on_t (z_on_t (z_on_t (z_on_t (z_on_t (z_on_t (z_on_t (z_on_h rfl (by omega) (by omega))))))))) | exact z_on_t (z_on_t (z_on_t (z_on_t (z_on_t (z_on_t (z_on_t (z_on_t (z_on_t (z_on_h rfl (by omega) (by omega)))))))))) | exact z_on_t (z_on_t (z_on_t (z_on_t (z_on_t (z_on_t (z_on_t (z_on_t (z_on_t (z_on_t (z_on_h rfl (by omega) (by omega))))))))))) | exact z_on_t (z_on_t (z_on_t (z_on_t (z_on_t (z_on_t (z_on_t (z_on_t (z_on_t (z_on_t (z_on_t (z_on_h rfl (by omega) (by omega)))))))))))) | exact z_on_t (z_on_t (z_on_t (z_on_t (z_on_t (z_on_t (z_on_t (z_on_t (z_on_t (z_on_t (z_on_t (z_on_t (z_on_h rfl (by omega) (by omega))))))))))))))).upo (by (try unfold c_RU); (try unfold r_RU); first | exact z_on_h rfl (by omega) (by omega) | exact z_on_t (z_on_h rfl (by omega) (by omega)) | exact z_on_t (z_on_t (z_on_h rfl (by omega) (by omega))) | exact z_on_t (z_on_t (z_on_t (z_on_h rfl (by omega) (by omega)))) | exact z_on_t (z_on_t (z_on_t (z_on_t (z_on_h rfl (by omega) (by omega))))) | exact z_on_t (z_on_t (z_on_t (z_on_t (z_on_t (z_on_h rfl (by omega) (by omega)))))) | exact z_on_t (z_on_t (z_on_t (z_on_t (z_on_t (z_on_t (z_on_h rfl (by omega) (by omega))))))) | exact z_on_t (z_on_t (z_on_t (z_on_t (z_on_t (z_on_t (z_on_t (z_on_h rfl (by omega) (by omega)))))))) | exact z_on_t (z_on_t (z_on_t (z_on_t (z_on_t (z_on_t (z_on_t (z_on_t (z_on_h rfl (by omega) (by omega))))))))) | exact z_on_t (z_on_t (z_on_t (z_on_t (z_on_t (z_on_t (z_on_t (z_on_t (z_on_t (z_on_h rfl (by omega) (by omega)))))))))) | exact z_on_t (z_on_t (z_on_t (z_on_t (z_on_t (z_on_t (z_on_t (z_on_t (z_on_t (z_on_t (z_on_h rfl (by omega) (by omega))))))))))) | exact z_on_t (z_on_t (z_on_t (z_on_t (z_on_t (z_on_t (z_on_t (z_on_t (z_on_t (z_on_t (z_on_t (z_on_h rfl (by omega) (by omega)))))))))))) | exact z_on_t (z_on_t (z_on_t (z_on_t (z_on_t (z_on_t (z_on_t (z_on_t (z_on_t (z_on_t (z_on_t (z_on_t (z_on_h rfl (by omega) (by omega))))))))))))))).upo (by (try unfold c_RU); (try unfold r_RU); first | exact z_on_h rfl (by omega) (by omega) | exact z_on_t (z_on_h rfl (by omega) (by omega)) | exact z_on_t (z_on_t (z_on_h rfl (by omega) (by omega))) | exact z_on_t (z_on_t (z_on_t (z_on_h rfl (by omega) (by omega)))) | exact z_on_t (z_on_t (z_on_t (z_on_t (z_on_h rfl (by omega) (by omega))))) | exact z_on_t (z_on_t (z_on_t (z_on_t (z_on_t (z_on_h rfl (by omega) (by omega)))))) | exact z_on_t (z_on_t (z_on_t (z_on_t (z_on_t (z_on_t (z_on_h rfl (by omega) (by omega))))))) | exact z_on_t (z_on_t (z_on_t (z_on_t (z_on_t (z_on_t (z_on_t (z_on_h rfl (by omega) (by omega)))))))) | exact z_on_t (z_on_t (z_on_t (z_on_t (z_on_t (z_on_t (z_on_t (z_on_t (z_on_h rfl (by omega) (by omega))))))))) | exact z_on_t (z_on_t (z_on_t (z_on_t (z_on_t (z_on_t (z_on_t (z_on_t (z_on_t (z_on_h rfl (by omega) (by omega)))))))))) | exact z_on_t (z_on_t (z_on_t (z_on_t (z_on_t (z_on_t (z_on_t (z_on_t (z_on_t (z_on_t (z_on_h rfl (by omega) (by omega))))))))))) | exact z_on_t (z_on_t (z_on_t (z_on_t (z_on_t (z_on_t (z_on_t (z_on_t (z_on_t (z_on_t (z_on_t (z_on_h rfl (by omega) (by omega)))))))))))) | exact z_on_t (z_on_t (z_on_t (z_on_t (z_on_t (z_on_t (z_on_t (z_on_t (z_on_t (z_on_t (z_on_t (z_on_t (z_on_h rfl (by omega) (by omega))))))))))))))
    have q0 : z_same [(1, 2, 3), (116, 2, 2)] m (z_up (z_up (z_up m 1 2 0) 1 3 40) 116 2 0) := ((z_same.rf.upo (by (try unfold c_RU); (try unfold r_RU); first | exact z_on_h rfl (by omega) (by omega) | exact z_on_t (z_on_h rfl (by omega) (by omega)) | exact z_on_t (z_on_t (z_on_h rfl (by omega) (by omega))) | exact z_on_t (z_on_t (z_on_t (z_on_h rfl (by omega) (by omega)))) | exact z_on_t (z_on_t (z_on_t (z_on_t (z_on_h rfl (by omega) (by omega))))) | exact z_on_t (z_on_t (z_on_t (z_on_t (z_on_t (z_on_h rfl (by omega) (by omega)))))) | exact z_on_t (z_on_t (z_on_t (z_on_t (z_on_t (z_on_t (z_on_h rfl (by omega) (by omega))))))) | exact z_on_t (z_on_t (z_on_t (z_on_t (z_on_t (z_on_t (z_on_t (z_on_h rfl (by omega) (by omega)))))))) | exact z_on_t (z_on_t (z_on_t (z_on_t (z_on_t (z_on_t (z_on_t (z_on_t (z_on_h rfl (by omega) (by omega))))))))) | exact z_on_t (z_on_t (z_on_t (z_on_t (z_on_t (z_on_t (z_on_t (z_on_t (z_on_t (z_on_h rfl (by omega) (by omega)))))))))) | exact z_on_t (z_on_t (z_on_t (z_on_t (z_on_t (z_on_t (z_on_t (z_on_t (z_on_t (z_on_t (z_on_h rfl (by omega) (by omega))))))))))) | exact z_on_t (z_on_t (z_on_t (z_on_t (z_on_t (z_on_t (z_on_t (z_on_t (z_on_t (z_on_t (z_on_t (z_on_h rfl (by omega) (by omega)))))))))))) | exact z_on_t (z_on_t (z_on_t (z_on_t (z_on_t (z_on_t (z_on_t (z_on_t (z_on_t (z_on_t (z_on_t (z_on_t (z_on_h rfl (by omega) (by omega))))))))))))))).upo (by (try unfold c_RU); (try unfold r_RU); first | exact z_on_h rfl (by omega) (by omega) | exact z_on_t (z_on_h rfl (by omega) (by omega)) | exact z_on_t (z_on_t (z_on_h rfl (by omega) (by omega))) | exact z_on_t (z_on_t (z_on_t (z_on_h rfl (by omega) (by omega)))) | exact z_on_t (z_on_t (z_on_t (z_on_t (z_on_h rfl (by omega) (by omega))))) | exact z_on_t (z_on_t (z_on_t (z_on_t (z_on_t (z_on_h rfl (by omega) (by omega)))))) | exact z_on_t (z_on_t (z_on_t (z_on_t (z_on_t (z_on_t (z_on_h rfl (by omega) (by omega))))))) | exact z_on_t (z_on_t (z_on_t (z_on_t (z_on_t (z_on_t (z_on_t (z_on_h rfl (by omega) (by omega)))))))) | exact z_on_t (z_on_t (z_on_t (z_on_t (z_on_t (z_on_t (z_on_t (z_on_t (z_on_h rfl (by omega) (by omega))))))))) | exact z_on_t (z_on_t (z_on_t (z_on_t (z_on_t (z_on_t (z_on_t (z_on_t (z_on_t (z_on_h rfl (by omega) (by omega)))))))))) | exact z_on_t (z_on_t (z_on_t (z_on_t (z_on_t (z_on_t (z_on_t (z_on_t (z_on_t (z_on_t (z_on_h rfl (by omega) (by omega))))))))))) | exact z_on_t (z_on_t (z_on_t (z_on_t (z_on_t (z_on_t (z_on_t (z_on_t (z_on_t (z_on_t (z_on_t (z_on_h rfl (by omega) (by omega)))))))))))) | exact z_on_t (z_on_t (z_on_t (z_on_t (z_on_t (z_on_t (z_on_t (z_on_t (z_on_t (z_on_t (z_on_t (z_on_t (z_on_h rfl (by omega) (by omega))))))))))))))).upo (by (try unfold c_RU); (try unfold r_RU); first | exact z_on_h rfl (by omega) (by omega) | exact z_on_t (z_on_h rfl (by omega) (by omega)) | exact z_on_t (z_on_t (z_on_h rfl (by omega) (by omega))) | exact z_on_t (z_on_t (z_on_t (z_on_h rfl (by omega) (by omega)))) | exact z_on_t (z_on_t (z_on_t (z_on_t (z_on_h rfl (by omega) (by omega))))) | exact z_on_t (z_on_t (z_on_t (z_on_t (z_on_t (z_on_h rfl (by omega) (by omega)))))) | exact z_on_t (z_on_t (z_on_t (z_on_t (z_on_t (z_on_t (z_on_h rfl (by omega) (by omega))))))) | exact z_on_t (z_on_t (z_on_t (z_on_t (z_on_t (z_on_t (z_on_t (z_on_h rfl (by omega) (by omega)))))))) | exact z_on_t (z_on_t (z_on_t (z_on_t (z_on_t (z_on_t (z_on_t (z_on_t (z_on_h rfl (by omega) (by omega))))))))) | exact z_on_t (z_on_t (z_on_t (z_on_t (z_on_t (z_on_t (z_on_t (z_on_t (z_on_t (z_on_h rfl (by omega) (by omega)))))))))) | exact z_on_t (z_on_t (z_on_t (z_on_t (z_on_t (z_on_t (z_on_t (z_on_t (z_on_t (z_on_t (z_on_h rfl (by omega) (by omega))))))))))) | exact z_on_t (z_on_t (z_on_t (z_on_t (z_on_t (z_on_t (z_on_t (z_on_t (z_on_t (z_on_t (z_on_t (z_on_h rfl (by omega) (by omega)))))))))))) | exact z_on_t (z_on_t (z_on_t (z_on_t (z_on_t (z_on_t (z_on_t (z_on_t (z_on_t (z_on_t (z_on_t (z_on_t (z_on_h rfl (by omega) (by omega))))))))))))))
    have k12 : z_up (z_up (z_up m 1 2 0) 1 3 40) 116 2 0 1 2 = 0 := by rw [zu_p (by decide), zu_k (by decide), zu_self]
    have k13 : z_up (z_up (z_up m 1 2 0) 1 3 40) 116 2 0 1 3 = 40 := by rw [zu_p (by decide), zu_self]
    have k116 : z_up (z_up (z_up m 1 2 0) 1 3 40) 116 2 0 116 2 = 0 := zu_self
    generalize z_up (z_up (z_up m 1 2 0) 1 3 40) 116 2 0 = m1 at s0 q0 k12 k13 k116 ⊢
    have k11 : m1 1 1 = m 1 1 := q0.of (by (try unfold c_RU); (try unfold r_RU); (repeat' (first | exact trivial | refine z_of_c ?_ ?_)) <;> omega)
    have hug : u_g m1 = g := by
      unfold u_g
      rw [q0.ofr (p := 2) (by (try unfold c_RU); (try unfold r_RU); (repeat' (first | exact trivial | refine z_ofr_c ?_ ?_)) <;> omega), k11, k13]
      exact hG
    obtain ⟨m2, a1, a2⟩ := c_exprs hg hr 4 (by decide) m1 ⟨hug, by omega, by omega, by omega⟩
    have a1 : z_R 41 (m1, 0, [(2, 116), (0, 0), (9, 0), (9, 0)], []) = some (m2, some (0, okf (q_ex g 4 (m1 1 2)).1)) := a1
    have a2 : c_RP m1 m2 (q_ex g 4 (m1 1 2)) := a2
    rw [k12] at a1 a2
    have go : 0 ≤ (q_ex g 4 0).2.1 ∧ (q_ex g 4 0).2.1 ≤ 40 ∧ ((q_ex g 4 0).1 = true → 0 < (q_ex g 4 0).2.1 ∧ (((q_ex g 4 0).2.2).length : Int) ≤ (q_ex g 4 0).2.1 - 0) := q_ex_good hg 4 0 (by decide) (by decide)
    obtain ⟨a3, a4, a5, a6⟩ := a2
    generalize (q_ex g 4 0).1 = b at a1 a6 go ⊢
    generalize (q_ex g 4 0).2.1 = p at a4 go ⊢
    generalize (q_ex g 4 0).2.2 = cs at a6 go ⊢
    have go1 : 0 ≤ p := go.1
    have go2 : p ≤ 40 := go.2.1
    have s2 : z_same c_RU m m2 := s0.tr (a3.subo (by (try unfold c_RU); (try unfold r_RU); (repeat' (first | exact trivial | refine z_sbo_c ?_ ?_)) <;> (intro k h1 h2; first | exact z_on_h rfl (by omega) (by omega) | exact z_on_t (z_on_h rfl (by omega) (by omega)) | exact z_on_t (z_on_t (z_on_h rfl (by omega) (by omega))) | exact z_on_t (z_on_t (z_on_t (z_on_h rfl (by omega) (by omega)))) | exact z_on_t (z_on_t (z_on_t (z_on_t (z_on_h rfl (by omega) (by omega))))) | exact z_on_t (z_on_t (z_on_t (z_on_t (z_on_t (z_on_h rfl (by omega) (by omega)))))) | exact z_on_t (z_on_t (z_on_t (z_on_t (z_on_t (z_on_t (z_on_h rfl (by omega) (by omega))))))) | exact z_on_t (z_on_t (z_on_t (z_on_t (z_on_t (z_on_t (z_on_t (z_on_h rfl (by omega) (by omega)))))))) | exact z_on_t (z_on_t (z_on_t (z_on_t (z_on_t (z_on_t (z_on_t (z_on_t (z_on_h rfl (by omega) (by omega))))))))) | exact z_on_t (z_on_t (z_on_t (z_on_t (z_on_t (z_on_t (z_on_t (z_on_t (z_on_t (z_on_h rfl (by omega) (by omega)))))))))) | exact z_on_t (z_on_t (z_on_t (z_on_t (z_on_t (z_on_t (z_on_t (z_on_t (z_on_t (z_on_t (z_on_h rfl (by omega) (by omega))))))))))) | exact z_on_t (z_on_t (z_on_t (z_on_t (z_on_t (z_on_t (z_on_t (z_on_t (z_on_t (z_on_t (z_on_t (z_on_h rfl (by omega) (by omega)))))))))))) | exact z_on_t (z_on_t (z_on_t (z_on_t (z_on_t (z_on_t (z_on_t (z_on_t (z_on_t (z_on_t (z_on_t (z_on_t (z_on_h rfl (by omega) (by omega))))))))))))))))
    have e11 : m2 1 1 = m 1 1 := (a3.of (by (try unfold c_RU); (try unfold r_RU); (repeat' (first | exact trivial | refine z_of_c ?_ ?_)) <;> omega)).trans k11
    have e5 : m2 5 = m 5 := (a3.ofr (by (try unfold c_RU); (try unfold r_RU); (repeat' (first | exact trivial | refine z_ofr_c ?_ ?_)) <;> omega)).trans (q0.ofr (by (try unfold c_RU); (try unfold r_RU); (repeat' (first | exact trivial | refine z_ofr_c ?_ ?_)) <;> omega))
    have e43 : m2 4 3 = m 4 3 := (a3.of (by (try unfold c_RU); (try unfold r_RU); (repeat' (first | exact trivial | refine z_of_c ?_ ?_)) <;> omega)).trans (q0.of (by (try unfold c_RU); (try unfold r_RU); (repeat' (first | exact trivial | refine z_of_c ?_ ?_)) <;> omega))
    have bad : ¬ (b = true ∧ m 1 1 ≤ p) → z_R 39 (z_up m2 1 1 0, 37, [(2, 0), (0, 0)], []) = some (z_up m2 1 1 0, some (0, -1 - p)) := fun _ => by
      rw [s_rule_37, if_pos rfl, zu_k (by decide), a4, z_sub_eq (by omega) (by omega)]
    have fin : ¬ (b = true ∧ m 1 1 ≤ p) → ∃ m', (some (z_up m2 1 1 0, some (0, -1 - p)) : Option z_Q) = some (m', some ((0 : Nat), if b = true ∧ m 1 1 ≤ p then 0 else -1 - p)) ∧ z_same c_RU m m' ∧ (m 1 1 = 0 → m' 4 3 = 3 ∧ m' 5 0 = 1000 ∧ m' 5 1 = 2 ∧ m' 5 2 = 2047) ∧ (¬ m 1 1 = 0 → (b = true ∧ m 1 1 ≤ p) → m' 4 3 = (cs.length : Int) ∧ cds (m' 5) 0 cs) ∧ (¬ m 1 1 = 0 → ¬ (b = true ∧ m 1 1 ≤ p) → m' 5 = m 5 ∧ m' 4 3 = m 4 3) := fun z => by
      rw [if_neg z]
      exact ⟨_, rfl, s2.upo (by (try unfold c_RU); (try unfold r_RU); first | exact z_on_h rfl (by omega) (by omega) | exact z_on_t (z_on_h rfl (by omega) (by omega)) | exact z_on_t (z_on_t (z_on_h rfl (by omega) (by omega))) | exact z_on_t (z_on_t (z_on_t (z_on_h rfl (by omega) (by omega)))) | exact z_on_t (z_on_t (z_on_t (z_on_t (z_on_h rfl (by omega) (by omega))))) | exact z_on_t (z_on_t (z_on_t (z_on_t (z_on_t (z_on_h rfl (by omega) (by omega)))))) | exact z_on_t (z_on_t (z_on_t (z_on_t (z_on_t (z_on_t (z_on_h rfl (by omega) (by omega))))))) | exact z_on_t (z_on_t (z_on_t (z_on_t (z_on_t (z_on_t (z_on_t (z_on_h rfl (by omega) (by omega)))))))) | exact z_on_t (z_on_t (z_on_t (z_on_t (z_on_t (z_on_t (z_on_t (z_on_t (z_on_h rfl (by omega) (by omega))))))))) | exact z_on_t (z_on_t (z_on_t (z_on_t (z_on_t (z_on_t (z_on_t (z_on_t (z_on_t (z_on_h rfl (by omega) (by omega)))))))))) | exact z_on_t (z_on_t (z_on_t (z_on_t (z_on_t (z_on_t (z_on_t (z_on_t (z_on_t (z_on_t (z_on_h rfl (by omega) (by omega))))))))))) | exact z_on_t (z_on_t (z_on_t (z_on_t (z_on_t (z_on_t (z_on_t (z_on_t (z_on_t (z_on_t (z_on_t (z_on_h rfl (by omega) (by omega)))))))))))) | exact z_on_t (z_on_t (z_on_t (z_on_t (z_on_t (z_on_t (z_on_t (z_on_t (z_on_t (z_on_t (z_on_t (z_on_t (z_on_h rfl (by omega) (by omega)))))))))))))), fun y => absurd y c, fun _ y => absurd y z, fun _ _ => ⟨(zu_rowne (by decide)).trans e5, (zu_p (by decide)).trans e43⟩⟩
    rw [a1, zb_v, s_rrd_19]
    cases b with
    | false =>
      have z : ¬ (false = true ∧ m 1 1 ≤ p) := fun z => by cases z.1
      rw [if_pos (show okf false = 0 from rfl), zb_v, s_rule_29, s_empty_0, zb_n, bad z]
      exact fin z
    | true =>
      rw [if_neg (show ¬ okf true = 0 by decide), s_ended_0, a4, e11]
      by_cases e : p < m 1 1
      · have z : ¬ (true = true ∧ m 1 1 ≤ p) := fun z => by omega
        rw [if_pos e, zb_v, s_rrd_29, if_pos rfl, zb_v, s_rule_29, s_empty_0, zb_n, bad z]
        exact fin z
      · have z : (true = true ∧ m 1 1 ≤ p) := ⟨rfl, by omega⟩
        obtain ⟨a7, a8⟩ := a6 rfl
        have e116 : (z_up m2 1 1 0) 116 2 = (cs.length : Int) := by rw [zu_p (by decide), a7, k116]; omega
        have hlen : (cs.length : Int) ≤ 40 := by have h1 := (go.2.2 rfl).2; omega
        rw [if_neg e, zb_v, s_rrd_29, if_neg (by decide), zb_v, s_rule_29, s_empty_0, zb_n, s_rule_37, if_neg (by decide), e116, c_bec _ (by omega) hlen, zb_n, s_rule_75, Int.toNat_natCast, if_pos z]
        refine ⟨_, rfl, ?_, fun y => absurd y c, fun _ _ => ⟨?_, ?_⟩, fun _ y => absurd z y⟩
        · exact ((s2.upo (by (try unfold c_RU); (try unfold r_RU); first | exact z_on_h rfl (by omega) (by omega) | exact z_on_t (z_on_h rfl (by omega) (by omega)) | exact z_on_t (z_on_t (z_on_h rfl (by omega) (by omega))) | exact z_on_t (z_on_t (z_on_t (z_on_h rfl (by omega) (by omega)))) | exact z_on_t (z_on_t (z_on_t (z_on_t (z_on_h rfl (by omega) (by omega))))) | exact z_on_t (z_on_t (z_on_t (z_on_t (z_on_t (z_on_h rfl (by omega) (by omega)))))) | exact z_on_t (z_on_t (z_on_t (z_on_t (z_on_t (z_on_t (z_on_h rfl (by omega) (by omega))))))) | exact z_on_t (z_on_t (z_on_t (z_on_t (z_on_t (z_on_t (z_on_t (z_on_h rfl (by omega) (by omega)))))))) | exact z_on_t (z_on_t (z_on_t (z_on_t (z_on_t (z_on_t (z_on_t (z_on_t (z_on_h rfl (by omega) (by omega))))))))) | exact z_on_t (z_on_t (z_on_t (z_on_t (z_on_t (z_on_t (z_on_t (z_on_t (z_on_t (z_on_h rfl (by omega) (by omega)))))))))) | exact z_on_t (z_on_t (z_on_t (z_on_t (z_on_t (z_on_t (z_on_t (z_on_t (z_on_t (z_on_t (z_on_h rfl (by omega) (by omega))))))))))) | exact z_on_t (z_on_t (z_on_t (z_on_t (z_on_t (z_on_t (z_on_t (z_on_t (z_on_t (z_on_t (z_on_t (z_on_h rfl (by omega) (by omega)))))))))))) | exact z_on_t (z_on_t (z_on_t (z_on_t (z_on_t (z_on_t (z_on_t (z_on_t (z_on_t (z_on_t (z_on_t (z_on_t (z_on_h rfl (by omega) (by omega))))))))))))))).upo (by (try unfold c_RU); (try unfold r_RU); first | exact z_on_h rfl (by omega) (by omega) | exact z_on_t (z_on_h rfl (by omega) (by omega)) | exact z_on_t (z_on_t (z_on_h rfl (by omega) (by omega))) | exact z_on_t (z_on_t (z_on_t (z_on_h rfl (by omega) (by omega)))) | exact z_on_t (z_on_t (z_on_t (z_on_t (z_on_h rfl (by omega) (by omega))))) | exact z_on_t (z_on_t (z_on_t (z_on_t (z_on_t (z_on_h rfl (by omega) (by omega)))))) | exact z_on_t (z_on_t (z_on_t (z_on_t (z_on_t (z_on_t (z_on_h rfl (by omega) (by omega))))))) | exact z_on_t (z_on_t (z_on_t (z_on_t (z_on_t (z_on_t (z_on_t (z_on_h rfl (by omega) (by omega)))))))) | exact z_on_t (z_on_t (z_on_t (z_on_t (z_on_t (z_on_t (z_on_t (z_on_t (z_on_h rfl (by omega) (by omega))))))))) | exact z_on_t (z_on_t (z_on_t (z_on_t (z_on_t (z_on_t (z_on_t (z_on_t (z_on_t (z_on_h rfl (by omega) (by omega)))))))))) | exact z_on_t (z_on_t (z_on_t (z_on_t (z_on_t (z_on_t (z_on_t (z_on_t (z_on_t (z_on_t (z_on_h rfl (by omega) (by omega))))))))))) | exact z_on_t (z_on_t (z_on_t (z_on_t (z_on_t (z_on_t (z_on_t (z_on_t (z_on_t (z_on_t (z_on_t (z_on_h rfl (by omega) (by omega)))))))))))) | exact z_on_t (z_on_t (z_on_t (z_on_t (z_on_t (z_on_t (z_on_t (z_on_t (z_on_t (z_on_t (z_on_t (z_on_t (z_on_h rfl (by omega) (by omega))))))))))))))).cpR (fun k h1 h2 => ⟨(5, 0, 39), by decide, rfl, Nat.zero_le _, by show k ≤ 39; omega⟩)
        · rw [zc_p (by decide), zu_self]
        · refine cds_cg (row := m2 117) cs 0 (fun k h1 h2 => ?_) (by
            rw [a8, k116]
            exact cds_wr cs _ _)
          unfold z_cp
          rw [if_pos ⟨rfl, Nat.zero_le _, h2⟩, zu_p (by decide), zu_p (by decide), Nat.zero_add, Nat.sub_zero]
abbrev r_RU : List (Nat × Nat × Nat) := [(251, 8, 8), (251, 11, 16), (251, 20, 21), (258, 0, 39)]
theorem t_rcp {n : Nat} (hn : n ≤ 40) : ∀ (f x : Nat) (m : z_M), x + f = n → ∃ m', z_R 175 (m, 73, [(2, 251), (0, (n : Int)), (0, (x : Int))], []) = some (z_up m' 251 20 (n : Int), some (0, 0)) ∧ (∀ k, x ≤ k → k < n → m' 258 k = z_by (m 254 k)) ∧ ∀ p k, ¬ (p = 258 ∧ x ≤ k ∧ k < n) → m' p k = m p k := by
  intro f
  induction f with
  | zero =>
    intro x m hx
    rw [t_rule_73, if_pos (by omega)]
    exact ⟨m, rfl, fun k h1 h2 => by omega, fun _ _ _ => rfl⟩
  | succ f ih =>
    intro x m hx
    obtain ⟨m', a1, a2, a3⟩ := ih (x + 1) (z_up m 258 x (z_by (m 254 x))) (by omega)
    rw [t_rule_73, if_neg (by omega), if_pos (by omega), if_pos (by omega), Int.toNat_natCast, tc1]
    refine ⟨m', a1, fun k h1 h2 => ?_, fun p k hn => ?_⟩
    · by_cases hk : k = x
      · rw [hk, a3 258 x (by omega), zu_self]
      · rw [a2 k (by omega) h2, zu_p (by decide)]
    · rw [a3 p k (by omega)]
      by_cases hp : p = 258
      · subst hp
        rw [zu_k (by omega)]
      · rw [zu_p hp]
theorem r_rule (m : z_M) (h0 : 0 ≤ m 251 8) (h80 : m 251 8 ≤ 80) (hb : ∀ k, k < 80 → -128 ≤ m 254 k ∧ m 254 k ≤ 127) (h259 : ∀ k, k < 7 → -2147483648 ≤ m 259 k ∧ m 259 k ≤ 2147483647) : ∃ m', z_R 175 (m, 0, [(2, 251), (9, 0), (9, 0)], []) = some (m', some (0, q_ans (u_nx (u_t m) (m 251 8) 40) (m 251 8))) ∧ z_same r_RU m m' ∧ (m 251 8 = 0 → m' 251 20 = 0) ∧ (¬ m 251 8 = 0 → ((q_ex (u_nx (u_t m) (m 251 8) 40) 4 0).1 = true ∧ m 251 8 ≤ (q_ex (u_nx (u_t m) (m 251 8) 40) 4 0).2.1) → m' 251 20 = m 251 8 ∧ m 251 8 ≤ 40 ∧ ∀ k : Nat, (k : Int) < m 251 8 → m' 258 k = m 254 k) ∧ (¬ m 251 8 = 0 → ¬ ((q_ex (u_nx (u_t m) (m 251 8) 40) 4 0).1 = true ∧ m 251 8 ≤ (q_ex (u_nx (u_t m) (m 251 8) 40) 4 0).2.1) → m' 251 20 = m 251 20 ∧ m' 258 = m 258) := by
  have hg : q_gb (u_nx (u_t m) (m 251 8) 40) := u_nx_qgb
  obtain ⟨n, hn⟩ : ∃ n : Nat, m 251 8 = (n : Int) := ⟨(m 251 8).toNat, by omega⟩
  generalize hG : u_nx (u_t m) (m 251 8) 40 = g at hg
  unfold q_ans
  rw [t_rule_0, t_begin_0, zb_n, t_rule_21, hn]
  have s0 : z_same r_RU m (z_up (z_up (z_up (z_up (z_up (z_up (z_up (z_up m 251 11 0) 251 12 254) 251 13 (n : Int)) 251 14 40) 251 15 0) 251 16 (-1)) 251 8 0) 251 21 0) := (((((((z_same.rf.upo (by (try unfold c_RU); (try unfold r_RU); first | exact z_on_h rfl (by omega) (by omega) | exact z_on_t (z_on_h rfl (by omega) (by omega)) | exact z_on_t (z_on_t (z_on_h rfl (by omega) (by omega))) | exact z_on_t (z_on_t (z_on_t (z_on_h rfl (by omega) (by omega)))) | exact z_on_t (z_on_t (z_on_t (z_on_t (z_on_h rfl (by omega) (by omega))))) | exact z_on_t (z_on_t (z_on_t (z_on_t (z_on_t (z_on_h rfl (by omega) (by omega)))))) | exact z_on_t (z_on_t (z_on_t (z_on_t (z_on_t (z_on_t (z_on_h rfl (by omega) (by omega))))))) | exact z_on_t (z_on_t (z_on_t (z_on_t (z_on_t (z_on_t (z_on_t (z_on_h rfl (by omega) (by omega)))))))) | exact z_on_t (z_on_t (z_on_t (z_on_t (z_on_t (z_on_t (z_on_t (z_on_t (z_on_h rfl (by omega) (by omega))))))))) | exact z_on_t (z_on_t (z_on_t (z_on_t (z_on_t (z_on_t (z_on_t (z_on_t (z_on_t (z_on_h rfl (by omega) (by omega)))))))))) | exact z_on_t (z_on_t (z_on_t (z_on_t (z_on_t (z_on_t (z_on_t (z_on_t (z_on_t (z_on_t (z_on_h rfl (by omega) (by omega))))))))))) | exact z_on_t (z_on_t (z_on_t (z_on_t (z_on_t (z_on_t (z_on_t (z_on_t (z_on_t (z_on_t (z_on_t (z_on_h rfl (by omega) (by omega)))))))))))) | exact z_on_t (z_on_t (z_on_t (z_on_t (z_on_t (z_on_t (z_on_t (z_on_t (z_on_t (z_on_t (z_on_t (z_on_t (z_on_h rfl (by omega) (by omega))))))))))))))).upo (by (try unfold c_RU); (try unfold r_RU); first | exact z_on_h rfl (by omega) (by omega) | exact z_on_t (z_on_h rfl (by omega) (by omega)) | exact z_on_t (z_on_t (z_on_h rfl (by omega) (by omega))) | exact z_on_t (z_on_t (z_on_t (z_on_h rfl (by omega) (by omega)))) | exact z_on_t (z_on_t (z_on_t (z_on_t (z_on_h rfl (by omega) (by omega))))) | exact z_on_t (z_on_t (z_on_t (z_on_t (z_on_t (z_on_h rfl (by omega) (by omega)))))) | exact z_on_t (z_on_t (z_on_t (z_on_t (z_on_t (z_on_t (z_on_h rfl (by omega) (by omega))))))) | exact z_on_t (z_on_t (z_on_t (z_on_t (z_on_t (z_on_t (z_on_t (z_on_h rfl (by omega) (by omega)))))))) | exact z_on_t (z_on_t (z_on_t (z_on_t (z_on_t (z_on_t (z_on_t (z_on_t (z_on_h rfl (by omega) (by omega))))))))) | exact z_on_t (z_on_t (z_on_t (z_on_t (z_on_t (z_on_t (z_on_t (z_on_t (z_on_t (z_on_h rfl (by omega) (by omega)))))))))) | exact z_on_t (z_on_t (z_on_t (z_on_t (z_on_t (z_on_t (z_on_t (z_on_t (z_on_t (z_on_t (z_on_h rfl (by omega) (by omega))))))))))) | exact z_on_t (z_on_t (z_on_t (z_on_t (z_on_t (z_on_t (z_on_t (z_on_t (z_on_t (z_on_t (z_on_t (z_on_h rfl (by omega) (by omega)))))))))))) | exact z_on_t (z_on_t (z_on_t (z_on_t (z_on_t (z_on_t (z_on_t (z_on_t (z_on_t (z_on_t (z_on_t (z_on_t (z_on_h rfl (by omega) (by omega))))))))))))))).upo (by (try unfold c_RU); (try unfold r_RU); first | exact z_on_h rfl (by omega) (by omega) | exact z_on_t (z_on_h rfl (by omega) (by omega)) | exact z_on_t (z_on_t (z_on_h rfl (by omega) (by omega))) | exact z_on_t (z_on_t (z_on_t (z_on_h rfl (by omega) (by omega)))) | exact z_on_t (z_on_t (z_on_t (z_on_t (z_on_h rfl (by omega) (by omega))))) | exact z_on_t (z_on_t (z_on_t (z_on_t (z_on_t (z_on_h rfl (by omega) (by omega)))))) | exact z_on_t (z_on_t (z_on_t (z_on_t (z_on_t (z_on_t (z_on_h rfl (by omega) (by omega))))))) | exact z_on_t (z_on_t (z_on_t (z_on_t (z_on_t (z_on_t (z_on_t (z_on_h rfl (by omega) (by omega)))))))) | exact z_on_t (z_on_t (z_on_t (z_on_t (z_on_t (z_on_t (z_on_t (z_on_t (z_on_h rfl (by omega) (by omega))))))))) | exact z_on_t (z_on_t (z_on_t (z_on_t (z_on_t (z_on_t (z_on_t (z_on_t (z_on_t (z_on_h rfl (by omega) (by omega)))))))))) | exact z_on_t (z_on_t (z_on_t (z_on_t (z_on_t (z_on_t (z_on_t (z_on_t (z_on_t (z_on_t (z_on_h rfl (by omega) (by omega))))))))))) | exact z_on_t (z_on_t (z_on_t (z_on_t (z_on_t (z_on_t (z_on_t (z_on_t (z_on_t (z_on_t (z_on_t (z_on_h rfl (by omega) (by omega)))))))))))) | exact z_on_t (z_on_t (z_on_t (z_on_t (z_on_t (z_on_t (z_on_t (z_on_t (z_on_t (z_on_t (z_on_t (z_on_t (z_on_h rfl (by omega) (by omega))))))))))))))).upo (by (try unfold c_RU); (try unfold r_RU); first | exact z_on_h rfl (by omega) (by omega) | exact z_on_t (z_on_h rfl (by omega) (by omega)) | exact z_on_t (z_on_t (z_on_h rfl (by omega) (by omega))) | exact z_on_t (z_on_t (z_on_t (z_on_h rfl (by omega) (by omega)))) | exact z_on_t (z_on_t (z_on_t (z_on_t (z_on_h rfl (by omega) (by omega))))) | exact z_on_t (z_on_t (z_on_t (z_on_t (z_on_t (z_on_h rfl (by omega) (by omega)))))) | exact z_on_t (z_on_t (z_on_t (z_on_t (z_on_t (z_on_t (z_on_h rfl (by omega) (by omega))))))) | exact z_on_t (z_on_t (z_on_t (z_on_t (z_on_t (z_on_t (z_on_t (z_on_h rfl (by omega) (by omega)))))))) | exact z_on_t (z_on_t (z_on_t (z_on_t (z_on_t (z_on_t (z_on_t (z_on_t (z_on_h rfl (by omega) (by omega))))))))) | exact z_on_t (z_on_t (z_on_t (z_on_t (z_on_t (z_on_t (z_on_t (z_on_t (z_on_t (z_on_h rfl (by omega) (by omega)))))))))) | exact z_on_t (z_on_t (z_on_t (z_on_t (z_on_t (z_on_t (z_on_t (z_on_t (z_on_t (z_on_t (z_on_h rfl (by omega) (by omega))))))))))) | exact z_on_t (z_on_t (z_on_t (z_on_t (z_on_t (z_on_t (z_on_t (z_on_t (z_on_t (z_on_t (z_on_t (z_on_h rfl (by omega) (by omega)))))))))))) | exact z_on_t (z_on_t (z_on_t (z_on_t (z_on_t (z_on_t (z_on_t (z_on_t (z_on_t (z_on_t (z_on_t (z_on_t (z_on_h rfl (by omega) (by omega))))))))))))))).upo (by (try unfold c_RU); (try unfold r_RU); first | exact z_on_h rfl (by omega) (by omega) | exact z_on_t (z_on_h rfl (by omega) (by omega)) | exact z_on_t (z_on_t (z_on_h rfl (by omega) (by omega))) | exact z_on_t (z_on_t (z_on_t (z_on_h rfl (by omega) (by omega)))) | exact z_on_t (z_on_t (z_on_t (z_on_t (z_on_h rfl (by omega) (by omega))))) | exact z_on_t (z_on_t (z_on_t (z_on_t (z_on_t (z_on_h rfl (by omega) (by omega)))))) | exact z_on_t (z_on_t (z_on_t (z_on_t (z_on_t (z_on_t (z_on_h rfl (by omega) (by omega))))))) | exact z_on_t (z_on_t (z_on_t (z_on_t (z_on_t (z_on_t (z_on_t (z_on_h rfl (by omega) (by omega)))))))) | exact z_on_t (z_on_t (z_on_t (z_on_t (z_on_t (z_on_t (z_on_t (z_on_t (z_on_h rfl (by omega) (by omega))))))))) | exact z_on_t (z_on_t (z_on_t (z_on_t (z_on_t (z_on_t (z_on_t (z_on_t (z_on_t (z_on_h rfl (by omega) (by omega)))))))))) | exact z_on_t (z_on_t (z_on_t (z_on_t (z_on_t (z_on_t (z_on_t (z_on_t (z_on_t (z_on_t (z_on_h rfl (by omega) (by omega))))))))))) | exact z_on_t (z_on_t (z_on_t (z_on_t (z_on_t (z_on_t (z_on_t (z_on_t (z_on_t (z_on_t (z_on_t (z_on_h rfl (by omega) (by omega)))))))))))) | exact z_on_t (z_on_t (z_on_t (z_on_t (z_on_t (z_on_t (z_on_t (z_on_t (z_on_t (z_on_t (z_on_t (z_on_t (z_on_h rfl (by omega) (by omega))))))))))))))).upo (by (try unfold c_RU); (try unfold r_RU); first | exact z_on_h rfl (by omega) (by omega) | exact z_on_t (z_on_h rfl (by omega) (by omega)) | exact z_on_t (z_on_t (z_on_h rfl (by omega) (by omega))) | exact z_on_t (z_on_t (z_on_t (z_on_h rfl (by omega) (by omega)))) | exact z_on_t (z_on_t (z_on_t (z_on_t (z_on_h rfl (by omega) (by omega))))) | exact z_on_t (z_on_t (z_on_t (z_on_t (z_on_t (z_on_h rfl (by omega) (by omega)))))) | exact z_on_t (z_on_t (z_on_t (z_on_t (z_on_t (z_on_t (z_on_h rfl (by omega) (by omega))))))) | exact z_on_t (z_on_t (z_on_t (z_on_t (z_on_t (z_on_t (z_on_t (z_on_h rfl (by omega) (by omega)))))))) | exact z_on_t (z_on_t (z_on_t (z_on_t (z_on_t (z_on_t (z_on_t (z_on_t (z_on_h rfl (by omega) (by omega))))))))) | exact z_on_t (z_on_t (z_on_t (z_on_t (z_on_t (z_on_t (z_on_t (z_on_t (z_on_t (z_on_h rfl (by omega) (by omega)))))))))) | exact z_on_t (z_on_t (z_on_t (z_on_t (z_on_t (z_on_t (z_on_t (z_on_t (z_on_t (z_on_t (z_on_h rfl (by omega) (by omega))))))))))) | exact z_on_t (z_on_t (z_on_t (z_on_t (z_on_t (z_on_t (z_on_t (z_on_t (z_on_t (z_on_t (z_on_t (z_on_h rfl (by omega) (by omega)))))))))))) | exact z_on_t (z_on_t (z_on_t (z_on_t (z_on_t (z_on_t (z_on_t (z_on_t (z_on_t (z_on_t (z_on_t (z_on_t (z_on_h rfl (by omega) (by omega))))))))))))))).upo (by (try unfold c_RU); (try unfold r_RU); first | exact z_on_h rfl (by omega) (by omega) | exact z_on_t (z_on_h rfl (by omega) (by omega)) | exact z_on_t (z_on_t (z_on_h rfl (by omega) (by omega))) | exact z_on_t (z_on_t (z_on_t (z_on_h rfl (by omega) (by omega)))) | exact z_on_t (z_on_t (z_on_t (z_on_t (z_on_h rfl (by omega) (by omega))))) | exact z_on_t (z_on_t (z_on_t (z_on_t (z_on_t (z_on_h rfl (by omega) (by omega)))))) | exact z_on_t (z_on_t (z_on_t (z_on_t (z_on_t (z_on_t (z_on_h rfl (by omega) (by omega))))))) | exact z_on_t (z_on_t (z_on_t (z_on_t (z_on_t (z_on_t (z_on_t (z_on_h rfl (by omega) (by omega)))))))) | exact z_on_t (z_on_t (z_on_t (z_on_t (z_on_t (z_on_t (z_on_t (z_on_t (z_on_h rfl (by omega) (by omega))))))))) | exact z_on_t (z_on_t (z_on_t (z_on_t (z_on_t (z_on_t (z_on_t (z_on_t (z_on_t (z_on_h rfl (by omega) (by omega)))))))))) | exact z_on_t (z_on_t (z_on_t (z_on_t (z_on_t (z_on_t (z_on_t (z_on_t (z_on_t (z_on_t (z_on_h rfl (by omega) (by omega))))))))))) | exact z_on_t (z_on_t (z_on_t (z_on_t (z_on_t (z_on_t (z_on_t (z_on_t (z_on_t (z_on_t (z_on_t (z_on_h rfl (by omega) (by omega)))))))))))) | exact z_on_t (z_on_t (z_on_t (z_on_t (z_on_t (z_on_t (z_on_t (z_on_t (z_on_t (z_on_t (z_on_t (z_on_t (z_on_h rfl (by omega) (by omega))))))))))))))).upo (by (try unfold c_RU); (try unfold r_RU); first | exact z_on_h rfl (by omega) (by omega) | exact z_on_t (z_on_h rfl (by omega) (by omega)) | exact z_on_t (z_on_t (z_on_h rfl (by omega) (by omega))) | exact z_on_t (z_on_t (z_on_t (z_on_h rfl (by omega) (by omega)))) | exact z_on_t (z_on_t (z_on_t (z_on_t (z_on_h rfl (by omega) (by omega))))) | exact z_on_t (z_on_t (z_on_t (z_on_t (z_on_t (z_on_h rfl (by omega) (by omega)))))) | exact z_on_t (z_on_t (z_on_t (z_on_t (z_on_t (z_on_t (z_on_h rfl (by omega) (by omega))))))) | exact z_on_t (z_on_t (z_on_t (z_on_t (z_on_t (z_on_t (z_on_t (z_on_h rfl (by omega) (by omega)))))))) | exact z_on_t (z_on_t (z_on_t (z_on_t (z_on_t (z_on_t (z_on_t (z_on_t (z_on_h rfl (by omega) (by omega))))))))) | exact z_on_t (z_on_t (z_on_t (z_on_t (z_on_t (z_on_t (z_on_t (z_on_t (z_on_t (z_on_h rfl (by omega) (by omega)))))))))) | exact z_on_t (z_on_t (z_on_t (z_on_t (z_on_t (z_on_t (z_on_t (z_on_t (z_on_t (z_on_t (z_on_h rfl (by omega) (by omega))))))))))) | exact z_on_t (z_on_t (z_on_t (z_on_t (z_on_t (z_on_t (z_on_t (z_on_t (z_on_t (z_on_t (z_on_t (z_on_h rfl (by omega) (by omega)))))))))))) | exact z_on_t (z_on_t (z_on_t (z_on_t (z_on_t (z_on_t (z_on_t (z_on_t (z_on_t (z_on_t (z_on_t (z_on_t (z_on_h rfl (by omega) (by omega))))))))))))))
  have q0 : z_same [(251, 8, 16), (251, 21, 21)] m (z_up (z_up (z_up (z_up (z_up (z_up (z_up (z_up m 251 11 0) 251 12 254) 251 13 (n : Int)) 251 14 40) 251 15 0) 251 16 (-1)) 251 8 0) 251 21 0) := (((((((z_same.rf.upo (by (try unfold c_RU); (try unfold r_RU); first | exact z_on_h rfl (by omega) (by omega) | exact z_on_t (z_on_h rfl (by omega) (by omega)) | exact z_on_t (z_on_t (z_on_h rfl (by omega) (by omega))) | exact z_on_t (z_on_t (z_on_t (z_on_h rfl (by omega) (by omega)))) | exact z_on_t (z_on_t (z_on_t (z_on_t (z_on_h rfl (by omega) (by omega))))) | exact z_on_t (z_on_t (z_on_t (z_on_t (z_on_t (z_on_h rfl (by omega) (by omega)))))) | exact z_on_t (z_on_t (z_on_t (z_on_t (z_on_t (z_on_t (z_on_h rfl (by omega) (by omega))))))) | exact z_on_t (z_on_t (z_on_t (z_on_t (z_on_t (z_on_t (z_on_t (z_on_h rfl (by omega) (by omega)))))))) | exact z_on_t (z_on_t (z_on_t (z_on_t (z_on_t (z_on_t (z_on_t (z_on_t (z_on_h rfl (by omega) (by omega))))))))) | exact z_on_t (z_on_t (z_on_t (z_on_t (z_on_t (z_on_t (z_on_t (z_on_t (z_on_t (z_on_h rfl (by omega) (by omega)))))))))) | exact z_on_t (z_on_t (z_on_t (z_on_t (z_on_t (z_on_t (z_on_t (z_on_t (z_on_t (z_on_t (z_on_h rfl (by omega) (by omega))))))))))) | exact z_on_t (z_on_t (z_on_t (z_on_t (z_on_t (z_on_t (z_on_t (z_on_t (z_on_t (z_on_t (z_on_t (z_on_h rfl (by omega) (by omega)))))))))))) | exact z_on_t (z_on_t (z_on_t (z_on_t (z_on_t (z_on_t (z_on_t (z_on_t (z_on_t (z_on_t (z_on_t (z_on_t (z_on_h rfl (by omega) (by omega))))))))))))))).upo (by (try unfold c_RU); (try unfold r_RU); first | exact z_on_h rfl (by omega) (by omega) | exact z_on_t (z_on_h rfl (by omega) (by omega)) | exact z_on_t (z_on_t (z_on_h rfl (by omega) (by omega))) | exact z_on_t (z_on_t (z_on_t (z_on_h rfl (by omega) (by omega)))) | exact z_on_t (z_on_t (z_on_t (z_on_t (z_on_h rfl (by omega) (by omega))))) | exact z_on_t (z_on_t (z_on_t (z_on_t (z_on_t (z_on_h rfl (by omega) (by omega)))))) | exact z_on_t (z_on_t (z_on_t (z_on_t (z_on_t (z_on_t (z_on_h rfl (by omega) (by omega))))))) | exact z_on_t (z_on_t (z_on_t (z_on_t (z_on_t (z_on_t (z_on_t (z_on_h rfl (by omega) (by omega)))))))) | exact z_on_t (z_on_t (z_on_t (z_on_t (z_on_t (z_on_t (z_on_t (z_on_t (z_on_h rfl (by omega) (by omega))))))))) | exact z_on_t (z_on_t (z_on_t (z_on_t (z_on_t (z_on_t (z_on_t (z_on_t (z_on_t (z_on_h rfl (by omega) (by omega)))))))))) | exact z_on_t (z_on_t (z_on_t (z_on_t (z_on_t (z_on_t (z_on_t (z_on_t (z_on_t (z_on_t (z_on_h rfl (by omega) (by omega))))))))))) | exact z_on_t (z_on_t (z_on_t (z_on_t (z_on_t (z_on_t (z_on_t (z_on_t (z_on_t (z_on_t (z_on_t (z_on_h rfl (by omega) (by omega)))))))))))) | exact z_on_t (z_on_t (z_on_t (z_on_t (z_on_t (z_on_t (z_on_t (z_on_t (z_on_t (z_on_t (z_on_t (z_on_t (z_on_h rfl (by omega) (by omega))))))))))))))).upo (by (try unfold c_RU); (try unfold r_RU); first | exact z_on_h rfl (by omega) (by omega) | exact z_on_t (z_on_h rfl (by omega) (by omega)) | exact z_on_t (z_on_t (z_on_h rfl (by omega) (by omega))) | exact z_on_t (z_on_t (z_on_t (z_on_h rfl (by omega) (by omega)))) | exact z_on_t (z_on_t (z_on_t (z_on_t (z_on_h rfl (by omega) (by omega))))) | exact z_on_t (z_on_t (z_on_t (z_on_t (z_on_t (z_on_h rfl (by omega) (by omega)))))) | exact z_on_t (z_on_t (z_on_t (z_on_t (z_on_t (z_on_t (z_on_h rfl (by omega) (by omega))))))) | exact z_on_t (z_on_t (z_on_t (z_on_t (z_on_t (z_on_t (z_on_t (z_on_h rfl (by omega) (by omega)))))))) | exact z_on_t (z_on_t (z_on_t (z_on_t (z_on_t (z_on_t (z_on_t (z_on_t (z_on_h rfl (by omega) (by omega))))))))) | exact z_on_t (z_on_t (z_on_t (z_on_t (z_on_t (z_on_t (z_on_t (z_on_t (z_on_t (z_on_h rfl (by omega) (by omega)))))))))) | exact z_on_t (z_on_t (z_on_t (z_on_t (z_on_t (z_on_t (z_on_t (z_on_t (z_on_t (z_on_t (z_on_h rfl (by omega) (by omega))))))))))) | exact z_on_t (z_on_t (z_on_t (z_on_t (z_on_t (z_on_t (z_on_t (z_on_t (z_on_t (z_on_t (z_on_t (z_on_h rfl (by omega) (by omega)))))))))))) | exact z_on_t (z_on_t (z_on_t (z_on_t (z_on_t (z_on_t (z_on_t (z_on_t (z_on_t (z_on_t (z_on_t (z_on_t (z_on_h rfl (by omega) (by omega))))))))))))))).upo (by (try unfold c_RU); (try unfold r_RU); first | exact z_on_h rfl (by omega) (by omega) | exact z_on_t (z_on_h rfl (by omega) (by omega)) | exact z_on_t (z_on_t (z_on_h rfl (by omega) (by omega))) | exact z_on_t (z_on_t (z_on_t (z_on_h rfl (by omega) (by omega)))) | exact z_on_t (z_on_t (z_on_t (z_on_t (z_on_h rfl (by omega) (by omega))))) | exact z_on_t (z_on_t (z_on_t (z_on_t (z_on_t (z_on_h rfl (by omega) (by omega)))))) | exact z_on_t (z_on_t (z_on_t (z_on_t (z_on_t (z_on_t (z_on_h rfl (by omega) (by omega))))))) | exact z_on_t (z_on_t (z_on_t (z_on_t (z_on_t (z_on_t (z_on_t (z_on_h rfl (by omega) (by omega)))))))) | exact z_on_t (z_on_t (z_on_t (z_on_t (z_on_t (z_on_t (z_on_t (z_on_t (z_on_h rfl (by omega) (by omega))))))))) | exact z_on_t (z_on_t (z_on_t (z_on_t (z_on_t (z_on_t (z_on_t (z_on_t (z_on_t (z_on_h rfl (by omega) (by omega)))))))))) | exact z_on_t (z_on_t (z_on_t (z_on_t (z_on_t (z_on_t (z_on_t (z_on_t (z_on_t (z_on_t (z_on_h rfl (by omega) (by omega))))))))))) | exact z_on_t (z_on_t (z_on_t (z_on_t (z_on_t (z_on_t (z_on_t (z_on_t (z_on_t (z_on_t (z_on_t (z_on_h rfl (by omega) (by omega)))))))))))) | exact z_on_t (z_on_t (z_on_t (z_on_t (z_on_t (z_on_t (z_on_t (z_on_t (z_on_t (z_on_t (z_on_t (z_on_t (z_on_h rfl (by omega) (by omega))))))))))))))).upo (by (try unfold c_RU); (try unfold r_RU); first | exact z_on_h rfl (by omega) (by omega) | exact z_on_t (z_on_h rfl (by omega) (by omega)) | exact z_on_t (z_on_t (z_on_h rfl (by omega) (by omega))) | exact z_on_t (z_on_t (z_on_t (z_on_h rfl (by omega) (by omega)))) | exact z_on_t (z_on_t (z_on_t (z_on_t (z_on_h rfl (by omega) (by omega))))) | exact z_on_t (z_on_t (z_on_t (z_on_t (z_on_t (z_on_h rfl (by omega) (by omega)))))) | exact z_on_t (z_on_t (z_on_t (z_on_t (z_on_t (z_on_t (z_on_h rfl (by omega) (by omega))))))) | exact z_on_t (z_on_t (z_on_t (z_on_t (z_on_t (z_on_t (z_on_t (z_on_h rfl (by omega) (by omega)))))))) | exact z_on_t (z_on_t (z_on_t (z_on_t (z_on_t (z_on_t (z_on_t (z_on_t (z_on_h rfl (by omega) (by omega))))))))) | exact z_on_t (z_on_t (z_on_t (z_on_t (z_on_t (z_on_t (z_on_t (z_on_t (z_on_t (z_on_h rfl (by omega) (by omega)))))))))) | exact z_on_t (z_on_t (z_on_t (z_on_t (z_on_t (z_on_t (z_on_t (z_on_t (z_on_t (z_on_t (z_on_h rfl (by omega) (by omega))))))))))) | exact z_on_t (z_on_t (z_on_t (z_on_t (z_on_t (z_on_t (z_on_t (z_on_t (z_on_t (z_on_t (z_on_t (z_on_h rfl (by omega) (by omega)))))))))))) | exact z_on_t (z_on_t (z_on_t (z_on_t (z_on_t (z_on_t (z_on_t (z_on_t (z_on_t (z_on_t (z_on_t (z_on_t (z_on_h rfl (by omega) (by omega))))))))))))))).upo (by (try unfold c_RU); (try unfold r_RU); first | exact z_on_h rfl (by omega) (by omega) | exact z_on_t (z_on_h rfl (by omega) (by omega)) | exact z_on_t (z_on_t (z_on_h rfl (by omega) (by omega))) | exact z_on_t (z_on_t (z_on_t (z_on_h rfl (by omega) (by omega)))) | exact z_on_t (z_on_t (z_on_t (z_on_t (z_on_h rfl (by omega) (by omega))))) | exact z_on_t (z_on_t (z_on_t (z_on_t (z_on_t (z_on_h rfl (by omega) (by omega)))))) | exact z_on_t (z_on_t (z_on_t (z_on_t (z_on_t (z_on_t (z_on_h rfl (by omega) (by omega))))))) | exact z_on_t (z_on_t (z_on_t (z_on_t (z_on_t (z_on_t (z_on_t (z_on_h rfl (by omega) (by omega)))))))) | exact z_on_t (z_on_t (z_on_t (z_on_t (z_on_t (z_on_t (z_on_t (z_on_t (z_on_h rfl (by omega) (by omega))))))))) | exact z_on_t (z_on_t (z_on_t (z_on_t (z_on_t (z_on_t (z_on_t (z_on_t (z_on_t (z_on_h rfl (by omega) (by omega)))))))))) | exact z_on_t (z_on_t (z_on_t (z_on_t (z_on_t (z_on_t (z_on_t (z_on_t (z_on_t (z_on_t (z_on_h rfl (by omega) (by omega))))))))))) | exact z_on_t (z_on_t (z_on_t (z_on_t (z_on_t (z_on_t (z_on_t (z_on_t (z_on_t (z_on_t (z_on_t (z_on_h rfl (by omega) (by omega)))))))))))) | exact z_on_t (z_on_t (z_on_t (z_on_t (z_on_t (z_on_t (z_on_t (z_on_t (z_on_t (z_on_t (z_on_t (z_on_t (z_on_h rfl (by omega) (by omega))))))))))))))).upo (by (try unfold c_RU); (try unfold r_RU); first | exact z_on_h rfl (by omega) (by omega) | exact z_on_t (z_on_h rfl (by omega) (by omega)) | exact z_on_t (z_on_t (z_on_h rfl (by omega) (by omega))) | exact z_on_t (z_on_t (z_on_t (z_on_h rfl (by omega) (by omega)))) | exact z_on_t (z_on_t (z_on_t (z_on_t (z_on_h rfl (by omega) (by omega))))) | exact z_on_t (z_on_t (z_on_t (z_on_t (z_on_t (z_on_h rfl (by omega) (by omega)))))) | exact z_on_t (z_on_t (z_on_t (z_on_t (z_on_t (z_on_t (z_on_h rfl (by omega) (by omega))))))) | exact z_on_t (z_on_t (z_on_t (z_on_t (z_on_t (z_on_t (z_on_t (z_on_h rfl (by omega) (by omega)))))))) | exact z_on_t (z_on_t (z_on_t (z_on_t (z_on_t (z_on_t (z_on_t (z_on_t (z_on_h rfl (by omega) (by omega))))))))) | exact z_on_t (z_on_t (z_on_t (z_on_t (z_on_t (z_on_t (z_on_t (z_on_t (z_on_t (z_on_h rfl (by omega) (by omega)))))))))) | exact z_on_t (z_on_t (z_on_t (z_on_t (z_on_t (z_on_t (z_on_t (z_on_t (z_on_t (z_on_t (z_on_h rfl (by omega) (by omega))))))))))) | exact z_on_t (z_on_t (z_on_t (z_on_t (z_on_t (z_on_t (z_on_t (z_on_t (z_on_t (z_on_t (z_on_t (z_on_h rfl (by omega) (by omega)))))))))))) | exact z_on_t (z_on_t (z_on_t (z_on_t (z_on_t (z_on_t (z_on_t (z_on_t (z_on_t (z_on_t (z_on_t (z_on_t (z_on_h rfl (by omega) (by omega))))))))))))))).upo (by (try unfold c_RU); (try unfold r_RU); first | exact z_on_h rfl (by omega) (by omega) | exact z_on_t (z_on_h rfl (by omega) (by omega)) | exact z_on_t (z_on_t (z_on_h rfl (by omega) (by omega))) | exact z_on_t (z_on_t (z_on_t (z_on_h rfl (by omega) (by omega)))) | exact z_on_t (z_on_t (z_on_t (z_on_t (z_on_h rfl (by omega) (by omega))))) | exact z_on_t (z_on_t (z_on_t (z_on_t (z_on_t (z_on_h rfl (by omega) (by omega)))))) | exact z_on_t (z_on_t (z_on_t (z_on_t (z_on_t (z_on_t (z_on_h rfl (by omega) (by omega))))))) | exact z_on_t (z_on_t (z_on_t (z_on_t (z_on_t (z_on_t (z_on_t (z_on_h rfl (by omega) (by omega)))))))) | exact z_on_t (z_on_t (z_on_t (z_on_t (z_on_t (z_on_t (z_on_t (z_on_t (z_on_h rfl (by omega) (by omega))))))))) | exact z_on_t (z_on_t (z_on_t (z_on_t (z_on_t (z_on_t (z_on_t (z_on_t (z_on_t (z_on_h rfl (by omega) (by omega)))))))))) | exact z_on_t (z_on_t (z_on_t (z_on_t (z_on_t (z_on_t (z_on_t (z_on_t (z_on_t (z_on_t (z_on_h rfl (by omega) (by omega))))))))))) | exact z_on_t (z_on_t (z_on_t (z_on_t (z_on_t (z_on_t (z_on_t (z_on_t (z_on_t (z_on_t (z_on_t (z_on_h rfl (by omega) (by omega)))))))))))) | exact z_on_t (z_on_t (z_on_t (z_on_t (z_on_t (z_on_t (z_on_t (z_on_t (z_on_t (z_on_t (z_on_t (z_on_t (z_on_h rfl (by omega) (by omega))))))))))))))
  have k12 : (z_up (z_up (z_up (z_up (z_up (z_up (z_up (z_up m 251 11 0) 251 12 254) 251 13 (n : Int)) 251 14 40) 251 15 0) 251 16 (-1)) 251 8 0) 251 21 0) 251 12 = 254 := by rw [zu_k (by decide), zu_k (by decide), zu_k (by decide), zu_k (by decide), zu_k (by decide), zu_k (by decide), zu_self]
  have k13 : (z_up (z_up (z_up (z_up (z_up (z_up (z_up (z_up m 251 11 0) 251 12 254) 251 13 (n : Int)) 251 14 40) 251 15 0) 251 16 (-1)) 251 8 0) 251 21 0) 251 13 = (n : Int) := by rw [zu_k (by decide), zu_k (by decide), zu_k (by decide), zu_k (by decide), zu_k (by decide), zu_self]
  have k14 : (z_up (z_up (z_up (z_up (z_up (z_up (z_up (z_up m 251 11 0) 251 12 254) 251 13 (n : Int)) 251 14 40) 251 15 0) 251 16 (-1)) 251 8 0) 251 21 0) 251 14 = 40 := by rw [zu_k (by decide), zu_k (by decide), zu_k (by decide), zu_k (by decide), zu_self]
  have k15 : (z_up (z_up (z_up (z_up (z_up (z_up (z_up (z_up m 251 11 0) 251 12 254) 251 13 (n : Int)) 251 14 40) 251 15 0) 251 16 (-1)) 251 8 0) 251 21 0) 251 15 = 0 := by rw [zu_k (by decide), zu_k (by decide), zu_k (by decide), zu_self]
  have k16 : (z_up (z_up (z_up (z_up (z_up (z_up (z_up (z_up m 251 11 0) 251 12 254) 251 13 (n : Int)) 251 14 40) 251 15 0) 251 16 (-1)) 251 8 0) 251 21 0) 251 16 = -1 := by rw [zu_k (by decide), zu_k (by decide), zu_self]
  have k21 : (z_up (z_up (z_up (z_up (z_up (z_up (z_up (z_up m 251 11 0) 251 12 254) 251 13 (n : Int)) 251 14 40) 251 15 0) 251 16 (-1)) 251 8 0) 251 21 0) 251 21 = 0 := zu_self
  show ∃ m', (if (n : Int) ≤ 0 then z_R 175 (z_up (z_up (z_up (z_up (z_up (z_up (z_up (z_up m 251 11 0) 251 12 254) 251 13 (n : Int)) 251 14 40) 251 15 0) 251 16 (-1)) 251 8 0) 251 21 0, 73, [(2, 251), (0, (n : Int)), (0, 0)], []) else (z_R 176 (z_up (z_up (z_up (z_up (z_up (z_up (z_up (z_up m 251 11 0) 251 12 254) 251 13 (n : Int)) 251 14 40) 251 15 0) 251 16 (-1)) 251 8 0) 251 21 0, 0, [(2, 251), (0, 0), (9, 0)], [])).bind fun qq => z_R 175 (qq.1, 40, [(2, 251), (0, (n : Int)), (9, 0)], qq.2.toList ++ [])) = _ ∧ _
  generalize z_up (z_up (z_up (z_up (z_up (z_up (z_up (z_up m 251 11 0) 251 12 254) 251 13 (n : Int)) 251 14 40) 251 15 0) 251 16 (-1)) 251 8 0) 251 21 0 = m1 at s0 q0 k12 k13 k14 k15 k16 k21 ⊢
  have e254 : m1 254 = m 254 := q0.ofr (by (try unfold c_RU); (try unfold r_RU); (repeat' (first | exact trivial | refine z_ofr_c ?_ ?_)) <;> omega)
  have e258 : m1 258 = m 258 := q0.ofr (by (try unfold c_RU); (try unfold r_RU); (repeat' (first | exact trivial | refine z_ofr_c ?_ ?_)) <;> omega)
  have e259 : m1 259 = m 259 := q0.ofr (by (try unfold c_RU); (try unfold r_RU); (repeat' (first | exact trivial | refine z_ofr_c ?_ ?_)) <;> omega)
  have e20 : m1 251 20 = m 251 20 := q0.of (by (try unfold c_RU); (try unfold r_RU); (repeat' (first | exact trivial | refine z_of_c ?_ ?_)) <;> omega)
  by_cases c : (n : Int) = 0
  · rw [if_pos (by omega), if_pos c]
    obtain ⟨m', a1, a2, a3⟩ := t_rcp (n := n) (by omega) n 0 m1 (Nat.zero_add _)
    have a1 : z_R 175 (m1, 73, [(2, 251), (0, (n : Int)), (0, 0)], []) = some (z_up m' 251 20 (n : Int), some (0, 0)) := a1
    rw [a1]
    have e : m' = m1 := funext fun p => funext fun k => a3 p k (by omega)
    subst e
    exact ⟨_, rfl, s0.upo (by (try unfold c_RU); (try unfold r_RU); first | exact z_on_h rfl (by omega) (by omega) | exact z_on_t (z_on_h rfl (by omega) (by omega)) | exact z_on_t (z_on_t (z_on_h rfl (by omega) (by omega))) | exact z_on_t (z_on_t (z_on_t (z_on_h rfl (by omega) (by omega)))) | exact z_on_t (z_on_t (z_on_t (z_on_t (z_on_h rfl (by omega) (by omega))))) | exact z_on_t (z_on_t (z_on_t (z_on_t (z_on_t (z_on_h rfl (by omega) (by omega)))))) | exact z_on_t (z_on_t (z_on_t (z_on_t (z_on_t (z_on_t (z_on_h rfl (by omega) (by omega))))))) | exact z_on_t (z_on_t (z_on_t (z_on_t (z_on_t (z_on_t (z_on_t (z_on_h rfl (by omega) (by omega)))))))) | exact z_on_t (z_on_t (z_on_t (z_on_t (z_on_t (z_on_t (z_on_t (z_on_t (z_on_h rfl (by omega) (by omega))))))))) | exact z_on_t (z_on_t (z_on_t (z_on_t (z_on_t (z_on_t (z_on_t (z_on_t (z_on_t (z_on_h rfl (by omega) (by omega)))))))))) | exact z_on_t (z_on_t (z_on_t (z_on_t (z_on_t (z_on_t (z_on_t (z_on_t (z_on_t (z_on_t (z_on_h rfl (by omega) (by omega))))))))))) | exact z_on_t (z_on_t (z_on_t (z_on_t (z_on_t (z_on_t (z_on_t (z_on_t (z_on_t (z_on_t (z_on_t (z_on_h rfl (by omega) (by omega)))))))))))) | exact z_on_t (z_on_t (z_on_t (z_on_t (z_on_t (z_on_t (z_on_t (z_on_t (z_on_t (z_on_t (z_on_t (z_on_t (z_on_h rfl (by omega) (by omega)))))))))))))), fun _ => by rw [zu_self]; exact c, fun z => absurd c z, fun z => absurd c z⟩
  · rw [if_neg (by omega), if_neg c]
    have hW : r_W 254 g m1 := ⟨k12, Or.inl rfl, k14, by omega, by omega, by
      rw [e254, k13, ← hn]
      exact hG, fun k hk => by rw [e254]; exact hb k (by omega)⟩
    obtain ⟨m2, v, a1, a2, a3, a4⟩ := r_exprs (P := 254) (g := g) 4 (by decide) m1 ⟨hW, k16, by omega, Or.inl k21, fun k hk => by rw [e259]; exact h259 k hk⟩
    have a1 : z_R 176 (m1, 0, [(2, 251), (0, 0), (9, 0)], []) = some (m2, some (0, v)) := a1
    have a3 : (q_ex g 4 (m1 251 15)).1 = true → m2 251 16 = -1 ∧ m2 251 15 = (q_ex g 4 (m1 251 15)).2.1 := fun z => ⟨(a3 z).1, (a3 z).2.1⟩
    have a4 : (q_ex g 4 (m1 251 15)).1 = false → m2 251 16 = (q_ex g 4 (m1 251 15)).2.1 := a4
    rw [k15] at a3 a4
    have go : 0 ≤ (q_ex g 4 0).2.1 ∧ (q_ex g 4 0).2.1 ≤ 40 ∧ ((q_ex g 4 0).1 = true → 0 < (q_ex g 4 0).2.1 ∧ (((q_ex g 4 0).2.2).length : Int) ≤ (q_ex g 4 0).2.1 - 0) := q_ex_good hg 4 0 (by decide) (by decide)
    generalize (q_ex g 4 0).1 = b at a3 a4 go ⊢
    generalize (q_ex g 4 0).2.1 = p at a3 a4 go ⊢
    generalize (q_ex g 4 0).2.2 = cs at go ⊢
    have go1 : 0 ≤ p := go.1
    have go2 : p ≤ 40 := go.2.1
    have s2 : z_same r_RU m m2 := s0.tr (a2.subo (by (try unfold c_RU); (try unfold r_RU); (repeat' (first | exact trivial | refine z_sbo_c ?_ ?_)) <;> (intro k h1 h2; first | exact z_on_h rfl (by omega) (by omega) | exact z_on_t (z_on_h rfl (by omega) (by omega)) | exact z_on_t (z_on_t (z_on_h rfl (by omega) (by omega))) | exact z_on_t (z_on_t (z_on_t (z_on_h rfl (by omega) (by omega)))) | exact z_on_t (z_on_t (z_on_t (z_on_t (z_on_h rfl (by omega) (by omega))))) | exact z_on_t (z_on_t (z_on_t (z_on_t (z_on_t (z_on_h rfl (by omega) (by omega)))))) | exact z_on_t (z_on_t (z_on_t (z_on_t (z_on_t (z_on_t (z_on_h rfl (by omega) (by omega))))))) | exact z_on_t (z_on_t (z_on_t (z_on_t (z_on_t (z_on_t (z_on_t (z_on_h rfl (by omega) (by omega)))))))) | exact z_on_t (z_on_t (z_on_t (z_on_t (z_on_t (z_on_t (z_on_t (z_on_t (z_on_h rfl (by omega) (by omega))))))))) | exact z_on_t (z_on_t (z_on_t (z_on_t (z_on_t (z_on_t (z_on_t (z_on_t (z_on_t (z_on_h rfl (by omega) (by omega)))))))))) | exact z_on_t (z_on_t (z_on_t (z_on_t (z_on_t (z_on_t (z_on_t (z_on_t (z_on_t (z_on_t (z_on_h rfl (by omega) (by omega))))))))))) | exact z_on_t (z_on_t (z_on_t (z_on_t (z_on_t (z_on_t (z_on_t (z_on_t (z_on_t (z_on_t (z_on_t (z_on_h rfl (by omega) (by omega)))))))))))) | exact z_on_t (z_on_t (z_on_t (z_on_t (z_on_t (z_on_t (z_on_t (z_on_t (z_on_t (z_on_t (z_on_t (z_on_t (z_on_h rfl (by omega) (by omega))))))))))))))))
    have f258 : m2 258 = m 258 := (a2.ofr (by (try unfold c_RU); (try unfold r_RU); (repeat' (first | exact trivial | refine z_ofr_c ?_ ?_)) <;> omega)).trans e258
    have f254 : m2 254 = m 254 := (a2.ofr (by (try unfold c_RU); (try unfold r_RU); (repeat' (first | exact trivial | refine z_ofr_c ?_ ?_)) <;> omega)).trans e254
    have f20 : m2 251 20 = m 251 20 := (a2.of (by (try unfold c_RU); (try unfold r_RU); (repeat' (first | exact trivial | refine z_of_c ?_ ?_)) <;> omega)).trans e20
    have fin : ∀ m3, z_same r_RU m m3 → m3 251 16 = p → m3 258 = m 258 → m3 251 20 = m 251 20 → ¬ (b = true ∧ (n : Int) ≤ p) → ∃ m', (some (m3, some (0, z_sub (-1) (m3 251 16))) : Option z_Q) = some (m', some ((0 : Nat), if b = true ∧ (n : Int) ≤ p then 0 else -1 - p)) ∧ z_same r_RU m m' ∧ ((n : Int) = 0 → m' 251 20 = 0) ∧ (¬ (n : Int) = 0 → (b = true ∧ (n : Int) ≤ p) → m' 251 20 = (n : Int) ∧ (n : Int) ≤ 40 ∧ ∀ k : Nat, (k : Int) < (n : Int) → m' 258 k = m 254 k) ∧ (¬ (n : Int) = 0 → ¬ (b = true ∧ (n : Int) ≤ p) → m' 251 20 = m 251 20 ∧ m' 258 = m 258) := fun m3 s3 h16 h258 h20 z => by
      rw [if_neg z, h16, z_sub_eq (by omega) (by omega)]
      exact ⟨m3, rfl, s3, fun y => absurd y c, fun _ y => absurd y z, fun _ _ => ⟨h20, h258⟩⟩
    rw [a1, zb_v, t_rule_40]
    cases b with
    | false =>
      have z : ¬ (false = true ∧ (n : Int) ≤ p) := fun z => by cases z.1
      have e16 : m2 251 16 = p := a4 rfl
      have h16 : ¬ m2 251 16 = -1 := by omega
      by_cases e : (n : Int) ≤ m2 251 15
      · rw [if_pos e, t_fine0 m2 h16, zb_v, t_rule_61, if_pos rfl]
        exact fin m2 s2 e16 f258 f20 z
      · rw [if_neg e, t_fault0 m2 _ h16, zb_n, t_rule_57, t_fine0 m2 h16, zb_v, t_rule_61, if_pos rfl]
        exact fin m2 s2 e16 f258 f20 z
    | true =>
      obtain ⟨e16, e15⟩ := a3 rfl
      rw [e15]
      by_cases e : (n : Int) ≤ p
      · have z : (true = true ∧ (n : Int) ≤ p) := ⟨rfl, e⟩
        rw [if_pos e, t_fine1 m2 e16, zb_v, t_rule_61, if_neg (by decide)]
        obtain ⟨m', b1, b2, b3⟩ := t_rcp (n := n) (by omega) n 0 m2 (Nat.zero_add _)
        have b1 : z_R 175 (m2, 73, [(2, 251), (0, (n : Int)), (0, 0)], []) = some (z_up m' 251 20 (n : Int), some (0, 0)) := b1
        rw [b1, if_pos z]
        have s3 : z_same r_RU m m' := s2.tr fun p k hn => b3 p k fun y => hn (258, 0, 39) (by decide) ⟨y.1.symm, Nat.zero_le _, by show k ≤ 39; omega⟩
        refine ⟨_, rfl, s3.upo (by (try unfold c_RU); (try unfold r_RU); first | exact z_on_h rfl (by omega) (by omega) | exact z_on_t (z_on_h rfl (by omega) (by omega)) | exact z_on_t (z_on_t (z_on_h rfl (by omega) (by omega))) | exact z_on_t (z_on_t (z_on_t (z_on_h rfl (by omega) (by omega)))) | exact z_on_t (z_on_t (z_on_t (z_on_t (z_on_h rfl (by omega) (by omega))))) | exact z_on_t (z_on_t (z_on_t (z_on_t (z_on_t (z_on_h rfl (by omega) (by omega)))))) | exact z_on_t (z_on_t (z_on_t (z_on_t (z_on_t (z_on_t (z_on_h rfl (by omega) (by omega))))))) | exact z_on_t (z_on_t (z_on_t (z_on_t (z_on_t (z_on_t (z_on_t (z_on_h rfl (by omega) (by omega)))))))) | exact z_on_t (z_on_t (z_on_t (z_on_t (z_on_t (z_on_t (z_on_t (z_on_t (z_on_h rfl (by omega) (by omega))))))))) | exact z_on_t (z_on_t (z_on_t (z_on_t (z_on_t (z_on_t (z_on_t (z_on_t (z_on_t (z_on_h rfl (by omega) (by omega)))))))))) | exact z_on_t (z_on_t (z_on_t (z_on_t (z_on_t (z_on_t (z_on_t (z_on_t (z_on_t (z_on_t (z_on_h rfl (by omega) (by omega))))))))))) | exact z_on_t (z_on_t (z_on_t (z_on_t (z_on_t (z_on_t (z_on_t (z_on_t (z_on_t (z_on_t (z_on_t (z_on_h rfl (by omega) (by omega)))))))))))) | exact z_on_t (z_on_t (z_on_t (z_on_t (z_on_t (z_on_t (z_on_t (z_on_t (z_on_t (z_on_t (z_on_t (z_on_t (z_on_h rfl (by omega) (by omega)))))))))))))), fun y => absurd y c, fun _ _ => ⟨zu_self, by omega, fun k hk => ?_⟩, fun _ y => absurd z y⟩
        have hk' := hb k (by omega)
        rw [zu_p (by decide), b2 k (Nat.zero_le _) (by omega), f254, z_by_sm hk'.1 hk'.2]
      · have z : ¬ (true = true ∧ (n : Int) ≤ p) := fun z => e z.2
        have h16 : ¬ (z_up m2 251 16 p) 251 16 = -1 := by rw [zu_self]; omega
        rw [if_neg e, t_fault1 m2 _ e16, zb_n, t_rule_57, t_fine0 _ h16, zb_v, t_rule_61, if_pos rfl]
        exact fin _ (s2.upo (by (try unfold c_RU); (try unfold r_RU); first | exact z_on_h rfl (by omega) (by omega) | exact z_on_t (z_on_h rfl (by omega) (by omega)) | exact z_on_t (z_on_t (z_on_h rfl (by omega) (by omega))) | exact z_on_t (z_on_t (z_on_t (z_on_h rfl (by omega) (by omega)))) | exact z_on_t (z_on_t (z_on_t (z_on_t (z_on_h rfl (by omega) (by omega))))) | exact z_on_t (z_on_t (z_on_t (z_on_t (z_on_t (z_on_h rfl (by omega) (by omega)))))) | exact z_on_t (z_on_t (z_on_t (z_on_t (z_on_t (z_on_t (z_on_h rfl (by omega) (by omega))))))) | exact z_on_t (z_on_t (z_on_t (z_on_t (z_on_t (z_on_t (z_on_t (z_on_h rfl (by omega) (by omega)))))))) | exact z_on_t (z_on_t (z_on_t (z_on_t (z_on_t (z_on_t (z_on_t (z_on_t (z_on_h rfl (by omega) (by omega))))))))) | exact z_on_t (z_on_t (z_on_t (z_on_t (z_on_t (z_on_t (z_on_t (z_on_t (z_on_t (z_on_h rfl (by omega) (by omega)))))))))) | exact z_on_t (z_on_t (z_on_t (z_on_t (z_on_t (z_on_t (z_on_t (z_on_t (z_on_t (z_on_t (z_on_h rfl (by omega) (by omega))))))))))) | exact z_on_t (z_on_t (z_on_t (z_on_t (z_on_t (z_on_t (z_on_t (z_on_t (z_on_t (z_on_t (z_on_t (z_on_h rfl (by omega) (by omega)))))))))))) | exact z_on_t (z_on_t (z_on_t (z_on_t (z_on_t (z_on_t (z_on_t (z_on_t (z_on_t (z_on_t (z_on_t (z_on_t (z_on_h rfl (by omega) (by omega))))))))))))))) zu_self ((zu_rowne (by decide)).trans f258) ((zu_k (by decide)).trans f20) z
end
section
/-! WHAT IS KEPT, for rule: both texts are alike, sign by sign -/
def Rel_0 (σ : m_H) : Prop := Rel_T σ
theorem rel_start : ∀ σ, xs_is σ → Rel_0 σ := R_start
theorem rel_off {c : l_C} (h : (rel_offb c.2.2.1 && (rel_offb c.2.2.2.2.2.2.2 && !c.2.2.2.2.1)) = true) : l_rel2 Rel_0 c := R_off h
theorem rel_zero {c : l_C} (h : (md_zero c.2.2.1 1 1 && (md_zero c.2.2.2.2.2.2.2 251 8 && (md_off c.2.2.2.2.2.2.2 1 1 && !c.2.2.2.2.1))) = true) : l_rel2 Rel_0 c := R_zero h
theorem h_ty_259 (k : Nat) : h_ty 259 k = (0, -2147483648, 2147483647) := by
  unfold h_ty t_at
  rw [show (h_at 259).2.2 = [(0, -2147483648, 2147483647)] from rfl]
  show (match ([(0, -2147483648, 2147483647)] : List (Nat × Int × Int))[k % 1]? with | some t => t | none => (9, 0, 0)) = _
  rw [Nat.mod_one]
  rfl
theorem u_g255 {m : z_M} (h : u_R m) (i : Int) : -1 ≤ u_nx (m 2) (m 1 1) 40 i ∧ u_nx (m 2) (m 1 1) 40 i ≤ 255 := by
  unfold u_nx
  by_cases c : 0 ≤ i ∧ i < m 1 1 ∧ i < 40
  · rw [if_pos c, h.2 _ (by omega)]
    have e : z_and (m 254 i.toNat) 255 = (Int32.ofInt (m 254 i.toNat)).toInt % 256 := i32_and255 _
    omega
  · rw [if_neg c]; omega
theorem rel_rule : l_rel2 Rel_0 (289, 45, 39, 0, true, 293, 48, 175) := by
  intro M1 M2 M3 σ σ1 σ2 as v1 v2 C1 C2 ρ1 ρ2 ha hR hh hM1 hC1 hp1 hE1 hC2 hp2 hE2
  obtain rfl := as_nil ha
  have hE1 : z_R 39 (z_m σ, 0, [(2, 0), (9, 0)], []) = some (z_m σ1, some (0, v1.toInt)) := z_R_iff.mpr hE1
  have hE2 : z_R 175 (z_m σ1, 0, [(2, 251), (9, 0), (9, 0)], []) = some (z_m σ2, some (0, v2.toInt)) := z_R_iff.mpr hE2
  have hT : u_R (z_m σ) := hR
  have hz : Rel_T σ2 := u_R_zero ((md_off_ok (y := 175) (by decide +kernel) hC2 hp2).trans (r_rule0 _ hE1)) (md_zero_ok (y := 175) (by decide +kernel) hC2 hp2)
  obtain ⟨r1, r2⟩ := z_rng hh (p := 1) (k := 1) (lo := 0) (hi := 80) (by decide) (by decide +kernel) (by decide +kernel)
  have rb : ∀ k, k < 80 → -128 ≤ z_m σ 254 k ∧ z_m σ 254 k ≤ 127 := fun k hk => z_rng hh (p := 254) (k := k) (lo := -128) (hi := 127) (by decide) (by rw [show h_ln 254 = 80 by decide +kernel]; exact hk) (h_ty_254 k)
  have r259 : ∀ k, k < 7 → -2147483648 ≤ z_m σ 259 k ∧ z_m σ 259 k ≤ 2147483647 := fun k hk => z_rng hh (p := 259) (k := k) (lo := -2147483648) (hi := 2147483647) (by decide) (by rw [show h_ln 259 = 7 by decide +kernel]; exact hk) (h_ty_259 k)
  have o8 : z_m σ1 251 8 = z_m σ 251 8 := md_off_ok (y := 39) (by decide +kernel) hC1 hp1
  have o4 : z_m σ1 254 = z_m σ 254 := md_offr_ok (y := 39) (by decide +kernel) hC1 hp1
  have o5 : z_m σ1 259 = z_m σ 259 := md_offr_ok (y := 39) (by decide +kernel) hC1 hp1
  have eG : u_nx (u_t (z_m σ1)) (z_m σ1 251 8) 40 = u_nx (z_m σ 2) (z_m σ 1 1) 40 := by
    rw [u_nx_R hT]
    unfold u_t
    rw [o8, o4]
  obtain ⟨m1, d1, -⟩ := c_rule (z_m σ) r1 r2 (u_g255 hT)
  obtain ⟨m2, f1, -⟩ := r_rule (z_m σ1) (by rw [o8, ← hT.1]; exact r1) (by rw [o8, ← hT.1]; exact r2) (fun k hk => by rw [o4]; exact rb k hk) (fun k hk => by rw [o5]; exact r259 k hk)
  rw [eG, show z_m σ1 251 8 = z_m σ 1 1 from o8.trans hT.1.symm] at f1
  rw [d1] at hE1
  rw [f1] at hE2
  have x1 := (congrArg (fun z : z_Q => (z.2.getD (0, 0)).2) (Option.some.inj hE1)).symm
  have x2 := (congrArg (fun z : z_Q => (z.2.getD (0, 0)).2) (Option.some.inj hE2)).symm
  simp only [Option.getD_some] at x1 x2
  exact ⟨hz, fun _ => Int32.toInt_inj.mp (x1.trans x2.symm)⟩
theorem rel_cases : ∀ c ∈ law_cs, l_rel2 Rel_0 c := by
  unfold law_cs
  refine List.forall_mem_cons.mpr ⟨R_sign, ?_⟩
  refine List.forall_mem_cons.mpr ⟨R_end, ?_⟩
  refine List.forall_mem_cons.mpr ⟨R_house, ?_⟩
  refine List.forall_mem_cons.mpr ⟨rel_zero (by decide +kernel), ?_⟩
  refine List.forall_mem_cons.mpr ⟨rel_rule, ?_⟩
  refine List.forall_mem_cons.mpr ⟨rel_off (by decide +kernel), ?_⟩
  refine List.forall_mem_cons.mpr ⟨rel_off (by decide +kernel), ?_⟩
  refine List.forall_mem_cons.mpr ⟨rel_off (by decide +kernel), ?_⟩
  refine List.forall_mem_cons.mpr ⟨rel_off (by decide +kernel), ?_⟩
  refine List.forall_mem_cons.mpr ⟨rel_off (by decide +kernel), ?_⟩
  refine List.forall_mem_cons.mpr ⟨rel_off (by decide +kernel), ?_⟩
  refine List.forall_mem_cons.mpr ⟨rel_off (by decide +kernel), ?_⟩
  refine List.forall_mem_cons.mpr ⟨rel_off (by decide +kernel), ?_⟩
  refine List.forall_mem_cons.mpr ⟨rel_zero (by decide +kernel), ?_⟩
  refine List.forall_mem_cons.mpr ⟨rel_off (by decide +kernel), ?_⟩
  refine List.forall_mem_cons.mpr ⟨rel_off (by decide +kernel), ?_⟩
  refine List.forall_mem_cons.mpr ⟨rel_off (by decide +kernel), ?_⟩
  refine List.forall_mem_cons.mpr ⟨rel_off (by decide +kernel), ?_⟩
  refine List.forall_mem_cons.mpr ⟨rel_off (by decide +kernel), ?_⟩
  refine List.forall_mem_cons.mpr ⟨rel_off (by decide +kernel), ?_⟩
  refine List.forall_mem_cons.mpr ⟨rel_off (by decide +kernel), ?_⟩
  refine List.forall_mem_cons.mpr ⟨rel_off (by decide +kernel), ?_⟩
  refine List.forall_mem_cons.mpr ⟨rel_off (by decide +kernel), ?_⟩
  refine List.forall_mem_cons.mpr ⟨rel_off (by decide +kernel), ?_⟩
  refine List.forall_mem_cons.mpr ⟨rel_off (by decide +kernel), ?_⟩
  refine List.forall_mem_cons.mpr ⟨rel_off (by decide +kernel), ?_⟩
  refine List.forall_mem_cons.mpr ⟨rel_off (by decide +kernel), ?_⟩
  refine List.forall_mem_cons.mpr ⟨rel_off (by decide +kernel), ?_⟩
  refine List.forall_mem_cons.mpr ⟨rel_off (by decide +kernel), ?_⟩
  refine List.forall_mem_cons.mpr ⟨rel_off (by decide +kernel), ?_⟩
  refine List.forall_mem_cons.mpr ⟨rel_off (by decide +kernel), ?_⟩
  refine List.forall_mem_cons.mpr ⟨rel_off (by decide +kernel), ?_⟩
  refine List.forall_mem_cons.mpr ⟨rel_off (by decide +kernel), ?_⟩
  refine List.forall_mem_cons.mpr ⟨rel_off (by decide +kernel), ?_⟩
  refine List.forall_mem_cons.mpr ⟨rel_off (by decide +kernel), ?_⟩
  refine List.forall_mem_cons.mpr ⟨rel_off (by decide +kernel), ?_⟩
  refine List.forall_mem_cons.mpr ⟨rel_off (by decide +kernel), ?_⟩
  exact fun _ h => absurd h List.not_mem_nil
theorem rel_5 : l_rel3 Rel_0 181 2 := R3_off (by decide +kernel)
theorem rel_6 : l_rel3 Rel_0 190 2 := R3_off (by decide +kernel)
theorem rel_39 : l_rel3 Rel_0 261 1 := R3_off (by decide +kernel)
end
