/-! sheet, with the ICE that it makes -/
def u_shA (w h kind n a d : Int) : Nat → Int → Int → (Nat → Int) → (Nat → Int)
  | 0, _, _, A => A
  | f + 1, r, k, A => if u_hs w h r = 0 then u_shA w h kind n a d f (r + 1) k A else u_shA w h kind n a d f (r + 1) (k + 1) (u_up A r.toNat (u_val kind n k (z_add a (z_mul k d))))
section
variable {ww hh nn : Nat} {heat price : Int} {D : Nat → Int} {c : Nat} {U : Nat → Nat → Int} {kn : Nat → Int} {KS : Nat → Nat → Int} {cs : List Int}
theorem C_sh {kind n a d x5 : Int} (hx : x5 = if kind = 3 then 1 else 0) : ∀ (f : Nat) (r k s : Int) (v9 : z_V) (m : z_M) (A : Nat → Int), 0 ≤ r → r + (f : Int) = 9 → 0 ≤ k → k ≤ r → 0 ≤ s → s ≤ 99 * k → C_is ww hh nn heat price D A c U kn KS cs m → ∃ m', z_R 56 (m, 50, [(2, 0), (0, kind), (0, n), (0, a), (0, d), (0, x5), (0, k), (0, s), (0, r), v9], []) = some (m', some (0, if kind = 3 then -3 else u_sh (ww : Int) (hh : Int) kind n a d f r k s)) ∧ C_is ww hh nn heat price D (u_shA (ww : Int) (hh : Int) kind n a d f r k A) c U kn KS cs m' := by
  intro f
  induction f with
  | zero =>
    intro r k s v9 m A h0 h1 h2 h3 h4 h5 hC
    rw [s_sheet_50, if_pos (by omega)]
    by_cases cz : kind = 3
    · rw [if_pos cz] at hx
      rw [if_pos cz, if_neg (by omega)]; exact ⟨_, rfl, hC⟩
    · rw [if_neg cz] at hx
      rw [if_neg cz, if_pos hx]; exact ⟨_, rfl, hC⟩
  | succ f ih =>
    intro r k s v9 m A h0 h1 h2 h3 h4 h5 hC
    rw [s_sheet_50, if_neg (by omega), c_hasv, hC.1.1, hC.1.2.1]
    show ∃ m', z_R 56 (m, 66, [(2, 0), (0, kind), (0, n), (0, a), (0, d), (0, x5), (0, k), (0, s), (0, r), v9], [(0, u_hs (ww : Int) (hh : Int) r)]) = _ ∧ _
    rw [s_sheet_66, z_add_eq (x := r) (by omega) (by omega)]
    unfold u_sh u_shA
    by_cases cz : u_hs (ww : Int) (hh : Int) r = 0
    · rw [if_pos cz, if_pos cz, if_pos cz]
      exact ih (r + 1) k s v9 m A (by omega) (by omega) h2 (by omega) h4 h5 hC
    rw [if_neg cz, if_neg cz, if_neg cz]
    have hb := u_val_b kind n k (z_add a (z_mul k d))
    have go : ∀ u : Int, u = u_val kind n k (z_add a (z_mul k d)) → ∃ m', z_R 56 (m, 95, [(2, 0), (0, kind), (0, n), (0, a), (0, d), (0, x5), (0, k), (0, s), (0, r), v9], [(0, u)]) = some (m', some (0, if kind = 3 then -3 else u_sh (ww : Int) (hh : Int) kind n a d f (r + 1) (k + 1) (s + u_val kind n k (z_add a (z_mul k d))))) ∧ C_is ww hh nn heat price D (u_shA (ww : Int) (hh : Int) kind n a d f (r + 1) (k + 1) (u_up A r.toNat (u_val kind n k (z_add a (z_mul k d))))) c U kn KS cs m' := by
      intro u hu
      rw [s_sheet_95, if_pos ⟨h0, by omega⟩, z_add_eq (x := k) (by omega) (by omega), z_add_eq (x := s) (by omega) (by omega), z_add_eq (x := r) (by omega) (by omega), hu]
      refine ih (r + 1) (k + 1) _ _ _ _ (by omega) (by omega) (by omega) (by omega) (by omega) (by omega) (C_mkA hC (fun p k _ h1 => zu_p (by omega)) ?_)
      have e := cS_up1 (m := m) (s := 12) (j := r.toNat) (v := u_val kind n k (z_add a (z_mul k d))) (n := (nn : Int)) (by omega)
      rw [hC.2.2.1] at e
      exact e
    by_cases c3 : kind = 3
    · rw [if_pos c3] at hx
      rw [if_neg (by omega)]
      exact go 0 (by unfold u_val; rw [if_pos (Or.inl c3)])
    · rw [if_neg c3] at hx
      rw [if_pos hx]
      by_cases c4 : n ≤ k
      · rw [if_pos c4]
        exact go 0 (by unfold u_val; rw [if_pos (Or.inr c4)])
      · rw [if_neg c4, c_entry]
        show ∃ m', z_R 56 (m, 91, [(2, 0), (0, kind), (0, n), (0, a), (0, d), (0, x5), (0, k), (0, s), (0, r), v9], [(0, u_cap (u_conv kind (z_add a (z_mul k d))))]) = _ ∧ _
        rw [s_sheet_91]
        exact go _ (by unfold u_val; rw [if_neg (fun z => z.elim c3 c4)])
def u_sheetA (w h kind n a d : Int) (A : Nat → Int) : Nat → Int := if kind < 0 then A else if 3 < kind then A else if 9 < n then A else if kind = 3 then u_shA w h kind n a d 9 0 0 A else if n < 0 then A else u_shA w h kind n a d 9 0 0 A
theorem C_sheet (m : z_M) (kind n a d : Int) {A : Nat → Int} (hC : C_is ww hh nn heat price D A c U kn KS cs m) : ∃ m', z_R 56 (m, 0, [(2, 0), (0, kind), (0, n), (0, a), (0, d), (9, 0), (9, 0), (9, 0), (9, 0), (9, 0)], []) = some (m', some (0, u_sheet (ww : Int) (hh : Int) kind n a d)) ∧ C_is ww hh nn heat price D (u_sheetA (ww : Int) (hh : Int) kind n a d A) c U kn KS cs m' := by
  rw [s_sheet_0]
  unfold u_sheet u_sheetA
  by_cases h1 : kind < 0
  · rw [if_pos h1, if_pos h1, if_pos h1]; exact ⟨_, rfl, hC⟩
  rw [if_neg h1, if_neg h1, if_neg h1]
  by_cases h2 : 3 < kind
  · rw [if_pos h2, if_pos h2, if_pos h2]; exact ⟨_, rfl, hC⟩
  rw [if_neg h2, if_neg h2, if_neg h2]
  by_cases h3 : 9 < n
  · rw [if_neg (by omega), if_pos h3, if_pos h3]; exact ⟨_, rfl, hC⟩
  rw [if_pos (by omega), if_neg h3, if_neg h3]
  by_cases h4 : kind = 3
  · rw [if_pos h4, if_pos h4, if_pos h4, s_sheet_41]
    obtain ⟨m', e, e2⟩ := C_sh (kind := kind) (n := n) (a := a) (d := d) (x5 := 1) (by rw [if_pos h4]) 9 0 0 0 (9, 0) m A (by decide) (by decide) (by decide) (by decide) (by decide) (by decide) hC
    rw [if_pos h4] at e
    exact ⟨m', e, e2⟩
  rw [if_neg h4, if_neg h4, if_neg h4]
  by_cases h5 : n < 0
  · rw [if_neg (by omega), if_pos h5, if_pos h5]; exact ⟨_, rfl, hC⟩
  rw [if_pos (by omega), if_neg h5, if_neg h5, s_sheet_41]
  obtain ⟨m', e, e2⟩ := C_sh (kind := kind) (n := n) (a := a) (d := d) (x5 := 0) (by rw [if_neg h4]) 9 0 0 0 (9, 0) m A (by decide) (by decide) (by decide) (by decide) (by decide) (by decide) hC
  rw [if_neg h4] at e
  exact ⟨m', e, e2⟩
theorem R_sh {kind n a d : Int} : ∀ (f : Nat) (r k s : Int) (v9 : z_V) (m : z_M) (A : Nat → Int), 0 ≤ r → r + (f : Int) = 9 → 0 ≤ k → k ≤ r → 0 ≤ s → s ≤ 99 * k → R_is ww hh nn heat price D A c U kn KS cs m → ∃ m', z_R 194 (m, 46, [(2, 251), (0, kind), (0, n), (0, a), (0, d), (0, s), (0, z_add a (z_mul k d)), (0, k), (0, r), v9], []) = some (m', some (0, if kind = 3 then -3 else u_sh (ww : Int) (hh : Int) kind n a d f r k s)) ∧ R_is ww hh nn heat price D (u_shA (ww : Int) (hh : Int) kind n a d f r k A) c U kn KS cs m' := by
  intro f
  induction f with
  | zero =>
    intro r k s v9 m A h0 h1 h2 h3 h4 h5 hC
    rw [t_sheet_46, if_pos (by omega)]
    by_cases c : kind = 3
    · rw [if_pos c, if_pos c]; exact ⟨_, rfl, hC⟩
    · rw [if_neg c, if_neg c]; exact ⟨_, rfl, hC⟩
  | succ f ih =>
    intro r k s v9 m A h0 h1 h2 h3 h4 h5 hC
    rw [t_sheet_46, if_neg (by omega), t_roomv, hC.1.1, hC.1.2.1]
    show ∃ m', z_R 194 (m, 59, [(2, 251), (0, kind), (0, n), (0, a), (0, d), (0, s), (0, z_add a (z_mul k d)), (0, k), (0, r), v9], [(0, u_hs (ww : Int) (hh : Int) r)]) = _ ∧ _
    unfold u_sh u_shA
    by_cases c : u_hs (ww : Int) (hh : Int) r = 0
    · rw [t_sheet_59, if_pos c, if_pos c, if_pos c, t_sheet_145, z_add_eq (x := r) (by omega) (by omega)]
      exact ih (r + 1) k s v9 m A (by omega) (by omega) h2 (by omega) h4 h5 hC
    have hb := u_val_b kind n k (z_add a (z_mul k d))
    rw [t_sh59 _ _ _ _ _ _ _ _ _ _ c, if_neg c, if_neg c, t_sheet_122, if_pos ⟨h0, by omega⟩, if_pos ⟨h0, by omega⟩, zu_self, t_sheet_145, z_add_eq (x := s) (by omega) (by omega), z_add_eq (x := k) (by omega) (by omega), z_add_eq (x := r) (by omega) (by omega), u_step]
    exact ih (r + 1) (k + 1) _ _ _ _ (by omega) (by omega) (by omega) (by omega) (by omega) (by omega) (R_mkA hC (fun p k _ h1 => zu_p h1) (by rw [rS_up (by omega) (a_vis_lo (by omega)), hC.2.2.1]))
theorem R_sheet (m : z_M) (kind n a d : Int) {A : Nat → Int} (hC0 : R_is ww hh nn heat price D A c U kn KS cs m) (ha : (Int32.ofInt a).toInt = a) : ∃ m', z_R 194 (m, 0, [(2, 251), (0, kind), (0, n), (0, a), (0, d), (9, 0), (9, 0), (9, 0), (9, 0), (9, 0)], []) = some (m', some (0, u_sheet (ww : Int) (hh : Int) kind n a d)) ∧ R_is ww hh nn heat price D (u_sheetA (ww : Int) (hh : Int) kind n a d A) c U kn KS cs m' := by
  have hC := R_upn (p0 := 251) (k0 := 11) (v := 0) hC0 (by decide)
  rw [t_sheet_0, t_in]
  show ∃ m', z_R 194 (z_up m 251 11 0, 11, [(2, 251), (0, kind), (0, n), (0, a), (0, d), (9, 0), (9, 0), (9, 0), (9, 0), (9, 0)], [(0, if 0 ≤ kind ∧ kind ≤ 3 then 1 else 0)]) = _ ∧ _
  rw [t_sheet_11]
  unfold u_sheet u_sheetA
  by_cases h1 : kind < 0
  · rw [if_neg (show ¬ (0 ≤ kind ∧ kind ≤ 3) by omega), if_pos rfl, if_pos h1, if_pos h1]; exact ⟨_, rfl, hC⟩
  rw [if_neg h1, if_neg h1]
  by_cases h2 : 3 < kind
  · rw [if_neg (show ¬ (0 ≤ kind ∧ kind ≤ 3) by omega), if_pos rfl, if_pos h2, if_pos h2]; exact ⟨_, rfl, hC⟩
  rw [if_neg h2, if_neg h2, if_pos (show 0 ≤ kind ∧ kind ≤ 3 by omega), if_neg (by decide)]
  by_cases h3 : 9 < n
  · rw [if_neg (by omega), if_pos h3, if_pos h3]; exact ⟨_, rfl, hC⟩
  rw [if_pos (by omega), if_neg h3, if_neg h3]
  have hz : z_add a (z_mul 0 d) = a := by
    have e0 : z_mul 0 d = 0 := by unfold z_mul; rw [show Int32.ofInt 0 = 0 from rfl, Int32.zero_mul]; rfl
    rw [e0]
    unfold z_add
    rw [show Int32.ofInt 0 = 0 from rfl, Int32.add_zero, ha]
  obtain ⟨m', e, e2⟩ := R_sh (kind := kind) (n := n) (a := a) (d := d) 9 0 0 0 (9, 0) (z_up m 251 11 0) A (by decide) (by decide) (by decide) (by decide) (by decide) (by decide) hC
  rw [hz] at e
  by_cases h4 : kind = 3
  · rw [if_pos (by omega), if_pos h4, if_pos h4]
    rw [if_pos h4] at e
    exact ⟨m', e, e2⟩
  rw [if_neg (by omega), if_neg h4, if_neg h4]
  rw [if_neg h4] at e
  by_cases h5 : n < 0
  · rw [if_neg (by omega), if_pos h5, if_pos h5]; exact ⟨_, rfl, hC⟩
  rw [if_pos (by omega), if_neg h5, if_neg h5]
  exact ⟨m', e, e2⟩
end
theorem wi_shA {w h n : Nat} {kind b a d : Int} : ∀ (f : Nat) (r k : Int) (A : Nat → Int), 0 ≤ r → r + (f : Int) = 9 → wi w h n A → wi w h n (u_shA (w : Int) (h : Int) kind b a d f r k A) := by
  intro f
  induction f with
  | zero => intro r k A h0 h1 hi; exact hi
  | succ f ih =>
    intro r k A h0 h1 hi
    unfold u_shA
    by_cases cz : u_hs (w : Int) (h : Int) r = 0
    · rw [if_pos cz]
      exact ih (r + 1) k A (by omega) (by omega) hi
    · rw [if_neg cz]
      refine ih (r + 1) (k + 1) _ (by omega) (by omega) (wi_lo hi (by omega) ?_)
      rw [show ((r.toNat : Nat) : Int) = r by omega]
      exact cz
theorem wi_sheetA {w h n : Nat} {kind b a d : Int} {A : Nat → Int} (hi : wi w h n A) : wi w h n (u_sheetA (w : Int) (h : Int) kind b a d A) := by
  unfold u_sheetA
  by_cases c1 : kind < 0
  · rw [if_pos c1]; exact hi
  rw [if_neg c1]
  by_cases c2 : 3 < kind
  · rw [if_pos c2]; exact hi
  rw [if_neg c2]
  by_cases c3 : 9 < b
  · rw [if_pos c3]; exact hi
  rw [if_neg c3]
  by_cases c4 : kind = 3
  · rw [if_pos c4]; exact wi_shA 9 0 0 A (by decide) (by decide) hi
  rw [if_neg c4]
  by_cases c5 : b < 0
  · rw [if_pos c5]; exact hi
  · rw [if_neg c5]; exact wi_shA 9 0 0 A (by decide) (by decide) hi
theorem core_sheet : l_rel2 Rel_C (492, 67, 56, 4, false, 521, 71, 194) := by
  intro M1 M2 M3 σ σ1 σ2 as v1 v2 C1 C2 ρ1 ρ2 ha hR hh hM1 hC1 hp1 hE1 hC2 hp2 hE2
  obtain ⟨a, b, x, y, rfl⟩ := as_four ha
  have hE1 : z_R 56 (z_m σ, 0, [(2, 0), (0, a.toInt), (0, b.toInt), (0, x.toInt), (0, y.toInt), (9, 0), (9, 0), (9, 0), (9, 0), (9, 0)], []) = some (z_m σ1, some (0, v1.toInt)) := z_R_iff.mpr hE1
  have hE2 : z_R 194 (z_m σ1, 0, [(2, 251), (0, a.toInt), (0, b.toInt), (0, x.toInt), (0, y.toInt), (9, 0), (9, 0), (9, 0), (9, 0), (9, 0)], []) = some (z_m σ2, some (0, v2.toInt)) := z_R_iff.mpr hE2
  have hT := T_two (y1 := 56) (y2 := 194) (by decide +kernel) (by decide +kernel) hC1 hC2 hp1 hp2 hR.1
  obtain ⟨w, h, n, heat, price, D, A, c, U, kn, KS, cs, cC, cR, cW⟩ := hR.2
  have f1 := R_off2_ok (y := 56) (by decide +kernel) hC1 hp1
  have f2 := C_off_ok (y := 194) (by decide +kernel) hC2 hp2
  have cR1 := R_fr cR f1
  have z := core_do cR1 (fun q => C_fr q f2) (C_sheet _ a.toInt b.toInt x.toInt y.toInt cC) (fun q => R_sheet _ a.toInt b.toInt x.toInt y.toInt q (by rw [Int32.ofInt_toInt])) hE1 hE2
  exact ⟨⟨hT, Core_mk z.1.1 z.1.2 (w_W_A cW (wi_sheetA cW.2.1))⟩, fun _ => z.2⟩
