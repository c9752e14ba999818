/-! season leaves what both are in -/
theorem z_ush16 (a : Int) : 0 ≤ z_ush a 16 ∧ z_ush a 16 ≤ 65535 := by
  have h1 : (j_ushr (Int32.ofInt a) (Int32.ofInt 16)).toBitVec.toNat = (Int32.ofInt a).toBitVec.toNat / 65536 := i32_ushn (Int32.ofInt a) 16 (by decide)
  have hl := (Int32.ofInt a).toBitVec.isLt
  have h2 := i32_ofNat (x := j_ushr (Int32.ofInt a) (Int32.ofInt 16)) (by rw [h1]; omega)
  have e : z_ush a 16 = (j_ushr (Int32.ofInt a) (Int32.ofInt 16)).toInt := rfl
  rw [e, h2, h1]
  omega
theorem z_draw (a : Int) {y : Int} (h1 : 1 ≤ y) (h2 : y ≤ 100) : 0 ≤ z_rem (z_ush a 16) y ∧ z_rem (z_ush a 16) y < y := by
  have := z_ush16 a
  rw [z_rem_nn (by omega) (by omega) (by omega) (by omega)]
  exact ⟨Int.emod_nonneg _ (by omega), Int.emod_lt_of_pos _ (by omega)⟩
/-! what an hour comes to, by what those do who are there -/
theorem hr_o_cg {wm wm' : Nat → Int} {price : Int} : ∀ (f x : Nat) (A : Nat → Int), (∀ y, x ≤ y → y < x + f → wm y = wm' y) → hr_o wm price f x A = hr_o wm' price f x A := by
  intro f
  induction f with
  | zero => intro x A hw; rfl
  | succ f ih =>
    intro x A hw
    unfold hr_o
    rw [hw x (Nat.le_refl _) (by omega)]
    exact ih (x + 1) _ (fun y h1 h2 => hw y (by omega) (by omega))
theorem hr_s_cg {wm wm' : Nat → Int} {b : Int} : ∀ (f x : Nat) (s : Int), (∀ y, x ≤ y → y < x + f → wm y = wm' y) → hr_s wm b f x s = hr_s wm' b f x s := by
  intro f
  induction f with
  | zero => intro x s hw; rfl
  | succ f ih =>
    intro x s hw
    unfold hr_s
    rw [hw x (Nat.le_refl _) (by omega)]
    exact ih (x + 1) _ (fun y h1 h2 => hw y (by omega) (by omega))
theorem hr_K_cg {w h n : Nat} {heat price : Int} {ml : hr_M} {wm wm' : Nat → Int} {A : Nat → Int} (hw : ∀ y, y < n → wm y = wm' y) : hr_K w h heat price ml wm n A = hr_K w h heat price ml wm' n A := by
  have e1 : hr_o wm price n 0 A = hr_o wm' price n 0 A := hr_o_cg n 0 A (fun y _ h2 => hw y (by omega))
  have e2 : hr_me (w : Int) (h : Int) heat ml wm n A = hr_me (w : Int) (h : Int) heat ml wm' n A := by
    funext k
    unfold hr_me hr_mN hr_mB hr_wb
    rw [hr_s_cg n 0 _ (fun y _ h2 => hw y (by omega))]
  unfold hr_K
  rw [e1, e2]
theorem hr_H1_cg {w h n : Nat} {heat price : Int} {ml : hr_M} {wmt wmt' : Int → Nat → Int} {A : Nat → Int} (hw : ∀ y, y < n → wmt (A 35) y = wmt' (A 35) y) {M M' G G' F F' T : Int} : (hr_H w h heat price ml wmt n 1 A M G F T).1 = (hr_H w h heat price ml wmt' n 1 A M' G' F' T).1 ∧ (hr_H w h heat price ml wmt n 1 A M G F T).2.2.2.2 = (hr_H w h heat price ml wmt' n 1 A M' G' F' T).2.2.2.2 := by
  show hr_A w h heat price ml (wmt (A 35)) n A = hr_A w h heat price ml (wmt' (A 35)) n A ∧ z_add T (hr_K w h heat price ml (wmt (A 35)) n A).2.2.2 = z_add T (hr_K w h heat price ml (wmt' (A 35)) n A).2.2.2
  unfold hr_A
  rw [hr_K_cg hw]
  exact ⟨rfl, rfl⟩
def se_n (r : Int) : Int := z_add (z_mul r 1103515245) 12345
def se_w (D : Nat → Int) (f : Int) : Int → Nat → Int := fun t p => if (p : Int) = f then 9 else wmD D t p
/-- a drawn winter: so many more hours; how often one fell -/
def se_H (w h n : Nat) (heat price : Int) (cs : List Int) (D : Nat → Int) : Nat → Int → (Nat → Int) → Int → Int
  | 0, _, _, T => T
  | f + 1, r, B, T => se_H w h n heat price cs D f (se_n (se_n r)) (hr_H w h heat price (c_ml cs) (se_w D (z_rem (z_ush (se_n (se_n r)) 16) ((n : Int) + 3))) n 1 (u_up B 36 (z_rem (z_ush (se_n r) 16) 10)) 0 0 0 T).1 (hr_H w h heat price (c_ml cs) (se_w D (z_rem (z_ush (se_n (se_n r)) 16) ((n : Int) + 3))) n 1 (u_up B 36 (z_rem (z_ush (se_n r) 16) 10)) 0 0 0 T).2.2.2.2
def se_A (w h n : Nat) (heat price : Int) (cs : List Int) (D A : Nat → Int) (s a : Int) : Int := if 1 ≤ a ∧ a ≤ 60 then se_H w h n heat price cs D a.toNat s A 0 else -1
theorem wmf_b {D : Nat → Int} {f : Int} (h : ∀ t : Int, 0 ≤ t → ∀ p, p < 5 → 0 ≤ wmD D t p ∧ wmD D t p ≤ 9) : ∀ t : Int, 0 ≤ t → ∀ p, p < 5 → 0 ≤ se_w D f t p ∧ se_w D f t p ≤ 9 := fun t ht p hp => by
  show 0 ≤ (if (p : Int) = f then 9 else wmD D t p) ∧ (if (p : Int) = f then 9 else wmD D t p) ≤ 9
  by_cases e : (p : Int) = f
  · rw [if_pos e]; decide
  · rw [if_neg e]; exact h t ht p hp
section
variable {w h n : Nat} {heat price : Int} {D A : Nat → Int} {c : Nat} {U : Nat → Nat → Int} {kn : Nat → Int} {KS : Nat → Nat → Int} {cs : List Int} {m : z_M}
theorem C_cfgf {f : Int} (hi : C_is w h n heat price D A c U kn KS cs (z_up m 24 4 (-1))) (hf : m 24 4 = f) : c_cfg w h n heat price (c_ml cs) (se_w D f) m := by
  obtain ⟨c1, c2, c3, c4, c5, -, c7, c8⟩ := C_cfg hi
  have fp : ∀ p k, ¬ p = 24 → (z_up m 24 4 (-1)) p k = m p k := fun p k hp => zu_p hp
  rw [fp 3 8 (by decide)] at c1
  rw [fp 3 9 (by decide)] at c2
  rw [fp 3 11 (by decide)] at c3
  rw [fp 3 12 (by decide)] at c4
  rw [fp 3 13 (by decide)] at c5
  rw [fp 3 10 (by decide)] at c8
  refine ⟨c1, c2, c3, c4, c5, fun t ht p hp => ?_, fun m2 e5 e4 => c7 m2 (e5.trans (zu_rowne (by decide)).symm) (e4.trans (fp 4 3 (by decide)).symm), c8⟩
  have h5 : m 24 5 = 0 := by
    have := hi.1.2.2.2.2.2.2.2
    rw [zu_k (by decide)] at this
    exact this
  have h8 : ∀ j, j < 30 → m 8 j = D j := fun j hj => (fp 8 j (by decide)).symm.trans (hi.2.1 j hj)
  have hm : 0 ≤ t % 6 ∧ t % 6 < 6 := ⟨Int.emod_nonneg _ (by decide), Int.emod_lt_of_pos _ (by decide)⟩
  have ej : (6 * (p : Int) + t % 6).toNat = 6 * p + (t % 6).toNat := by omega
  have e0 : z_and (z_shr 0 (6 * (p : Int) + t % 6)) 1 = 0 := by
    have e : ∀ j, j < 30 → z_and (z_shr 0 ((j : Nat) : Int)) 1 = 0 := by decide +kernel
    have := e (6 * p + (t % 6).toNat) (by omega)
    rw [show ((6 * p + (t % 6).toNat : Nat) : Int) = 6 * (p : Int) + t % 6 by omega] at this
    exact this
  show cw m p t = if (p : Int) = f then 9 else wmD D t p
  unfold cw wmD
  rw [h5, if_pos e0, hf, ej]
  exact z_ifc (fun _ => rfl) (fun _ => h8 _ (by omega))
/-- but for the one that is warm -/
theorem C_f4 {m' : z_M} (hi : C_is w h n heat price D A c U kn KS cs (z_up m 24 4 (-1))) (hf : ∀ p k, C_hit p k k = true → ¬ (p = 24 ∧ k = 4) → m' p k = m p k) : C_is w h n heat price D A c U kn KS cs (z_up m' 24 4 (-1)) := C_fr hi fun p k hk => by
  by_cases e : p = 24 ∧ k = 4
  · rw [e.1, e.2, zu_self, zu_self]
  · rw [X_up e, X_up e]
    exact hf p k hk e
theorem q_fgn : ∀ (f x : Nat) (m : z_M), x + f = 9 → ∃ m', z_R 145 (m, 2, [(2, 24), (0, (x : Int))], []) = some (m', none) ∧ z_same [(27, 0, 8)] m m' := by
  intro f
  induction f with
  | zero =>
    intro x m hx
    rw [q_fg_2, if_pos (by omega)]
    exact ⟨m, rfl, z_same.rf⟩
  | succ f ih =>
    intro x m hx
    rw [q_fg_2, if_neg (by omega), if_pos (show 0 ≤ (x : Int) ∧ (x : Int) < 9 by omega), Int.toNat_natCast, tc1]
    obtain ⟨m', a1, a2⟩ := ih (x + 1) (z_up m 27 x 0) (by omega)
    exact ⟨m', a1, (z_same.rf.upo (by first | exact z_on_h rfl (by omega) (by omega) | exact z_on_t (z_on_h rfl (by omega) (by omega)) | exact z_on_t (z_on_t (z_on_h rfl (by omega) (by omega))) | exact z_on_t (z_on_t (z_on_t (z_on_h rfl (by omega) (by omega)))) | exact z_on_t (z_on_t (z_on_t (z_on_t (z_on_h rfl (by omega) (by omega))))) | exact z_on_t (z_on_t (z_on_t (z_on_t (z_on_t (z_on_h rfl (by omega) (by omega)))))) | exact z_on_t (z_on_t (z_on_t (z_on_t (z_on_t (z_on_t (z_on_h rfl (by omega) (by omega))))))) | exact z_on_t (z_on_t (z_on_t (z_on_t (z_on_t (z_on_t (z_on_t (z_on_h rfl (by omega) (by omega)))))))) | exact z_on_t (z_on_t (z_on_t (z_on_t (z_on_t (z_on_t (z_on_t (z_on_t (z_on_h rfl (by omega) (by omega))))))))) | exact z_on_t (z_on_t (z_on_t (z_on_t (z_on_t (z_on_t (z_on_t (z_on_t (z_on_t (z_on_h rfl (by omega) (by omega)))))))))) | exact z_on_t (z_on_t (z_on_t (z_on_t (z_on_t (z_on_t (z_on_t (z_on_t (z_on_t (z_on_t (z_on_h rfl (by omega) (by omega))))))))))) | exact z_on_t (z_on_t (z_on_t (z_on_t (z_on_t (z_on_t (z_on_t (z_on_t (z_on_t (z_on_t (z_on_t (z_on_h rfl (by omega) (by omega)))))))))))) | exact z_on_t (z_on_t (z_on_t (z_on_t (z_on_t (z_on_t (z_on_t (z_on_t (z_on_t (z_on_t (z_on_t (z_on_t (z_on_h rfl (by omega) (by omega))))))))))))))).tr a2⟩
theorem q_cgn : ∀ (f x : Nat) (m : z_M), x + f = 9 → ∃ m', z_R 148 (m, 2, [(2, 24), (0, (x : Int))], []) = some (m', none) ∧ z_same [(27, 0, 8)] m m' := by
  intro f
  induction f with
  | zero =>
    intro x m hx
    rw [q_cg_2, if_pos (by omega)]
    exact ⟨m, rfl, z_same.rf⟩
  | succ f ih =>
    intro x m hx
    rw [q_cg_2, if_neg (by omega), if_pos (show 0 ≤ (x : Int) ∧ (x : Int) < 9 by omega), Int.toNat_natCast, tc1]
    obtain ⟨m', a1, a2⟩ := ih (x + 1) (z_up m 27 x (z_add (m 27 x) (z_and (z_shr (m 24 10) (x : Int)) 1))) (by omega)
    exact ⟨m', a1, (z_same.rf.upo (by first | exact z_on_h rfl (by omega) (by omega) | exact z_on_t (z_on_h rfl (by omega) (by omega)) | exact z_on_t (z_on_t (z_on_h rfl (by omega) (by omega))) | exact z_on_t (z_on_t (z_on_t (z_on_h rfl (by omega) (by omega)))) | exact z_on_t (z_on_t (z_on_t (z_on_t (z_on_h rfl (by omega) (by omega))))) | exact z_on_t (z_on_t (z_on_t (z_on_t (z_on_t (z_on_h rfl (by omega) (by omega)))))) | exact z_on_t (z_on_t (z_on_t (z_on_t (z_on_t (z_on_t (z_on_h rfl (by omega) (by omega))))))) | exact z_on_t (z_on_t (z_on_t (z_on_t (z_on_t (z_on_t (z_on_t (z_on_h rfl (by omega) (by omega)))))))) | exact z_on_t (z_on_t (z_on_t (z_on_t (z_on_t (z_on_t (z_on_t (z_on_t (z_on_h rfl (by omega) (by omega))))))))) | exact z_on_t (z_on_t (z_on_t (z_on_t (z_on_t (z_on_t (z_on_t (z_on_t (z_on_t (z_on_h rfl (by omega) (by omega)))))))))) | exact z_on_t (z_on_t (z_on_t (z_on_t (z_on_t (z_on_t (z_on_t (z_on_t (z_on_t (z_on_t (z_on_h rfl (by omega) (by omega))))))))))) | exact z_on_t (z_on_t (z_on_t (z_on_t (z_on_t (z_on_t (z_on_t (z_on_t (z_on_t (z_on_t (z_on_t (z_on_h rfl (by omega) (by omega)))))))))))) | exact z_on_t (z_on_t (z_on_t (z_on_t (z_on_t (z_on_t (z_on_t (z_on_t (z_on_t (z_on_t (z_on_t (z_on_t (z_on_h rfl (by omega) (by omega))))))))))))))).tr a2⟩
theorem q_ogn : ∀ (f x : Nat) (b : Int) (m : z_M), x + f = 9 → (b = -1 ∨ (0 ≤ b ∧ b < 9)) → ∃ v, z_R 149 (m, 4, [(2, 24), (0, b), (0, (x : Int))], []) = some (m, some (0, v)) ∧ (v = -1 ∨ (0 ≤ v ∧ v < 9)) := by
  intro f
  induction f with
  | zero =>
    intro x b m hx hb
    rw [q_og_4, if_pos (by omega)]
    exact ⟨b, rfl, hb⟩
  | succ f ih =>
    intro x b m hx hb
    rw [q_og_4, if_neg (by omega), if_pos (show 0 ≤ (x : Int) ∧ (x : Int) < 9 by omega), tc1]
    by_cases c1 : b = -1
    · rw [if_pos c1]
      by_cases c2 : m 27 (x : Int).toNat ≤ 0
      · rw [if_pos c2]; exact ih (x + 1) b m (by omega) hb
      · rw [if_neg c2]; exact ih (x + 1) x m (by omega) (Or.inr (by omega))
    · rw [if_neg c1, if_pos (show 0 ≤ b ∧ b < 9 by omega)]
      by_cases c2 : m 27 (x : Int).toNat ≤ m 27 b.toNat
      · rw [if_pos c2]; exact ih (x + 1) b m (by omega) hb
      · rw [if_neg c2]; exact ih (x + 1) x m (by omega) (Or.inr (by omega))
theorem C_sea1 (hN : w_N w h n heat D) {x1 : Int} {N : Nat} (hN6 : N ≤ 60) : ∀ (f k : Nat) (r : Int) (m : z_M) (B : Nat → Int), k + f = N → C_is w h n heat price D A c U kn KS cs (z_up m 24 4 (-1)) → cS m 18 n = B → hr_ok n B → -1 ≤ B 34 → 0 ≤ B 35 → B 35 + (f : Int) ≤ 2147483647 → z_w (m 24 6) = m 24 6 → z_w (m 24 9) = m 24 9 → ∃ m', z_R 144 (m, 43, [(2, 0), (0, x1), (0, (N : Int)), (0, r), (0, (k : Int))], []) = some (m', some (0, se_H w h n heat price cs D f r B (m 24 9))) ∧ C_is w h n heat price D A c U kn KS cs m' := by
  intro f
  induction f with
  | zero =>
    intro k r m B hk hi hB hok h34 ht ht2 k6 k9
    obtain ⟨v, a1, a2⟩ := q_ogn 9 0 (-1) (z_up m 24 4 (-1)) (by decide) (Or.inl rfl)
    have a1 : z_R 149 (z_up m 24 4 (-1), 4, [(2, 24), (0, -1), (0, 0)], []) = some (z_up m 24 4 (-1), some (0, v)) := a1
    rw [q_sea_43, if_pos (by omega), q_og_0, a1, zb_v, q_sea_132]
    by_cases c1 : v = -1
    · rw [if_pos c1, c_tell3, zb_n, q_sea_170]
      rw [c_told3 (by decide) (by decide), show (z_up m 24 4 (-1)) 24 9 = m 24 9 from zu_k (by decide)]
      exact ⟨_, rfl, C_tell3 hi _ _ _⟩
    · rw [if_neg c1, if_pos (show 0 ≤ v ∧ v < 9 by omega), c_tell3, zb_n, q_sea_170]
      rw [c_told3 (by decide) (by decide), show (z_up m 24 4 (-1)) 24 9 = m 24 9 from zu_k (by decide)]
      exact ⟨_, rfl, C_tell3 hi _ _ _⟩
  | succ f ih =>
    intro k r m B hk hi hB hok h34 ht ht2 k6 k9
    rw [q_sea_43, if_neg (by omega), q_next_0, zb_v, q_sea_53, q_draw_0, if_pos (show (1 : Int) ≤ 10 by decide), zb_v, q_sea_64, q_next_0, zb_v, q_sea_71]
    obtain ⟨r1, hr1⟩ : ∃ r1, se_n r = r1 := ⟨_, rfl⟩
    obtain ⟨r2, hr2⟩ : ∃ r2, se_n r1 = r2 := ⟨_, rfl⟩
    have es : se_H w h n heat price cs D (f + 1) r B (m 24 9) = se_H w h n heat price cs D f r2 (hr_H w h heat price (c_ml cs) (se_w D (z_rem (z_ush r2 16) ((n : Int) + 3))) n 1 (u_up B 36 (z_rem (z_ush r1 16) 10)) 0 0 0 (m 24 9)).1 (hr_H w h heat price (c_ml cs) (se_w D (z_rem (z_ush r2 16) ((n : Int) + 3))) n 1 (u_up B 36 (z_rem (z_ush r1 16) 10)) 0 0 0 (m 24 9)).2.2.2.2 := by
      rw [← hr2, ← hr1]
      rfl
    rw [es, show z_add (z_mul r 1103515245) 12345 = r1 from hr1, show z_add (z_mul r1 1103515245) 12345 = r2 from hr2]
    clear es
    have hF := z_draw r1 (y := 10) (by decide) (by decide)
    generalize z_rem (z_ush r1 16) 10 = F at hF ⊢
    have hi1 : C_is w h n heat price D A c U kn KS cs (z_up (z_up m 18 8 F) 24 4 (-1)) := C_f4 hi fun p k hk _ => X_up fun z => by
      unfold C_hit at hk
      have := of_decide_eq_true hk
      omega
    have hB1 : cS (z_up m 18 8 F) 18 n = u_up B 36 F := by
      rw [cS_frost, hB]
    have j6 : (z_up m 18 8 F) 24 6 = m 24 6 := zu_p (by decide)
    have j9 : (z_up m 18 8 F) 24 9 = m 24 9 := zu_p (by decide)
    generalize z_up m 18 8 F = m1 at hi1 hB1 j6 j9 ⊢
    have e11 : m1 3 11 = (n : Int) := by
      have := hi1.1.2.2.1
      rw [zu_p (by decide)] at this
      exact this
    have h5 := hN.1.2.2
    rw [q_draw_0, e11, z_add_eq (x := (n : Int)) (by omega) (by omega), if_pos (show 1 ≤ (n : Int) + 3 by omega), zb_v, q_sea_89]
    generalize z_rem (z_ush r2 16) ((n : Int) + 3) = V
    have hi2 : C_is w h n heat price D A c U kn KS cs (z_up (z_up m1 24 4 V) 24 4 (-1)) := C_f4 hi1 fun p k _ hn => X_up hn
    have hB2 : cS (z_up m1 24 4 V) 18 n = u_up B 36 F := by
      rw [cS_off (by omega)]
      exact hB1
    have l6 : z_w ((z_up m1 24 4 V) 24 6) = (z_up m1 24 4 V) 24 6 := by rw [zu_k (by decide), j6]; exact k6
    have l9 : z_w ((z_up m1 24 4 V) 24 9) = (z_up m1 24 4 V) 24 9 := by rw [zu_k (by decide), j9]; exact k9
    have lf : (z_up m1 24 4 V) 24 4 = V := zu_self
    have l99 : (z_up m1 24 4 V) 24 9 = m 24 9 := (zu_k (by decide)).trans j9
    generalize z_up m1 24 4 V = m2 at hi2 hB2 l6 l9 lf l99 ⊢
    have hok2 : hr_ok n (u_up B 36 F) := hr_ok_up hok (by decide) (fun _ => by omega) (fun p h1 h2 => by omega)
    have h342 : -1 ≤ u_up B 36 F 34 := by rw [u_up_ne (by decide)]; exact h34
    have h352 : u_up B 36 F 35 = B 35 := u_up_ne (by decide)
    have hnum : hr_nums n heat (c_ml cs) (se_w D V) := ⟨h5, hN.2.1, c_ml_ok cs, wmf_b hN.2.2⟩
    obtain ⟨m3, b1, b2, b3⟩ := c_goOn z_st_18 hN.1.1 hN.1.2.1 (price := price) hnum (N := 1) (by decide) m2 (C_cfgf hi2 lf) hB2 hok2 (by rw [h352]; exact ht) (by rw [h352]; omega) l6 l9
    have b1 : z_R 67 (m2, 0, [(2, 24), (2, 18), (0, 1), (9, 0)], []) = some (m3, none) := b1
    obtain ⟨⟨o1, o2⟩, o3⟩ := hr_H_ok (price := price) hN.1.1 hN.1.2.1 hnum 1 (u_up B 36 F) (m2 24 6) (m2 24 7) (m2 24 8) (m2 24 9) hok2 h342 (by rw [h352]; exact ht) (by rw [h352]; omega)
    have ow := hr_H_w (w := w) (h := h) (n := n) (heat := heat) (price := price) (ml := c_ml cs) (wmt := se_w D V) 1 (u_up B 36 F) (m2 24 6) (m2 24 7) (m2 24 8) (m2 24 9) l6 l9
    rw [← b2] at o1 o2 o3 ow
    have o1 : hr_ok n (cS m3 18 n) := o1
    have o2 : -1 ≤ cS m3 18 n 34 := o2
    have o3 : cS m3 18 n 35 = B 35 + 1 := by
      have o3 : cS m3 18 n 35 = u_up B 36 F 35 + ((1 : Nat) : Int) := o3
      omega
    have ow6 : z_w (m3 24 6) = m3 24 6 := ow.1
    have ow9 : z_w (m3 24 9) = m3 24 9 := ow.2
    obtain ⟨m4, c1, c2⟩ := q_cgn 9 0 m3 (by decide)
    have c1 : z_R 148 (m3, 2, [(2, 24), (0, 0)], []) = some (m4, none) := c1
    have hi4 : C_is w h n heat price D A c U kn KS cs (z_up m4 24 4 (-1)) := C_f4 hi2 fun p k hk hn => by
      have hk' := hk
      unfold C_hit at hk'
      have hk' := of_decide_eq_true hk'
      rw [c2.of (p := p) (k := k) (by (repeat' (first | exact trivial | refine z_of_c ?_ ?_)) <;> omega)]
      exact b3.of (by (repeat' (first | exact trivial | refine z_of_c ?_ ?_)) <;> omega)
    have e18 : cS m4 18 n = cS m3 18 n := cS_fr (fun j k hj _ => c2.of (by (repeat' (first | exact trivial | refine z_of_c ?_ ?_)) <;> omega))
    have e6 : m4 24 6 = m3 24 6 := c2.of (by (repeat' (first | exact trivial | refine z_of_c ?_ ?_)) <;> omega)
    have e9 : m4 24 9 = m3 24 9 := c2.of (by (repeat' (first | exact trivial | refine z_of_c ?_ ?_)) <;> omega)
    have q1 := hr_H1_cg (w := w) (h := h) (n := n) (heat := heat) (price := price) (ml := c_ml cs) (wmt := se_w D V) (wmt' := se_w D V) (A := u_up B 36 F) (fun _ _ => rfl) (M := m2 24 6) (M' := 0) (G := m2 24 7) (G' := 0) (F := m2 24 8) (F' := 0) (T := m2 24 9)
    rw [← b2] at q1
    have q2 : cS m3 18 n = (hr_H w h heat price (c_ml cs) (se_w D V) n 1 (u_up B 36 F) 0 0 0 (m2 24 9)).1 := q1.1
    have q3 : m3 24 9 = (hr_H w h heat price (c_ml cs) (se_w D V) n 1 (u_up B 36 F) 0 0 0 (m2 24 9)).2.2.2.2 := q1.2
    rw [b1, zb_n, q_sea_104, q_cg_0, c1, zb_n, q_sea_111, z_add_eq (by omega) (by omega), tc1, ← l99, ← q2, ← q3, ← e9]
    exact ih (k + 1) r2 m4 (cS m3 18 n) (by omega) hi4 e18 o1 o2 (by omega) (by omega) (by rw [e6]; exact ow6) (by rw [e9]; exact ow9)
theorem C_season (hi : C_is w h n heat price D A c U kn KS cs m) (hN : w_N w h n heat D) (hok : hr_ok n A) (h34 : -1 ≤ A 34) (ht : 0 ≤ A 35 ∧ A 35 ≤ 1073741824) (s a : Int) : ∃ m', z_R 144 (m, 0, [(2, 0), (0, s), (0, a), (9, 0), (9, 0)], []) = some (m', some (0, se_A w h n heat price cs D A s a)) ∧ C_is w h n heat price D A c U kn KS cs m' := by
  rw [q_sea_0]
  by_cases c1 : a < 1
  · have e : se_A w h n heat price cs D A s a = -1 := if_neg (by omega)
    rw [if_pos c1, e]
    exact ⟨m, rfl, hi⟩
  rw [if_neg c1]
  by_cases c2 : a ≤ 60
  · have e : se_A w h n heat price cs D A s a = se_H w h n heat price cs D a.toNat s A 0 := if_pos (by omega)
    obtain ⟨N, rfl⟩ : ∃ N : Nat, a = (N : Int) := ⟨a.toNat, by omega⟩
    rw [Int.toNat_natCast] at e
    obtain ⟨m2, b1, b2, b3⟩ := c_become z_st_12 z_st_18 (by decide) m
    have b1 : z_R 61 (m, 0, [(2, 18), (2, 12)], []) = some (m2, none) := b1
    have hC2 : C_is w h n heat price D A c U kn KS cs m2 := C_fr hi fun p k hk => by
      have hk' := hk
      unfold C_hit at hk'
      have hk' := of_decide_eq_true hk'
      exact b3.of (by (repeat' (first | exact trivial | refine z_of_c ?_ ?_)) <;> omega)
    have hA2 : cS m2 18 n = A := (cS_cR b2).trans hi.2.2.1
    have hC3 : C_is w h n heat price D A c U kn KS cs (z_up (z_up (z_up (z_up m2 24 6 0) 24 7 0) 24 8 0) 24 9 0) := C_upn (C_upn (C_upn (C_upn hC2 (by decide)) (by decide)) (by decide)) (by decide)
    have k6 : (z_up (z_up (z_up (z_up m2 24 6 0) 24 7 0) 24 8 0) 24 9 0) 24 6 = 0 := by rw [zu_k (by decide), zu_k (by decide), zu_k (by decide), zu_self]
    have k9 : (z_up (z_up (z_up (z_up m2 24 6 0) 24 7 0) 24 8 0) 24 9 0) 24 9 = 0 := zu_self
    have f3 : ∀ p k, ¬ p = 24 → (z_up (z_up (z_up (z_up m2 24 6 0) 24 7 0) 24 8 0) 24 9 0) p k = m2 p k := fun p k hp => by rw [zu_p hp, zu_p hp, zu_p hp, zu_p hp]
    rw [if_pos c2, b1, zb_n, q_sea_24, s_cb_0, zb_n, q_sea_31, q_fg_0]
    generalize z_up (z_up (z_up (z_up m2 24 6 0) 24 7 0) 24 8 0) 24 9 0 = m3 at hC3 k6 k9 f3 ⊢
    have hA3 : cS m3 18 n = A := by
      rw [cS_fr (fun j k hj _ => f3 (18 + j) k (by omega))]
      exact hA2
    obtain ⟨m4, d1, d2⟩ := q_fgn 9 0 m3 (by decide)
    have d1 : z_R 145 (m3, 2, [(2, 24), (0, 0)], []) = some (m4, none) := d1
    have hC4 : C_is w h n heat price D A c U kn KS cs m4 := C_fr hC3 fun p k hk => by
      have hk' := hk
      unfold C_hit at hk'
      have hk' := of_decide_eq_true hk'
      exact d2.of (by (repeat' (first | exact trivial | refine z_of_c ?_ ?_)) <;> omega)
    have hC5 : C_is w h n heat price D A c U kn KS cs (z_up m4 24 4 (-1)) := C_fr hC4 fun p k hk => by
      by_cases e : p = 24 ∧ k = 4
      · rw [e.1, e.2, zu_self]
        exact hC4.1.2.2.2.2.2.2.1.symm
      · exact X_up e
    have e18 : cS m4 18 n = A := by
      rw [cS_fr (fun j k hj _ => d2.of (p := 18 + j) (k := k) (by (repeat' (first | exact trivial | refine z_of_c ?_ ?_)) <;> omega))]
      exact hA3
    have e6 : m4 24 6 = 0 := (d2.of (by (repeat' (first | exact trivial | refine z_of_c ?_ ?_)) <;> omega)).trans k6
    have e9 : m4 24 9 = 0 := (d2.of (by (repeat' (first | exact trivial | refine z_of_c ?_ ?_)) <;> omega)).trans k9
    obtain ⟨m5, g1, g2⟩ := C_sea1 hN (x1 := s) (N := N) (by omega) N 0 s m4 A (by omega) hC5 e18 hok h34 ht.1 (by omega) (by rw [e6]; decide +kernel) (by rw [e9]; decide +kernel)
    have g1 : z_R 144 (m4, 43, [(2, 0), (0, s), (0, (N : Int)), (0, s), (0, 0)], []) = some (m5, some (0, se_H w h n heat price cs D N s A (m4 24 9))) := g1
    rw [d1, zb_n, q_sea_38, g1, e, e9]
    exact ⟨m5, rfl, g2⟩
  · have e : se_A w h n heat price cs D A s a = -1 := if_neg (by omega)
    rw [if_neg c2, e]
    exact ⟨m, rfl, hi⟩
/-! the reference -/
theorem R_cfgf {f : Int} (hi : R_is w h n heat price D A c U kn KS cs (z_up m 251 23 (-1))) (hf : m 251 23 = f) : r_cfg w h n heat price (c_ml cs) (se_w D f) m := by
  obtain ⟨c1, c2, c3, c4, c5, -, c7⟩ := R_cfg hi
  rw [zu_k (by decide)] at c1 c2 c3 c4 c5
  refine ⟨c1, c2, c3, c4, c5, fun t ht p hp => ?_, fun m2 e5 e4 => c7 m2 (e5.trans (zu_rowne (by decide)).symm) (e4.trans (zu_k (by decide)).symm)⟩
  have h8 : ∀ j, j < 30 → m 253 j = D j := fun j hj => by
    have := hi.2.1 j hj
    rw [zu_p (by decide)] at this
    exact this
  have hm : 0 ≤ t % 6 ∧ t % 6 < 6 := ⟨Int.emod_nonneg _ (by decide), Int.emod_lt_of_pos _ (by decide)⟩
  have ej : (6 * (p : Int) + t % 6).toNat = 6 * p + (t % 6).toNat := by omega
  show rwm m p t = if (p : Int) = f then 9 else wmD D t p
  unfold rwm wmD
  rw [hf, ej]
  exact z_ifc (fun _ => rfl) (fun _ => h8 _ (by omega))
theorem R_f23 {m' : z_M} (hi : R_is w h n heat price D A c U kn KS cs (z_up m 251 23 (-1))) (hf : ∀ p k, R_hit p k k = true → ¬ (p = 251 ∧ k = 23) → m' p k = m p k) : R_is w h n heat price D A c U kn KS cs (z_up m' 251 23 (-1)) := R_fr hi fun p k hk => by
  by_cases e : p = 251 ∧ k = 23
  · rw [e.1, e.2, zu_self, zu_self]
  · rw [X_up e, X_up e]
    exact hf p k hk e
theorem q_has01 (m : z_M) (a b : Int) : ∃ v, z_R 185 (m, 0, [(0, a), (0, b)], []) = some (m, some (0, v)) := by
  rw [q_has_0]
  by_cases c1 : z_and (z_shr a b) 1 = 1
  · rw [if_pos c1]; exact ⟨_, rfl⟩
  · rw [if_neg c1]; exact ⟨_, rfl⟩
theorem q_tse30 {x1 x2 x3 : Int} : ∀ (f x : Nat) (m : z_M), x + f = 9 → ∃ m', z_R 257 (m, 30, [(2, 251), (0, x1), (0, x2), (0, x3), (0, (x : Int)), (9, 0), (9, 0)], []) = z_R 257 (m', 54, [(2, 251), (0, x1), (0, x2), (0, x3), (0, 0), (9, 0), (9, 0)], []) ∧ z_same [(274, 0, 8)] m m' := by
  intro f
  induction f with
  | zero =>
    intro x m hx
    rw [q_tse_30, if_pos (by omega)]
    exact ⟨m, rfl, z_same.rf⟩
  | succ f ih =>
    intro x m hx
    rw [q_tse_30, if_neg (by omega), if_pos (show 0 ≤ (x : Int) ∧ (x : Int) < 9 by omega), Int.toNat_natCast, tc1]
    obtain ⟨m', a1, a2⟩ := ih (x + 1) (z_up m 274 x 0) (by omega)
    exact ⟨m', a1, (z_same.rf.upo (by first | exact z_on_h rfl (by omega) (by omega) | exact z_on_t (z_on_h rfl (by omega) (by omega)) | exact z_on_t (z_on_t (z_on_h rfl (by omega) (by omega))) | exact z_on_t (z_on_t (z_on_t (z_on_h rfl (by omega) (by omega)))) | exact z_on_t (z_on_t (z_on_t (z_on_t (z_on_h rfl (by omega) (by omega))))) | exact z_on_t (z_on_t (z_on_t (z_on_t (z_on_t (z_on_h rfl (by omega) (by omega)))))) | exact z_on_t (z_on_t (z_on_t (z_on_t (z_on_t (z_on_t (z_on_h rfl (by omega) (by omega))))))) | exact z_on_t (z_on_t (z_on_t (z_on_t (z_on_t (z_on_t (z_on_t (z_on_h rfl (by omega) (by omega)))))))) | exact z_on_t (z_on_t (z_on_t (z_on_t (z_on_t (z_on_t (z_on_t (z_on_t (z_on_h rfl (by omega) (by omega))))))))) | exact z_on_t (z_on_t (z_on_t (z_on_t (z_on_t (z_on_t (z_on_t (z_on_t (z_on_t (z_on_h rfl (by omega) (by omega)))))))))) | exact z_on_t (z_on_t (z_on_t (z_on_t (z_on_t (z_on_t (z_on_t (z_on_t (z_on_t (z_on_t (z_on_h rfl (by omega) (by omega))))))))))) | exact z_on_t (z_on_t (z_on_t (z_on_t (z_on_t (z_on_t (z_on_t (z_on_t (z_on_t (z_on_t (z_on_t (z_on_h rfl (by omega) (by omega)))))))))))) | exact z_on_t (z_on_t (z_on_t (z_on_t (z_on_t (z_on_t (z_on_t (z_on_t (z_on_t (z_on_t (z_on_t (z_on_t (z_on_h rfl (by omega) (by omega))))))))))))))).tr a2⟩
theorem q_tse138 {x1 x2 x3 x4 x5 : Int} : ∀ (f x : Nat) (m : z_M), x + f = 9 → ∃ m' v6, z_R 257 (m, 138, [(2, 251), (0, x1), (0, x2), (0, x3), (0, x4), (0, x5), (0, (x : Int))], []) = z_R 257 (m', 54, [(2, 251), (0, x1), (0, x2), (0, x3), (0, z_add x4 1), (0, x5), v6], []) ∧ z_same [(274, 0, 8)] m m' := by
  intro f
  induction f with
  | zero =>
    intro x m hx
    rw [q_tse_138, if_pos (by omega)]
    exact ⟨m, _, rfl, z_same.rf⟩
  | succ f ih =>
    intro x m hx
    obtain ⟨v, hv⟩ := q_has01 m (m 251 29) (x : Int)
    rw [q_tse_138, if_neg (by omega), if_pos (show 0 ≤ (x : Int) ∧ (x : Int) < 9 by omega), hv, zb_v, q_tse_162, z_add_eq (x := (x : Int)) (by omega) (by omega), tc1]
    by_cases c1 : v = 0
    · rw [if_pos c1, if_pos (show 0 ≤ (x : Int) ∧ (x : Int) < 9 by omega), Int.toNat_natCast]
      obtain ⟨m', v6, a1, a2⟩ := ih (x + 1) (z_up m 274 x (z_add (m 274 x) 0)) (by omega)
      exact ⟨m', v6, a1, (z_same.rf.upo (by first | exact z_on_h rfl (by omega) (by omega) | exact z_on_t (z_on_h rfl (by omega) (by omega)) | exact z_on_t (z_on_t (z_on_h rfl (by omega) (by omega))) | exact z_on_t (z_on_t (z_on_t (z_on_h rfl (by omega) (by omega)))) | exact z_on_t (z_on_t (z_on_t (z_on_t (z_on_h rfl (by omega) (by omega))))) | exact z_on_t (z_on_t (z_on_t (z_on_t (z_on_t (z_on_h rfl (by omega) (by omega)))))) | exact z_on_t (z_on_t (z_on_t (z_on_t (z_on_t (z_on_t (z_on_h rfl (by omega) (by omega))))))) | exact z_on_t (z_on_t (z_on_t (z_on_t (z_on_t (z_on_t (z_on_t (z_on_h rfl (by omega) (by omega)))))))) | exact z_on_t (z_on_t (z_on_t (z_on_t (z_on_t (z_on_t (z_on_t (z_on_t (z_on_h rfl (by omega) (by omega))))))))) | exact z_on_t (z_on_t (z_on_t (z_on_t (z_on_t (z_on_t (z_on_t (z_on_t (z_on_t (z_on_h rfl (by omega) (by omega)))))))))) | exact z_on_t (z_on_t (z_on_t (z_on_t (z_on_t (z_on_t (z_on_t (z_on_t (z_on_t (z_on_t (z_on_h rfl (by omega) (by omega))))))))))) | exact z_on_t (z_on_t (z_on_t (z_on_t (z_on_t (z_on_t (z_on_t (z_on_t (z_on_t (z_on_t (z_on_t (z_on_h rfl (by omega) (by omega)))))))))))) | exact z_on_t (z_on_t (z_on_t (z_on_t (z_on_t (z_on_t (z_on_t (z_on_t (z_on_t (z_on_t (z_on_t (z_on_t (z_on_h rfl (by omega) (by omega))))))))))))))).tr a2⟩
    · rw [if_neg c1, if_pos (show 0 ≤ (x : Int) ∧ (x : Int) < 9 by omega), Int.toNat_natCast]
      obtain ⟨m', v6, a1, a2⟩ := ih (x + 1) (z_up m 274 x (z_add (m 274 x) 1)) (by omega)
      exact ⟨m', v6, a1, (z_same.rf.upo (by first | exact z_on_h rfl (by omega) (by omega) | exact z_on_t (z_on_h rfl (by omega) (by omega)) | exact z_on_t (z_on_t (z_on_h rfl (by omega) (by omega))) | exact z_on_t (z_on_t (z_on_t (z_on_h rfl (by omega) (by omega)))) | exact z_on_t (z_on_t (z_on_t (z_on_t (z_on_h rfl (by omega) (by omega))))) | exact z_on_t (z_on_t (z_on_t (z_on_t (z_on_t (z_on_h rfl (by omega) (by omega)))))) | exact z_on_t (z_on_t (z_on_t (z_on_t (z_on_t (z_on_t (z_on_h rfl (by omega) (by omega))))))) | exact z_on_t (z_on_t (z_on_t (z_on_t (z_on_t (z_on_t (z_on_t (z_on_h rfl (by omega) (by omega)))))))) | exact z_on_t (z_on_t (z_on_t (z_on_t (z_on_t (z_on_t (z_on_t (z_on_t (z_on_h rfl (by omega) (by omega))))))))) | exact z_on_t (z_on_t (z_on_t (z_on_t (z_on_t (z_on_t (z_on_t (z_on_t (z_on_t (z_on_h rfl (by omega) (by omega)))))))))) | exact z_on_t (z_on_t (z_on_t (z_on_t (z_on_t (z_on_t (z_on_t (z_on_t (z_on_t (z_on_t (z_on_h rfl (by omega) (by omega))))))))))) | exact z_on_t (z_on_t (z_on_t (z_on_t (z_on_t (z_on_t (z_on_t (z_on_t (z_on_t (z_on_t (z_on_t (z_on_h rfl (by omega) (by omega)))))))))))) | exact z_on_t (z_on_t (z_on_t (z_on_t (z_on_t (z_on_t (z_on_t (z_on_t (z_on_t (z_on_t (z_on_t (z_on_t (z_on_h rfl (by omega) (by omega))))))))))))))).tr a2⟩
theorem q_tse195 {x1 x2 x3 : Int} {v6 : z_V} : ∀ (f x : Nat) (b : Int) (m : z_M), x + f = 9 → 0 ≤ b ∧ b < 9 → ∃ b' x', z_R 257 (m, 195, [(2, 251), (0, x1), (0, x2), (0, x3), (0, b), (0, (x : Int)), v6], []) = ((z_R 210 (z_up m 251 10 0, 0, [(2, 251), (1, z_i2l (m 251 32)), (9, 0)], [])).bind fun qq => z_R 257 (qq.1, 243, [(2, 251), (0, x1), (0, x2), (0, x3), (0, b'), (0, x'), v6], qq.2.toList ++ [])) ∧ 0 ≤ b' ∧ b' < 9 := by
  intro f
  induction f with
  | zero =>
    intro x b m hx hb
    rw [q_tse_195, if_pos (by omega)]
    exact ⟨b, _, rfl, hb⟩
  | succ f ih =>
    intro x b m hx hb
    rw [q_tse_195, if_neg (by omega), if_pos (show 0 ≤ (x : Int) ∧ (x : Int) < 9 by omega), if_pos hb, tc1]
    by_cases c1 : m 274 (x : Int).toNat ≤ m 274 b.toNat
    · rw [if_pos c1]; exact ih (x + 1) b m (by omega) hb
    · rw [if_neg c1]; exact ih (x + 1) x m (by omega) (by omega)
theorem R_sea1 (hN : w_N w h n heat D) {x1 : Int} {N : Nat} (hN6 : N ≤ 60) : ∀ (f k : Nat) (r : Int) (v5 v6 : z_V) (m : z_M) (B : Nat → Int), k + f = N → R_is w h n heat price D A c U kn KS cs (z_up m 251 23 (-1)) → rS m 264 n = B → hr_ok n B → -1 ≤ B 34 → 0 ≤ B 35 → B 35 + (f : Int) ≤ 2147483647 → ∃ m', z_R 257 (m, 54, [(2, 251), (0, x1), (0, (N : Int)), (0, r), (0, (k : Int)), v5, v6], []) = some (m', some (0, se_H w h n heat price cs D f r B (m 251 35))) ∧ R_is w h n heat price D A c U kn KS cs m' := by
  intro f
  induction f with
  | zero =>
    intro k r v5 v6 m B hk hi hB hok h34 ht ht2
    obtain ⟨b, x, a1, a2⟩ := q_tse195 (x1 := x1) (x2 := (N : Int)) (x3 := r) (v6 := v6) 8 1 0 (z_up m 251 23 (-1)) (by decide) (by decide)
    have a1 : z_R 257 (z_up m 251 23 (-1), 195, [(2, 251), (0, x1), (0, (N : Int)), (0, r), (0, 0), (0, 1), v6], []) = _ := a1
    have e35 : (z_up m 251 23 (-1)) 251 35 = m 251 35 := zu_k (by decide)
    rw [q_tse_54, if_pos (by omega), a1]
    generalize z_up m 251 23 (-1) = m0 at hi e35 ⊢
    rw [t_tell0, zb_n, q_tse_243, if_pos a2]
    by_cases c1 : (z_up (z_up (z_up m0 251 10 0) 255 0 (z_i2l (m0 251 32))) 251 10 1) 274 b.toNat = 0
    · rw [if_pos c1, t_tell1, zb_n, q_tse_266, if_pos a2, t_tell2, zb_n, q_tse_278]
      rw [t_told3 (by decide) (by decide), e35]
      exact ⟨_, rfl, R_upn (R_upn (R_upn (R_upn (R_upn (R_upn (R_upn hi (by decide)) (by decide)) (by decide)) (by decide)) (by decide)) (by decide)) (by decide)⟩
    · rw [if_neg c1, t_tell1, zb_n, q_tse_266, if_pos a2, t_tell2, zb_n, q_tse_278]
      rw [t_told3 (by decide) (by decide), e35]
      exact ⟨_, rfl, R_upn (R_upn (R_upn (R_upn (R_upn (R_upn (R_upn hi (by decide)) (by decide)) (by decide)) (by decide)) (by decide)) (by decide)) (by decide)⟩
  | succ f ih =>
    intro k r v5 v6 m B hk hi hB hok h34 ht ht2
    have h5 := hN.1.2.2
    have e3 : m 251 3 = (n : Int) := by
      have := hi.1.2.2.1
      rw [zu_k (by decide)] at this
      exact this
    obtain ⟨r1, hr1⟩ : ∃ r1, se_n r = r1 := ⟨_, rfl⟩
    obtain ⟨r2, hr2⟩ : ∃ r2, se_n r1 = r2 := ⟨_, rfl⟩
    have es : se_H w h n heat price cs D (f + 1) r B (m 251 35) = se_H w h n heat price cs D f r2 (hr_H w h heat price (c_ml cs) (se_w D (z_rem (z_ush r2 16) ((n : Int) + 3))) n 1 (u_up B 36 (z_rem (z_ush r1 16) 10)) 0 0 0 (m 251 35)).1 (hr_H w h heat price (c_ml cs) (se_w D (z_rem (z_ush r2 16) ((n : Int) + 3))) n 1 (u_up B 36 (z_rem (z_ush r1 16) 10)) 0 0 0 (m 251 35)).2.2.2.2 := by
      rw [← hr2, ← hr1]
      rfl
    have hF := z_draw r1 (y := 10) (by decide) (by decide)
    -- one hour with the one that is warm
    have key : ∀ (F W V x5 : Int), 0 ≤ F ∧ F ≤ 9 → (∀ y : Nat, y < n → ((y : Int) = V ↔ (y : Int) = W)) → ∃ m', ((z_R 207 (z_up (z_up m 264 36 F) 251 23 V, 0, [(2, 251), (2, 264), (0, 1), (9, 0)], [])).bind fun qq => z_R 257 (qq.1, 135, [(2, 251), (0, x1), (0, (N : Int)), (0, r2), (0, (k : Int)), (0, x5), v6], qq.2.toList ++ [])) = some (m', some (0, se_H w h n heat price cs D f r2 (hr_H w h heat price (c_ml cs) (se_w D W) n 1 (u_up B 36 F) 0 0 0 (m 251 35)).1 (hr_H w h heat price (c_ml cs) (se_w D W) n 1 (u_up B 36 F) 0 0 0 (m 251 35)).2.2.2.2)) ∧ R_is w h n heat price D A c U kn KS cs m' := by
      intro F W V x5 hF hVW
      have hi2 : R_is w h n heat price D A c U kn KS cs (z_up (z_up (z_up m 264 36 F) 251 23 V) 251 23 (-1)) := R_f23 hi fun p k hk hn => by
        rw [X_up hn]
        exact X_up fun z => by
          unfold R_hit at hk
          have := of_decide_eq_true hk
          omega
      have hB2 : rS (z_up (z_up m 264 36 F) 251 23 V) 264 n = u_up B 36 F := by
        rw [rS_row (zu_rowne (by decide)), rS_up (by decide) (a_vis_hi (by decide)), hB]
      have lf : (z_up (z_up m 264 36 F) 251 23 V) 251 23 = V := zu_self
      have l35 : (z_up (z_up m 264 36 F) 251 23 V) 251 35 = m 251 35 := (zu_k (by decide)).trans (zu_p (by decide))
      generalize z_up (z_up m 264 36 F) 251 23 V = m2 at hi2 hB2 lf l35 ⊢
      have hok2 : hr_ok n (u_up B 36 F) := hr_ok_up hok (by decide) (fun _ => hF) (fun p h1 h2 => by omega)
      have h342 : -1 ≤ u_up B 36 F 34 := by rw [u_up_ne (by decide)]; exact h34
      have h352 : u_up B 36 F 35 = B 35 := u_up_ne (by decide)
      have hnum : hr_nums n heat (c_ml cs) (se_w D V) := ⟨h5, hN.2.1, c_ml_ok cs, wmf_b hN.2.2⟩
      obtain ⟨m3, b1, b2, b3⟩ := r_goHours z_A_264 (Or.inr rfl) hN.1.1 hN.1.2.1 (price := price) hnum (N := 1) (by decide) m2 (R_cfgf hi2 lf) hB2 hok2 (by rw [h352]; exact ht) (by rw [h352]; omega)
      have b1 : z_R 207 (m2, 0, [(2, 251), (2, 264), (0, 1), (9, 0)], []) = some (m3, none) := b1
      obtain ⟨⟨o1, o2⟩, o3⟩ := hr_H_ok (price := price) hN.1.1 hN.1.2.1 hnum 1 (u_up B 36 F) (m2 251 32) (m2 251 33) (m2 251 34) (m2 251 35) hok2 h342 (by rw [h352]; exact ht) (by rw [h352]; omega)
      rw [← b2] at o1 o2 o3
      have o1 : hr_ok n (rS m3 264 n) := o1
      have o2 : -1 ≤ rS m3 264 n 34 := o2
      have o3 : rS m3 264 n 35 = B 35 + 1 := by
        have o3 : rS m3 264 n 35 = u_up B 36 F 35 + ((1 : Nat) : Int) := o3
        omega
      obtain ⟨m4, y6, c1, c2⟩ := q_tse138 (x1 := x1) (x2 := (N : Int)) (x3 := r2) (x4 := (k : Int)) (x5 := x5) 9 0 m3 (by decide)
      have c1 : z_R 257 (m3, 138, [(2, 251), (0, x1), (0, (N : Int)), (0, r2), (0, (k : Int)), (0, x5), (0, 0)], []) = z_R 257 (m4, 54, [(2, 251), (0, x1), (0, (N : Int)), (0, r2), (0, z_add (k : Int) 1), (0, x5), y6], []) := c1
      have hi4 : R_is w h n heat price D A c U kn KS cs (z_up m4 251 23 (-1)) := R_f23 hi2 fun p k hk hn => by
        have hk' := hk
        unfold R_hit at hk'
        have hk' := of_decide_eq_true hk'
        rw [c2.of (p := p) (k := k) (by (repeat' (first | exact trivial | refine z_of_c ?_ ?_)) <;> omega)]
        exact b3.of (by (repeat' (first | exact trivial | refine z_of_c ?_ ?_)) <;> omega)
      have e18 : rS m4 264 n = rS m3 264 n := rS_row (c2.ofr (by (repeat' (first | exact trivial | refine z_ofr_c ?_ ?_)) <;> omega))
      have q1 := hr_H1_cg (w := w) (h := h) (n := n) (heat := heat) (price := price) (ml := c_ml cs) (wmt := se_w D V) (wmt' := se_w D W) (A := u_up B 36 F) (fun y hy => by
        show (if (y : Int) = V then 9 else wmD D (u_up B 36 F 35) y) = (if (y : Int) = W then 9 else wmD D (u_up B 36 F 35) y)
        by_cases e : (y : Int) = V
        · rw [if_pos e, if_pos ((hVW y hy).mp e)]
        · rw [if_neg e, if_neg (fun z => e ((hVW y hy).mpr z))]) (M := m2 251 32) (M' := 0) (G := m2 251 33) (G' := 0) (F := m2 251 34) (F' := 0) (T := m2 251 35)
      rw [← b2] at q1
      have q2 : rS m3 264 n = (hr_H w h heat price (c_ml cs) (se_w D W) n 1 (u_up B 36 F) 0 0 0 (m2 251 35)).1 := q1.1
      have q3 : m3 251 35 = (hr_H w h heat price (c_ml cs) (se_w D W) n 1 (u_up B 36 F) 0 0 0 (m2 251 35)).2.2.2.2 := q1.2
      have e35 : m4 251 35 = m3 251 35 := c2.of (by (repeat' (first | exact trivial | refine z_of_c ?_ ?_)) <;> omega)
      rw [b1, zb_n, q_tse_135, c1, z_add_eq (by omega) (by omega), tc1, ← l35, ← q2, ← q3, ← e35]
      exact ih (k + 1) r2 _ _ m4 (rS m3 264 n) (by omega) hi4 e18 o1 o2 (by omega) (by omega)
    rw [q_tse_54, if_neg (by omega), e3, z_add_eq (x := (n : Int)) (y := 3) (by omega) (by omega), if_neg (show ¬ (n : Int) + 3 = 0 by omega), es, show z_add (z_mul r 1103515245) 12345 = r1 from hr1, show z_add (z_mul r1 1103515245) 12345 = r2 from hr2]
    have hV := z_draw r2 (y := (n : Int) + 3) (by omega) (by omega)
    by_cases c1 : (n : Int) ≤ z_rem (z_ush r2 16) ((n : Int) + 3)
    · rw [if_pos c1]
      exact key _ _ _ _ (by omega) (fun y hy => by omega)
    · rw [if_neg c1]
      exact key _ _ _ _ (by omega) (fun y hy => Iff.rfl)
theorem R_season (hi : R_is w h n heat price D A c U kn KS cs m) (hN : w_N w h n heat D) (hok : hr_ok n A) (h34 : -1 ≤ A 34) (ht : 0 ≤ A 35 ∧ A 35 ≤ 1073741824) (s a : Int) : ∃ m', z_R 257 (m, 0, [(2, 251), (0, s), (0, a), (9, 0), (9, 0), (9, 0), (9, 0)], []) = some (m', some (0, se_A w h n heat price cs D A s a)) ∧ R_is w h n heat price D A c U kn KS cs m' := by
  have hu := R_upn (p0 := 251) (k0 := 11) (v := 0) hi (by decide)
  rw [q_tse_0]
  by_cases ok : 1 ≤ a ∧ a ≤ 60
  · have e : se_A w h n heat price cs D A s a = se_H w h n heat price cs D a.toNat s A 0 := if_pos ok
    obtain ⟨N, rfl⟩ : ∃ N : Nat, a = (N : Int) := ⟨a.toNat, by omega⟩
    rw [Int.toNat_natCast] at e
    obtain ⟨m1, b1, b2, b3⟩ := R_lt hu
    have hR3 : R_is w h n heat price D A c U kn KS cs (z_up (z_up (z_up (z_up m1 251 32 0) 251 33 0) 251 34 0) 251 35 0) := R_upn (R_upn (R_upn (R_upn b2 (by decide)) (by decide)) (by decide)) (by decide)
    have f3 : ∀ p k, ¬ p = 251 → (z_up (z_up (z_up (z_up m1 251 32 0) 251 33 0) 251 34 0) 251 35 0) p k = m1 p k := fun p k hp => by rw [zu_p hp, zu_p hp, zu_p hp, zu_p hp]
    have k35 : (z_up (z_up (z_up (z_up m1 251 32 0) 251 33 0) 251 34 0) 251 35 0) 251 35 = 0 := zu_self
    rw [if_pos ok, b1, zb_n, q_tse_23]
    generalize z_up (z_up (z_up (z_up m1 251 32 0) 251 33 0) 251 34 0) 251 35 0 = m2 at hR3 f3 k35 ⊢
    obtain ⟨m3, c1, c2⟩ := q_tse30 (x1 := s) (x2 := (N : Int)) (x3 := s) 9 0 m2 (by decide)
    have c1 : z_R 257 (m2, 30, [(2, 251), (0, s), (0, (N : Int)), (0, s), (0, 0), (9, 0), (9, 0)], []) = z_R 257 (m3, 54, [(2, 251), (0, s), (0, (N : Int)), (0, s), (0, 0), (9, 0), (9, 0)], []) := c1
    have hR4 : R_is w h n heat price D A c U kn KS cs m3 := R_fr hR3 fun p k hk => by
      have hk' := hk
      unfold R_hit at hk'
      have hk' := of_decide_eq_true hk'
      exact c2.of (by (repeat' (first | exact trivial | refine z_of_c ?_ ?_)) <;> omega)
    have hR5 : R_is w h n heat price D A c U kn KS cs (z_up m3 251 23 (-1)) := R_fr hR4 fun p k hk => by
      by_cases e : p = 251 ∧ k = 23
      · rw [e.1, e.2, zu_self]
        exact hR4.1.2.2.2.2.2.symm
      · exact X_up e
    have e264 : rS m3 264 n = A := by
      rw [rS_row (c2.ofr (by (repeat' (first | exact trivial | refine z_ofr_c ?_ ?_)) <;> omega)), rS_row (funext fun k => f3 264 k (by decide))]
      exact b3
    have e35 : m3 251 35 = 0 := (c2.of (by (repeat' (first | exact trivial | refine z_of_c ?_ ?_)) <;> omega)).trans k35
    obtain ⟨m5, g1, g2⟩ := R_sea1 hN (x1 := s) (N := N) (by omega) N 0 s (9, 0) (9, 0) m3 A (by omega) hR5 e264 hok h34 ht.1 (by omega)
    have g1 : z_R 257 (m3, 54, [(2, 251), (0, s), (0, (N : Int)), (0, s), (0, 0), (9, 0), (9, 0)], []) = some (m5, some (0, se_H w h n heat price cs D N s A (m3 251 35))) := g1
    rw [c1, g1, e, e35]
    exact ⟨m5, rfl, g2⟩
  · have e : se_A w h n heat price cs D A s a = -1 := if_neg ok
    rw [if_neg ok, e]
    exact ⟨_, rfl, hu⟩
end
