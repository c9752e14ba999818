section
/-! WHAT IS TOLD: the numbers, in both -/
def c_rw (m m1 : z_M) : Option (List Int) → Prop
  | none => m1 0 13 = m 0 13 ∧ ∀ i, i < 9 → m1 250 i = m 250 i
  | some l => m1 0 13 = (l.length : Int) ∧ ∀ i, i < l.length → m1 250 i = l.getD i 0
def r_rw (m m1 : z_M) : Option (List Int) → Prop
  | none => m1 251 10 = m 251 10 ∧ ∀ i, i < 9 → m1 255 i = m 255 i
  | some l => m1 251 10 = (l.length : Int) ∧ ∀ i, i < l.length → m1 255 i = l.getD i 0
theorem c_rw_id {m : z_M} : c_rw m m none := ⟨rfl, fun _ _ => rfl⟩
theorem c_rw_n {m : z_M} {o : Option (List Int)} (h : o = none) : c_rw m m o := by
  subst h
  exact c_rw_id
theorem c_rw_s {m m1 : z_M} {o : Option (List Int)} {l : List Int} (h : o = some l) (hc : c_rw m m1 (some l)) : c_rw m m1 o := by
  subst h
  exact hc
theorem c_rw_fr {m m1 m2 : z_M} (h : c_rw m m1 none) (h1 : m2 0 13 = m1 0 13) (h2 : ∀ i, i < 9 → m2 250 i = m1 250 i) : c_rw m m2 none := ⟨h1.trans h.1, fun i hi => (h2 i hi).trans (h.2 i hi)⟩
theorem r_rw_11 {m : z_M} {v : Int} : r_rw m (z_up m 251 11 v) none := ⟨zu_k (by decide), fun _ _ => zu_p (by decide)⟩
theorem r_rw_n {m : z_M} {v : Int} {o : Option (List Int)} (h : o = none) : r_rw m (z_up m 251 11 v) o := by
  subst h
  exact r_rw_11
theorem r_rw_m {m m1 : z_M} {o : Option (List Int)} (hm : r_rw m m1 none) (h : o = none) : r_rw m m1 o := by
  subst h
  exact hm
theorem r_rw_s {m m1 : z_M} {o : Option (List Int)} {l : List Int} (h : o = some l) (hc : r_rw m m1 (some l)) : r_rw m m1 o := by
  subst h
  exact hc
theorem r_rw_fr {m m1 m2 : z_M} (h : r_rw m m1 none) (h1 : m2 251 10 = m1 251 10) (h2 : ∀ i, i < 9 → m2 255 i = m1 255 i) : r_rw m m2 none := ⟨h1.trans h.1, fun i hi => (h2 i hi).trans (h.2 i hi)⟩
theorem c_rw_0 {mz m : z_M} : c_rw mz (z_up m 0 13 0) (some []) := ⟨zu_self, fun i hi => absurd hi (Nat.not_lt_zero i)⟩
theorem c_rw_2 {mz m : z_M} {u1 u2 : Int} : c_rw mz (z_up (z_up (z_up (z_up m 250 0 u1) 0 13 1) 250 1 u2) 0 13 2) (some [u1, u2]) := by
  refine ⟨zu_self, fun i hi => ?_⟩
  have hi : i < 2 := hi
  rcases (show i = 0 ∨ i = 1 by omega) with rfl | rfl
  · show _ = u1
    rw [zu_p (by decide), zu_k (by decide), zu_p (by decide), zu_self]
  · show _ = u2
    rw [zu_p (by decide), zu_self]
theorem c_rw_3 {mz m : z_M} {u1 u2 u3 : Int} : c_rw mz (z_up (z_up (z_up (z_up (z_up (z_up m 250 0 u1) 0 13 1) 250 1 u2) 0 13 2) 250 2 u3) 0 13 3) (some [u1, u2, u3]) := by
  refine ⟨zu_self, fun i hi => ?_⟩
  have hi : i < 3 := hi
  rcases (show i = 0 ∨ i = 1 ∨ i = 2 by omega) with rfl | rfl | rfl
  · show _ = u1
    rw [zu_p (by decide), zu_k (by decide), zu_p (by decide), zu_k (by decide), zu_p (by decide), zu_self]
  · show _ = u2
    rw [zu_p (by decide), zu_k (by decide), zu_p (by decide), zu_self]
  · show _ = u3
    rw [zu_p (by decide), zu_self]
theorem t_told1 {m : z_M} {u1 a0 a1 : Int} {p k : Nat} (h0 : ¬ (p = 251 ∧ k = 10)) (h1 : ¬ p = 255) : (z_up (z_up (z_up m 251 10 a0) 255 0 u1) 251 10 a1) p k = m p k := by rw [X_up h0, zu_p h1, X_up h0]
theorem r_rw_2 {mz m : z_M} {u1 u2 w1 w2 a1 a2 : Int} (h : a2 = 2) (e1 : u1 = w1) (e2 : u2 = w2) : r_rw mz (z_up (z_up (z_up (z_up m 255 0 u1) 251 10 a1) 255 1 u2) 251 10 a2) (some [w1, w2]) := by
  refine ⟨zu_self.trans h, fun i hi => ?_⟩
  have hi : i < 2 := hi
  rcases (show i = 0 ∨ i = 1 by omega) with rfl | rfl
  · show _ = w1
    rw [zu_p (by decide), zu_k (by decide), zu_p (by decide), zu_self, e1]
  · show _ = w2
    rw [zu_p (by decide), zu_self, e2]
theorem r_rw_3 {mz m : z_M} {u1 u2 u3 w1 w2 w3 a1 a2 a3 : Int} (h : a3 = 3) (e1 : u1 = w1) (e2 : u2 = w2) (e3 : u3 = w3) : r_rw mz (z_up (z_up (z_up (z_up (z_up (z_up m 255 0 u1) 251 10 a1) 255 1 u2) 251 10 a2) 255 2 u3) 251 10 a3) (some [w1, w2, w3]) := by
  refine ⟨zu_self.trans h, fun i hi => ?_⟩
  have hi : i < 3 := hi
  rcases (show i = 0 ∨ i = 1 ∨ i = 2 by omega) with rfl | rfl | rfl
  · show _ = w1
    rw [zu_p (by decide), zu_k (by decide), zu_p (by decide), zu_k (by decide), zu_p (by decide), zu_self, e1]
  · show _ = w2
    rw [zu_p (by decide), zu_k (by decide), zu_p (by decide), zu_self, e2]
  · show _ = w3
    rw [zu_p (by decide), zu_self, e3]
/-! rows that both keep alike -/
def rw_eq (m : z_M) : Prop := m 251 10 = m 0 13 ∧ ∀ i : Nat, i < 9 → (i : Int) < m 0 13 → m 255 i = m 250 i
theorem rw_eq_do {m m1 m2 : z_M} {o : Option (List Int)} (h : rw_eq m) (h1 : c_rw m m1 o) (h2 : r_rw m1 m2 o) (f1 : m1 251 10 = m 251 10 ∧ m1 255 = m 255) (f2 : m2 0 13 = m1 0 13 ∧ m2 250 = m1 250) : rw_eq m2 := by
  obtain ⟨g1, g2⟩ := f2
  cases o with
  | none =>
    obtain ⟨a1, a2⟩ := h1
    obtain ⟨b1, b2⟩ := h2
    refine ⟨by rw [b1, f1.1, g1, a1]; exact h.1, fun i h9 hi => ?_⟩
    rw [g1, a1] at hi
    rw [b2 i h9, f1.2, g2, a2 i h9]
    exact h.2 i h9 hi
  | some l =>
    obtain ⟨a1, a2⟩ := h1
    obtain ⟨b1, b2⟩ := h2
    refine ⟨by rw [b1, g1, a1], fun i h9 hi => ?_⟩
    rw [g1, a1] at hi
    rw [b2 i (by omega), g2, a2 i (by omega)]
section
variable {w h n : Nat} {heat price : Int} {D A : Nat → Int} {c : Nat} {U : Nat → Nat → Int} {kn : Nat → Int} {KS : Nat → Nat → Int} {cs : List Int} {m : z_M}
/-! hour, hours -/
def ro_h (R : (Nat → Int) × Int × Int × Int × Int) : List Int := [z_i2l R.2.2.1, z_i2l R.2.2.2.1, z_i2l (R.1 33)]
theorem ro_hC {s : Nat} {N a b d e : Int} : ro_h (cS m s N, a, b, d, e) = [z_i2l b, z_i2l d, z_i2l (m s 5)] := by
  unfold ro_h
  show [_, _, z_i2l (cS m s N 33)] = _
  rw [cS_pondv]
theorem ro_hR {s : Nat} {N a b d e : Int} : ro_h (rS m s N, a, b, d, e) = [z_i2l b, z_i2l d, z_i2l (m s 33)] := by
  unfold ro_h
  show [_, _, z_i2l (rS m s N 33)] = _
  rw [rS_at (by decide) (a_vis_hi (by decide))]
theorem W_lpt {mz : z_M} (hi : C_is w h n heat price D A c U kn KS cs m) (hN : (w ≤ 3 ∧ h ≤ 3 ∧ n ≤ 5) ∧ (0 ≤ heat ∧ heat ≤ 9) ∧ ∀ t : Int, 0 ≤ t → ∀ p, p < 5 → 0 ≤ wmD D t p ∧ wmD D t p ≤ 9) (hok : hr_ok n A) (ht : 0 ≤ A 35 ∧ A 35 ≤ 1073741824) {N : Nat} (hN6 : N ≤ 60) : ∃ m1, ((z_R 67 (z_up (z_up (z_up (z_up m 24 6 0) 24 7 0) 24 8 0) 24 9 0, 0, [(2, 24), (2, 12), (0, (N : Int)), (9, 0)], [])).bind fun qq => z_R 65 (qq.1, 34, [(2, 0), (0, (N : Int))], qq.2.toList ++ [])) = some (m1, some (0, (hr_R w h heat price cs D n N A).2.1)) ∧ c_rw mz m1 (some (ro_h (hr_R w h heat price cs D n N A))) := by
  have h0 : C_is w h n heat price D A c U kn KS cs (z_up (z_up (z_up (z_up m 24 6 0) 24 7 0) 24 8 0) 24 9 0) := C_upn (C_upn (C_upn (C_upn hi (by decide)) (by decide)) (by decide)) (by decide)
  have k6 : (z_up (z_up (z_up (z_up m 24 6 0) 24 7 0) 24 8 0) 24 9 0) 24 6 = 0 := by rw [zu_k (by decide), zu_k (by decide), zu_k (by decide), zu_self]
  have k7 : (z_up (z_up (z_up (z_up m 24 6 0) 24 7 0) 24 8 0) 24 9 0) 24 7 = 0 := by rw [zu_k (by decide), zu_k (by decide), zu_self]
  have k8 : (z_up (z_up (z_up (z_up m 24 6 0) 24 7 0) 24 8 0) 24 9 0) 24 8 = 0 := by rw [zu_k (by decide), zu_self]
  have k9 : (z_up (z_up (z_up (z_up m 24 6 0) 24 7 0) 24 8 0) 24 9 0) 24 9 = 0 := zu_self
  generalize z_up (z_up (z_up (z_up m 24 6 0) 24 7 0) 24 8 0) 24 9 0 = m0 at h0 k6 k7 k8 k9 ⊢
  obtain ⟨m1, a1, a2, a3⟩ := C_go z_st_12 (by decide) hN hok ht (N := N) (by omega) h0 h0.2.2.1 k6 k7 k8 k9
  have a1 : z_R 67 (m0, 0, [(2, 24), (2, 12), (0, (N : Int)), (9, 0)], []) = some (m1, none) := a1
  generalize hr_R w h heat price cs D n N A = R at a2 ⊢
  subst a2
  have h1 := C_LH12 h0 a3 rfl
  rw [a1, zb_n, s_lp_34, c_tell3, zb_n, s_lp_62]
  rw [c_told3 (by decide) (by decide)]
  refine ⟨_, rfl, ?_⟩
  rw [ro_hC]
  exact c_rw_3
theorem W_lp {mz : z_M} (hi : C_is w h n heat price D A c U kn KS cs m) (hN : (w ≤ 3 ∧ h ≤ 3 ∧ n ≤ 5) ∧ (0 ≤ heat ∧ heat ≤ 9) ∧ ∀ t : Int, 0 ≤ t → ∀ p, p < 5 → 0 ≤ wmD D t p ∧ wmD D t p ≤ 9) (hok : hr_ok n A) (ht : 0 ≤ A 35 ∧ A 35 ≤ 1073741824) {N : Nat} (hN6 : N ≤ 60) : ∃ m1, z_R 65 (m, 0, [(2, 0), (0, (N : Int))], []) = some (m1, some (0, (hr_R w h heat price cs D n N A).2.1)) ∧ c_rw mz m1 (some (ro_h (hr_R w h heat price cs D n N A))) := by
  rw [s_lp_0 m N (by omega)]
  by_cases z : N = 0
  · rw [if_pos (by omega)]
    exact W_lpt hi hN hok ht hN6
  · rw [if_neg (by omega)]
    obtain ⟨m1, a1, a2, -⟩ := C_rem hi (s := 12) (Or.inl rfl)
    rw [hi.2.2.1] at a2
    have a1 : z_R 60 (m, 0, [(2, 28), (2, 12)], []) = some (m1, none) := a1
    rw [a1, zb_n, s_lp_15]
    exact W_lpt a2 hN hok ht hN6
theorem W_hours {mz : z_M} (hi : C_is w h n heat price D A c U kn KS cs m) (hN : (w ≤ 3 ∧ h ≤ 3 ∧ n ≤ 5) ∧ (0 ≤ heat ∧ heat ≤ 9) ∧ ∀ t : Int, 0 ≤ t → ∀ p, p < 5 → 0 ≤ wmD D t p ∧ wmD D t p ≤ 9) (hok : hr_ok n A) (ht : 0 ≤ A 35 ∧ A 35 ≤ 1073741824) {N : Nat} (hN6 : N ≤ 60) : ∃ m1, z_R 80 (m, 0, [(2, 0), (0, (N : Int))], []) = some (m1, some (0, (hr_R w h heat price cs D n N A).2.1)) ∧ c_rw mz m1 (some (ro_h (hr_R w h heat price cs D n N A))) := by
  obtain ⟨m1, a1, a2⟩ := W_lp (mz := mz) hi hN hok ht hN6
  rw [s_hours_0, if_neg (by omega), if_pos (by omega), a1, zb_v, s_hours_17]
  exact ⟨m1, rfl, a2⟩
theorem W_hour1 {mz : z_M} (hi : C_is w h n heat price D A c U kn KS cs m) (hN : (w ≤ 3 ∧ h ≤ 3 ∧ n ≤ 5) ∧ (0 ≤ heat ∧ heat ≤ 9) ∧ ∀ t : Int, 0 ≤ t → ∀ p, p < 5 → 0 ≤ wmD D t p ∧ wmD D t p ≤ 9) (hok : hr_ok n A) (ht : 0 ≤ A 35 ∧ A 35 ≤ 1073741824) : ∃ m1, z_R 64 (m, 0, [(2, 0)], []) = some (m1, some (0, (hr_R w h heat price cs D n 1 A).2.1)) ∧ c_rw mz m1 (some (ro_h (hr_R w h heat price cs D n 1 A))) := by
  obtain ⟨m1, a1, a2⟩ := W_lp (mz := mz) hi hN hok ht (N := 1) (by decide)
  have a1 : z_R 65 (m, 0, [(2, 0), (0, 1)], []) = some (m1, some (0, (hr_R w h heat price cs D n 1 A).2.1)) := a1
  rw [s_hour_0, a1, zb_v, s_hour_5]
  exact ⟨m1, rfl, a2⟩
theorem V_lpt {mz : z_M} (hi : R_is w h n heat price D A c U kn KS cs m) (hN : (w ≤ 3 ∧ h ≤ 3 ∧ n ≤ 5) ∧ (0 ≤ heat ∧ heat ≤ 9) ∧ ∀ t : Int, 0 ≤ t → ∀ p, p < 5 → 0 ≤ wmD D t p ∧ wmD D t p ≤ 9) (hok : hr_ok n A) (ht : 0 ≤ A 35 ∧ A 35 ≤ 1073741824) {N : Nat} (hN6 : N ≤ 60) : ∃ m1, ((z_R 207 (z_up (z_up (z_up (z_up m 251 32 0) 251 33 0) 251 34 0) 251 35 0, 0, [(2, 251), (2, 252), (0, (N : Int)), (9, 0)], [])).bind fun qq => z_R 205 (qq.1, 42, [(2, 251), (0, (N : Int))], qq.2.toList ++ [])) = some (m1, some (0, (hr_R w h heat price cs D n N A).2.1)) ∧ r_rw mz m1 (some (ro_h (hr_R w h heat price cs D n N A))) := by
  have h0 : R_is w h n heat price D A c U kn KS cs (z_up (z_up (z_up (z_up m 251 32 0) 251 33 0) 251 34 0) 251 35 0) := R_upn (R_upn (R_upn (R_upn hi (by decide)) (by decide)) (by decide)) (by decide)
  have k6 : (z_up (z_up (z_up (z_up m 251 32 0) 251 33 0) 251 34 0) 251 35 0) 251 32 = 0 := by rw [zu_k (by decide), zu_k (by decide), zu_k (by decide), zu_self]
  have k7 : (z_up (z_up (z_up (z_up m 251 32 0) 251 33 0) 251 34 0) 251 35 0) 251 33 = 0 := by rw [zu_k (by decide), zu_k (by decide), zu_self]
  have k8 : (z_up (z_up (z_up (z_up m 251 32 0) 251 33 0) 251 34 0) 251 35 0) 251 34 = 0 := by rw [zu_k (by decide), zu_self]
  have k9 : (z_up (z_up (z_up (z_up m 251 32 0) 251 33 0) 251 34 0) 251 35 0) 251 35 = 0 := zu_self
  generalize z_up (z_up (z_up (z_up m 251 32 0) 251 33 0) 251 34 0) 251 35 0 = m0 at h0 k6 k7 k8 k9 ⊢
  obtain ⟨m1, a1, a2, a3⟩ := R_go z_A_252 (Or.inl rfl) hN hok ht (N := N) (by omega) h0 h0.2.2.1 k6 k7 k8 k9
  have a1 : z_R 207 (m0, 0, [(2, 251), (2, 252), (0, (N : Int)), (9, 0)], []) = some (m1, none) := a1
  generalize hr_R w h heat price cs D n N A = R at a2 ⊢
  subst a2
  have h1 := R_LH252 h0 a3 rfl
  rw [a1, zb_n, t_hours_42 m1 N (by omega)]
  have e32 : ∀ v, (z_up m1 251 10 v) 251 32 = m1 251 32 := fun v => zu_k (by decide)
  rw [t_tell0, zb_n, t_hours_56, t_tell1, zb_n, t_hours_65, t_tell2, zb_n, t_hours_77]
  rw [t_told3 (by decide) (by decide)]
  refine ⟨_, rfl, ?_⟩
  rw [ro_hR]
  exact r_rw_3 rfl rfl (congrArg z_i2l (t_told1 (by omega) (by omega))) (congrArg z_i2l (t_told2 (by omega) (by omega)))
theorem V_lp {mz : z_M} (hi : R_is w h n heat price D A c U kn KS cs m) (hN : (w ≤ 3 ∧ h ≤ 3 ∧ n ≤ 5) ∧ (0 ≤ heat ∧ heat ≤ 9) ∧ ∀ t : Int, 0 ≤ t → ∀ p, p < 5 → 0 ≤ wmD D t p ∧ wmD D t p ≤ 9) (hok : hr_ok n A) (ht : 0 ≤ A 35 ∧ A 35 ≤ 1073741824) {N : Nat} (hN6 : N ≤ 60) : ∃ m1, z_R 205 (m, 0, [(2, 251), (0, (N : Int))], []) = some (m1, some (0, (hr_R w h heat price cs D n N A).2.1)) ∧ r_rw mz m1 (some (ro_h (hr_R w h heat price cs D n N A))) := by
  have hu := R_upn (p0 := 251) (k0 := 11) (v := 0) hi (by decide)
  rw [t_hours_0, if_pos (by omega)]
  generalize z_up m 251 11 0 = m0 at hu ⊢
  by_cases z : N = 0
  · rw [if_pos (by omega)]
    exact V_lpt hu hN hok ht hN6
  · rw [if_neg (by omega)]
    obtain ⟨m1, a1, a2, -⟩ := R_rem hu (a := 252) (Or.inl rfl)
    rw [hu.2.2.1] at a2
    have a1 : z_R 197 (m0, 0, [(2, 251), (2, 252), (9, 0)], []) = some (m1, none) := a1
    rw [a1, zb_n, t_hours_29]
    exact V_lpt a2 hN hok ht hN6
theorem V_hour1 {mz : z_M} (hi : R_is w h n heat price D A c U kn KS cs m) (hN : (w ≤ 3 ∧ h ≤ 3 ∧ n ≤ 5) ∧ (0 ≤ heat ∧ heat ≤ 9) ∧ ∀ t : Int, 0 ≤ t → ∀ p, p < 5 → 0 ≤ wmD D t p ∧ wmD D t p ≤ 9) (hok : hr_ok n A) (ht : 0 ≤ A 35 ∧ A 35 ≤ 1073741824) : ∃ m1, z_R 204 (m, 0, [(2, 251)], []) = some (m1, some (0, (hr_R w h heat price cs D n 1 A).2.1)) ∧ r_rw mz m1 (some (ro_h (hr_R w h heat price cs D n 1 A))) := by
  obtain ⟨m1, a1, a2⟩ := V_lp (mz := mz) hi hN hok ht (N := 1) (by decide)
  have a1 : z_R 205 (m, 0, [(2, 251), (0, 1)], []) = some (m1, some (0, (hr_R w h heat price cs D n 1 A).2.1)) := a1
  rw [t_hour_0, a1, zb_v, t_hour_5]
  exact ⟨m1, rfl, a2⟩
/-! thick -/
def ro_thick (w h n : Nat) (heat price : Int) (cs : List Int) (D A : Nat → Int) (r a : Int) : Option (List Int) := if ¬ (0 ≤ a ∧ a ≤ 100) then none else if u_hs (w : Int) (h : Int) r = 0 then none else some [z_i2l ((hr_R w h heat price cs D n a.toNat A).1 (r.toNat + 9)), z_i2l ((hr_R w h heat price cs D n a.toNat A).1 33)]
theorem W_thick (hi : C_is w h n heat price D A c U kn KS cs m) (hN : w_N w h n heat D) (hok : hr_ok n A) (ht : 0 ≤ A 35 ∧ A 35 ≤ 1073741824) (k6 : z_w (m 24 6) = m 24 6) (k9 : z_w (m 24 9) = m 24 9) (r a : Int) : ∃ m1, z_R 89 (m, 0, [(2, 0), (0, r), (0, a)], []) = some (m1, some (0, o_thick w h n heat price cs D A r a)) ∧ c_rw m m1 (ro_thick w h n heat price cs D A r a) := by
  rw [o_thi_0, hi.1.1, hi.1.2.1]
  by_cases c1 : a < 0
  · have e : o_thick w h n heat price cs D A r a = -2 := if_pos (by omega)
    rw [if_pos c1, e]
    exact ⟨m, rfl, c_rw_n (if_pos (by omega))⟩
  rw [if_neg c1]
  by_cases c2 : a ≤ 100
  · rw [if_pos c2]
    by_cases c3 : u_hs (w : Int) (h : Int) r = 0
    · have e : o_thick w h n heat price cs D A r a = -3 := (if_neg (by omega)).trans (if_pos c3)
      rw [if_neg (not_not_intro c3), e]
      exact ⟨m, rfl, c_rw_n ((if_neg (by omega)).trans (if_pos c3))⟩
    · have e : o_thick w h n heat price cs D A r a = (hr_R w h heat price cs D n a.toNat A).1 r.toNat := (if_neg (by omega)).trans (if_neg c3)
      have hr := u_hs_rng c3
      obtain ⟨N, rfl⟩ : ∃ N : Nat, a = (N : Int) := ⟨a.toNat, by omega⟩
      rw [Int.toNat_natCast] at e
      obtain ⟨m1, d1, d2, d3, -⟩ := C_la hi hN hok ht k6 k9 (N := N) (by omega)
      rw [if_pos c3, d1, zb_n, o_thi_32, if_pos (show 0 ≤ r ∧ r < 9 from hr), c_tell2, zb_n, o_thi_54, if_pos (show 0 ≤ r ∧ r < 9 from hr), e]
      rw [c_told2 (by decide) (by decide), ← d3]
      rw [show m1 19 r.toNat = cS m1 18 n r.toNat from (cS_at1 (s := 18) (by omega)).symm]
      refine ⟨_, rfl, c_rw_s ((if_neg (by omega)).trans (if_neg c3)) ?_⟩
      rw [Int.toNat_natCast, ← d3, cS_pondv, show cS m1 18 n (r.toNat + 9) = m1 20 r.toNat from cS_at2 (s := 18) (by omega)]
      exact c_rw_2
  · have e : o_thick w h n heat price cs D A r a = -2 := if_pos (by omega)
    rw [if_neg c2, e]
    exact ⟨m, rfl, c_rw_n (if_pos (by omega))⟩
theorem V_thick (hi : R_is w h n heat price D A c U kn KS cs m) (hN : w_N w h n heat D) (hok : hr_ok n A) (ht : 0 ≤ A 35 ∧ A 35 ≤ 1073741824) (r a : Int) : ∃ m1, z_R 217 (m, 0, [(2, 251), (0, r), (0, a)], []) = some (m1, some (0, o_thick w h n heat price cs D A r a)) ∧ r_rw m m1 (ro_thick w h n heat price cs D A r a) := by
  have hu := R_upn (p0 := 251) (k0 := 11) (v := 0) hi (by decide)
  have hw : r_rw m (z_up m 251 11 0) none := r_rw_11
  rw [o_tth_0, R_isl]
  generalize z_up m 251 11 0 = m0 at hu hw ⊢
  by_cases c1 : 0 ≤ a ∧ a ≤ 100
  · rw [if_pos c1, zb_v, o_tth_9, if_neg (show ¬ (1 : Int) = 0 by decide), hu.1.1, hu.1.2.1]
    by_cases c3 : u_hs (w : Int) (h : Int) r = 0
    · have e : o_thick w h n heat price cs D A r a = -3 := (if_neg (not_not_intro c1)).trans (if_pos c3)
      rw [if_neg (not_not_intro c3), e]
      exact ⟨m0, rfl, r_rw_m hw ((if_neg (not_not_intro c1)).trans (if_pos c3))⟩
    · have e : o_thick w h n heat price cs D A r a = (hr_R w h heat price cs D n a.toNat A).1 r.toNat := (if_neg (not_not_intro c1)).trans (if_neg c3)
      have hr := u_hs_rng c3
      obtain ⟨N, rfl⟩ : ∃ N : Nat, a = (N : Int) := ⟨a.toNat, by omega⟩
      rw [Int.toNat_natCast] at e
      obtain ⟨m1, m2, d1, d2, d3, d4⟩ := R_la hu hN hok ht (N := N) (by omega)
      rw [if_pos c3, d1, zb_n, o_tth_30, d2, zb_n, o_tth_39, z_add_eq (by omega) (by omega), if_pos (show 0 ≤ 9 + r ∧ 9 + r < 37 by omega), t_tell0, zb_n, o_tth_58, t_tell1, zb_n, o_tth_70, if_pos (show 0 ≤ r ∧ r < 37 by omega), e]
      rw [t_told2 (by omega) (by omega), ← d4]
      rw [show m2 264 r.toNat = rS m2 264 n r.toNat from (rS_at (by omega) (a_vis_lo (by omega))).symm]
      refine ⟨_, rfl, r_rw_s ((if_neg (not_not_intro c1)).trans (if_neg c3)) ?_⟩
      rw [Int.toNat_natCast, ← d4, show rS m2 264 n 33 = m2 264 33 from rS_at (by decide) (a_vis_hi (by decide)), show rS m2 264 n (r.toNat + 9) = m2 264 (r.toNat + 9) from rS_at (by omega) (a_vis_lo (by omega)), show r.toNat + 9 = (9 + r).toNat by omega]
      exact r_rw_2 rfl rfl (congrArg z_i2l (t_told1 (by omega) (by omega)))
  · have e : o_thick w h n heat price cs D A r a = -2 := if_pos c1
    rw [if_neg c1, zb_v, o_tth_9, if_pos rfl, e]
    exact ⟨m0, rfl, r_rw_m hw (if_pos c1)⟩
/-! drips -/
def o_dr (w h : Nat) (B : Nat → Int) : Nat → Nat → Int → Int
  | 0, _, b => b
  | f + 1, x, b => if u_hs (w : Int) (h : Int) (x : Int) = 0 then o_dr w h B f (x + 1) b else if b = -1 ∨ B b.toNat < B x then o_dr w h B f (x + 1) (x : Int) else o_dr w h B f (x + 1) b
def o_drr (B : Nat → Int) (b : Int) : List Int := [z_i2l b, if b = -1 then 0 else z_i2l (B b.toNat)]
def ro_drips (w h n : Nat) (heat price : Int) (cs : List Int) (D A : Nat → Int) (a : Int) : Option (List Int) := if 0 ≤ a ∧ a ≤ 100 then some (o_drr (hr_R w h heat price cs D n a.toNat A).1 (o_dr w h (hr_R w h heat price cs D n a.toNat A).1 9 0 (-1))) else none
theorem W_dri1 {mz : z_M} {x1 : Int} {B : Nat → Int} : ∀ (f x : Nat) (b : Int) (m : z_M), x + f = 9 → (b = -1 ∨ (0 ≤ b ∧ b < 9)) → m 3 8 = (w : Int) → m 3 9 = (h : Int) → (∀ j, j < 9 → m 19 j = B j) → ∃ m1 v, z_R 94 (m, 21, [(2, 0), (0, x1), (0, b), (0, (x : Int))], []) = some (m1, some (0, v)) ∧ c_rw mz m1 (some (o_drr B (o_dr w h B f x b))) := by
  intro f
  induction f with
  | zero =>
    intro x b m hx hb h8 h9 hB
    show ∃ m1 v, _ ∧ c_rw mz m1 (some [z_i2l b, if b = -1 then 0 else z_i2l (B b.toNat)])
    rw [o_dri_21, if_pos (show (9 : Int) ≤ (x : Int) by omega)]
    by_cases c1 : b = -1
    · rw [if_pos c1, if_pos c1, c_tell2, zb_n, o_dri_97]
      exact ⟨_, _, rfl, c_rw_2⟩
    · rw [if_neg c1, if_neg c1, if_pos (show 0 ≤ b ∧ b < 9 by omega), c_tell2, zb_n, o_dri_97, ← hB b.toNat (by omega)]
      exact ⟨_, _, rfl, c_rw_2⟩
  | succ f ih =>
    intro x b m hx hb h8 h9 hB
    rw [o_dri_21, if_neg (show ¬ (9 : Int) ≤ (x : Int) by omega), h8, h9, z_add_eq (x := (x : Int)) (y := 1) (by omega) (by omega), tc1, Int.toNat_natCast]
    unfold o_dr
    by_cases c1 : u_hs (w : Int) (h : Int) (x : Int) = 0
    · rw [if_neg (not_not_intro c1), if_pos c1]
      exact ih (x + 1) b m (by omega) hb h8 h9 hB
    · rw [if_pos c1, if_neg c1]
      by_cases c2 : b = -1
      · rw [if_pos c2, if_pos (Or.inl c2)]
        exact ih (x + 1) x m (by omega) (Or.inr (by omega)) h8 h9 hB
      · rw [if_neg c2, if_pos (show 0 ≤ b ∧ b < 9 by omega), hB x (by omega), hB b.toNat (by omega)]
        by_cases c3 : B x ≤ B b.toNat
        · rw [if_pos c3, if_neg (show ¬ (b = -1 ∨ B b.toNat < B x) by omega)]
          exact ih (x + 1) b m (by omega) hb h8 h9 hB
        · rw [if_neg c3, if_pos (show b = -1 ∨ B b.toNat < B x by omega)]
          exact ih (x + 1) x m (by omega) (Or.inr (by omega)) h8 h9 hB
theorem V_dri1 {mz : z_M} {x1 : Int} {B : Nat → Int} : ∀ (f x : Nat) (b : Int) (m : z_M), x + f = 9 → (b = -1 ∨ (0 ≤ b ∧ b < 9)) → m 251 1 = (w : Int) → m 251 2 = (h : Int) → (∀ j, j < 9 → m 264 j = B j) → ∃ m1 v, z_R 225 (m, 31, [(2, 251), (0, x1), (0, b), (0, (x : Int))], []) = some (m1, some (0, v)) ∧ r_rw mz m1 (some (o_drr B (o_dr w h B f x b))) := by
  intro f
  induction f with
  | zero =>
    intro x b m hx hb h8 h9 hB
    show ∃ m1 v, _ ∧ r_rw mz m1 (some [z_i2l b, if b = -1 then 0 else z_i2l (B b.toNat)])
    rw [o_tdr_31, if_pos (show (9 : Int) ≤ (x : Int) by omega), t_tell0, zb_n, o_tdr_84]
    by_cases c1 : b = -1
    · rw [if_pos c1, if_pos c1, t_tell1, zb_n, o_tdr_104]
      exact ⟨_, _, rfl, r_rw_2 rfl rfl rfl⟩
    · rw [if_neg c1, if_neg c1, if_pos (show 0 ≤ b ∧ b < 37 by omega), t_tell1, zb_n, o_tdr_104, ← hB b.toNat (by omega)]
      exact ⟨_, _, rfl, r_rw_2 rfl rfl (congrArg z_i2l (t_told1 (by omega) (by omega)))⟩
  | succ f ih =>
    intro x b m hx hb h8 h9 hB
    rw [o_tdr_31, if_neg (show ¬ (9 : Int) ≤ (x : Int) by omega), h8, h9, z_add_eq (x := (x : Int)) (y := 1) (by omega) (by omega), tc1, Int.toNat_natCast]
    unfold o_dr
    by_cases c1 : u_hs (w : Int) (h : Int) (x : Int) = 0
    · rw [if_neg (not_not_intro c1), if_pos c1]
      exact ih (x + 1) b m (by omega) hb h8 h9 hB
    · rw [if_pos c1, if_neg c1]
      by_cases c2 : b = -1
      · rw [if_pos c2, if_pos (Or.inl c2)]
        exact ih (x + 1) x m (by omega) (Or.inr (by omega)) h8 h9 hB
      · rw [if_neg c2, if_pos (show 0 ≤ b ∧ b < 37 by omega), hB x (by omega), hB b.toNat (by omega)]
        by_cases c3 : B x ≤ B b.toNat
        · rw [if_pos c3, if_neg (show ¬ (b = -1 ∨ B b.toNat < B x) by omega)]
          exact ih (x + 1) b m (by omega) hb h8 h9 hB
        · rw [if_neg c3, if_pos (show b = -1 ∨ B b.toNat < B x by omega)]
          exact ih (x + 1) x m (by omega) (Or.inr (by omega)) h8 h9 hB
theorem W_drips (hi : C_is w h n heat price D A c U kn KS cs m) (hN : w_N w h n heat D) (hok : hr_ok n A) (ht : 0 ≤ A 35 ∧ A 35 ≤ 1073741824) (k6 : z_w (m 24 6) = m 24 6) (k9 : z_w (m 24 9) = m 24 9) (a : Int) : ∃ m1 v, z_R 94 (m, 0, [(2, 0), (0, a), (9, 0), (9, 0)], []) = some (m1, some (0, v)) ∧ c_rw m m1 (ro_drips w h n heat price cs D A a) := by
  rw [o_dri_0]
  by_cases c1 : a < 0
  · rw [if_pos c1]
    exact ⟨m, _, rfl, c_rw_n (if_neg (by omega))⟩
  rw [if_neg c1]
  by_cases c2 : a ≤ 100
  · obtain ⟨N, rfl⟩ : ∃ N : Nat, a = (N : Int) := ⟨a.toNat, by omega⟩
    obtain ⟨m1, d1, d2, d3, d4⟩ := C_la hi hN hok ht k6 k9 (N := N) (by omega)
    obtain ⟨m2, v2, g1, g2⟩ := W_dri1 (mz := m) (w := w) (h := h) (B := (hr_R w h heat price cs D n N A).1) (x1 := (N : Int)) 9 0 (-1) m1 (by decide) (Or.inl rfl) d2.1.1 d2.1.2.1 (fun j hj => by
      rw [← d3]
      exact (cS_at1 (s := 18) hj).symm)
    have g1 : z_R 94 (m1, 21, [(2, 0), (0, (N : Int)), (0, -1), (0, 0)], []) = some (m2, some (0, v2)) := g1
    rw [if_pos c2, d1, zb_n, o_dri_17, g1]
    refine ⟨m2, v2, rfl, c_rw_s (if_pos (by omega)) ?_⟩
    rw [Int.toNat_natCast]
    exact g2
  · rw [if_neg c2]
    exact ⟨m, _, rfl, c_rw_n (if_neg (by omega))⟩
theorem V_drips (hi : R_is w h n heat price D A c U kn KS cs m) (hN : w_N w h n heat D) (hok : hr_ok n A) (ht : 0 ≤ A 35 ∧ A 35 ≤ 1073741824) (a : Int) : ∃ m1 v, z_R 225 (m, 0, [(2, 251), (0, a), (9, 0), (9, 0)], []) = some (m1, some (0, v)) ∧ r_rw m m1 (ro_drips w h n heat price cs D A a) := by
  have hu := R_upn (p0 := 251) (k0 := 11) (v := 0) hi (by decide)
  have hw : r_rw m (z_up m 251 11 0) none := r_rw_11
  rw [o_tdr_0, R_isl]
  generalize z_up m 251 11 0 = m0 at hu hw ⊢
  by_cases c1 : 0 ≤ a ∧ a ≤ 100
  · obtain ⟨N, rfl⟩ : ∃ N : Nat, a = (N : Int) := ⟨a.toNat, by omega⟩
    obtain ⟨m1, m2, d1, d2, d3, d4⟩ := R_la hu hN hok ht (N := N) (by omega)
    obtain ⟨m3, v3, g1, g2⟩ := V_dri1 (mz := m) (w := w) (h := h) (B := (hr_R w h heat price cs D n N A).1) (x1 := (N : Int)) 9 0 (-1) m2 (by decide) (Or.inl rfl) d3.1.1 d3.1.2.1 (fun j hj => by
      rw [← d4]
      exact (rS_at (by omega) (a_vis_lo (by omega))).symm)
    have g1 : z_R 225 (m2, 31, [(2, 251), (0, (N : Int)), (0, -1), (0, 0)], []) = some (m3, some (0, v3)) := g1
    rw [if_pos c1, zb_v, o_tdr_9, if_neg (show ¬ (1 : Int) = 0 by decide), d1, zb_n, o_tdr_18, d2, zb_n, o_tdr_27, g1]
    refine ⟨m3, v3, rfl, r_rw_s (if_pos c1) ?_⟩
    rw [Int.toNat_natCast]
    exact g2
  · rw [if_neg c1, zb_v, o_tdr_9, if_pos rfl]
    exact ⟨m0, _, rfl, r_rw_m hw (if_neg c1)⟩
/-! gives -/
def gv_f (b : Int) : Nat → Nat → Int
  | 0, _ => -1
  | f + 1, x => if z_and (z_shr b (x : Int)) 1 = 0 then gv_f b f (x + 1) else (x : Int)
def gv_r (w h n : Nat) (heat price : Int) (cs : List Int) (D : Nat → Int) (F : Int) : Nat → (Nat → Int) → Option (List Int)
  | 0, _ => none
  | f + 1, B => if z_and (s_G w h (hr_A w h heat price (c_ml cs) (wmD D (B 35)) n B)) F = 0 then gv_r w h n heat price cs D F f (hr_A w h heat price (c_ml cs) (wmD D (B 35)) n B) else some [z_i2l (gv_f (z_and (s_G w h (hr_A w h heat price (c_ml cs) (wmD D (B 35)) n B)) F) 9 0), z_i2l (hr_K w h heat price (c_ml cs) (wmD D (B 35)) n B).2.2.1]
theorem gv_sta {F : Int} {N : Nat} : ∀ (f x : Nat) (B : Nat → Int), x + f = N → (s_sta w h n heat price cs D F N f x B = (N : Int) ∧ gv_r w h n heat price cs D F f B = none) ∨ (¬ s_sta w h n heat price cs D F N f x B = (N : Int) ∧ ∃ l, gv_r w h n heat price cs D F f B = some l) := by
  intro f
  induction f with
  | zero => intro x B hx; exact Or.inl ⟨rfl, rfl⟩
  | succ f ih =>
    intro x B hx
    unfold s_sta gv_r
    by_cases c1 : z_and (s_G w h (hr_A w h heat price (c_ml cs) (wmD D (B 35)) n B)) F = 0
    · rw [if_pos c1, if_pos c1]
      exact ih (x + 1) _ (by omega)
    · rw [if_neg c1, if_neg c1]
      exact Or.inr ⟨by omega, _, rfl⟩
theorem gv_fst : ∀ (f x : Nat) (b : Int) (m : z_M), x + f = 9 → z_R 93 (m, 2, [(0, b), (0, (x : Int))], []) = some (m, some (0, gv_f b f x)) := by
  intro f
  induction f with
  | zero =>
    intro x b m hx
    rw [p_fst_2, if_pos (by omega)]
    rfl
  | succ f ih =>
    intro x b m hx
    rw [p_fst_2, if_neg (by omega), z_add_eq (by omega) (by omega), tc1]
    unfold gv_f
    by_cases c1 : z_and (z_shr b (x : Int)) 1 = 0
    · rw [if_pos c1, if_pos c1]
      exact ih (x + 1) b m (by omega)
    · rw [if_neg c1, if_neg c1]
theorem z_ifm {q : Prop} [Decidable q] {m : z_M} {X Y : Option z_Q} {x y : Int} (h1 : X = some (m, some (0, x))) (h2 : Y = some (m, some (0, y))) : (if q then X else Y) = some (m, some (0, if q then x else y)) := by
  by_cases z : q
  · rw [if_pos z, if_pos z]; exact h1
  · rw [if_neg z, if_neg z]; exact h2
def gv_nz (a : Int) : Int := if 0 < z_and (z_xor a (-1)) (z_sub a 1) then if z_and (z_xor a (-1)) (z_sub a 1) ≤ 65536 then if z_and (z_xor a (-1)) (z_sub a 1) ≤ 256 then if z_and (z_xor a (-1)) (z_sub a 1) ≤ 16 then if z_and (z_xor a (-1)) (z_sub a 1) ≤ 4 then z_add 1 (z_ush (z_and (z_xor a (-1)) (z_sub a 1)) 1) else z_add 3 (z_ush (z_ush (z_and (z_xor a (-1)) (z_sub a 1)) 2) 1) else if z_ush (z_and (z_xor a (-1)) (z_sub a 1)) 4 ≤ 4 then z_add 5 (z_ush (z_ush (z_and (z_xor a (-1)) (z_sub a 1)) 4) 1) else z_add 7 (z_ush (z_ush (z_ush (z_and (z_xor a (-1)) (z_sub a 1)) 4) 2) 1) else if z_ush (z_and (z_xor a (-1)) (z_sub a 1)) 8 ≤ 16 then if z_ush (z_and (z_xor a (-1)) (z_sub a 1)) 8 ≤ 4 then z_add 9 (z_ush (z_ush (z_and (z_xor a (-1)) (z_sub a 1)) 8) 1) else z_add 11 (z_ush (z_ush (z_ush (z_and (z_xor a (-1)) (z_sub a 1)) 8) 2) 1) else if z_ush (z_ush (z_and (z_xor a (-1)) (z_sub a 1)) 8) 4 ≤ 4 then z_add 13 (z_ush (z_ush (z_ush (z_and (z_xor a (-1)) (z_sub a 1)) 8) 4) 1) else z_add 15 (z_ush (z_ush (z_ush (z_ush (z_and (z_xor a (-1)) (z_sub a 1)) 8) 4) 2) 1) else if z_ush (z_and (z_xor a (-1)) (z_sub a 1)) 16 ≤ 256 then if z_ush (z_and (z_xor a (-1)) (z_sub a 1)) 16 ≤ 16 then if z_ush (z_and (z_xor a (-1)) (z_sub a 1)) 16 ≤ 4 then z_add 17 (z_ush (z_ush (z_and (z_xor a (-1)) (z_sub a 1)) 16) 1) else z_add 19 (z_ush (z_ush (z_ush (z_and (z_xor a (-1)) (z_sub a 1)) 16) 2) 1) else if z_ush (z_ush (z_and (z_xor a (-1)) (z_sub a 1)) 16) 4 ≤ 4 then z_add 21 (z_ush (z_ush (z_ush (z_and (z_xor a (-1)) (z_sub a 1)) 16) 4) 1) else z_add 23 (z_ush (z_ush (z_ush (z_ush (z_and (z_xor a (-1)) (z_sub a 1)) 16) 4) 2) 1) else if z_ush (z_ush (z_and (z_xor a (-1)) (z_sub a 1)) 16) 8 ≤ 16 then if z_ush (z_ush (z_and (z_xor a (-1)) (z_sub a 1)) 16) 8 ≤ 4 then z_add 25 (z_ush (z_ush (z_ush (z_and (z_xor a (-1)) (z_sub a 1)) 16) 8) 1) else z_add 27 (z_ush (z_ush (z_ush (z_ush (z_and (z_xor a (-1)) (z_sub a 1)) 16) 8) 2) 1) else if z_ush (z_ush (z_ush (z_and (z_xor a (-1)) (z_sub a 1)) 16) 8) 4 ≤ 4 then z_add 29 (z_ush (z_ush (z_ush (z_ush (z_and (z_xor a (-1)) (z_sub a 1)) 16) 8) 4) 1) else z_add 31 (z_ush (z_ush (z_ush (z_ush (z_ush (z_and (z_xor a (-1)) (z_sub a 1)) 16) 8) 4) 2) 1) else z_and (z_and (z_xor a (-1)) (z_sub a 1)) 32
theorem gv_ntz (m : z_M) (a : Int) : z_R 224 (m, 0, [(0, a), (9, 0)], []) = some (m, some (0, gv_nz a)) := (p_ntz_0 m a).trans (by
  unfold gv_nz
  repeat' (first | refine z_ifm ?_ ?_ | exact rfl))
theorem gv_nz_ok : ∀ a : Nat, a < 512 → 0 < a → gv_nz (a : Int) = gv_f (a : Int) 9 0 := by decide +kernel
theorem s_bt_or : ∀ x : Nat, x < 9 → ∀ k : Nat, k < 2 ^ x → 0 ≤ z_or (k : Int) (z_shl 1 (x : Int)) ∧ z_or (k : Int) (z_shl 1 (x : Int)) < ((2 ^ (x + 1) : Nat) : Int) := by decide +kernel
theorem s_bt_b {P : Nat → Bool} : ∀ (f x : Nat) (b : Int), x + f = 9 → (0 ≤ b ∧ b < ((2 ^ x : Nat) : Int)) → 0 ≤ s_bt P f x b ∧ s_bt P f x b < 512 := by
  intro f
  induction f with
  | zero =>
    intro x b hx hb
    obtain rfl : x = 9 := by omega
    exact hb
  | succ f ih =>
    intro x b hx hb
    unfold s_bt
    refine ih (x + 1) _ (by omega) ?_
    by_cases c1 : P x = true
    · rw [if_pos c1]
      obtain ⟨k, rfl⟩ : ∃ k : Nat, b = (k : Int) := ⟨b.toNat, by omega⟩
      exact s_bt_or x (by omega) k (by omega)
    · rw [if_neg c1]
      refine ⟨hb.1, Int.lt_of_lt_of_le hb.2 ?_⟩
      exact Int.ofNat_le.mpr (Nat.pow_le_pow_right (by decide) (Nat.le_succ x))
theorem gv_and {a b : Int} (hb : 0 ≤ b ∧ b < 512) : 0 ≤ z_and a b ∧ z_and a b < 512 := by
  have e : (Int32.ofInt b).toInt = b := zr_of (by omega) (by omega)
  have := i32_and_r (x := Int32.ofInt a) (y := Int32.ofInt b) (by rw [e]; exact hb.1)
  rw [e] at this
  unfold z_and
  omega
theorem W_giv1 {mz : z_M} {F : Int} (hN : w_N w h n heat D) : ∀ (f x : Nat) (v3 : z_V) (m : z_M) (B : Nat → Int), x + f = 100 → C_is w h n heat price D A c U kn KS cs m → cS m 18 n = B → hr_ok n B → 0 ≤ B 35 → B 35 + (f : Int) ≤ 2147483647 → z_w (m 24 6) = m 24 6 → z_w (m 24 9) = m 24 9 → c_rw mz m none → ∃ m1, z_R 91 (m, 25, [(2, 0), (0, F), (0, ((x + 1 : Nat) : Int)), v3], []) = some (m1, some (0, o_gv (s_sta w h n heat price cs D F 100 f x B))) ∧ c_rw mz m1 (gv_r w h n heat price cs D F f B) := by
  intro f
  induction f with
  | zero =>
    intro x v3 m B hx hi hB hok ht ht2 k6 k9 hz
    rw [p_giv_25, if_pos (by omega)]
    exact ⟨m, rfl, hz⟩
  | succ f ih =>
    intro x v3 m B hx hi hB hok ht ht2 k6 k9 hz
    obtain ⟨m1, a1, a2, a3, a4, a5, a6, a7, a8, a9⟩ := c_hour z_st_18 hN.1.1 hN.1.2.1 (price := price) ⟨hN.1.2.2, hN.2.1, c_ml_ok cs, hN.2.2⟩ m (C_cfg hi) hB hok ht (by omega) k6 k9
    have a1 : z_R 68 (m, 0, [(2, 24), (2, ((18 : Nat) : Int)), (0, m 3 10), (9, 0), (9, 0), (9, 0)], []) = some (m1, none) := a1
    have g1 : z_R 67 (m, 0, [(2, 24), (2, ((18 : Nat) : Int)), (0, 1), (9, 0)], []) = some (m1, none) := by
      rw [s_goOn_0 z_st_18 m 1 ⟨by decide, by decide⟩, s_goOn_2 z_st_18 m 1 0 ⟨by decide, by decide⟩ ⟨by decide, by decide⟩, if_neg (show ¬ (1 : Int) ≤ 0 by decide), a1, zb_n, s_goOn_19 z_st_18 m1 1 0 ⟨by decide, by decide⟩, s_goOn_2 z_st_18 m1 1 (0 + 1) ⟨by decide, by decide⟩ ⟨by decide, by decide⟩, if_pos (show (1 : Int) ≤ 0 + 1 by decide)]
    have g1 : z_R 67 (m, 0, [(2, 24), (2, 18), (0, 1), (9, 0)], []) = some (m1, none) := g1
    have hC1 : C_is w h n heat price D A c U kn KS cs m1 := C_fr hi fun p k hk => by
      have hk' := hk
      unfold C_hit at hk'
      have hk' := of_decide_eq_true hk'
      exact a9.of (by (try unfold r_LHs); (repeat' (first | exact trivial | refine z_of_c ?_ ?_)) <;> omega)
    rw [p_giv_25, if_neg (by omega), g1, zb_n, p_giv_43, a7, hr_K_gb hN.1.2.2, z_add_eq (by omega) (by omega), tc1]
    unfold s_sta gv_r
    by_cases c1 : z_and (s_G w h (hr_A w h heat price (c_ml cs) (wmD D (B 35)) n B)) F = 0
    · rw [if_pos c1, if_pos c1, if_pos c1]
      have hok' := hr_A_ok (price := price) hN.1.1 hN.1.2.1 hN.1.2.2 hN.2.1 (c_ml_ok cs) (hN.2.2 (B 35) ht) hok
      have e35 : hr_A w h heat price (c_ml cs) (wmD D (B 35)) n B 35 = B 35 + 1 := by rw [hr_A_35 hN.1.1 hN.1.2.1 hN.1.2.2, z_add_eq (by omega) (by omega)]
      exact ih (x + 1) _ m1 _ (by omega) hC1 a2 hok' (by rw [e35]; omega) (by rw [e35]; omega) (by rw [a3, z_add_w]; exact z_w_w) (by rw [a6, z_add_w]; exact z_w_w) (c_rw_fr hz (a9.of (by (try unfold r_LHs); (repeat' (first | exact trivial | refine z_of_c ?_ ?_)) <;> omega)) (fun i _ => a9.of (by (try unfold r_LHs); (repeat' (first | exact trivial | refine z_of_c ?_ ?_)) <;> omega)))
    · have hv := gv_fst 9 0 (z_and (s_G w h (hr_A w h heat price (c_ml cs) (wmD D (B 35)) n B)) F) m1 (by decide)
      have hv : z_R 93 (m1, 2, [(0, z_and (s_G w h (hr_A w h heat price (c_ml cs) (wmD D (B 35)) n B)) F), (0, 0)], []) = some (m1, some (0, gv_f (z_and (s_G w h (hr_A w h heat price (c_ml cs) (wmD D (B 35)) n B)) F) 9 0)) := hv
      have eo : o_gv (x : Int) = ((x + 1 : Nat) : Int) := (if_neg (by omega)).trans (by omega)
      rw [if_neg c1, if_neg c1, if_neg c1, p_fst_0, hv, zb_v, p_giv_62, c_tell2, zb_n, p_giv_74, eo]
      refine ⟨_, rfl, ?_⟩
      rw [← a8]
      exact c_rw_2
theorem W_gives (hi : C_is w h n heat price D A c U kn KS cs m) (hN : w_N w h n heat D) (hok : hr_ok n A) (ht : 0 ≤ A 35 ∧ A 35 ≤ 1073741824) (k6 : z_w (m 24 6) = m 24 6) (k9 : z_w (m 24 9) = m 24 9) : ∃ m1, z_R 91 (m, 0, [(2, 0), (9, 0), (9, 0), (9, 0)], []) = some (m1, some (0, o_gv (s_sta w h n heat price cs D (s_F w h A) 100 100 0 A))) ∧ c_rw m m1 (gv_r w h n heat price cs D (s_F w h A) 100 A) := by
  obtain ⟨m2, b1, b2, b3⟩ := c_become z_st_12 z_st_18 (by decide) m
  have b1 : z_R 61 (m, 0, [(2, 18), (2, 12)], []) = some (m2, none) := b1
  have hC2 : C_is w h n heat price D A c U kn KS cs m2 := C_fr hi fun p k hk => by
    have hk' := hk
    unfold C_hit at hk'
    have hk' := of_decide_eq_true hk'
    exact b3.of (by (try unfold r_LHs); (repeat' (first | exact trivial | refine z_of_c ?_ ?_)) <;> omega)
  have hA2 : cS m2 18 n = A := (cS_cR b2).trans hi.2.2.1
  have j6 : m2 24 6 = m 24 6 := b3.of (by (try unfold r_LHs); (repeat' (first | exact trivial | refine z_of_c ?_ ?_)) <;> omega)
  have j9 : m2 24 9 = m 24 9 := b3.of (by (try unfold r_LHs); (repeat' (first | exact trivial | refine z_of_c ?_ ?_)) <;> omega)
  have e := C_flo (w := w) (h := h) (n := n) hC2.1.1 hC2.1.2.1 hA2 9 0 0 (by decide)
  have e : z_R 92 (m2, 4, [(2, 3), (2, 18), (0, 0), (0, 0)], []) = some (m2, some (0, s_F w h A)) := e
  obtain ⟨m3, c1, c2⟩ := W_giv1 (mz := m) (F := s_F w h A) hN 100 0 (9, 0) m2 A (by decide) hC2 hA2 hok ht.1 (by omega) (by rw [j6]; exact k6) (by rw [j9]; exact k9) (c_rw_fr c_rw_id (b3.of (by (try unfold r_LHs); (repeat' (first | exact trivial | refine z_of_c ?_ ?_)) <;> omega)) (fun i _ => b3.of (by (try unfold r_LHs); (repeat' (first | exact trivial | refine z_of_c ?_ ?_)) <;> omega)))
  have c1 : z_R 91 (m2, 25, [(2, 0), (0, s_F w h A), (0, 1), (9, 0)], []) = some (m3, some (0, o_gv (s_sta w h n heat price cs D (s_F w h A) 100 100 0 A))) := c1
  rw [p_giv_0, b1, zb_n, p_giv_11, p_flo_0, e, zb_v, p_giv_22, c1]
  exact ⟨m3, rfl, c2⟩
theorem V_lt {m2 : z_M} (b1 : z_R 219 (m, 0, [(2, 251)], []) = some (m2, none)) : ∀ q j, ¬ q = 264 → m2 q j = m q j := fun q j hq => by
  obtain ⟨m2', d1, -, d3⟩ := t_layd (a := 252) (q := 264) (B := 0) t_lay264_0 t_lay264_2 (by decide) (b := 0) (by decide) m
  have d1 : z_R 198 (m, 0, [(2, 252), (2, 264), (0, 0), (9, 0)], []) = some (m2', none) := d1
  have e : z_R 219 (m, 0, [(2, 251)], []) = some (m2', none) := by rw [q_lt_0, d1, zb_n, q_lt_12]
  rw [b1] at e
  have e := congrArg Prod.fst (Option.some.inj e)
  have e : m2 = m2' := e
  rw [e]
  exact d3 q j (fun z => hq z.1)
theorem V_sta1 {F : Int} {N : Nat} (hN6 : N ≤ 1000) (hN : w_N w h n heat D) : ∀ (f x : Nat) (m : z_M) (B : Nat → Int), x + f = N → R_is w h n heat price D A c U kn KS cs m → rS m 264 n = B → hr_ok n B → 0 ≤ B 35 → B 35 + (f : Int) ≤ 2147483647 → ∃ m1, z_R 221 (m, 7, [(2, 251), (0, (N : Int)), (0, F), (0, (x : Int))], []) = some (m1, some (0, s_sta w h n heat price cs D F N f x B)) ∧ z_same (r_LHs 264) m m1 ∧ ∀ l, gv_r w h n heat price cs D F f B = some l → l = [z_i2l (gv_f (z_and (s_G w h (rS m1 264 n)) F) 9 0), z_i2l (m1 251 30)] ∧ ¬ z_and (s_G w h (rS m1 264 n)) F = 0 := by
  intro f
  induction f with
  | zero =>
    intro x m B hx hi hB hok ht ht2
    rw [q_sta_7, if_pos (by omega)]
    exact ⟨m, rfl, z_same.rf, fun l hl => by
      have hl : (none : Option (List Int)) = some l := hl
      cases hl⟩
  | succ f ih =>
    intro x m B hx hi hB hok ht ht2
    obtain ⟨m1, a1, a2, a3, a4, a5, a6, a7⟩ := r_hour (a := 264) z_A_264 (Or.inr rfl) hN.1.1 hN.1.2.1 (price := price) ⟨hN.1.2.2, hN.2.1, c_ml_ok cs, hN.2.2⟩ m (R_cfg hi) hB hok ht (by omega)
    have a1 : z_R 208 (m, 0, [(2, 251), (2, 264), (9, 0), (9, 0), (9, 0)], []) = some (m1, none) := a1
    have s1 : z_same (r_LHs 264) m m1 := a7.subo (by (try unfold r_LHs); (repeat' (first | exact trivial | refine z_sbo_c ?_ ?_)) <;> (intro k h1 h2; first | exact z_on_h rfl (by omega) (by omega) | exact z_on_t (z_on_h rfl (by omega) (by omega)) | exact z_on_t (z_on_t (z_on_h rfl (by omega) (by omega))) | exact z_on_t (z_on_t (z_on_t (z_on_h rfl (by omega) (by omega)))) | exact z_on_t (z_on_t (z_on_t (z_on_t (z_on_h rfl (by omega) (by omega))))) | exact z_on_t (z_on_t (z_on_t (z_on_t (z_on_t (z_on_h rfl (by omega) (by omega)))))) | exact z_on_t (z_on_t (z_on_t (z_on_t (z_on_t (z_on_t (z_on_h rfl (by omega) (by omega))))))) | exact z_on_t (z_on_t (z_on_t (z_on_t (z_on_t (z_on_t (z_on_t (z_on_h rfl (by omega) (by omega)))))))) | exact z_on_t (z_on_t (z_on_t (z_on_t (z_on_t (z_on_t (z_on_t (z_on_t (z_on_h rfl (by omega) (by omega))))))))) | exact z_on_t (z_on_t (z_on_t (z_on_t (z_on_t (z_on_t (z_on_t (z_on_t (z_on_t (z_on_h rfl (by omega) (by omega)))))))))) | exact z_on_t (z_on_t (z_on_t (z_on_t (z_on_t (z_on_t (z_on_t (z_on_t (z_on_t (z_on_t (z_on_h rfl (by omega) (by omega))))))))))) | exact z_on_t (z_on_t (z_on_t (z_on_t (z_on_t (z_on_t (z_on_t (z_on_t (z_on_t (z_on_t (z_on_t (z_on_h rfl (by omega) (by omega)))))))))))) | exact z_on_t (z_on_t (z_on_t (z_on_t (z_on_t (z_on_t (z_on_t (z_on_t (z_on_t (z_on_t (z_on_t (z_on_t (z_on_h rfl (by omega) (by omega)))))))))))))))
    have hR1 := R_off264 hi s1
    have hv := R_tha (w := w) (h := h) (n := n) hR1.1.1 hR1.1.2.1 a2 9 0 0 (by decide) (by decide +kernel)
    have hv : z_R 223 (m1, 4, [(2, 251), (2, 264), (0, 0), (0, 0)], []) = some (m1, some (0, s_G w h (hr_A w h heat price (c_ml cs) (wmD D (B 35)) n B))) := hv
    rw [q_sta_7, if_neg (by omega), a1, zb_n, q_sta_20, q_tha_0, hv, zb_v, q_sta_28, z_add_eq (by omega) (by omega), tc1]
    unfold s_sta
    by_cases c1 : z_and (s_G w h (hr_A w h heat price (c_ml cs) (wmD D (B 35)) n B)) F = 0
    · rw [if_pos c1, if_pos c1]
      have hok' := hr_A_ok (price := price) hN.1.1 hN.1.2.1 hN.1.2.2 hN.2.1 (c_ml_ok cs) (hN.2.2 (B 35) ht) hok
      have e35 : hr_A w h heat price (c_ml cs) (wmD D (B 35)) n B 35 = B 35 + 1 := by rw [hr_A_35 hN.1.1 hN.1.2.1 hN.1.2.2, z_add_eq (by omega) (by omega)]
      obtain ⟨m2, b1, b2, b3⟩ := ih (x + 1) m1 _ (by omega) hR1 a2 hok' (by rw [e35]; omega) (by rw [e35]; omega)
      exact ⟨m2, b1, s1.tr b2, fun l hl => b3 l (by
        unfold gv_r at hl
        rw [if_pos c1] at hl
        exact hl)⟩
    · rw [if_neg c1, if_neg c1]
      exact ⟨m1, rfl, s1, fun l hl => by
        unfold gv_r at hl
        rw [if_neg c1] at hl
        rw [← Option.some.inj hl, a2, a5]
        exact ⟨rfl, c1⟩⟩
theorem V_gives (hi : R_is w h n heat price D A c U kn KS cs m) (hN : w_N w h n heat D) (hok : hr_ok n A) (ht : 0 ≤ A 35 ∧ A 35 ≤ 1073741824) : ∃ m1 v, z_R 220 (m, 0, [(2, 251), (9, 0)], []) = some (m1, some (0, v)) ∧ r_rw m m1 (gv_r w h n heat price cs D (s_F w h A) 100 A) := by
  have hu := R_upn (p0 := 251) (k0 := 11) (v := 0) hi (by decide)
  have hw : r_rw m (z_up m 251 11 0) none := r_rw_11
  rw [p_tgi_0]
  generalize z_up m 251 11 0 = m0 at hu hw ⊢
  obtain ⟨m2, b1, b2, b3⟩ := R_lt hu
  have f2 := V_lt b1
  have hv := R_ice (w := w) (h := h) (n := n) b2.1.1 b2.1.2.1 b2.2.2.1 9 0 0 (by decide) (by decide +kernel)
  have hv : z_R 222 (m2, 4, [(2, 251), (0, 0), (0, 0)], []) = some (m2, some (0, s_F w h A)) := hv
  obtain ⟨m3, c1, c2, c3⟩ := V_sta1 (F := s_F w h A) (N := 100) (by decide) hN 100 0 m2 A (by decide) b2 b3 hok ht.1 (by omega)
  have c1 : z_R 221 (m2, 7, [(2, 251), (0, 100), (0, s_F w h A), (0, 0)], []) = some (m3, some (0, s_sta w h n heat price cs D (s_F w h A) 100 100 0 A)) := c1
  have c4 : z_R 221 (m2, 0, [(2, 251), (0, 100), (9, 0), (9, 0)], []) = some (m3, some (0, s_sta w h n heat price cs D (s_F w h A) 100 100 0 A)) := by rw [q_sta_0, q_ice_0, hv, zb_v, q_sta_4, c1]
  have hR3 := R_off264 b2 c2
  have hw3 : r_rw m m3 none := r_rw_fr (r_rw_fr hw (f2 251 10 (by decide)) (fun i _ => f2 255 i (by decide))) (c2.of (by (try unfold r_LHs); (repeat' (first | exact trivial | refine z_of_c ?_ ?_)) <;> omega)) (fun i _ => c2.of (by (try unfold r_LHs); (repeat' (first | exact trivial | refine z_of_c ?_ ?_)) <;> omega))
  have hx := s_sta_x (w := w) (h := h) (n := n) (heat := heat) (price := price) (cs := cs) (D := D) (F := s_F w h A) 100 0 A rfl
  rw [b1, zb_n, p_tgi_9, c4, zb_v, p_tgi_15]
  rcases gv_sta (w := w) (h := h) (n := n) (heat := heat) (price := price) (cs := cs) (D := D) (F := s_F w h A) (N := 100) 100 0 A rfl with ⟨z, zn⟩ | ⟨z, l, zl⟩
  · have z : s_sta w h n heat price cs D (s_F w h A) 100 100 0 A = 100 := z
    rw [if_pos z]
    exact ⟨m3, _, rfl, r_rw_m hw3 zn⟩
  · have z : ¬ s_sta w h n heat price cs D (s_F w h A) 100 100 0 A = 100 := z
    obtain ⟨y1, y2⟩ := c3 l zl
    have hR4 := R_upn (p0 := 251) (k0 := 10) (v := 0) hR3 (by decide)
    have k10 : (z_up m3 251 10 0) 251 10 = ((0 : Nat) : Int) := zu_self
    have k30 : (z_up m3 251 10 0) 251 30 = m3 251 30 := zu_k (by decide)
    have k264 : rS (z_up m3 251 10 0) 264 n = rS m3 264 n := rS_row (zu_rowne (by decide))
    rw [if_neg z]
    generalize s_sta w h n heat price cs D (s_F w h A) 100 100 0 A = s at hx ⊢
    generalize z_up m3 251 10 0 = m4 at hR4 k10 k30 k264 ⊢
    have h1 := R_tha (w := w) (h := h) (n := n) hR4.1.1 hR4.1.2.1 k264 9 0 0 (by decide) (by decide +kernel)
    have h1 : z_R 223 (m4, 4, [(2, 251), (2, 264), (0, 0), (0, 0)], []) = some (m4, some (0, s_G w h (rS m3 264 n))) := h1
    have h2 := R_ice (w := w) (h := h) (n := n) hR4.1.1 hR4.1.2.1 hR4.2.2.1 9 0 0 (by decide) (by decide +kernel)
    have h2 : z_R 222 (m4, 4, [(2, 251), (0, 0), (0, 0)], []) = some (m4, some (0, s_F w h A)) := h2
    have bF : 0 ≤ s_F w h A ∧ s_F w h A < 512 := s_bt_b 9 0 0 (by decide) ⟨by decide, by decide⟩
    have bA := gv_and (a := s_G w h (rS m3 264 n)) bF
    have eN : gv_nz (z_and (s_G w h (rS m3 264 n)) (s_F w h A)) = gv_f (z_and (s_G w h (rS m3 264 n)) (s_F w h A)) 9 0 := by
      generalize z_and (s_G w h (rS m3 264 n)) (s_F w h A) = a at bA y2
      obtain ⟨k, rfl⟩ : ∃ k : Nat, a = (k : Int) := ⟨a.toNat, by omega⟩
      exact gv_nz_ok k (by omega) (by omega)
    rw [q_tha_0, h1, zb_v, p_tgi_39, q_ice_0, h2, zb_v, p_tgi_43, gv_ntz, zb_v, p_tgi_47, t_tell (j := 0) _ _ (by decide) k10, zb_n, p_tgi_51, t_tell (j := 1) _ _ (by decide) zu_self, zb_n, p_tgi_60]
    refine ⟨_, _, rfl, r_rw_s zl ?_⟩
    rw [y1, ← eN]
    refine r_rw_2 rfl rfl (congrArg z_i2l ?_)
    rw [zu_k (by decide), zu_p (by decide), k30]
/-! burden -/
def o_bv (S : Nat → Int) : List Nat → Int → Int
  | [], v => v
  | p :: l, v => if v < S p then o_bv S l (S p) else o_bv S l v
def ro_bu (w h n : Nat) (heat price : Int) (cs : List Int) (D A : Nat → Int) (l : List Nat) (b v : Int) : Option (List Int) := if o_bu (o_S w h n heat price cs D A) l b v = -1 then none else some [z_i2l (o_bv (o_S w h n heat price cs D A) l v), z_i2l (s_sta w h n heat price cs D (s_F w h A) 100 100 0 A)]
theorem W_bur1 {mz : z_M} (hN : w_N w h n heat D) (hok : hr_ok n A) (ht : 0 ≤ A 35 ∧ A 35 ≤ 1073741824) : ∀ (f x : Nat) (b v : Int) (v4 : z_V) (m : z_M), x + f = n → C_is w h n heat price D A c U kn KS cs m → z_w (m 24 6) = m 24 6 → z_w (m 24 9) = m 24 9 → (b = -1 → v = -1 ∧ c_rw mz m none) → ∃ m1, z_R 115 (m, 6, [(2, 0), (0, v), (0, b), (0, (x : Int)), v4], []) = some (m1, some (0, o_bud w h n heat price cs D A (o_ls A f x) b v)) ∧ c_rw mz m1 (ro_bu w h n heat price cs D A (o_ls A f x) b v) := by
  have h5 := hN.1.2.2
  -- the State without one, laid beside
  have lay : ∀ (m : z_M), C_is w h n heat price D A c U kn KS cs m → ∃ m2, z_R 61 (m, 0, [(2, 18), (2, 12)], []) = some (m2, none) ∧ C_is w h n heat price D A c U kn KS cs m2 ∧ cS m2 18 n = A ∧ m2 24 6 = m 24 6 ∧ m2 24 9 = m 24 9 := by
    intro m hi
    obtain ⟨m2, b1, b2, b3⟩ := c_become z_st_12 z_st_18 (by decide) m
    exact ⟨m2, b1, C_fr hi fun p k hk => by
      have hk' := hk
      unfold C_hit at hk'
      have hk' := of_decide_eq_true hk'
      exact b3.of (by (try unfold r_LHs); (repeat' (first | exact trivial | refine z_of_c ?_ ?_)) <;> omega), (cS_cR b2).trans hi.2.2.1, b3.of (by (try unfold r_LHs); (repeat' (first | exact trivial | refine z_of_c ?_ ?_)) <;> omega), b3.of (by (try unfold r_LHs); (repeat' (first | exact trivial | refine z_of_c ?_ ?_)) <;> omega)⟩
  intro f
  induction f with
  | zero =>
    intro x b v v4 m hx hi k6 k9 hz
    have e11 := hi.1.2.2.1
    rw [b_bur_6 m v b x v4 (by omega), e11, if_pos (by omega)]
    show ∃ m1, _ = some (m1, some (0, if b = -1 then -2 else b)) ∧ c_rw mz m1 (if b = -1 then none else some [z_i2l v, z_i2l (s_sta w h n heat price cs D (s_F w h A) 100 100 0 A)])
    by_cases z : b = -1
    · rw [if_pos z, if_pos z, if_pos z]
      exact ⟨m, rfl, (hz z).2⟩
    · obtain ⟨m2, b1, b2, b3, b4, b5⟩ := lay m hi
      obtain ⟨m3, c1, c2, -, -⟩ := C_stand hN hok ht b2 b3 (by rw [b4]; exact k6) (by rw [b5]; exact k9) (N := 100) (by decide)
      have c1 : z_R 96 (m2, 0, [(2, 24), (2, 18), (0, 100)], []) = some (m3, some (0, s_sta w h n heat price cs D (s_F w h A) 100 100 0 A)) := c1
      rw [if_neg z, if_neg z, if_neg z, b1, zb_n, b_bur_102, c1, zb_v, b_bur_118, c_tell2, zb_n, b_bur_122]
      exact ⟨_, rfl, c_rw_2⟩
  | succ f ih =>
    intro x b v v4 m hx hi k6 k9 hz
    have e11 := hi.1.2.2.1
    have e15 : m 15 x = A (x + 18) := C_A3 hi (by omega) h5
    rw [b_bur_6 m v b x v4 (by omega), e11, if_neg (by omega), if_pos (show 0 ≤ (x : Int) ∧ (x : Int) < 5 by omega), Int.toNat_natCast, e15, tc1]
    unfold o_ls
    by_cases z : A (x + 18) = -1
    · rw [if_pos z, if_pos z]
      exact ih (x + 1) b v v4 m (by omega) hi k6 k9 hz
    · obtain ⟨m2, b1, b2, b3, b4, b5⟩ := lay m hi
      have hC3 : C_is w h n heat price D A c U kn KS cs (z_up m2 21 x (-1)) := C_upn b2 (by
        have : ∀ x, x < 5 → C_hit 21 x x = false := by decide +kernel
        exact this x (by omega))
      have hA3 : cS (z_up m2 21 x (-1)) 18 n = u_up A (x + 18) (-1) := by
        have e := cS_up3 (m := m2) (s := 18) (j := x) (v := -1) (n := (n : Int)) (by omega) (by omega)
        rw [b3] at e
        exact e
      have j6 : (z_up m2 21 x (-1)) 24 6 = m 24 6 := (zu_p (by decide)).trans b4
      have j9 : (z_up m2 21 x (-1)) 24 9 = m 24 9 := (zu_p (by decide)).trans b5
      rw [if_neg z, if_neg z, b1, zb_n, b_bur_41, if_pos (show 0 ≤ (x : Int) ∧ (x : Int) < 5 by omega), Int.toNat_natCast]
      generalize z_up m2 21 x (-1) = m3 at hC3 hA3 j6 j9 ⊢
      have hok3 : hr_ok n (u_up A (x + 18) (-1)) := hr_ok_up hok (by omega) (fun z => by omega) (fun p h1 h2 => by decide)
      have h35 : u_up A (x + 18) (-1) 35 = A 35 := u_up_ne (by omega)
      obtain ⟨m4, c1, c2, c3, c4⟩ := C_stand hN hok3 (by rw [h35]; exact ht) hC3 hA3 (by rw [j6]; exact k6) (by rw [j9]; exact k9) (N := 100) (by decide)
      rw [s_F_18] at c1
      have c1 : z_R 96 (m3, 0, [(2, 24), (2, 18), (0, 100)], []) = some (m4, some (0, o_S w h n heat price cs D A x)) := c1
      rw [c1, zb_v, b_bur_64, z_add_eq (x := (x : Int)) (y := 1) (by omega) (by omega), tc1]
      have eo : ∀ b v, o_bu (o_S w h n heat price cs D A) (x :: o_ls A f (x + 1)) b v = if v < o_S w h n heat price cs D A x then o_bu (o_S w h n heat price cs D A) (o_ls A f (x + 1)) (x : Int) (o_S w h n heat price cs D A x) else o_bu (o_S w h n heat price cs D A) (o_ls A f (x + 1)) b v := fun _ _ => rfl
      have eb : o_bud w h n heat price cs D A (x :: o_ls A f (x + 1)) b v = if v < o_S w h n heat price cs D A x then o_bud w h n heat price cs D A (o_ls A f (x + 1)) (x : Int) (o_S w h n heat price cs D A x) else o_bud w h n heat price cs D A (o_ls A f (x + 1)) b v := by
        unfold o_bud
        rw [eo]
        by_cases y : v < o_S w h n heat price cs D A x
        · rw [if_pos y, if_pos y]
        · rw [if_neg y, if_neg y]
      have eb2 : ro_bu w h n heat price cs D A (x :: o_ls A f (x + 1)) b v = if v < o_S w h n heat price cs D A x then ro_bu w h n heat price cs D A (o_ls A f (x + 1)) (x : Int) (o_S w h n heat price cs D A x) else ro_bu w h n heat price cs D A (o_ls A f (x + 1)) b v := by
        unfold ro_bu
        rw [eo, show o_bv (o_S w h n heat price cs D A) (x :: o_ls A f (x + 1)) v = if v < o_S w h n heat price cs D A x then o_bv (o_S w h n heat price cs D A) (o_ls A f (x + 1)) (o_S w h n heat price cs D A x) else o_bv (o_S w h n heat price cs D A) (o_ls A f (x + 1)) v from rfl]
        by_cases y : v < o_S w h n heat price cs D A x
        · rw [if_pos y, if_pos y, if_pos y]
        · rw [if_neg y, if_neg y, if_neg y]
      have nn := o_S_nn (w := w) (h := h) (n := n) (heat := heat) (price := price) (cs := cs) (D := D) (A := A) (p := x)
      rw [eb, eb2]
      by_cases y : o_S w h n heat price cs D A x ≤ v
      · rw [if_pos y, if_neg (show ¬ v < o_S w h n heat price cs D A x by omega), if_neg (show ¬ v < o_S w h n heat price cs D A x by omega)]
        exact ih (x + 1) b v _ m4 (by omega) c2 c3 c4 (fun e => by
          have := (hz e).1
          omega)
      · rw [if_neg y, if_pos (show v < o_S w h n heat price cs D A x by omega), if_pos (show v < o_S w h n heat price cs D A x by omega)]
        exact ih (x + 1) x _ _ m4 (by omega) c2 c3 c4 (fun e => by omega)
theorem W_burden (hi : C_is w h n heat price D A c U kn KS cs m) (hN : w_N w h n heat D) (hok : hr_ok n A) (ht : 0 ≤ A 35 ∧ A 35 ≤ 1073741824) (k6 : z_w (m 24 6) = m 24 6) (k9 : z_w (m 24 9) = m 24 9) : ∃ m1, z_R 115 (m, 0, [(2, 0), (9, 0), (9, 0), (9, 0), (9, 0)], []) = some (m1, some (0, o_bud w h n heat price cs D A (o_ls A n 0) (-1) (-1))) ∧ c_rw m m1 (ro_bu w h n heat price cs D A (o_ls A n 0) (-1) (-1)) := by
  rw [b_bur_0]
  exact W_bur1 hN hok ht n 0 (-1) (-1) (9, 0) m (by omega) hi k6 k9 (fun _ => ⟨rfl, c_rw_id⟩)
theorem V_bur1 {mz : z_M} {x1 : Int} (hN : w_N w h n heat D) (hok : hr_ok n A) (ht : 0 ≤ A 35 ∧ A 35 ≤ 1073741824) : ∀ (l : List Nat) (k : Nat) (b v : Int) (v5 : z_V) (m : z_M), k + l.length ≤ 5 → (∀ p ∈ l, p < n) → R_is w h n heat price D A c U kn KS cs m → m 251 39 = ((k + l.length : Nat) : Int) → o_hl m k l → ∃ m1, z_R 238 (m, 37, [(2, 251), (0, x1), (0, b), (0, v), (0, (k : Int)), v5], []) = some (m1, some (0, o_bu (o_S w h n heat price cs D A) l b v)) ∧ r_rw mz m1 (some [z_i2l (o_bv (o_S w h n heat price cs D A) l v), z_i2l x1]) := by
  have h5 := hN.1.2.2
  intro l
  induction l with
  | nil =>
    intro k b v v5 m hk hp hi h39 hl
    have h39 : m 251 39 = (k : Int) := h39
    rw [b_tbu_37, h39, if_pos (Int.le_refl _), t_tell0, zb_n, b_tbu_111, t_tell1, zb_n, b_tbu_117]
    exact ⟨_, rfl, r_rw_2 rfl rfl rfl⟩
  | cons p l ih =>
    intro k b v v5 m hk hp hi h39 hl
    have hk : k + (l.length + 1) ≤ 5 := hk
    have h39 : m 251 39 = ((k + (l.length + 1) : Nat) : Int) := h39
    have hpn := hp p List.mem_cons_self
    obtain ⟨m2, b1, b2, b3⟩ := R_lt hi
    have f2 : ∀ q j, ¬ (q = 264) → m2 q j = m q j := fun q j hq => by
      obtain ⟨m2', d1, -, d3⟩ := t_layd (a := 252) (q := 264) (B := 0) t_lay264_0 t_lay264_2 (by decide) (b := 0) (by decide) m
      have d1 : z_R 198 (m, 0, [(2, 252), (2, 264), (0, 0), (9, 0)], []) = some (m2', none) := d1
      have e : z_R 219 (m, 0, [(2, 251)], []) = some (m2', none) := by rw [q_lt_0, d1, zb_n, q_lt_12]
      rw [b1] at e
      have e := congrArg Prod.fst (Option.some.inj e)
      have e : m2 = m2' := e
      rw [e]
      exact d3 q j (fun z => hq z.1)
    have g265 : m2 265 k = (p : Int) := (f2 265 k (by decide)).trans hl.1
    have hR3 : R_is w h n heat price D A c U kn KS cs (z_up m2 264 (p + 18) (-1)) := R_upn b2 (by
      have : ∀ p, p < 5 → R_hit 264 (p + 18) (p + 18) = false := by decide +kernel
      exact this p (by omega))
    have hA3 : rS (z_up m2 264 (p + 18) (-1)) 264 n = u_up A (p + 18) (-1) := by rw [rS_up (by omega) (a_vis_p (b := 18) (p := p) (by omega) (by omega) (by omega) (by omega)), b3]
    have f3 : ∀ q j, ¬ (q = 264) → (z_up m2 264 (p + 18) (-1)) q j = m q j := fun q j hq => (zu_p hq).trans (f2 q j hq)
    rw [b_tbu_37, h39, if_neg (by omega), b1, zb_n, b_tbu_50, if_pos (show 0 ≤ (k : Int) ∧ (k : Int) < 5 by omega), Int.toNat_natCast, g265, z_add_eq (x := 18) (y := (p : Int)) (by omega) (by omega), if_pos (show 0 ≤ 18 + (p : Int) ∧ 18 + (p : Int) < 37 by omega), show (18 + (p : Int)).toNat = p + 18 by omega]
    generalize z_up m2 264 (p + 18) (-1) = m3 at hR3 hA3 f3 ⊢
    have hok3 : hr_ok n (u_up A (p + 18) (-1)) := hr_ok_up hok (by omega) (fun z => by omega) (fun p h1 h2 => by decide)
    have h35 : u_up A (p + 18) (-1) 35 = A 35 := u_up_ne (by omega)
    obtain ⟨v0, hv0⟩ := q_iceq 9 0 0 m3 (by decide)
    have hv := R_ice (w := w) (h := h) (n := n) hR3.1.1 hR3.1.2.1 hR3.2.2.1 9 0 0 (by decide) (by decide +kernel)
    have hv : z_R 222 (m3, 4, [(2, 251), (0, 0), (0, 0)], []) = some (m3, some (0, s_F w h A)) := hv
    obtain ⟨m4, c1, c2⟩ := R_sta1 (F := s_F w h A) (N := 100) (by decide) hN 100 0 m3 (u_up A (p + 18) (-1)) (by decide) hR3 hA3 hok3 (by rw [h35]; exact ht.1) (by rw [h35]; omega)
    have c1 : z_R 221 (m3, 7, [(2, 251), (0, 100), (0, s_F w h A), (0, 0)], []) = some (m4, some (0, o_S w h n heat price cs D A p)) := c1
    have c3 : z_R 221 (m3, 0, [(2, 251), (0, 100), (9, 0), (9, 0)], []) = some (m4, some (0, o_S w h n heat price cs D A p)) := by rw [q_sta_0, q_ice_0, hv, zb_v, q_sta_4, c1]
    have hR4 := R_off264 hR3 c2
    have f4 : ∀ j, m4 265 j = m 265 j := fun j => (c2.of (by (try unfold r_LHs); (repeat' (first | exact trivial | refine z_of_c ?_ ?_)) <;> omega)).trans (f3 265 j (by decide))
    have g39 : m4 251 39 = ((k + 1 + l.length : Nat) : Int) := by
      rw [c2.of (p := 251) (k := 39) (by (try unfold r_LHs); (repeat' (first | exact trivial | refine z_of_c ?_ ?_)) <;> omega), f3 251 39 (by decide), h39]
      omega
    rw [c3, zb_v, b_tbu_72, if_pos (show 0 ≤ (k : Int) ∧ (k : Int) < 5 by omega), Int.toNat_natCast, f4 k, hl.1, z_add_eq (x := (k : Int)) (y := 1) (by omega) (by omega), tc1]
    unfold o_bu o_bv
    by_cases y : v < o_S w h n heat price cs D A p
    · rw [if_pos y, if_pos y, if_pos y]
      exact ih (k + 1) p _ _ m4 (by omega) (fun q hq => hp q (List.mem_cons_of_mem _ hq)) hR4 g39 (o_hl_fr l (k + 1) hl.2 f4)
    · rw [if_neg y, if_neg y, if_neg y]
      exact ih (k + 1) b v _ m4 (by omega) (fun q hq => hp q (List.mem_cons_of_mem _ hq)) hR4 g39 (o_hl_fr l (k + 1) hl.2 f4)
theorem V_burden (hi : R_is w h n heat price D A c U kn KS cs m) (hN : w_N w h n heat D) (hok : hr_ok n A) (ht : 0 ≤ A 35 ∧ A 35 ≤ 1073741824) : ∃ m1, z_R 238 (m, 0, [(2, 251), (9, 0), (9, 0), (9, 0), (9, 0), (9, 0)], []) = some (m1, some (0, o_bud w h n heat price cs D A (o_ls A n 0) (-1) (-1))) ∧ r_rw m m1 (ro_bu w h n heat price cs D A (o_ls A n 0) (-1) (-1)) := by
  have hu := R_upn (p0 := 251) (k0 := 39) (v := 0) (R_upn (p0 := 251) (k0 := 11) (v := 0) hi (by decide)) (by decide)
  have hw : r_rw m (z_up (z_up m 251 11 0) 251 39 0) none := r_rw_fr r_rw_11 (zu_k (by decide)) (fun _ _ => zu_p (by decide))
  have g0 : (z_up (z_up m 251 11 0) 251 39 0) 251 39 = ((0 : Nat) : Int) := zu_self
  rw [b_tbu_0, b_fl_0]
  generalize z_up (z_up m 251 11 0) 251 39 0 = m0 at hu g0 hw ⊢
  obtain ⟨m1, a1, a2, a3, a4⟩ := R_fl1 hN.1.2.2 n 0 0 m0 (by omega) (Nat.le_refl _) hu g0
  have a1 : z_R 228 (m0, 7, [(2, 251), (0, 0)], []) = some (m1, none) := a1
  rw [Nat.zero_add] at a2
  have hR1 : R_is w h n heat price D A c U kn KS cs m1 := R_fr hu fun p k hk => by
    have hk' := hk
    unfold R_hit at hk'
    have hk' := of_decide_eq_true hk'
    exact a4 p k (by omega) (by omega)
  have hlen := o_ls_len (A := A) n 0
  have h5 := hN.1.2.2
  rw [a1, zb_n, b_tbu_9, a2]
  generalize hL : o_ls A n 0 = L at a2 a3 hlen ⊢
  cases L with
  | nil =>
    have e : o_bud w h n heat price cs D A [] (-1) (-1) = -2 := if_pos rfl
    rw [if_pos (show ((([] : List Nat).length : Nat) : Int) = 0 from rfl), e]
    exact ⟨m1, rfl, r_rw_m (r_rw_fr hw (a4 251 10 (by decide) (by decide)) (fun i _ => a4 255 i (by omega) (by omega))) (if_pos rfl)⟩
  | cons p l =>
    have hS := o_S_nn (w := w) (h := h) (n := n) (heat := heat) (price := price) (cs := cs) (D := D) (A := A) (p := p)
    have e0 : o_bu (o_S w h n heat price cs D A) (p :: l) (-1) (-1) = o_bu (o_S w h n heat price cs D A) l (p : Int) (o_S w h n heat price cs D A p) := if_pos (by omega)
    have e1 := o_bu_nn (S := o_S w h n heat price cs D A) l (p : Int) (o_S w h n heat price cs D A p) (by omega)
    have e : o_bud w h n heat price cs D A (p :: l) (-1) (-1) = o_bu (o_S w h n heat price cs D A) (p :: l) (-1) (-1) := if_neg (by rw [e0]; omega)
    obtain ⟨m2, b1, b2, b3⟩ := R_lt hR1
    have f2 : ∀ q j, ¬ (q = 264) → m2 q j = m1 q j := fun q j hq => by
      obtain ⟨m2', d1, -, d3⟩ := t_layd (a := 252) (q := 264) (B := 0) t_lay264_0 t_lay264_2 (by decide) (b := 0) (by decide) m1
      have d1 : z_R 198 (m1, 0, [(2, 252), (2, 264), (0, 0), (9, 0)], []) = some (m2', none) := d1
      have e : z_R 219 (m1, 0, [(2, 251)], []) = some (m2', none) := by rw [q_lt_0, d1, zb_n, q_lt_12]
      rw [b1] at e
      have e := congrArg Prod.fst (Option.some.inj e)
      have e : m2 = m2' := e
      rw [e]
      exact d3 q j (fun z => hq z.1)
    have hv := R_ice (w := w) (h := h) (n := n) b2.1.1 b2.1.2.1 b2.2.2.1 9 0 0 (by decide) (by decide +kernel)
    have hv : z_R 222 (m2, 4, [(2, 251), (0, 0), (0, 0)], []) = some (m2, some (0, s_F w h A)) := hv
    obtain ⟨m3, c1, c2⟩ := R_sta1 (F := s_F w h A) (N := 100) (by decide) hN 100 0 m2 A (by decide) b2 b3 hok ht.1 (by omega)
    have c1 : z_R 221 (m2, 7, [(2, 251), (0, 100), (0, s_F w h A), (0, 0)], []) = some (m3, some (0, s_sta w h n heat price cs D (s_F w h A) 100 100 0 A)) := c1
    have c3 : z_R 221 (m2, 0, [(2, 251), (0, 100), (9, 0), (9, 0)], []) = some (m3, some (0, s_sta w h n heat price cs D (s_F w h A) 100 100 0 A)) := by rw [q_sta_0, q_ice_0, hv, zb_v, q_sta_4, c1]
    have hR3 := R_off264 b2 c2
    have f3 : ∀ j, m3 265 j = m1 265 j := fun j => (c2.of (by (try unfold r_LHs); (repeat' (first | exact trivial | refine z_of_c ?_ ?_)) <;> omega)).trans (f2 265 j (by decide))
    have g39 : m3 251 39 = (((p :: l).length : Nat) : Int) := by rw [c2.of (p := 251) (k := 39) (by (try unfold r_LHs); (repeat' (first | exact trivial | refine z_of_c ?_ ?_)) <;> omega), f2 251 39 (by decide), a2]
    obtain ⟨m4, d1, d2⟩ := V_bur1 (mz := m) (x1 := s_sta w h n heat price cs D (s_F w h A) 100 100 0 A) hN hok ht (p :: l) 0 (-1) (-1) (9, 0) m3 (by omega) (fun q hq => by have := hlen.2 q hq; omega) hR3 (by rw [Nat.zero_add]; exact g39) (o_hl_fr (p :: l) 0 a3 f3)
    have d1 : z_R 238 (m3, 37, [(2, 251), (0, s_sta w h n heat price cs D (s_F w h A) 100 100 0 A), (0, -1), (0, -1), (0, 0), (9, 0)], []) = some (m4, some (0, o_bu (o_S w h n heat price cs D A) (p :: l) (-1) (-1))) := d1
    have hn0 : ¬ (((p :: l).length : Nat) : Int) = 0 := by
      show ¬ ((l.length + 1 : Nat) : Int) = 0
      omega
    have er : ro_bu w h n heat price cs D A (p :: l) (-1) (-1) = some [z_i2l (o_bv (o_S w h n heat price cs D A) (p :: l) (-1)), z_i2l (s_sta w h n heat price cs D (s_F w h A) 100 100 0 A)] := if_neg (by rw [e0]; omega)
    rw [if_neg hn0, b1, zb_n, b_tbu_23, c3, zb_v, b_tbu_29, d1, e]
    exact ⟨m4, rfl, r_rw_s er d2⟩
/-! warm -/
def o_wf (F : Int → Int) (v : Int) : Nat → Nat → Int → Int → Int → List Int
  | 0, _, _, l, a => [z_i2l l, z_i2l a]
  | f + 1, x, k, l, a => if F (x : Int) = v then (if k = 0 then o_wf F v f (x + 1) (k + 1) (x : Int) (x : Int) else o_wf F v f (x + 1) (k + 1) l (z_and a (x : Int))) else o_wf F v f (x + 1) k l a
def ro_warm (w h n : Nat) (heat : Int) (cs : List Int) (D A : Nat → Int) (r v : Int) : Option (List Int) := if (¬ u_hs (w : Int) (h : Int) r = 0) ∧ 0 ≤ v ∧ v ≤ 99 then some (o_wf (o_mel n heat cs D A r.toNat) v (2 ^ n) 0 0 (-1) 0) else none
theorem o_wf_all : ∀ n : Nat, n < 6 → ∀ x : Nat, x < 2 ^ n → z_and (z_sub (z_shl 1 (n : Int)) 1) (x : Int) = (x : Int) := by decide +kernel
theorem W_wrm1 {mz : z_M} (hN : w_N w h n heat D) (ht : 0 ≤ A 35 ∧ A 35 ≤ 1073741824) {r : Nat} (hr : r < 9) {v : Int} : ∀ (f x : Nat) (y3 y4 k : Int) (m : z_M), x + f = 2 ^ n → 0 ≤ k → k ≤ (x : Int) → C_is w h n heat price D A c U kn KS cs m → ∃ m1, z_R 125 (m, 34, [(2, 0), (0, (r : Int)), (0, v), (0, y3), (0, y4), (0, k), (0, (x : Int))], []) = some (m1, some (0, o_cnt (o_mel n heat cs D A r) v f x k)) ∧ c_rw mz m1 (some (o_wf (o_mel n heat cs D A r) v f x k y3 y4)) := by
  have h5 := hN.1.2.2
  have h32 := z_p32 h5
  intro f
  induction f with
  | zero =>
    intro x y3 y4 k m hx h0 h1 hi
    rw [u_wrm_34, hi.1.2.2.1, z_p2 h5, if_pos (by omega), c_tell2, zb_n, u_wrm_113]
    exact ⟨_, rfl, c_rw_2⟩
  | succ f ih =>
    intro x y3 y4 k m hx h0 h1 hi
    obtain ⟨m1, a1, a2⟩ := C_mbs hi hN ht hr (x : Int)
    rw [u_wrm_34, hi.1.2.2.1, z_p2 h5, if_neg (by omega), a1, zb_v, u_wrm_62, z_add_eq (x := (x : Int)) (y := 1) (by omega) (by omega), tc1, z_add_eq (x := k) (y := 1) (by omega) (by omega)]
    unfold o_cnt o_wf
    by_cases z : o_mel n heat cs D A r (x : Int) = v
    · rw [if_pos z, if_pos z, if_pos z]
      by_cases z0 : k = 0
      · rw [if_pos z0, if_pos z0]
        exact ih (x + 1) _ _ _ m1 (by omega) (by omega) (by omega) a2
      · rw [if_neg z0, if_neg z0, if_neg z0]
        exact ih (x + 1) _ _ _ m1 (by omega) (by omega) (by omega) a2
    · rw [if_neg z, if_neg z, if_neg z]
      exact ih (x + 1) _ _ _ m1 (by omega) h0 (by omega) a2
theorem W_warm (hi : C_is w h n heat price D A c U kn KS cs m) (hN : w_N w h n heat D) (ht : 0 ≤ A 35 ∧ A 35 ≤ 1073741824) (r v : Int) : ∃ m1, z_R 125 (m, 0, [(2, 0), (0, r), (0, v), (9, 0), (9, 0), (9, 0), (9, 0)], []) = some (m1, some (0, o_warm w h n heat cs D A r v)) ∧ c_rw m m1 (ro_warm w h n heat cs D A r v) := by
  rw [u_wrm_0, hi.1.1, hi.1.2.1]
  by_cases c1 : u_hs (w : Int) (h : Int) r = 0
  · have e : o_warm w h n heat cs D A r v = -1 := if_neg (fun z => z.1 c1)
    rw [if_neg (not_not_intro c1), e]
    exact ⟨m, rfl, c_rw_n (if_neg (fun z => z.1 c1))⟩
  rw [if_pos c1]
  by_cases c2 : v < 0
  · have e : o_warm w h n heat cs D A r v = -1 := if_neg (fun z => by have := z.2; omega)
    rw [if_pos c2, e]
    exact ⟨m, rfl, c_rw_n (if_neg (fun z => by have := z.2; omega))⟩
  rw [if_neg c2]
  by_cases c3 : v ≤ 99
  · have hr := u_hs_rng c1
    have e : o_warm w h n heat cs D A r v = o_cnt (o_mel n heat cs D A r.toNat) v (2 ^ n) 0 0 := if_pos ⟨c1, by omega, c3⟩
    obtain ⟨q, rfl⟩ : ∃ q : Nat, r = (q : Int) := ⟨r.toNat, by omega⟩
    rw [Int.toNat_natCast] at e
    rw [if_pos c3, e]
    obtain ⟨m1, g1, g2⟩ := W_wrm1 (mz := m) hN ht (r := q) (by omega) (v := v) (2 ^ n) 0 (-1) 0 0 m (by omega) (by decide) (by decide) hi
    refine ⟨m1, g1, c_rw_s (if_pos ⟨c1, by omega, c3⟩) ?_⟩
    rw [Int.toNat_natCast]
    exact g2
  · have e : o_warm w h n heat cs D A r v = -1 := if_neg (fun z => by have := z.2; omega)
    rw [if_neg c3, e]
    exact ⟨m, rfl, c_rw_n (if_neg (fun z => by have := z.2; omega))⟩
theorem V_wrm1 {mz : z_M} (hN : w_N w h n heat D) (hok : hr_ok n A) (ht : 0 ≤ A 35 ∧ A 35 ≤ 1073741824) {r : Nat} (hr : r < 9) {v : Int} : ∀ (f x : Nat) (k y4 y5 a : Int) (m : z_M), x + f = 2 ^ n → 0 ≤ k → k ≤ (x : Int) → ((k = 0 ∧ a = 0 ∧ y5 = z_sub (z_shl 1 (n : Int)) 1) ∨ (¬ k = 0 ∧ y5 = a)) → R_is w h n heat price D A c U kn KS cs m → ∃ m1, z_R 243 (m, 43, [(2, 251), (0, (r : Int)), (0, v), (0, k), (0, y4), (0, y5), (0, (x : Int))], []) = some (m1, some (0, o_cnt (o_mel n heat cs D A r) v f x k)) ∧ r_rw mz m1 (some (o_wf (o_mel n heat cs D A r) v f x k y4 a)) := by
  have h5 := hN.1.2.2
  have h32 := z_p32 h5
  intro f
  induction f with
  | zero =>
    intro x k y4 y5 a m hx h0 h1 hq hi
    show ∃ m1, _ ∧ r_rw mz m1 (some [z_i2l y4, z_i2l a])
    rw [u_twr_43, hi.1.2.2.1, z_p2 h5, if_pos (by omega), t_tell0, zb_n, u_twr_113]
    by_cases z : k = 0
    · have ea : a = 0 := by
        rcases hq with q | q
        · exact q.2.1
        · exact absurd z q.1
      rw [if_pos z, t_tell1, zb_n, u_twr_128, ea]
      exact ⟨_, rfl, r_rw_2 rfl rfl (by decide +kernel)⟩
    · have ea : y5 = a := by
        rcases hq with q | q
        · exact absurd q.1 z
        · exact q.2
      rw [if_neg z, t_tell1, zb_n, u_twr_128, ea]
      exact ⟨_, rfl, r_rw_2 rfl rfl rfl⟩
  | succ f ih =>
    intro x k y4 y5 a m hx h0 h1 hq hi
    obtain ⟨m1, a1, a2⟩ := R_mbs hi hN hok ht hr (x : Int)
    rw [u_twr_43, hi.1.2.2.1, z_p2 h5, if_neg (by omega), a1, zb_v, u_twr_65, z_add_eq (x := (x : Int)) (y := 1) (by omega) (by omega), tc1, z_add_eq (x := k) (y := 1) (by omega) (by omega)]
    unfold o_cnt o_wf
    by_cases z : o_mel n heat cs D A r (x : Int) = v
    · rw [if_pos z, if_pos z, if_pos z]
      by_cases z0 : k = 0
      · rw [if_pos z0, if_pos z0]
        exact ih (x + 1) _ _ _ _ m1 (by omega) (by omega) (by omega) (Or.inr ⟨by omega, by
          rcases hq with q | q
          · rw [q.2.2]
            exact o_wf_all n (by omega) x (by omega)
          · exact absurd z0 q.1⟩) a2
      · rw [if_neg z0, if_neg z0]
        exact ih (x + 1) _ _ _ _ m1 (by omega) (by omega) (by omega) (Or.inr ⟨by omega, by
          rcases hq with q | q
          · exact absurd q.1 z0
          · rw [q.2]⟩) a2
    · rw [if_neg z, if_neg z, if_neg z]
      exact ih (x + 1) _ _ _ _ m1 (by omega) h0 (by omega) hq a2
theorem V_warm (hi : R_is w h n heat price D A c U kn KS cs m) (hN : w_N w h n heat D) (hok : hr_ok n A) (ht : 0 ≤ A 35 ∧ A 35 ≤ 1073741824) (r v : Int) : ∃ m1, z_R 243 (m, 0, [(2, 251), (0, r), (0, v), (9, 0), (9, 0), (9, 0), (9, 0)], []) = some (m1, some (0, o_warm w h n heat cs D A r v)) ∧ r_rw m m1 (ro_warm w h n heat cs D A r v) := by
  have hu := R_upn (p0 := 251) (k0 := 11) (v := 0) hi (by decide)
  rw [u_twr_0, hi.1.1, hi.1.2.1]
  by_cases c1 : u_hs (w : Int) (h : Int) r = 0
  · have e : o_warm w h n heat cs D A r v = -1 := if_neg (fun z => z.1 c1)
    rw [if_neg (not_not_intro c1), e]
    exact ⟨_, rfl, r_rw_n (if_neg (fun z => z.1 c1))⟩
  rw [if_pos c1]
  by_cases c2 : 0 ≤ v ∧ v ≤ 99
  · have hr := u_hs_rng c1
    have e : o_warm w h n heat cs D A r v = o_cnt (o_mel n heat cs D A r.toNat) v (2 ^ n) 0 0 := if_pos ⟨c1, c2⟩
    obtain ⟨q, rfl⟩ : ∃ q : Nat, r = (q : Int) := ⟨r.toNat, by omega⟩
    rw [Int.toNat_natCast] at e
    rw [if_pos c2, e]
    obtain ⟨m1, g1, g2⟩ := V_wrm1 (mz := m) hN hok ht (r := q) (by omega) (v := v) (2 ^ n) 0 0 (-1) (z_sub (z_shl 1 (m 251 3)) 1) 0 _ (by omega) (by decide) (by decide) (Or.inl ⟨rfl, rfl, by rw [hi.1.2.2.1]⟩) hu
    refine ⟨m1, g1, r_rw_s (if_pos ⟨c1, c2⟩) ?_⟩
    rw [Int.toNat_natCast]
    exact g2
  · have e : o_warm w h n heat cs D A r v = -1 := if_neg (fun z => c2 z.2)
    rw [if_neg c2, e]
    exact ⟨_, rfl, r_rw_n (if_neg (fun z => c2 z.2))⟩
/-! water -/
def ro_wa (A : Nat → Int) (f x : Nat) (s t : Int) : List Int := [z_i2l (x_s A f x s), z_i2l (x_s (fun k => A (k + 9)) f x t), z_i2l (A 33)]
theorem W_wat {mz : z_M} (hi : C_is w h n heat price D A c U kn KS cs m) (hw : wi w h n A) : ∀ (f x : Nat) (s t : Int), x + f = 9 → z_w s = s → z_w t = t → ∃ m', z_R 137 (m, 6, [(2, 0), (0, s), (0, t), (0, (x : Int))], []) = some (m', some (0, z_add (z_add (x_s A f x s) (x_s (fun k => A (k + 9)) f x t)) (A 33))) ∧ c_rw mz m' (some (ro_wa A f x s t)) := by
  have e33 : m 12 5 = A 33 := by
    rw [← hi.2.2.1]
    exact (cS_at0 (s := 12) (j := 5) (by decide)).symm
  intro f
  induction f with
  | zero =>
    intro x s t hx hs ht
    show ∃ m', _ ∧ c_rw mz m' (some [z_i2l s, z_i2l t, z_i2l (A 33)])
    rw [x_wat_6, if_pos (by omega), c_tell3, zb_n, x_wat_69, c_told3 (by decide) (by decide), e33]
    exact ⟨_, rfl, c_rw_3⟩
  | succ f ih =>
    intro x s t hx hs ht
    rw [x_wat_6, if_neg (by omega), hi.1.1, hi.1.2.1]
    show ∃ m', _ = some (m', some (0, z_add (z_add (x_s A f (x + 1) (z_add s (A x))) (x_s (fun k => A (k + 9)) f (x + 1) (z_add t (A (x + 9))))) (A 33))) ∧ c_rw mz m' (some (ro_wa A f (x + 1) (z_add s (A x)) (z_add t (A (x + 9)))))
    by_cases z : u_hs (w : Int) (h : Int) (x : Int) = 0
    · obtain ⟨z1, z2⟩ := hw.2.1 x (by omega) z
      rw [if_neg (not_not_intro z), z1, z2, z_add0 hs, z_add0 ht, z_add_eq (x := (x : Int)) (y := 1) (by omega) (by omega), tc1]
      exact ih (x + 1) s t (by omega) hs ht
    · have e13 : m 13 x = A x := by
        rw [← hi.2.2.1]
        exact (cS_at1 (s := 12) (by omega)).symm
      have e14 : m 14 x = A (x + 9) := by
        rw [← hi.2.2.1]
        exact (cS_at2 (s := 12) (by omega)).symm
      rw [if_pos z, Int.toNat_natCast, e13, e14, tc1]
      exact ih (x + 1) _ _ (by omega) (by rw [z_add_w]; exact z_w_w) (by rw [z_add_w]; exact z_w_w)
theorem W_water (hi : C_is w h n heat price D A c U kn KS cs m) (hw : wi w h n A) : ∃ m', z_R 137 (m, 0, [(2, 0), (9, 0), (9, 0), (9, 0)], []) = some (m', some (0, x_w A)) ∧ c_rw m m' (some (ro_wa A 9 0 0 0)) := by
  rw [x_wat_0]
  exact W_wat hi hw 9 0 0 0 (by decide) (by decide +kernel) (by decide +kernel)
theorem V_wat {mz : z_M} (hi : R_is w h n heat price D A c U kn KS cs m) : ∀ (f x : Nat) (s t : Int), x + f = 9 → ∃ m', z_R 252 (m, 11, [(2, 251), (0, s), (0, t), (0, (x : Int))], []) = some (m', some (0, z_add (z_add (x_s A f x s) (x_s (fun k => A (k + 9)) f x t)) (A 33))) ∧ r_rw mz m' (some (ro_wa A f x s t)) := by
  have e33 : m 252 33 = A 33 := R_A hi (by decide) (a_vis_hi (by decide))
  intro f
  induction f with
  | zero =>
    intro x s t hx
    show ∃ m', _ ∧ r_rw mz m' (some [z_i2l s, z_i2l t, z_i2l (A 33)])
    rw [x_twa_11, if_pos (by omega), t_tell0, zb_n, x_twa_55, t_tell1, zb_n, x_twa_61, t_tell2, zb_n, x_twa_73, t_told3 (by omega) (by omega), e33]
    exact ⟨_, rfl, r_rw_3 rfl rfl rfl (congrArg z_i2l ((t_told2 (by omega) (by omega)).trans e33))⟩
  | succ f ih =>
    intro x s t hx
    have e0 : m 252 x = A x := R_A hi (by omega) (a_vis_lo (by omega))
    have e9 : m 252 (x + 9) = A (x + 9) := R_A hi (by omega) (a_vis_lo (by omega))
    rw [x_twa_11, if_neg (by omega), if_pos (show 0 ≤ (x : Int) ∧ (x : Int) < 37 by omega), Int.toNat_natCast, show ((x : Int) + 9).toNat = x + 9 by omega, e0, e9, tc1]
    show ∃ m', _ ∧ r_rw mz m' (some (ro_wa A f (x + 1) (z_add s (A x)) (z_add t (A (x + 9)))))
    exact ih (x + 1) _ _ (by omega)
theorem V_water (hi : R_is w h n heat price D A c U kn KS cs m) : ∃ m', z_R 252 (m, 0, [(2, 251), (9, 0), (9, 0), (9, 0)], []) = some (m', some (0, x_w A)) ∧ r_rw m m' (some (ro_wa A 9 0 0 0)) := by
  have hu := R_upn (p0 := 251) (k0 := 11) (v := 0) hi (by decide)
  rw [x_twa_0]
  exact V_wat hu 9 0 0 0 (by decide)
/-! hearth -/
def y_v (w h : Nat) (F : Int → Int) : Nat → Nat → Int → Int → Int
  | 0, _, _, l => l
  | f + 1, x, b, l => if u_hs (w : Int) (h : Int) (x : Int) = 0 then y_v w h F f (x + 1) b l else if b = -1 ∨ F (x : Int) < l then y_v w h F f (x + 1) (x : Int) (F (x : Int)) else y_v w h F f (x + 1) b l
def ro_he (w h n : Nat) (heat price : Int) (cs : List Int) (D A : Nat → Int) (N f x : Nat) (b l : Int) : Option (List Int) := if y_b w h (y_M w h n heat price cs D A N) f x b l = -1 then none else some [z_i2l (y_v w h (y_M w h n heat price cs D A N) f x b l), z_i2l (y_M w h n heat price cs D A N (-1))]
def ro_hearth (w h n : Nat) (heat price : Int) (cs : List Int) (D A : Nat → Int) (a : Int) : Option (List Int) := if 1 ≤ a ∧ a ≤ 60 then ro_he w h n heat price cs D A a.toNat 9 0 (-1) 0 else none
theorem W_hea1 {mz : z_M} (hN : w_N w h n heat D) (hok : hr_ok n A) (ht : 0 ≤ A 35 ∧ A 35 ≤ 1073741824) {N : Nat} (hN6 : N ≤ 60) : ∀ (f x : Nat) (b l : Int) (v5 : z_V) (m : z_M), x + f = 9 → C_is w h n heat price D A c U kn KS cs m → (b = -1 → c_rw mz m none) → ∃ m1, z_R 133 (m, 20, [(2, 0), (0, (N : Int)), (0, b), (0, l), (0, (x : Int)), v5], []) = some (m1, some (0, if y_b w h (y_M w h n heat price cs D A N) f x b l = -1 then -2 else y_b w h (y_M w h n heat price cs D A N) f x b l)) ∧ c_rw mz m1 (ro_he w h n heat price cs D A N f x b l) := by
  intro f
  induction f with
  | zero =>
    intro x b l v5 m hx hi hz
    show ∃ m1, _ = some (m1, some (0, if b = -1 then -2 else b)) ∧ c_rw mz m1 (if b = -1 then none else some [z_i2l l, z_i2l (y_M w h n heat price cs D A N (-1))])
    rw [y_hea_20, if_pos (by omega)]
    by_cases z : b = -1
    · rw [if_pos z, if_pos z, if_pos z]
      exact ⟨m, rfl, hz z⟩
    · obtain ⟨m1, a1, a2⟩ := C_mws hi hN hok ht hN6 (-1)
      rw [if_neg z, if_neg z, if_neg z, a1, zb_v, y_hea_88, c_tell2, zb_n, y_hea_92]
      exact ⟨_, rfl, c_rw_2⟩
  | succ f ih =>
    intro x b l v5 m hx hi hz
    rw [y_hea_20, if_neg (by omega), hi.1.1, hi.1.2.1]
    unfold ro_he y_b y_v
    by_cases z : u_hs (w : Int) (h : Int) (x : Int) = 0
    · rw [if_neg (not_not_intro z), if_pos z, if_pos z, z_add_eq (x := (x : Int)) (y := 1) (by omega) (by omega), tc1]
      exact ih (x + 1) b l v5 m (by omega) hi hz
    · obtain ⟨m1, a1, a2⟩ := C_mws hi hN hok ht hN6 (x : Int)
      rw [if_pos z, if_neg z, if_neg z, a1, zb_v, y_hea_46, z_add_eq (x := (x : Int)) (y := 1) (by omega) (by omega), tc1]
      by_cases c1 : b = -1
      · rw [if_pos c1, if_pos (Or.inl c1), if_pos (Or.inl c1)]
        exact ih (x + 1) _ _ _ m1 (by omega) a2 (fun e => by omega)
      · rw [if_neg c1]
        by_cases c2 : l ≤ y_M w h n heat price cs D A N (x : Int)
        · rw [if_pos c2, if_neg (show ¬ (b = -1 ∨ y_M w h n heat price cs D A N (x : Int) < l) by omega), if_neg (show ¬ (b = -1 ∨ y_M w h n heat price cs D A N (x : Int) < l) by omega)]
          exact ih (x + 1) _ _ _ m1 (by omega) a2 (fun e => absurd e c1)
        · rw [if_neg c2, if_pos (show b = -1 ∨ y_M w h n heat price cs D A N (x : Int) < l by omega), if_pos (show b = -1 ∨ y_M w h n heat price cs D A N (x : Int) < l by omega)]
          exact ih (x + 1) _ _ _ m1 (by omega) a2 (fun e => by omega)
theorem W_hearth (hi : C_is w h n heat price D A c U kn KS cs m) (hN : w_N w h n heat D) (hok : hr_ok n A) (ht : 0 ≤ A 35 ∧ A 35 ≤ 1073741824) (a : Int) : ∃ m1, z_R 133 (m, 0, [(2, 0), (0, a), (9, 0), (9, 0), (9, 0), (9, 0)], []) = some (m1, some (0, y_A w h n heat price cs D A a)) ∧ c_rw m m1 (ro_hearth w h n heat price cs D A a) := by
  rw [y_hea_0]
  by_cases c1 : a < 1
  · have e : y_A w h n heat price cs D A a = -1 := if_neg (by omega)
    rw [if_pos c1, e]
    exact ⟨m, rfl, c_rw_n (if_neg (by omega))⟩
  rw [if_neg c1]
  by_cases c2 : a ≤ 60
  · obtain ⟨N, rfl⟩ : ∃ N : Nat, a = (N : Int) := ⟨a.toNat, by omega⟩
    have e : y_A w h n heat price cs D A (N : Int) = if y_b w h (y_M w h n heat price cs D A (N : Int).toNat) 9 0 (-1) 0 = -1 then -2 else y_b w h (y_M w h n heat price cs D A (N : Int).toNat) 9 0 (-1) 0 := if_pos (by omega)
    rw [Int.toNat_natCast] at e
    rw [if_pos c2, e]
    obtain ⟨m1, g1, g2⟩ := W_hea1 (mz := m) hN hok ht (N := N) (by omega) 9 0 (-1) 0 (9, 0) m (by decide) hi (fun _ => c_rw_id)
    refine ⟨m1, g1, ?_⟩
    rw [show ro_hearth w h n heat price cs D A (N : Int) = ro_he w h n heat price cs D A (N : Int).toNat 9 0 (-1) 0 from if_pos (by omega), Int.toNat_natCast]
    exact g2
  · have e : y_A w h n heat price cs D A a = -1 := if_neg (by omega)
    rw [if_neg c2, e]
    exact ⟨m, rfl, c_rw_n (if_neg (by omega))⟩
theorem V_mwi {N : Nat} {r v : Int} {m1 : z_M} (h1 : z_R 250 (m, 0, [(2, 251), (0, r), (0, (N : Int))], []) = some (m1, some (0, v))) (hi : R_is w h n heat price D A c U kn KS cs m) (hN : w_N w h n heat D) (hok : hr_ok n A) (ht : 0 ≤ A 35 ∧ A 35 ≤ 1073741824) (hN6 : N ≤ 60) : ∀ k, m1 255 k = m 255 k := fun k => by
  have h5 := hN.1.2.2
  obtain ⟨m2, b1, b2, b3⟩ := R_lt hi
  have f2 := V_lt b1 255 k (by decide)
  have hR3 : R_is w h n heat price D A c U kn KS cs (z_up (z_up (z_up (z_up (z_up m2 264 34 r) 251 32 0) 251 33 0) 251 34 0) 251 35 0) := R_upn (R_upn (R_upn (R_upn (R_upn b2 (by decide)) (by decide)) (by decide)) (by decide)) (by decide)
  have hB3 : rS (z_up (z_up (z_up (z_up (z_up m2 264 34 r) 251 32 0) 251 33 0) 251 34 0) 251 35 0) 264 n = u_up A 34 r := by rw [rS_row (zu_rowne (by decide)), rS_row (zu_rowne (by decide)), rS_row (zu_rowne (by decide)), rS_row (zu_rowne (by decide)), rS_up (by decide) (a_vis_hi (by decide)), b3]
  have k10 : (z_up (z_up (z_up (z_up (z_up m2 264 34 r) 251 32 0) 251 33 0) 251 34 0) 251 35 0) 255 k = m 255 k := by rw [zu_p (by decide), zu_p (by decide), zu_p (by decide), zu_p (by decide), zu_p (by decide), f2]
  rw [y_mwi_0, b1, zb_n, y_mwi_4] at h1
  generalize z_up (z_up (z_up (z_up (z_up m2 264 34 r) 251 32 0) 251 33 0) 251 34 0) 251 35 0 = m3 at hR3 hB3 k10 h1
  have hok' : hr_ok n (u_up A 34 r) := hr_ok_up hok (by decide) (fun z => absurd z (by decide)) (fun p h1 h2 => by omega)
  have h35 : u_up A 34 r 35 = A 35 := u_up_ne (by decide)
  obtain ⟨m4, c1, c2, c3⟩ := r_goHours z_A_264 (Or.inr rfl) hN.1.1 hN.1.2.1 (price := price) ⟨h5, hN.2.1, c_ml_ok cs, hN.2.2⟩ (N := N) (by omega) m3 (R_cfg hR3) hB3 hok' (by rw [h35]; exact ht.1) (by rw [h35]; omega)
  have c1 : z_R 207 (m3, 0, [(2, 251), (2, 264), (0, (N : Int)), (9, 0)], []) = some (m4, none) := c1
  rw [c1, zb_n, y_mwi_25] at h1
  have e := congrArg Prod.fst (Option.some.inj h1)
  have e : m4 = m1 := e
  rw [← e, c3.of (p := 255) (k := k) (by (try unfold r_LHs); (repeat' (first | exact trivial | refine z_of_c ?_ ?_)) <;> omega)]
  exact k10
theorem V_hea1 {mz : z_M} (hN : w_N w h n heat D) (hok : hr_ok n A) (ht : 0 ≤ A 35 ∧ A 35 ≤ 1073741824) {N : Nat} (hN6 : N ≤ 60) : ∀ (f x : Nat) (b l l' : Int) (v5 : z_V) (m : z_M), x + f = 9 → ((b = -1 ∧ l' = 1000000) ∨ (0 ≤ b ∧ l' = l)) → R_is w h n heat price D A c U kn KS cs m → ∃ m1, z_R 249 (m, 36, [(2, 251), (0, (N : Int)), (0, b), (0, l'), (0, (x : Int)), v5], []) = some (m1, some (0, y_b w h (y_M w h n heat price cs D A N) f x b l)) ∧ (0 ≤ y_b w h (y_M w h n heat price cs D A N) f x b l → r_rw mz m1 (some [z_i2l (y_v w h (y_M w h n heat price cs D A N) f x b l), z_i2l (y_M w h n heat price cs D A N (-1))])) := by
  intro f
  induction f with
  | zero =>
    intro x b l l' v5 m hx hb hi
    have hR1 := R_upn (p0 := 251) (k0 := 10) (v := 1) (R_upn (p0 := 255) (k0 := 0) (v := z_i2l l') (R_upn (p0 := 251) (k0 := 10) (v := 0) hi (by decide)) (by decide)) (by decide)
    have g0 : (z_up (z_up (z_up m 251 10 0) 255 0 (z_i2l l')) 251 10 1) 255 0 = z_i2l l' := (zu_p (by decide)).trans zu_self
    have g10 : (z_up (z_up (z_up m 251 10 0) 255 0 (z_i2l l')) 251 10 1) 251 10 = ((1 : Nat) : Int) := zu_self
    rw [y_the_36, if_pos (by omega), t_tell0, zb_n, y_the_96]
    generalize z_up (z_up (z_up m 251 10 0) 255 0 (z_i2l l')) 251 10 1 = m0 at hR1 g10 g0 ⊢
    obtain ⟨m1, a1, a2, a3⟩ := R_mwi hR1 hN hok ht hN6 (-1)
    have f5 := V_mwi a1 hR1 hN hok ht hN6
    have e0 : m0 255 0 = z_i2l l' := g0
    rw [a1, zb_v, y_the_103, t_tell (j := 1) _ _ (by decide) (a3.trans g10), zb_n, y_the_107]
    refine ⟨_, rfl, fun hb0 => ⟨zu_self, fun i hi => ?_⟩⟩
    have hi : i < 2 := hi
    have hb0 : 0 ≤ b := hb0
    have el : l' = l := by
      rcases hb with q | q
      · omega
      · exact q.2
    rcases (show i = 0 ∨ i = 1 by omega) with rfl | rfl
    · show _ = z_i2l l
      rw [zu_p (by decide), zu_k (by decide), f5, e0, el]
    · show _ = z_i2l (y_M w h n heat price cs D A N (-1))
      rw [zu_p (by decide), zu_self]
  | succ f ih =>
    intro x b l l' v5 m hx hb hi
    rw [y_the_36, if_neg (by omega), hi.1.1, hi.1.2.1]
    unfold y_b y_v
    by_cases z : u_hs (w : Int) (h : Int) (x : Int) = 0
    · rw [if_neg (not_not_intro z), if_pos z, if_pos z, z_add_eq (x := (x : Int)) (y := 1) (by omega) (by omega), tc1]
      exact ih (x + 1) b l l' v5 m (by omega) hb hi
    · obtain ⟨m1, a1, a2, -⟩ := R_mwi hi hN hok ht hN6 (x : Int)
      have bM := y_M_b (price := price) (cs := cs) hN hok ht hN6 (x : Int)
      rw [if_pos z, if_neg z, if_neg z, a1, zb_v, y_the_62, z_add_eq (x := (x : Int)) (y := 1) (by omega) (by omega), tc1]
      by_cases c1 : y_M w h n heat price cs D A N (x : Int) < l'
      · rw [if_pos c1, if_pos (show b = -1 ∨ y_M w h n heat price cs D A N (x : Int) < l by omega), if_pos (show b = -1 ∨ y_M w h n heat price cs D A N (x : Int) < l by omega)]
        exact ih (x + 1) _ _ _ _ m1 (by omega) (Or.inr ⟨by omega, rfl⟩) a2
      · rw [if_neg c1, if_neg (show ¬ (b = -1 ∨ y_M w h n heat price cs D A N (x : Int) < l) by omega), if_neg (show ¬ (b = -1 ∨ y_M w h n heat price cs D A N (x : Int) < l) by omega)]
        exact ih (x + 1) _ _ _ _ m1 (by omega) hb a2
theorem V_hearth (hi : R_is w h n heat price D A c U kn KS cs m) (hN : w_N w h n heat D) (hok : hr_ok n A) (ht : 0 ≤ A 35 ∧ A 35 ≤ 1073741824) (h0 : w = 0 ↔ h = 0) (a : Int) : ∃ m1, z_R 249 (m, 0, [(2, 251), (0, a), (9, 0), (9, 0), (9, 0), (9, 0)], []) = some (m1, some (0, y_A w h n heat price cs D A a)) ∧ r_rw m m1 (ro_hearth w h n heat price cs D A a) := by
  have hu := R_upn (p0 := 251) (k0 := 11) (v := 0) hi (by decide)
  have hw : r_rw m (z_up m 251 11 0) none := r_rw_11
  rw [y_the_0, hi.1.1]
  generalize z_up m 251 11 0 = m0 at hu hw ⊢
  by_cases c1 : 1 ≤ a ∧ a ≤ 60
  · obtain ⟨N, rfl⟩ : ∃ N : Nat, a = (N : Int) := ⟨a.toNat, by omega⟩
    have e : y_A w h n heat price cs D A (N : Int) = if y_b w h (y_M w h n heat price cs D A (N : Int).toNat) 9 0 (-1) 0 = -1 then -2 else y_b w h (y_M w h n heat price cs D A (N : Int).toNat) 9 0 (-1) 0 := if_pos c1
    rw [Int.toNat_natCast] at e
    have er : ro_hearth w h n heat price cs D A (N : Int) = ro_he w h n heat price cs D A (N : Int).toNat 9 0 (-1) 0 := if_pos c1
    rw [Int.toNat_natCast] at er
    rw [if_pos c1, e]
    by_cases c2 : (w : Int) = 0
    · have eb : y_b w h (y_M w h n heat price cs D A N) 9 0 (-1) 0 = -1 := y_b_no (fun x hx => by
        rw [u_hs_eq hN.1.1 hN.1.2.1 (by omega), if_neg (by omega)]) 9 0 (-1) 0 (by decide)
      rw [if_pos c2, eb, if_pos rfl]
      exact ⟨m0, rfl, r_rw_m hw (er.trans (if_pos eb))⟩
    · have hx0 : ¬ u_hs (w : Int) (h : Int) ((0 : Nat) : Int) = 0 := by
        rw [u_hs_eq hN.1.1 hN.1.2.1 (by omega), if_pos (by omega)]
        decide
      have eb : 0 ≤ y_b w h (y_M w h n heat price cs D A N) 9 0 (-1) 0 := by
        show 0 ≤ y_b w h (y_M w h n heat price cs D A N) (8 + 1) 0 (-1) 0
        unfold y_b
        rw [if_neg hx0, if_pos (Or.inl rfl)]
        exact y_b_nn 8 1 _ _ (by decide)
      rw [if_neg c2, if_neg (by omega)]
      obtain ⟨m1, g1, g2⟩ := V_hea1 (mz := m) hN hok ht (N := N) (by omega) 9 0 (-1) 0 1000000 (9, 0) m0 (by decide) (Or.inl ⟨rfl, rfl⟩) hu
      exact ⟨m1, g1, r_rw_s (er.trans (if_neg (by omega))) (g2 eb)⟩
  · have e : y_A w h n heat price cs D A a = -1 := if_neg c1
    rw [if_neg c1, e]
    exact ⟨m0, rfl, r_rw_m hw (if_neg c1)⟩
/-! look -/
def ro_lr (q : Int × Int × Int) : Option (List Int) := if q.1 = -1 then none else some [z_i2l q.2.1, z_i2l q.2.2]
theorem W_look1 {mz : z_M} (hN : w_N w h n heat D) (hok : hr_ok n A) (ht : 0 ≤ A 35 ∧ A 35 ≤ 1073741824) : ∀ (f r : Nat) (b k g : Int) (m : z_M), r + f = 9 → C_is w h n heat price D A c U kn KS cs m → (b = -1 → k = 0 ∧ c_rw mz m none) → ∃ m1, z_R 126 (m, 9, [(2, 0), (0, b), (0, k), (0, g), (0, (r : Int))], []) = some (m1, some (0, if (o_lr w h (o_F n heat cs D A) f r b k g).1 = -1 then -2 else (o_lr w h (o_F n heat cs D A) f r b k g).1)) ∧ c_rw mz m1 (ro_lr (o_lr w h (o_F n heat cs D A) f r b k g)) := by
  intro f
  induction f with
  | zero =>
    intro r b k g m hr hi hz
    rw [k_loo_9, if_pos (by omega)]
    show ∃ m1, _ = some (m1, some (0, if b = -1 then -2 else b)) ∧ c_rw mz m1 (if b = -1 then none else some [z_i2l k, z_i2l g])
    by_cases z : b = -1
    · rw [if_pos z, if_pos z, if_pos z]
      exact ⟨m, rfl, (hz z).2⟩
    · rw [if_neg z, if_neg z, if_neg z, c_tell2, zb_n, k_loo_93]
      exact ⟨_, rfl, c_rw_2⟩
  | succ f ih =>
    intro r b k g m hr hi hz
    rw [k_loo_9, if_neg (by omega), hi.1.1, hi.1.2.1, z_add_eq (x := (r : Int)) (y := 1) (by omega) (by omega), tc1]
    have eo : o_lr w h (o_F n heat cs D A) (f + 1) r b k g = if (¬ u_hs (w : Int) (h : Int) (r : Int) = 0) ∧ k < (o_F n heat cs D A r).1 then o_lr w h (o_F n heat cs D A) f (r + 1) (r : Int) (o_F n heat cs D A r).1 (o_F n heat cs D A r).2 else o_lr w h (o_F n heat cs D A) f (r + 1) b k g := rfl
    rw [eo]
    by_cases z : u_hs (w : Int) (h : Int) (r : Int) = 0
    · rw [if_neg (not_not_intro z), if_neg (show ¬ ((¬ u_hs (w : Int) (h : Int) (r : Int) = 0) ∧ k < (o_F n heat cs D A r).1) from fun q => q.1 z)]
      exact ih (r + 1) b k g m (by omega) hi hz
    · obtain ⟨m1, a1, a2, a3, a4⟩ := C_cm hi hN hok ht (r := r) (by omega)
      rw [if_pos z, a1, zb_n, k_loo_41, a3, a4, z_add_eq (x := (r : Int)) (y := 1) (by omega) (by omega), tc1]
      by_cases y : k < (o_F n heat cs D A r).1
      · rw [if_neg (by omega), if_pos (show (¬ u_hs (w : Int) (h : Int) (r : Int) = 0) ∧ k < (o_F n heat cs D A r).1 from ⟨z, y⟩)]
        exact ih (r + 1) _ _ _ m1 (by omega) a2 (fun e => by omega)
      · rw [if_pos (by omega), if_neg (show ¬ ((¬ u_hs (w : Int) (h : Int) (r : Int) = 0) ∧ k < (o_F n heat cs D A r).1) from fun q => y q.2)]
        exact ih (r + 1) b k g m1 (by omega) a2 (fun e => by
          have e0 := (hz e).1
          have := o_F_pos (n := n) (heat := heat) (cs := cs) (D := D) (A := A) r
          omega)
theorem W_look (hi : C_is w h n heat price D A c U kn KS cs m) (hN : w_N w h n heat D) (hok : hr_ok n A) (ht : 0 ≤ A 35 ∧ A 35 ≤ 1073741824) : ∃ m1 v, z_R 126 (m, 0, [(2, 0), (9, 0), (9, 0), (9, 0), (9, 0)], []) = some (m1, some (0, v)) ∧ c_rw m m1 (ro_lr (o_lr w h (o_F n heat cs D A) 9 0 (-1) 0 0)) := by
  obtain ⟨m1, a1, a2⟩ := W_look1 (mz := m) hN hok ht 9 0 (-1) 0 0 m (by omega) hi (fun _ => ⟨rfl, c_rw_id⟩)
  rw [k_loo_0]
  exact ⟨m1, _, a1, a2⟩
theorem V_look1 {mz : z_M} (hN : w_N w h n heat D) (hok : hr_ok n A) (ht : 0 ≤ A 35 ∧ A 35 ≤ 1073741824) : ∀ (f r : Nat) (b k g : Int) (v5 v6 v7 v8 : z_V) (m : z_M), r + f = 9 → R_is w h n heat price D A c U kn KS cs m → ∃ m1, z_R 244 (m, 24, [(2, 251), (0, b), (0, k), (0, g), (0, (r : Int)), v5, v6, v7, v8], []) = some (m1, some (0, (o_lr w h (o_F n heat cs D A) f r b k g).1)) ∧ r_rw mz m1 (some [z_i2l (o_lr w h (o_F n heat cs D A) f r b k g).2.1, z_i2l (o_lr w h (o_F n heat cs D A) f r b k g).2.2]) := by
  intro f
  induction f with
  | zero =>
    intro r b k g v5 v6 v7 v8 m hr hi
    rw [k_tlo_24, if_pos (by omega), t_tell0, zb_n, k_tlo_179, t_tell1, zb_n, k_tlo_185]
    exact ⟨_, rfl, r_rw_2 rfl rfl rfl⟩
  | succ f ih =>
    intro r b k g v5 v6 v7 v8 m hr hi
    rw [k_tlo_24, if_neg (by omega), hi.1.1, hi.1.2.1, z_add_eq (x := (r : Int)) (y := 1) (by omega) (by omega), tc1]
    unfold o_lr
    by_cases z : u_hs (w : Int) (h : Int) (r : Int) = 0
    · rw [if_neg (not_not_intro z), if_neg (fun q => q.1 z)]
      exact ih (r + 1) b k g _ _ _ _ m (by omega) hi
    · rw [if_pos z]
      obtain ⟨m1, a1, a2, a3⟩ := R_clr 100 0 b k g (r : Int) v6 v7 v8 m (by omega) (fun v hv => absurd hv (Nat.not_lt_zero v)) hi
      obtain ⟨m2, w5, w6, w7, w8, b1, b2⟩ := R_lset hN hok ht (r := r) (by omega) (x1 := b) (x2 := k) (x3 := g) (2 ^ n) 0 v8 (fun _ => false) 0 0 m1 (by omega) (fun v hv => (a2 v hv).trans (if_neg Bool.false_ne_true).symm) ⟨by decide, by decide⟩ a3
      have a1 : z_R 244 (m, 46, [(2, 251), (0, b), (0, k), (0, g), (0, (r : Int)), (0, 0), v6, v7, v8], []) = z_R 244 (m1, 76, [(2, 251), (0, b), (0, k), (0, g), (0, (r : Int)), (0, 0), (0, 0), (0, 0), v8], []) := a1
      have b1 : z_R 244 (m1, 76, [(2, 251), (0, b), (0, k), (0, g), (0, (r : Int)), (0, 0), (0, 0), (0, 0), v8], []) = (if k < (o_F n heat cs D A r).1 then z_R 244 (m2, 24, [(2, 251), (0, (r : Int)), (0, (o_F n heat cs D A r).1), (0, (o_F n heat cs D A r).2), (0, ((r + 1 : Nat) : Int)), w5, w6, w7, w8], []) else z_R 244 (m2, 24, [(2, 251), (0, b), (0, k), (0, g), (0, ((r + 1 : Nat) : Int)), w5, w6, w7, w8], [])) := b1
      rw [a1, b1]
      by_cases y : k < (o_F n heat cs D A r).1
      · rw [if_pos y, if_pos ⟨z, y⟩]
        exact ih (r + 1) _ _ _ _ _ _ _ m2 (by omega) b2
      · rw [if_neg y, if_neg (fun q => y q.2)]
        exact ih (r + 1) b k g _ _ _ _ m2 (by omega) b2
theorem V_look (hi : R_is w h n heat price D A c U kn KS cs m) (hN : w_N w h n heat D) (hok : hr_ok n A) (ht : 0 ≤ A 35 ∧ A 35 ≤ 1073741824) (h0 : w = 0 ↔ h = 0) : ∃ m1 v, z_R 244 (m, 0, [(2, 251), (9, 0), (9, 0), (9, 0), (9, 0), (9, 0), (9, 0), (9, 0), (9, 0)], []) = some (m1, some (0, v)) ∧ r_rw m m1 (ro_lr (o_lr w h (o_F n heat cs D A) 9 0 (-1) 0 0)) := by
  have hu := R_upn (p0 := 251) (k0 := 11) (v := 0) hi (by decide)
  have e := o_lr_w (n := n) (heat := heat) (cs := cs) (D := D) (A := A) hN.1.1 hN.1.2.1 h0
  rw [k_tlo_0, hi.1.1]
  by_cases z : w = 0
  · rw [if_pos (by omega)]
    exact ⟨_, _, rfl, r_rw_n (if_pos (e.mpr z))⟩
  · rw [if_neg (by omega)]
    obtain ⟨m1, g1, g2⟩ := V_look1 (mz := m) hN hok ht 9 0 (-1) 0 0 _ _ _ _ _ (by omega) hu
    exact ⟨m1, _, g1, r_rw_s (if_neg (fun y => z (e.mp y))) g2⟩
end
end
section
/-! HOW MANY NUMBERS ARE TOLD, in both -/
def c_ln (m m1 : z_M) : Option Nat → Prop
  | none => m1 0 13 = m 0 13
  | some k => m1 0 13 = (k : Int)
def r_ln (m m1 : z_M) : Option Nat → Prop
  | none => m1 251 10 = m 251 10
  | some k => m1 251 10 = (k : Int)
theorem c_ln_n {m : z_M} {o : Option Nat} (h : o = none) : c_ln m m o := by
  subst h
  rfl
theorem c_ln_s {m m1 : z_M} {o : Option Nat} {k : Nat} (h : o = some k) (hc : m1 0 13 = (k : Int)) : c_ln m m1 o := by
  subst h
  exact hc
theorem r_ln_n {m m1 : z_M} {o : Option Nat} (hm : m1 251 10 = m 251 10) (h : o = none) : r_ln m m1 o := by
  subst h
  exact hm
theorem r_ln_s {m m1 : z_M} {o : Option Nat} {k : Nat} (h : o = some k) (hc : m1 251 10 = (k : Int)) : r_ln m m1 o := by
  subst h
  exact hc
theorem c_rw_ln {m m1 : z_M} {o : Option (List Int)} (h : c_rw m m1 o) : c_ln m m1 (o.map List.length) := by
  cases o with
  | none => exact h.1
  | some l => exact h.1
theorem r_rw_ln {m m1 : z_M} {o : Option (List Int)} (h : r_rw m m1 o) : r_ln m m1 (o.map List.length) := by
  cases o with
  | none => exact h.1
  | some l => exact h.1
def ln_Q (m m1 m2 : z_M) : Prop := ∃ o, c_ln m m1 o ∧ r_ln m1 m2 o
def rw_Q (m m1 m2 : z_M) : Prop := ∃ o, c_rw m m1 o ∧ r_rw m1 m2 o
/-- what a case's two calls leave -/
noncomputable def l_twR (R : m_H → Prop) (Q : z_M → z_M → z_M → Prop) (c : l_C) : Prop := ∀ (M1 M2 M3 : Int) (σ σ1 σ2 : m_H) (as : List Int32) (v1 v2 : Int32) (C1 C2 : A_C) (ρ1 ρ2 : List Int), as.length = c.2.2.2.1 → R σ → h_ok M1 σ → M1 ≤ 1073741824 →
  C1 ∈ cs_at c.2.2.1 → c_post C1.2.2.2.2.2.2.2.1 C1.2.2.2.2.1 M2 ρ1 σ (some (.int v1)) σ1 → z_Ev c.2.2.1 (z_m σ, 0, z_fr c.2.2.1 (z_s (.ref 0 :: as.map Value.int)), []) (z_m σ1, some (0, v1.toInt)) →
  C2 ∈ cs_at c.2.2.2.2.2.2.2 → c_post C2.2.2.2.2.2.2.2.1 C2.2.2.2.2.1 M3 ρ2 σ1 (some (.int v2)) σ2 → z_Ev c.2.2.2.2.2.2.2 (z_m σ1, 0, z_fr c.2.2.2.2.2.2.2 (z_s (.ref 251 :: as.map Value.int)), []) (z_m σ2, some (0, v2.toInt)) → Q (z_m σ) (z_m σ1) (z_m σ2)
noncomputable abbrev l_two (Q : z_M → z_M → z_M → Prop) (c : l_C) : Prop := l_twR Rel_C Q c
theorem l_two_ln {c : l_C} (h : l_two rw_Q c) : l_two ln_Q c := by
  intro M1 M2 M3 σ σ1 σ2 as v1 v2 C1 C2 ρ1 ρ2 ha hR hh hM1 hC1 hp1 hE1 hC2 hp2 hE2
  obtain ⟨o, a, b⟩ := h M1 M2 M3 σ σ1 σ2 as v1 v2 C1 C2 ρ1 ρ2 ha hR hh hM1 hC1 hp1 hE1 hC2 hp2 hE2
  exact ⟨o.map List.length, c_rw_ln a, r_rw_ln b⟩
theorem s_mem {m m' : z_M} {x y : Option z_V} (h : (some (m, x) : Option z_Q) = some (m', y)) : m' = m := (congrArg Prod.fst (Option.some.inj h)).symm
theorem rw_do {y1 y2 : Nat} {G1 G2 : z_G} {m m1 m2 : z_M} {r1 r2 : Option z_V} {o : Option (List Int)} (hE1 : z_R y1 G1 = some (m1, r1)) (hE2 : z_R y2 G2 = some (m2, r2)) (hc : ∃ m' r, z_R y1 G1 = some (m', r) ∧ c_rw m m' o) (hr : ∃ m' r, z_R y2 G2 = some (m', r) ∧ r_rw m1 m' o) : rw_Q m m1 m2 := by
  obtain ⟨m', r, a1, a2⟩ := hc
  obtain ⟨m'', r', b1, b2⟩ := hr
  rw [← s_mem (a1.symm.trans hE1)] at a2
  rw [← s_mem (b1.symm.trans hE2)] at b2
  exact ⟨o, a2, b2⟩
theorem ln_do {y1 y2 : Nat} {G1 G2 : z_G} {m m1 m2 : z_M} {r1 r2 : Option z_V} {o : Option Nat} (hE1 : z_R y1 G1 = some (m1, r1)) (hE2 : z_R y2 G2 = some (m2, r2)) (hc : ∃ m' r, z_R y1 G1 = some (m', r) ∧ c_ln m m' o) (hr : ∃ m' r, z_R y2 G2 = some (m', r) ∧ r_ln m1 m' o) : ln_Q m m1 m2 := by
  obtain ⟨m', r, a1, a2⟩ := hc
  obtain ⟨m'', r', b1, b2⟩ := hr
  rw [← s_mem (a1.symm.trans hE1)] at a2
  rw [← s_mem (b1.symm.trans hE2)] at b2
  exact ⟨o, a2, b2⟩
/-! what a contract tells of it, where it was not refused -/
def ln_neg (r : Option A_V) : Bool := match r with
  | some a => Nat.beq a.1 0 && decide (a.2.2 < 0)
  | none => false
noncomputable def ln_ck (y p k : Nat) (x : Int) : Bool := (cs_at y).all fun C => C.2.2.2.2.2.2.2.1.all fun q => ln_neg q.2.2.1 || q.2.2.2.any fun u => Nat.beq u.1.1 p && (Nat.beq u.1.2 k && (Nat.beq u.2.1 0 && i_eq u.2.2.2 x))
theorem ln_ck_ok {y p k : Nat} {x : Int} (h : ln_ck y p k x = true) {C : A_C} (hC : C ∈ cs_at y) {T : Int} {ρ : List Int} {σ σ' : m_H} {v : Int32} (hv : 0 ≤ v.toInt) (hp : c_post C.2.2.2.2.2.2.2.1 C.2.2.2.2.1 T ρ σ (some (.int v)) σ') : z_m σ' p k = x := by
  obtain ⟨q, hq, ρ', c1, c2, c3, c4, c5, c6, c7⟩ := hp
  rcases Bool.or_eq_true _ _ |>.mp (List.all_eq_true.mp (List.all_eq_true.mp h C hC) q hq) with hn | ha
  · exfalso
    obtain ⟨E, F, ro, ov⟩ := q
    cases ro with
    | none => cases hn
    | some a =>
      obtain ⟨a1, a2, a3⟩ := a
      obtain ⟨n1, n2⟩ := Bool.and_eq_true _ _ |>.mp hn
      have g : a1 = 0 := Nat.eq_of_beq_eq_true n1
      have g2 : a3 < 0 := of_decide_eq_true n2
      clear n1 n2 hn
      subst g
      obtain ⟨x', e1, e2⟩ : ∃ x' : Int32, Value.int v = .int x' ∧ x'.toInt = a3 := c4
      have := Value.int.inj e1
      rw [this, e2] at hv
      omega
  · obtain ⟨u, hu, hb⟩ := List.any_eq_true.mp ha
    obtain ⟨b1, hb⟩ := Bool.and_eq_true _ _ |>.mp hb
    obtain ⟨b2, hb⟩ := Bool.and_eq_true _ _ |>.mp hb
    obtain ⟨b3, b4⟩ := Bool.and_eq_true _ _ |>.mp hb
    have g1 := Nat.eq_of_beq_eq_true b1
    have g2 := Nat.eq_of_beq_eq_true b2
    have g3 := Nat.eq_of_beq_eq_true b3
    have g4 := i_eq_iff.mp b4
    obtain ⟨v, v1, v2⟩ := c6 u hu
    clear b1 b2 b3 b4
    obtain ⟨⟨up, uk⟩, ut, un, uc⟩ := u
    simp only at g1 g2 g3 g4 v1 v2
    subst g1; subst g2; subst g3; subst g4
    obtain ⟨x, rfl, hx⟩ : ∃ x : Int32, v = .int x ∧ x.toInt = uc := v2
    unfold z_m
    rw [v1]
    exact hx
section
variable {w h n : Nat} {heat price : Int} {D A : Nat → Int} {c : Nat} {U : Nat → Nat → Int} {kn : Nat → Int} {KS : Nat → Nat → Int} {cs : List Int} {m : z_M}
theorem V_hours_no (v : Int) (ok : ¬ (0 ≤ v ∧ v ≤ 60)) : ∃ m1 u, z_R 205 (m, 0, [(2, 251), (0, v)], []) = some (m1, u) ∧ r_rw m m1 none := ⟨z_up m 251 11 0, _, by rw [t_hours_0, if_neg ok], r_rw_11⟩
/-! charges -/
def rw_of (n : Nat) (S : Nat → Int) : List Int := (List.range n).map S
theorem rw_of_len {n : Nat} {S : Nat → Int} : (rw_of n S).length = n := by
  unfold rw_of
  rw [List.length_map, List.length_range]
theorem rw_of_at {n i : Nat} {S : Nat → Int} (h : i < n) : (rw_of n S).getD i 0 = S i := by
  unfold rw_of
  rw [List.getD_eq_getElem?_getD, List.getElem?_map, List.getElem?_range h]
  rfl
theorem c_rw_of {mz m1 : z_M} {S : Nat → Int} (h1 : m1 0 13 = (n : Int)) (h2 : ∀ j, j < n → m1 250 j = S j) : c_rw mz m1 (some (rw_of n S)) := ⟨by rw [rw_of_len]; exact h1, fun i hi => by
  rw [rw_of_len] at hi
  rw [rw_of_at hi]
  exact h2 i hi⟩
theorem r_rw_of {mz m1 : z_M} {S : Nat → Int} (h1 : m1 251 10 = (n : Int)) (h2 : ∀ j, j < n → m1 255 j = S j) : r_rw mz m1 (some (rw_of n S)) := ⟨by rw [rw_of_len]; exact h1, fun i hi => by
  rw [rw_of_len] at hi
  rw [rw_of_at hi]
  exact h2 i hi⟩
def ro_chg (w h n : Nat) (heat price : Int) (cs : List Int) (D A : Nat → Int) (a : Int) : Option (List Int) := if 0 ≤ a ∧ a ≤ 100 then some (rw_of n (v_H w h n heat price cs D a.toNat A (fun _ => 0))) else none
theorem W_chg1 (h5 : n ≤ 5) {N : Int} : ∀ (f x : Nat) (m : z_M), x + f = n → C_is w h n heat price D A c U kn KS cs m → m 0 13 = (x : Int) → (∀ j, j < x → m 250 j = 0) → ∃ m1, z_R 123 (m, 29, [(2, 0), (0, N), (0, (x : Int)), (9, 0), (9, 0)], []) = z_R 123 (m1, 53, [(2, 0), (0, N), (0, 0), (9, 0), (9, 0)], []) ∧ C_is w h n heat price D A c U kn KS cs m1 ∧ (∀ j, j < n → m1 250 j = 0) ∧ z_same [(0, 13, 13), (250, 0, 8)] m m1 ∧ m1 0 13 = (n : Int) := by
  intro f
  induction f with
  | zero =>
    intro x m hx hi h13 hz
    have e11 := hi.1.2.2.1
    rw [v_chg_29 m N x (by omega), e11, if_pos (by omega)]
    exact ⟨m, rfl, hi, fun j hj => hz j (by omega), z_same.rf, h13.trans (by omega)⟩
  | succ f ih =>
    intro x m hx hi h13 hz
    have e11 := hi.1.2.2.1
    have hi1 : C_is w h n heat price D A c U kn KS cs (z_up (z_up m 250 x 0) 0 13 ((x + 1 : Nat) : Int)) := C_upn (C_upn hi (by
      have : ∀ x, x < 5 → C_hit 250 x x = false := by decide +kernel
      exact this x (by omega))) (by decide)
    have g13 : (z_up (z_up m 250 x 0) 0 13 ((x + 1 : Nat) : Int)) 0 13 = ((x + 1 : Nat) : Int) := zu_self
    have gz : ∀ j, j < x + 1 → (z_up (z_up m 250 x 0) 0 13 ((x + 1 : Nat) : Int)) 250 j = 0 := fun j hj => by
      rw [zu_p (by decide)]
      by_cases e : j = x
      · rw [e, zu_self]
      · rw [zu_k e]; exact hz j (by omega)
    have gs : z_same [(0, 13, 13), (250, 0, 8)] m (z_up (z_up m 250 x 0) 0 13 ((x + 1 : Nat) : Int)) := (z_same.rf.upo (by (try unfold r_LHs); first | exact z_on_h rfl (by omega) (by omega) | exact z_on_t (z_on_h rfl (by omega) (by omega)) | exact z_on_t (z_on_t (z_on_h rfl (by omega) (by omega))) | exact z_on_t (z_on_t (z_on_t (z_on_h rfl (by omega) (by omega)))) | exact z_on_t (z_on_t (z_on_t (z_on_t (z_on_h rfl (by omega) (by omega))))) | exact z_on_t (z_on_t (z_on_t (z_on_t (z_on_t (z_on_h rfl (by omega) (by omega)))))) | exact z_on_t (z_on_t (z_on_t (z_on_t (z_on_t (z_on_t (z_on_h rfl (by omega) (by omega))))))) | exact z_on_t (z_on_t (z_on_t (z_on_t (z_on_t (z_on_t (z_on_t (z_on_h rfl (by omega) (by omega)))))))) | exact z_on_t (z_on_t (z_on_t (z_on_t (z_on_t (z_on_t (z_on_t (z_on_t (z_on_h rfl (by omega) (by omega))))))))) | exact z_on_t (z_on_t (z_on_t (z_on_t (z_on_t (z_on_t (z_on_t (z_on_t (z_on_t (z_on_h rfl (by omega) (by omega)))))))))) | exact z_on_t (z_on_t (z_on_t (z_on_t (z_on_t (z_on_t (z_on_t (z_on_t (z_on_t (z_on_t (z_on_h rfl (by omega) (by omega))))))))))) | exact z_on_t (z_on_t (z_on_t (z_on_t (z_on_t (z_on_t (z_on_t (z_on_t (z_on_t (z_on_t (z_on_t (z_on_h rfl (by omega) (by omega)))))))))))) | exact z_on_t (z_on_t (z_on_t (z_on_t (z_on_t (z_on_t (z_on_t (z_on_t (z_on_t (z_on_t (z_on_t (z_on_t (z_on_h rfl (by omega) (by omega))))))))))))))).upo (by (try unfold r_LHs); first | exact z_on_h rfl (by omega) (by omega) | exact z_on_t (z_on_h rfl (by omega) (by omega)) | exact z_on_t (z_on_t (z_on_h rfl (by omega) (by omega))) | exact z_on_t (z_on_t (z_on_t (z_on_h rfl (by omega) (by omega)))) | exact z_on_t (z_on_t (z_on_t (z_on_t (z_on_h rfl (by omega) (by omega))))) | exact z_on_t (z_on_t (z_on_t (z_on_t (z_on_t (z_on_h rfl (by omega) (by omega)))))) | exact z_on_t (z_on_t (z_on_t (z_on_t (z_on_t (z_on_t (z_on_h rfl (by omega) (by omega))))))) | exact z_on_t (z_on_t (z_on_t (z_on_t (z_on_t (z_on_t (z_on_t (z_on_h rfl (by omega) (by omega)))))))) | exact z_on_t (z_on_t (z_on_t (z_on_t (z_on_t (z_on_t (z_on_t (z_on_t (z_on_h rfl (by omega) (by omega))))))))) | exact z_on_t (z_on_t (z_on_t (z_on_t (z_on_t (z_on_t (z_on_t (z_on_t (z_on_t (z_on_h rfl (by omega) (by omega)))))))))) | exact z_on_t (z_on_t (z_on_t (z_on_t (z_on_t (z_on_t (z_on_t (z_on_t (z_on_t (z_on_t (z_on_h rfl (by omega) (by omega))))))))))) | exact z_on_t (z_on_t (z_on_t (z_on_t (z_on_t (z_on_t (z_on_t (z_on_t (z_on_t (z_on_t (z_on_t (z_on_h rfl (by omega) (by omega)))))))))))) | exact z_on_t (z_on_t (z_on_t (z_on_t (z_on_t (z_on_t (z_on_t (z_on_t (z_on_t (z_on_t (z_on_t (z_on_t (z_on_h rfl (by omega) (by omega))))))))))))))
    rw [v_chg_29 m N x (by omega), e11, if_neg (by omega), c_add (j := x) m 0 (by omega) h13, zb_n, v_chg_45, z_add_eq (x := (x : Int)) (y := 1) (by omega) (by omega), tc1]
    generalize z_up (z_up m 250 x 0) 0 13 ((x + 1 : Nat) : Int) = m0 at hi1 g13 gz gs ⊢
    obtain ⟨m1, a1, a2, a3, a4, a5⟩ := ih (x + 1) m0 (by omega) hi1 g13 gz
    exact ⟨m1, a1, a2, a3, gs.tr a4, a5⟩
theorem W_chg3 (hN : w_N w h n heat D) {N : Nat} (hN6 : N ≤ 100) : ∀ (f k : Nat) (v3 : z_V) (B S : Nat → Int) (m : z_M), k + f = N → C_is w h n heat price D A c U kn KS cs m → cS m 18 n = B → hr_ok n B → 0 ≤ B 35 → B 35 + (f : Int) ≤ 2147483647 → z_w (m 24 6) = m 24 6 → z_w (m 24 9) = m 24 9 → (∀ j, j < n → m 250 j = S j) → (∀ j, j < n → 0 ≤ S j ∧ S j ≤ 9 * (k : Int)) → ∃ m1, z_R 123 (m, 53, [(2, 0), (0, (N : Int)), (0, (k : Int)), v3, (9, 0)], []) = some (m1, some (0, v_m (v_H w h n heat price cs D f B S) n 0 0)) ∧ m1 0 13 = m 0 13 ∧ ∀ j, j < n → m1 250 j = v_H w h n heat price cs D f B S j := by
  have h5 := hN.1.2.2
  intro f
  induction f with
  | zero =>
    intro k v3 B S m hk hi hB hok ht ht2 k6 k9 hS hb
    have a1 := C_chg4 (m := m) (S := S) (K := 9 * (k : Int)) (by omega) (N := (N : Int)) (v3 := v3) hi.1.2.2.1 h5 hS hb n 0 0 (by omega) ⟨Int.le_refl _, by omega⟩
    have a1 : z_R 123 (m, 138, [(2, 0), (0, (N : Int)), (1, 0), v3, (0, 0)], []) = some (m, some (0, v_m S n 0 0)) := a1
    rw [v_chg_53, if_pos (by omega), a1]
    exact ⟨m, rfl, rfl, hS⟩
  | succ f ih =>
    intro k v3 B S m hk hi hB hok ht ht2 k6 k9 hS hb
    have ht2' : B 35 + ((f : Int) + 1) ≤ 2147483647 := by omega
    obtain ⟨m1, a1, a2, a3, a4, a5⟩ := C_chg2 h5 (N := (N : Int)) (k := (k : Int)) (hN.2.2 (B 35) ht) ⟨ht, by omega⟩ n 0 S m (by omega) hi hB hS (fun j _ hj => by have := hb j hj; omega)
    have a1 : z_R 123 (m, 60, [(2, 0), (0, (N : Int)), (0, (k : Int)), (0, 0), (9, 0)], []) = z_R 123 (m1, 60, [(2, 0), (0, (N : Int)), (0, (k : Int)), (0, (n : Int)), (9, 0)], []) := a1
    have e11 := a2.1.2.2.1
    have j6 : m1 24 6 = m 24 6 := a5.of (by (try unfold r_LHs); (repeat' (first | exact trivial | refine z_of_c ?_ ?_)) <;> omega)
    have j9 : m1 24 9 = m 24 9 := a5.of (by (try unfold r_LHs); (repeat' (first | exact trivial | refine z_of_c ?_ ?_)) <;> omega)
    have l6 : z_w (m1 24 6) = m1 24 6 := by rw [j6]; exact k6
    have l9 : z_w (m1 24 9) = m1 24 9 := by rw [j9]; exact k9
    obtain ⟨m2, b1, b2, b3⟩ := c_goOn z_st_18 hN.1.1 hN.1.2.1 (price := price) ⟨hN.1.2.2, hN.2.1, c_ml_ok cs, hN.2.2⟩ (N := 1) (by decide) m1 (C_cfg a2) a3 hok ht (by omega) l6 l9
    have b1 : z_R 67 (m1, 0, [(2, 24), (2, 18), (0, 1), (9, 0)], []) = some (m2, none) := b1
    have ow := hr_H_w (w := w) (h := h) (n := n) (heat := heat) (price := price) (ml := c_ml cs) (wmt := wmD D) 1 B (m1 24 6) (m1 24 7) (m1 24 8) (m1 24 9) l6 l9
    rw [← b2] at ow
    have ow6 : z_w (m2 24 6) = m2 24 6 := ow.1
    have ow9 : z_w (m2 24 9) = m2 24 9 := ow.2
    have eA : cS m2 18 n = hr_A w h heat price (c_ml cs) (wmD D (B 35)) n B := congrArg Prod.fst b2
    have hC2 : C_is w h n heat price D A c U kn KS cs m2 := C_fr a2 fun p k hk => by
      have hk' := hk
      unfold C_hit at hk'
      have hk' := of_decide_eq_true hk'
      exact b3.of (by (try unfold r_LHs); (repeat' (first | exact trivial | refine z_of_c ?_ ?_)) <;> omega)
    have hok' := hr_A_ok (price := price) hN.1.1 hN.1.2.1 hN.1.2.2 hN.2.1 (c_ml_ok cs) (hN.2.2 (B 35) ht) hok
    have e35 : hr_A w h heat price (c_ml cs) (wmD D (B 35)) n B 35 = B 35 + 1 := by rw [hr_A_35 hN.1.1 hN.1.2.1 hN.1.2.2, z_add_eq (by omega) (by omega)]
    have hS2 : ∀ j, j < n → m2 250 j = v_w (wmD D (B 35)) B n 0 S j := fun j hj => (b3.of (p := 250) (k := j) (by (try unfold r_LHs); (repeat' (first | exact trivial | refine z_of_c ?_ ?_)) <;> omega)).trans (a4 j hj)
    obtain ⟨m3, c1, c2⟩ := ih (k + 1) (0, (n : Int)) _ (v_w (wmD D (B 35)) B n 0 S) m2 (by omega) hC2 eA hok' (by omega) (by omega) ow6 ow9 hS2 (fun j hj => by
      have := v_w_b (K := 9 * (k : Int)) (A := B) h5 (hN.2.2 (B 35) ht) hb j hj
      omega)
    rw [v_chg_53, if_neg (by omega), a1, v_chg_60 m1 N k n (by omega), e11, if_pos (Int.le_refl _), b1, zb_n, v_chg_127, z_add_eq (x := (k : Int)) (y := 1) (by omega) (by omega), tc1, c1]
    exact ⟨m3, rfl, c2.1.trans ((b3.of (by (try unfold r_LHs); (repeat' (first | exact trivial | refine z_of_c ?_ ?_)) <;> omega)).trans (a5.of (by (try unfold r_LHs); (repeat' (first | exact trivial | refine z_of_c ?_ ?_)) <;> omega))), c2.2⟩
theorem W_charges (hi : C_is w h n heat price D A c U kn KS cs m) (hN : w_N w h n heat D) (hok : hr_ok n A) (ht : 0 ≤ A 35 ∧ A 35 ≤ 1073741824) (k6 : z_w (m 24 6) = m 24 6) (k9 : z_w (m 24 9) = m 24 9) (a : Int) : ∃ m1, z_R 123 (m, 0, [(2, 0), (0, a), (9, 0), (9, 0), (9, 0)], []) = some (m1, some (0, v_A w h n heat price cs D A a)) ∧ c_rw m m1 (ro_chg w h n heat price cs D A a) := by
  rw [v_chg_0]
  by_cases c1 : a < 0
  · have e : v_A w h n heat price cs D A a = -1 := if_neg (by omega)
    rw [if_pos c1, e]
    exact ⟨m, rfl, c_rw_n (if_neg (by omega))⟩
  rw [if_neg c1]
  by_cases c2 : a ≤ 100
  · obtain ⟨N, rfl⟩ : ∃ N : Nat, a = (N : Int) := ⟨a.toNat, by omega⟩
    have e : v_A w h n heat price cs D A (N : Int) = v_m (v_H w h n heat price cs D (N : Int).toNat A (fun _ => 0)) n 0 0 := if_pos (by omega)
    rw [Int.toNat_natCast] at e
    obtain ⟨m2, b1, b2, b3⟩ := c_become z_st_12 z_st_18 (by decide) m
    have b1 : z_R 61 (m, 0, [(2, 18), (2, 12)], []) = some (m2, none) := b1
    have hC2 : C_is w h n heat price D A c U kn KS cs m2 := C_fr hi fun p k hk => by
      have hk' := hk
      unfold C_hit at hk'
      have hk' := of_decide_eq_true hk'
      exact b3.of (by (try unfold r_LHs); (repeat' (first | exact trivial | refine z_of_c ?_ ?_)) <;> omega)
    have hA2 : cS m2 18 n = A := (cS_cR b2).trans hi.2.2.1
    have j6 : m2 24 6 = m 24 6 := b3.of (by (try unfold r_LHs); (repeat' (first | exact trivial | refine z_of_c ?_ ?_)) <;> omega)
    have j9 : m2 24 9 = m 24 9 := b3.of (by (try unfold r_LHs); (repeat' (first | exact trivial | refine z_of_c ?_ ?_)) <;> omega)
    have hC3 : C_is w h n heat price D A c U kn KS cs (z_up m2 0 13 0) := C_upn hC2 (by decide)
    have f3 : ∀ p k, ¬ p = 0 → (z_up m2 0 13 0) p k = m2 p k := fun p k hp => zu_p hp
    have g13 : (z_up m2 0 13 0) 0 13 = ((0 : Nat) : Int) := zu_self
    rw [if_pos c2, b1, zb_n, v_chg_23, s_tell0_0, zb_n, v_chg_27]
    generalize z_up m2 0 13 0 = m3 at hC3 f3 g13 ⊢
    have hA3 : cS m3 18 n = A := by
      rw [cS_fr (fun j k hj _ => f3 (18 + j) k (by omega))]
      exact hA2
    obtain ⟨m4, d1, d2, d3, d4, d5⟩ := W_chg1 hN.1.2.2 (N := (N : Int)) n 0 m3 (by omega) hC3 g13 (fun j hj => absurd hj (by omega))
    have d1 : z_R 123 (m3, 29, [(2, 0), (0, (N : Int)), (0, 0), (9, 0), (9, 0)], []) = z_R 123 (m4, 53, [(2, 0), (0, (N : Int)), (0, 0), (9, 0), (9, 0)], []) := d1
    have hA4 : cS m4 18 n = A := by
      rw [cS_fr (fun j k hj _ => d4.of (p := 18 + j) (k := k) (by (try unfold r_LHs); (repeat' (first | exact trivial | refine z_of_c ?_ ?_)) <;> omega))]
      exact hA3
    have l6 : m4 24 6 = m 24 6 := (d4.of (by (try unfold r_LHs); (repeat' (first | exact trivial | refine z_of_c ?_ ?_)) <;> omega)).trans ((f3 24 6 (by decide)).trans j6)
    have l9 : m4 24 9 = m 24 9 := (d4.of (by (try unfold r_LHs); (repeat' (first | exact trivial | refine z_of_c ?_ ?_)) <;> omega)).trans ((f3 24 9 (by decide)).trans j9)
    obtain ⟨m5, g1, g2⟩ := W_chg3 hN (N := N) (by omega) N 0 (9, 0) A (fun _ => 0) m4 (by omega) d2 hA4 hok ht.1 (by omega) (by rw [l6]; exact k6) (by rw [l9]; exact k9) d3 (fun j hj => ⟨Int.le_refl _, by omega⟩)
    have g1 : z_R 123 (m4, 53, [(2, 0), (0, (N : Int)), (0, 0), (9, 0), (9, 0)], []) = some (m5, some (0, v_m (v_H w h n heat price cs D N A (fun _ => 0)) n 0 0)) := g1
    rw [d1, g1, e]
    refine ⟨m5, rfl, c_rw_s (if_pos (by omega)) ?_⟩
    rw [Int.toNat_natCast]
    exact c_rw_of (g2.1.trans d5) g2.2
  · have e : v_A w h n heat price cs D A a = -1 := if_neg (by omega)
    rw [if_neg c2, e]
    exact ⟨m, rfl, c_rw_n (if_neg (by omega))⟩
theorem V_chg4 {S : Nat → Int} {K : Int} (hK : K ≤ 10000) {N : Int} (h5 : n ≤ 5) (hS : ∀ j, j < n → 0 ≤ S j ∧ S j ≤ K) : ∀ (f x : Nat) (b : Int) (m : z_M), x + f = n → R_is w h n heat price D A c U kn KS cs m → m 251 10 = (x : Int) → (∀ j, j < x → m 255 j = S j) → (∀ j, j < n → m 268 j = S j) → 0 ≤ b ∧ b ≤ K → ∃ m1, z_R 242 (m, 119, [(2, 251), (0, N), (0, b), (0, (x : Int))], []) = some (m1, some (0, v_m S f x b)) ∧ m1 251 10 = (n : Int) ∧ ∀ j, j < n → m1 255 j = S j := by
  intro f
  induction f with
  | zero =>
    intro x b m hx hi h10 hq hm hb
    have e3 := hi.1.2.2.1
    rw [v_tch_119 m N b x (by omega), e3, if_pos (by omega)]
    exact ⟨m, rfl, h10.trans (by omega), fun j hj => hq j (by omega)⟩
  | succ f ih =>
    intro x b m hx hi h10 hq hm hb
    have e3 := hi.1.2.2.1
    have hS0 := hS x (by omega)
    have hi1 : R_is w h n heat price D A c U kn KS cs (z_up (z_up m 255 x (S x)) 251 10 ((x + 1 : Nat) : Int)) := R_upn (R_upn hi (by
      have : ∀ x, x < 5 → R_hit 255 x x = false := by decide +kernel
      exact this x (by omega))) (by decide)
    have g10 : (z_up (z_up m 255 x (S x)) 251 10 ((x + 1 : Nat) : Int)) 251 10 = ((x + 1 : Nat) : Int) := zu_self
    have gq : ∀ j, j < x + 1 → (z_up (z_up m 255 x (S x)) 251 10 ((x + 1 : Nat) : Int)) 255 j = S j := fun j hj => by
      rw [zu_p (by decide)]
      by_cases e : j = x
      · rw [e, zu_self]
      · rw [zu_k e]; exact hq j (by omega)
    have gm : ∀ j, j < n → (z_up (z_up m 255 x (S x)) 251 10 ((x + 1 : Nat) : Int)) 268 j = S j := fun j hj => by
      rw [zu_p (by decide), zu_p (by decide)]
      exact hm j hj
    rw [v_tch_119 m N b x (by omega), e3, if_neg (by omega), if_pos (show 0 ≤ (x : Int) ∧ (x : Int) < 5 by omega), Int.toNat_natCast, hm x (by omega), z_i2l_eq (by omega) (by omega), t_tell (j := x) m _ (by omega) h10, zb_n, v_tch_138, if_pos (show 0 ≤ (x : Int) ∧ (x : Int) < 5 by omega), Int.toNat_natCast, gm x (by omega), tc1]
    generalize z_up (z_up m 255 x (S x)) 251 10 ((x + 1 : Nat) : Int) = m0 at hi1 g10 gm gq ⊢
    exact ih (x + 1) _ m0 (by omega) hi1 g10 gq gm (v_mb hS (by omega) hb)
theorem V_chg3 (hN : w_N w h n heat D) {N : Nat} (hN6 : N ≤ 100) : ∀ (f k : Nat) (v3 : z_V) (B S : Nat → Int) (m : z_M), k + f = N → R_is w h n heat price D A c U kn KS cs m → rS m 264 n = B → hr_ok n B → 0 ≤ B 35 → B 35 + (f : Int) ≤ 2147483647 → (∀ j, j < n → m 268 j = S j) → (∀ j, j < n → 0 ≤ S j ∧ S j ≤ 9 * (k : Int)) → ∃ m1, z_R 242 (m, 40, [(2, 251), (0, (N : Int)), (0, (k : Int)), v3], []) = some (m1, some (0, v_m (v_H w h n heat price cs D f B S) n 0 0)) ∧ m1 251 10 = (n : Int) ∧ ∀ j, j < n → m1 255 j = v_H w h n heat price cs D f B S j := by
  have h5 := hN.1.2.2
  intro f
  induction f with
  | zero =>
    intro k v3 B S m hk hi hB hok ht ht2 hS hb
    have hi1 : R_is w h n heat price D A c U kn KS cs (z_up m 251 10 0) := R_upn hi (by decide)
    have g10 : (z_up m 251 10 0) 251 10 = ((0 : Nat) : Int) := zu_self
    have gm : ∀ j, j < n → (z_up m 251 10 0) 268 j = S j := fun j hj => by
      rw [zu_p (by decide)]
      exact hS j hj
    rw [v_tch_40, if_pos (by omega)]
    generalize z_up m 251 10 0 = m0 at hi1 g10 gm ⊢
    exact V_chg4 (S := S) (K := 9 * (k : Int)) (by omega) (N := (N : Int)) h5 hb n 0 0 m0 (by omega) hi1 g10 (fun j hj => absurd hj (Nat.not_lt_zero j)) gm ⟨Int.le_refl _, by omega⟩
  | succ f ih =>
    intro k v3 B S m hk hi hB hok ht ht2 hS hb
    have ht2' : B 35 + ((f : Int) + 1) ≤ 2147483647 := by omega
    obtain ⟨m1, a1, a2, a3, a4⟩ := R_chg2 h5 (N := (N : Int)) (k := (k : Int)) (hN.2.2 (B 35) ht) ⟨ht, by omega⟩ n 0 S m (by omega) hi hB hS (fun j _ hj => by have := hb j hj; omega)
    have a1 : z_R 242 (m, 47, [(2, 251), (0, (N : Int)), (0, (k : Int)), (0, 0)], []) = z_R 242 (m1, 47, [(2, 251), (0, (N : Int)), (0, (k : Int)), (0, (n : Int))], []) := a1
    have e3 := a2.1.2.2.1
    obtain ⟨m2, b1, b2, b3, b4, b5, b6, b7⟩ := r_hour (a := 264) z_A_264 (Or.inr rfl) hN.1.1 hN.1.2.1 (price := price) ⟨hN.1.2.2, hN.2.1, c_ml_ok cs, hN.2.2⟩ m1 (R_cfg a2) a3 hok ht (by omega)
    have b1 : z_R 208 (m1, 0, [(2, 251), (2, 264), (9, 0), (9, 0), (9, 0)], []) = some (m2, none) := b1
    have s1 : z_same (r_LHs 264) m1 m2 := b7.subo (by (try unfold r_LHs); (repeat' (first | exact trivial | refine z_sbo_c ?_ ?_)) <;> (intro k h1 h2; first | exact z_on_h rfl (by omega) (by omega) | exact z_on_t (z_on_h rfl (by omega) (by omega)) | exact z_on_t (z_on_t (z_on_h rfl (by omega) (by omega))) | exact z_on_t (z_on_t (z_on_t (z_on_h rfl (by omega) (by omega)))) | exact z_on_t (z_on_t (z_on_t (z_on_t (z_on_h rfl (by omega) (by omega))))) | exact z_on_t (z_on_t (z_on_t (z_on_t (z_on_t (z_on_h rfl (by omega) (by omega)))))) | exact z_on_t (z_on_t (z_on_t (z_on_t (z_on_t (z_on_t (z_on_h rfl (by omega) (by omega))))))) | exact z_on_t (z_on_t (z_on_t (z_on_t (z_on_t (z_on_t (z_on_t (z_on_h rfl (by omega) (by omega)))))))) | exact z_on_t (z_on_t (z_on_t (z_on_t (z_on_t (z_on_t (z_on_t (z_on_t (z_on_h rfl (by omega) (by omega))))))))) | exact z_on_t (z_on_t (z_on_t (z_on_t (z_on_t (z_on_t (z_on_t (z_on_t (z_on_t (z_on_h rfl (by omega) (by omega)))))))))) | exact z_on_t (z_on_t (z_on_t (z_on_t (z_on_t (z_on_t (z_on_t (z_on_t (z_on_t (z_on_t (z_on_h rfl (by omega) (by omega))))))))))) | exact z_on_t (z_on_t (z_on_t (z_on_t (z_on_t (z_on_t (z_on_t (z_on_t (z_on_t (z_on_t (z_on_t (z_on_h rfl (by omega) (by omega)))))))))))) | exact z_on_t (z_on_t (z_on_t (z_on_t (z_on_t (z_on_t (z_on_t (z_on_t (z_on_t (z_on_t (z_on_t (z_on_t (z_on_h rfl (by omega) (by omega)))))))))))))))
    have hok' := hr_A_ok (price := price) hN.1.1 hN.1.2.1 hN.1.2.2 hN.2.1 (c_ml_ok cs) (hN.2.2 (B 35) ht) hok
    have e35 : hr_A w h heat price (c_ml cs) (wmD D (B 35)) n B 35 = B 35 + 1 := by rw [hr_A_35 hN.1.1 hN.1.2.1 hN.1.2.2, z_add_eq (by omega) (by omega)]
    have hS2 : ∀ j, j < n → m2 268 j = v_w (wmD D (B 35)) B n 0 S j := fun j hj => (s1.of (p := 268) (k := j) (by (try unfold r_LHs); (repeat' (first | exact trivial | refine z_of_c ?_ ?_)) <;> omega)).trans (a4 j hj)
    obtain ⟨m3, c1, c2⟩ := ih (k + 1) (0, (n : Int)) _ (v_w (wmD D (B 35)) B n 0 S) m2 (by omega) (R_off264 a2 s1) b2 hok' (by omega) (by omega) hS2 (fun j hj => by
      have := v_w_b (K := 9 * (k : Int)) (A := B) h5 (hN.2.2 (B 35) ht) hb j hj
      omega)
    rw [v_tch_40, if_neg (by omega), a1, v_tch_47 m1 N k n (by omega), e3, if_pos (Int.le_refl _), b1, zb_n, v_tch_104, z_add_eq (x := (k : Int)) (y := 1) (by omega) (by omega), tc1, c1]
    exact ⟨m3, rfl, c2⟩
theorem V_charges (hi : R_is w h n heat price D A c U kn KS cs m) (hN : w_N w h n heat D) (hok : hr_ok n A) (ht : 0 ≤ A 35 ∧ A 35 ≤ 1073741824) (a : Int) : ∃ m1, z_R 242 (m, 0, [(2, 251), (0, a), (9, 0), (9, 0)], []) = some (m1, some (0, v_A w h n heat price cs D A a)) ∧ r_rw m m1 (ro_chg w h n heat price cs D A a) := by
  have hu := R_upn (p0 := 251) (k0 := 11) (v := 0) hi (by decide)
  have hw : r_rw m (z_up m 251 11 0) none := r_rw_11
  rw [v_tch_0, R_isl]
  generalize z_up m 251 11 0 = m0 at hu hw ⊢
  by_cases c1 : 0 ≤ a ∧ a ≤ 100
  · obtain ⟨N, rfl⟩ : ∃ N : Nat, a = (N : Int) := ⟨a.toNat, by omega⟩
    have e : v_A w h n heat price cs D A (N : Int) = v_m (v_H w h n heat price cs D (N : Int).toNat A (fun _ => 0)) n 0 0 := if_pos c1
    rw [Int.toNat_natCast] at e
    obtain ⟨m1, b1, b2, b3⟩ := R_lt hu
    obtain ⟨m2, d1, d2, d3, d4⟩ := R_chg1 (N := (N : Int)) 5 0 m1 (by decide) b2 (fun j hj => absurd hj (by omega))
    have d1 : z_R 242 (m1, 20, [(2, 251), (0, (N : Int)), (0, 0), (9, 0)], []) = z_R 242 (m2, 40, [(2, 251), (0, (N : Int)), (0, 0), (9, 0)], []) := d1
    have hA2 : rS m2 264 n = A := by
      rw [← b3]
      exact rS_cp fun k _ => d4.of (by (try unfold r_LHs); (repeat' (first | exact trivial | refine z_of_c ?_ ?_)) <;> omega)
    obtain ⟨m3, g1, g2⟩ := V_chg3 hN (N := N) (by omega) N 0 (9, 0) A (fun _ => 0) m2 (by omega) d2 hA2 hok ht.1 (by omega) (fun j hj => d3 j (by have := hN.1.2.2; omega)) (fun j hj => ⟨Int.le_refl _, by omega⟩)
    have g1 : z_R 242 (m2, 40, [(2, 251), (0, (N : Int)), (0, 0), (9, 0)], []) = some (m3, some (0, v_m (v_H w h n heat price cs D N A (fun _ => 0)) n 0 0)) := g1
    rw [if_pos c1, zb_v, v_tch_9, if_neg (show ¬ (1 : Int) = 0 by decide), b1, zb_n, v_tch_18, d1, g1, e]
    refine ⟨m3, rfl, r_rw_s (if_pos c1) ?_⟩
    rw [Int.toNat_natCast]
    exact r_rw_of g2.1 g2.2
  · have e : v_A w h n heat price cs D A a = -1 := if_neg c1
    rw [if_neg c1, zb_v, v_tch_9, if_pos rfl, e]
    exact ⟨m0, rfl, r_rw_m hw (if_neg c1)⟩
/-! winter -/
theorem W_wtail (x2 : Int) : ∃ m', z_R 82 (m, 89, [(2, 0), (0, 1), (0, x2)], []) = some (m', some (0, x2)) ∧ m' 0 13 = 3 := by
  rw [w_win_89]
  by_cases z : m 118 4 ≤ x2
  · rw [if_pos z, c_tell3, zb_n, w_win_125]
    exact ⟨_, rfl, zu_self⟩
  · rw [if_neg z, c_tell3, zb_n, w_win_125]
    exact ⟨_, rfl, zu_self⟩
theorem W_win_no (h1 : m 1 1 ≤ 80) {G : Int → Int} (hr : u_gr G) (hG : u_nx (m 2) (m 1 1) 60 = G) {j : Int} {l : List (Int × Int × Int)} (hS : w_rd G (m 1 1) = (false, j, l)) (hj : 0 ≤ j ∧ j ≤ 80) : ∃ m1, z_R 82 (m, 0, [(2, 0), (9, 0), (9, 0)], []) = some (m1, some (0, -1 - j)) ∧ c_ln m m1 none := by
  obtain ⟨m1, a1, a2, -, a4⟩ := w_readc m h1 hr hG
  rw [hS] at a1 a2
  have a1 : z_R 83 (m, 0, [(2, 118), (9, 0)], []) = some (m1, some (0, 0)) := a1
  have k12 : (z_up m1 1 1 0) 1 2 = j := (zu_k (by decide)).trans a2.2.1
  rw [w_win_0, a1, zb_v, w_win_7, s_empty_0, zb_n, w_win_15, if_pos (show (0 : Int) = 0 from rfl), k12, z_sub_eq (by omega) (by omega)]
  exact ⟨_, rfl, (X_up (by decide)).trans (a4.of (by (try unfold r_LHs); (repeat' (first | exact trivial | refine z_of_c ?_ ?_)) <;> omega))⟩
theorem W_win {e : Int} (hi : C_is w h n heat price D A c U kn KS cs m) (hN : w_N w h n heat D) (hI : w_inv n A e) (he : e + 270 ≤ 2147483600) (h1 : m 1 1 ≤ 80) {G : Int → Int} (hr : u_gr G) (hG : u_nx (m 2) (m 1 1) 60 = G) {j : Int} {l : List (Int × Int × Int)} (hS : w_rd G (m 1 1) = (true, j, l)) (hl : (∀ a ∈ l, w_av a) ∧ l.length ≤ 30) {d : Nat} {B : Nat → Int} (hd : w_go w h n heat price cs D l A = (d, B)) : ∃ m1, z_R 82 (m, 0, [(2, 0), (9, 0), (9, 0)], []) = some (m1, some (0, (d : Int))) ∧ c_ln m m1 (some 3) := by
  obtain ⟨m1, a1, a2, a3, a4⟩ := w_readc m h1 hr hG
  rw [hS] at a1 a3
  have a1 : z_R 83 (m, 0, [(2, 118), (9, 0)], []) = some (m1, some (0, 1)) := a1
  obtain ⟨a5, a6⟩ := a3 rfl
  have a5 : m1 118 4 = (l.length : Int) := a5
  have a6 : w_cl m1 0 l := a6
  have hC0 := C_wtext hi a4
  have f0 : ∀ p k, ¬ p = 1 → (z_up m1 1 1 0) p k = m1 p k := fun p k hp => zu_p hp
  rw [w_win_0, a1, zb_v, w_win_7, s_empty_0, zb_n, w_win_15, if_neg (show ¬ (1 : Int) = 0 by decide)]
  generalize z_up m1 1 1 0 = m0 at hC0 f0 ⊢
  obtain ⟨m2, b1, b2, b3⟩ := c_become z_st_12 z_st_18 (by decide) m0
  have b1 : z_R 61 (m0, 0, [(2, 18), (2, 12)], []) = some (m2, none) := b1
  have hC2 : C_is w h n heat price D A c U kn KS cs m2 := C_fr hC0 fun p k hk => by
    have hk' := hk
    unfold C_hit at hk'
    have hk' := of_decide_eq_true hk'
    exact b3.of (by (try unfold r_LHs); (repeat' (first | exact trivial | refine z_of_c ?_ ?_)) <;> omega)
  have hA2 : cS m2 18 n = A := (cS_cR b2).trans hC0.2.2.1
  have hC3 : C_is w h n heat price D A c U kn KS cs (z_up (z_up (z_up (z_up m2 24 6 0) 24 7 0) 24 8 0) 24 9 0) := C_upn (C_upn (C_upn (C_upn hC2 (by decide)) (by decide)) (by decide)) (by decide)
  have k6 : (z_up (z_up (z_up (z_up m2 24 6 0) 24 7 0) 24 8 0) 24 9 0) 24 6 = 0 := by rw [zu_k (by decide), zu_k (by decide), zu_k (by decide), zu_self]
  have k9 : (z_up (z_up (z_up (z_up m2 24 6 0) 24 7 0) 24 8 0) 24 9 0) 24 9 = 0 := zu_self
  have f3 : ∀ p k, ¬ p = 24 → (z_up (z_up (z_up (z_up m2 24 6 0) 24 7 0) 24 8 0) 24 9 0) p k = m2 p k := fun p k hp => by rw [zu_p hp, zu_p hp, zu_p hp, zu_p hp]
  rw [b1, zb_n, w_win_40, s_cb_0, zb_n, w_win_47]
  generalize z_up (z_up (z_up (z_up m2 24 6 0) 24 7 0) 24 8 0) 24 9 0 = m3 at hC3 k6 k9 f3 ⊢
  have fr : ∀ p k, (118 ≤ p ∧ p ≤ 121) → m3 p k = m1 p k := fun p k hp => by
    rw [f3 p k (by omega), b3.of (p := p) (k := k) (by (try unfold r_LHs); (repeat' (first | exact trivial | refine z_of_c ?_ ?_)) <;> omega)]
    exact f0 p k (by omega)
  have hA3 : cS m3 18 n = A := by
    rw [cS_fr (fun j k hj _ => f3 (18 + j) k (by omega))]
    exact hA2
  obtain ⟨m4, c1, c2, c3⟩ := C_wgo hN l 0 A e m3 (by omega) (by omega) (by rw [fr 118 4 (by decide), a5, Nat.zero_add]) (w_cl_fr l 0 a6 (fun j => ⟨fr 119 j (by decide), fr 120 j (by decide), fr 121 j (by decide)⟩)) hl.1 hC3 hI (by rw [k6]; decide +kernel) (by rw [k9]; decide +kernel)
  rw [hd, Nat.zero_add] at c1
  rw [hd] at c2
  have c1 : z_R 82 (m3, 49, [(2, 0), (0, 1), (0, 0)], []) = z_R 82 (m4, 74, [(2, 0), (0, 1), (0, (d : Int))], []) := c1
  have c2 : C_is w h n heat price D B c U kn KS cs m4 := c2
  rw [c1, w_win_74]
  by_cases z : d = 0
  · rw [if_pos (show (d : Int) ≤ 0 by omega), ← w_win_89 m4 1 (d : Int)]
    exact W_wtail _
  · obtain ⟨m5, d1, d2, -⟩ := C_rem c2 (s := 18) (Or.inr rfl)
    have d1 : z_R 60 (m4, 0, [(2, 28), (2, 18)], []) = some (m5, none) := d1
    have hA4 : cS m4 18 n = A := by
      rw [cS_fr (fun j k hj _ => c3.of (p := 18 + j) (k := k) (by (try unfold r_LHs); (repeat' (first | exact trivial | refine z_of_c ?_ ?_)) <;> omega))]
      exact hA3
    rw [hA4] at d2
    rw [if_neg (show ¬ (d : Int) ≤ 0 by omega), d1, zb_n]
    exact W_wtail _
theorem V_wtail (x1 x2 x3 : Int) : ∃ m', z_R 212 (m, 179, [(2, 251), (0, x1), (0, x2), (0, x3)], []) = some (m', some (0, x3)) ∧ m' 251 10 = 3 := by
  rw [v_win_179]
  by_cases z : x1 ≤ x3
  · rw [if_pos z, t_tell0, zb_n, v_win_198, t_tell1, zb_n, v_win_207, t_tell2, zb_n, v_win_216]
    exact ⟨_, rfl, zu_self⟩
  · rw [if_neg z, t_tell0, zb_n, v_win_198, t_tell1, zb_n, v_win_207, t_tell2, zb_n, v_win_216]
    exact ⟨_, rfl, zu_self⟩
theorem V_win {e : Int} (hi : R_is w h n heat price D A c U kn KS cs m) (hN : w_N w h n heat D) (hI : w_inv n A e) (he : e + 270 ≤ 2147483600) (h0 : 0 ≤ m 251 8) (h1 : m 251 8 ≤ 80) (hb : ∀ k, k < 80 → -128 ≤ m 254 k ∧ m 254 k ≤ 127) {G : Int → Int} (hG : u_nx (u_t m) (m 251 8) 60 = G) {j : Int} {l : List (Int × Int × Int)} (hS : w_rd G (m 251 8) = (true, j, l)) (hl : (∀ a ∈ l, w_av a) ∧ l.length ≤ 30) {d : Nat} {B : Nat → Int} (hd : w_go w h n heat price cs D l A = (d, B)) : ∃ m1, z_R 212 (m, 0, [(2, 251), (9, 0), (9, 0), (9, 0)], []) = some (m1, some (0, (d : Int))) ∧ r_ln m m1 (some 3) := by
  obtain ⟨m1, a1, a2, -⟩ := w_readq m h0 h1 hb hG
  rw [hS] at a2
  obtain ⟨a3, a4⟩ := a2 rfl
  have a3 : z_R 212 (m, 0, [(2, 251), (9, 0), (9, 0), (9, 0)], []) = z_R 212 (m1, 93, [(2, 251), (0, (l.length : Int)), (0, 0), (9, 0)], [(0, 1)]) := a3
  have a4 : w_rl m1 0 l := a4
  have hR1 := R_wtext hi a1
  obtain ⟨m2, b1, b2, b3⟩ := t_layd (a := 252) (q := 261) (B := 0) t_lay261_0 t_lay261_2 (by decide) (b := 0) (by decide) m1
  have b1 : z_R 198 (m1, 0, [(2, 252), (2, 261), (0, 0), (9, 0)], []) = some (m2, none) := b1
  have b2 : ∀ k, k < 37 → m2 261 k = m1 252 k := fun k hk => by
    have := b2 k hk
    rw [Nat.zero_add] at this
    exact this
  have hR2 : R_is w h n heat price D A c U kn KS cs m2 := R_fr hR1 fun p k hk => by
    have hk' := hk
    unfold R_hit at hk'
    have hk' := of_decide_eq_true hk'
    exact b3 p k (by omega)
  have hA2 : rS m2 261 n = A := (rS_cp b2).trans hR1.2.2.1
  have hR3 : R_is w h n heat price D A c U kn KS cs (z_up (z_up (z_up (z_up m2 251 32 0) 251 33 0) 251 34 0) 251 35 0) := R_upn (R_upn (R_upn (R_upn hR2 (by decide)) (by decide)) (by decide)) (by decide)
  have f3 : ∀ p k, ¬ p = 251 → (z_up (z_up (z_up (z_up m2 251 32 0) 251 33 0) 251 34 0) 251 35 0) p k = m2 p k := fun p k hp => by rw [zu_p hp, zu_p hp, zu_p hp, zu_p hp]
  rw [a3, v_win_93, if_neg (show ¬ (1 : Int) = 0 by decide), b1, zb_n, v_win_115, t_bh_0, zb_n, v_win_119]
  generalize z_up (z_up (z_up (z_up m2 251 32 0) 251 33 0) 251 34 0) 251 35 0 = m3 at hR3 f3 ⊢
  have hA3 : rS m3 261 n = A := by
    rw [rS_row (funext fun k => f3 261 k (by decide))]
    exact hA2
  obtain ⟨m4, c1, c2, c3⟩ := R_wgo (x1 := (l.length : Int)) hN l 0 A e m3 (by omega) (by omega) (by rw [Nat.zero_add]) (w_rl_fr l 0 a4 (fun j => (f3 263 j (by decide)).trans (b3 263 j (by omega)))) hl.1 hR3 hI
  rw [hd, Nat.zero_add] at c1
  rw [hd] at c2
  have c1 : z_R 212 (m3, 121, [(2, 251), (0, (l.length : Int)), (0, 0), (0, 0)], []) = z_R 212 (m4, 167, [(2, 251), (0, (l.length : Int)), (0, 0), (0, (d : Int))], []) := c1
  have c2 : R_is w h n heat price D B c U kn KS cs m4 := c2
  rw [c1, v_win_167]
  by_cases z : d = 0
  · rw [if_pos (show (d : Int) ≤ 0 by omega), ← v_win_179 m4 (l.length : Int) 0 (d : Int)]
    exact V_wtail _ _ _
  · obtain ⟨m5, d1, d2, -⟩ := R_rem c2 (a := 261) (Or.inr rfl)
    have d1 : z_R 197 (m4, 0, [(2, 251), (2, 261), (9, 0)], []) = some (m5, none) := d1
    have hA4 : rS m4 261 n = A := by
      rw [rS_row (c3.ofr (by (try unfold r_LHs); (repeat' (first | exact trivial | refine z_ofr_c ?_ ?_)) <;> omega))]
      exact hA3
    rw [hA4] at d2
    rw [if_neg (show ¬ (d : Int) ≤ 0 by omega), d1, zb_n]
    exact V_wtail _ _ _
/-! season -/
def ro_sea (a : Int) : Option Nat := if 1 ≤ a ∧ a ≤ 60 then some 3 else none
theorem W_sea1 (hN : w_N w h n heat D) {x1 : Int} {N : Nat} (hN6 : N ≤ 60) : ∀ (f k : Nat) (r : Int) (m : z_M) (B : Nat → Int), k + f = N → C_is w h n heat price D A c U kn KS cs (z_up m 24 4 (-1)) → cS m 18 n = B → hr_ok n B → -1 ≤ B 34 → 0 ≤ B 35 → B 35 + (f : Int) ≤ 2147483647 → z_w (m 24 6) = m 24 6 → z_w (m 24 9) = m 24 9 → ∃ m', z_R 144 (m, 43, [(2, 0), (0, x1), (0, (N : Int)), (0, r), (0, (k : Int))], []) = some (m', some (0, se_H w h n heat price cs D f r B (m 24 9))) ∧ m' 0 13 = 3 := by
  intro f
  induction f with
  | zero =>
    intro k r m B hk hi hB hok h34 ht ht2 k6 k9
    obtain ⟨v, a1, a2⟩ := q_ogn 9 0 (-1) (z_up m 24 4 (-1)) (by decide) (Or.inl rfl)
    have a1 : z_R 149 (z_up m 24 4 (-1), 4, [(2, 24), (0, -1), (0, 0)], []) = some (z_up m 24 4 (-1), some (0, v)) := a1
    rw [q_sea_43, if_pos (by omega), q_og_0, a1, zb_v, q_sea_132]
    by_cases c1 : v = -1
    · rw [if_pos c1, c_tell3, zb_n, q_sea_170]
      rw [c_told3 (by decide) (by decide), show (z_up m 24 4 (-1)) 24 9 = m 24 9 from zu_k (by decide)]
      exact ⟨_, rfl, zu_self⟩
    · rw [if_neg c1, if_pos (show 0 ≤ v ∧ v < 9 by omega), c_tell3, zb_n, q_sea_170]
      rw [c_told3 (by decide) (by decide), show (z_up m 24 4 (-1)) 24 9 = m 24 9 from zu_k (by decide)]
      exact ⟨_, rfl, zu_self⟩
  | succ f ih =>
    intro k r m B hk hi hB hok h34 ht ht2 k6 k9
    rw [q_sea_43, if_neg (by omega), q_next_0, zb_v, q_sea_53, q_draw_0, if_pos (show (1 : Int) ≤ 10 by decide), zb_v, q_sea_64, q_next_0, zb_v, q_sea_71]
    obtain ⟨r1, hr1⟩ : ∃ r1, se_n r = r1 := ⟨_, rfl⟩
    obtain ⟨r2, hr2⟩ : ∃ r2, se_n r1 = r2 := ⟨_, rfl⟩
    have es : se_H w h n heat price cs D (f + 1) r B (m 24 9) = se_H w h n heat price cs D f r2 (hr_H w h heat price (c_ml cs) (se_w D (z_rem (z_ush r2 16) ((n : Int) + 3))) n 1 (u_up B 36 (z_rem (z_ush r1 16) 10)) 0 0 0 (m 24 9)).1 (hr_H w h heat price (c_ml cs) (se_w D (z_rem (z_ush r2 16) ((n : Int) + 3))) n 1 (u_up B 36 (z_rem (z_ush r1 16) 10)) 0 0 0 (m 24 9)).2.2.2.2 := by
      rw [← hr2, ← hr1]
      rfl
    rw [es, show z_add (z_mul r 1103515245) 12345 = r1 from hr1, show z_add (z_mul r1 1103515245) 12345 = r2 from hr2]
    clear es
    have hF := z_draw r1 (y := 10) (by decide) (by decide)
    generalize z_rem (z_ush r1 16) 10 = F at hF ⊢
    have hi1 : C_is w h n heat price D A c U kn KS cs (z_up (z_up m 18 8 F) 24 4 (-1)) := C_f4 hi fun p k hk _ => X_up fun z => by
      unfold C_hit at hk
      have := of_decide_eq_true hk
      omega
    have hB1 : cS (z_up m 18 8 F) 18 n = u_up B 36 F := by
      rw [cS_frost, hB]
    have j6 : (z_up m 18 8 F) 24 6 = m 24 6 := zu_p (by decide)
    have j9 : (z_up m 18 8 F) 24 9 = m 24 9 := zu_p (by decide)
    generalize z_up m 18 8 F = m1 at hi1 hB1 j6 j9 ⊢
    have e11 : m1 3 11 = (n : Int) := by
      have := hi1.1.2.2.1
      rw [zu_p (by decide)] at this
      exact this
    have h5 := hN.1.2.2
    rw [q_draw_0, e11, z_add_eq (x := (n : Int)) (by omega) (by omega), if_pos (show 1 ≤ (n : Int) + 3 by omega), zb_v, q_sea_89]
    generalize z_rem (z_ush r2 16) ((n : Int) + 3) = V
    have hi2 : C_is w h n heat price D A c U kn KS cs (z_up (z_up m1 24 4 V) 24 4 (-1)) := C_f4 hi1 fun p k _ hn => X_up hn
    have hB2 : cS (z_up m1 24 4 V) 18 n = u_up B 36 F := by
      rw [cS_off (by omega)]
      exact hB1
    have l6 : z_w ((z_up m1 24 4 V) 24 6) = (z_up m1 24 4 V) 24 6 := by rw [zu_k (by decide), j6]; exact k6
    have l9 : z_w ((z_up m1 24 4 V) 24 9) = (z_up m1 24 4 V) 24 9 := by rw [zu_k (by decide), j9]; exact k9
    have lf : (z_up m1 24 4 V) 24 4 = V := zu_self
    have l99 : (z_up m1 24 4 V) 24 9 = m 24 9 := (zu_k (by decide)).trans j9
    generalize z_up m1 24 4 V = m2 at hi2 hB2 l6 l9 lf l99 ⊢
    have hok2 : hr_ok n (u_up B 36 F) := hr_ok_up hok (by decide) (fun _ => by omega) (fun p h1 h2 => by omega)
    have h342 : -1 ≤ u_up B 36 F 34 := by rw [u_up_ne (by decide)]; exact h34
    have h352 : u_up B 36 F 35 = B 35 := u_up_ne (by decide)
    have hnum : hr_nums n heat (c_ml cs) (se_w D V) := ⟨h5, hN.2.1, c_ml_ok cs, wmf_b hN.2.2⟩
    obtain ⟨m3, b1, b2, b3⟩ := c_goOn z_st_18 hN.1.1 hN.1.2.1 (price := price) hnum (N := 1) (by decide) m2 (C_cfgf hi2 lf) hB2 hok2 (by rw [h352]; exact ht) (by rw [h352]; omega) l6 l9
    have b1 : z_R 67 (m2, 0, [(2, 24), (2, 18), (0, 1), (9, 0)], []) = some (m3, none) := b1
    obtain ⟨⟨o1, o2⟩, o3⟩ := hr_H_ok (price := price) hN.1.1 hN.1.2.1 hnum 1 (u_up B 36 F) (m2 24 6) (m2 24 7) (m2 24 8) (m2 24 9) hok2 h342 (by rw [h352]; exact ht) (by rw [h352]; omega)
    have ow := hr_H_w (w := w) (h := h) (n := n) (heat := heat) (price := price) (ml := c_ml cs) (wmt := se_w D V) 1 (u_up B 36 F) (m2 24 6) (m2 24 7) (m2 24 8) (m2 24 9) l6 l9
    rw [← b2] at o1 o2 o3 ow
    have o1 : hr_ok n (cS m3 18 n) := o1
    have o2 : -1 ≤ cS m3 18 n 34 := o2
    have o3 : cS m3 18 n 35 = B 35 + 1 := by
      have o3 : cS m3 18 n 35 = u_up B 36 F 35 + ((1 : Nat) : Int) := o3
      omega
    have ow6 : z_w (m3 24 6) = m3 24 6 := ow.1
    have ow9 : z_w (m3 24 9) = m3 24 9 := ow.2
    obtain ⟨m4, c1, c2⟩ := q_cgn 9 0 m3 (by decide)
    have c1 : z_R 148 (m3, 2, [(2, 24), (0, 0)], []) = some (m4, none) := c1
    have hi4 : C_is w h n heat price D A c U kn KS cs (z_up m4 24 4 (-1)) := C_f4 hi2 fun p k hk hn => by
      have hk' := hk
      unfold C_hit at hk'
      have hk' := of_decide_eq_true hk'
      rw [c2.of (p := p) (k := k) (by (try unfold r_LHs); (repeat' (first | exact trivial | refine z_of_c ?_ ?_)) <;> omega)]
      exact b3.of (by (try unfold r_LHs); (repeat' (first | exact trivial | refine z_of_c ?_ ?_)) <;> omega)
    have e18 : cS m4 18 n = cS m3 18 n := cS_fr (fun j k hj _ => c2.of (by (try unfold r_LHs); (repeat' (first | exact trivial | refine z_of_c ?_ ?_)) <;> omega))
    have e6 : m4 24 6 = m3 24 6 := c2.of (by (try unfold r_LHs); (repeat' (first | exact trivial | refine z_of_c ?_ ?_)) <;> omega)
    have e9 : m4 24 9 = m3 24 9 := c2.of (by (try unfold r_LHs); (repeat' (first | exact trivial | refine z_of_c ?_ ?_)) <;> omega)
    have q1 := hr_H1_cg (w := w) (h := h) (n := n) (heat := heat) (price := price) (ml := c_ml cs) (wmt := se_w D V) (wmt' := se_w D V) (A := u_up B 36 F) (fun _ _ => rfl) (M := m2 24 6) (M' := 0) (G := m2 24 7) (G' := 0) (F := m2 24 8) (F' := 0) (T := m2 24 9)
    rw [← b2] at q1
    have q2 : cS m3 18 n = (hr_H w h heat price (c_ml cs) (se_w D V) n 1 (u_up B 36 F) 0 0 0 (m2 24 9)).1 := q1.1
    have q3 : m3 24 9 = (hr_H w h heat price (c_ml cs) (se_w D V) n 1 (u_up B 36 F) 0 0 0 (m2 24 9)).2.2.2.2 := q1.2
    rw [b1, zb_n, q_sea_104, q_cg_0, c1, zb_n, q_sea_111, z_add_eq (by omega) (by omega), tc1, ← l99, ← q2, ← q3, ← e9]
    exact ih (k + 1) r2 m4 (cS m3 18 n) (by omega) hi4 e18 o1 o2 (by omega) (by omega) (by rw [e6]; exact ow6) (by rw [e9]; exact ow9)
theorem W_season (hi : C_is w h n heat price D A c U kn KS cs m) (hN : w_N w h n heat D) (hok : hr_ok n A) (h34 : -1 ≤ A 34) (ht : 0 ≤ A 35 ∧ A 35 ≤ 1073741824) (s a : Int) : ∃ m', z_R 144 (m, 0, [(2, 0), (0, s), (0, a), (9, 0), (9, 0)], []) = some (m', some (0, se_A w h n heat price cs D A s a)) ∧ c_ln m m' (ro_sea a) := by
  rw [q_sea_0]
  by_cases c1 : a < 1
  · have e : se_A w h n heat price cs D A s a = -1 := if_neg (by omega)
    rw [if_pos c1, e]
    exact ⟨m, rfl, c_ln_n (if_neg (by omega))⟩
  rw [if_neg c1]
  by_cases c2 : a ≤ 60
  · have e : se_A w h n heat price cs D A s a = se_H w h n heat price cs D a.toNat s A 0 := if_pos (by omega)
    obtain ⟨N, rfl⟩ : ∃ N : Nat, a = (N : Int) := ⟨a.toNat, by omega⟩
    rw [Int.toNat_natCast] at e
    obtain ⟨m2, b1, b2, b3⟩ := c_become z_st_12 z_st_18 (by decide) m
    have b1 : z_R 61 (m, 0, [(2, 18), (2, 12)], []) = some (m2, none) := b1
    have hC2 : C_is w h n heat price D A c U kn KS cs m2 := C_fr hi fun p k hk => by
      have hk' := hk
      unfold C_hit at hk'
      have hk' := of_decide_eq_true hk'
      exact b3.of (by (try unfold r_LHs); (repeat' (first | exact trivial | refine z_of_c ?_ ?_)) <;> omega)
    have hA2 : cS m2 18 n = A := (cS_cR b2).trans hi.2.2.1
    have hC3 : C_is w h n heat price D A c U kn KS cs (z_up (z_up (z_up (z_up m2 24 6 0) 24 7 0) 24 8 0) 24 9 0) := C_upn (C_upn (C_upn (C_upn hC2 (by decide)) (by decide)) (by decide)) (by decide)
    have k6 : (z_up (z_up (z_up (z_up m2 24 6 0) 24 7 0) 24 8 0) 24 9 0) 24 6 = 0 := by rw [zu_k (by decide), zu_k (by decide), zu_k (by decide), zu_self]
    have k9 : (z_up (z_up (z_up (z_up m2 24 6 0) 24 7 0) 24 8 0) 24 9 0) 24 9 = 0 := zu_self
    have f3 : ∀ p k, ¬ p = 24 → (z_up (z_up (z_up (z_up m2 24 6 0) 24 7 0) 24 8 0) 24 9 0) p k = m2 p k := fun p k hp => by rw [zu_p hp, zu_p hp, zu_p hp, zu_p hp]
    rw [if_pos c2, b1, zb_n, q_sea_24, s_cb_0, zb_n, q_sea_31, q_fg_0]
    generalize z_up (z_up (z_up (z_up m2 24 6 0) 24 7 0) 24 8 0) 24 9 0 = m3 at hC3 k6 k9 f3 ⊢
    have hA3 : cS m3 18 n = A := by
      rw [cS_fr (fun j k hj _ => f3 (18 + j) k (by omega))]
      exact hA2
    obtain ⟨m4, d1, d2⟩ := q_fgn 9 0 m3 (by decide)
    have d1 : z_R 145 (m3, 2, [(2, 24), (0, 0)], []) = some (m4, none) := d1
    have hC4 : C_is w h n heat price D A c U kn KS cs m4 := C_fr hC3 fun p k hk => by
      have hk' := hk
      unfold C_hit at hk'
      have hk' := of_decide_eq_true hk'
      exact d2.of (by (try unfold r_LHs); (repeat' (first | exact trivial | refine z_of_c ?_ ?_)) <;> omega)
    have hC5 : C_is w h n heat price D A c U kn KS cs (z_up m4 24 4 (-1)) := C_fr hC4 fun p k hk => by
      by_cases e : p = 24 ∧ k = 4
      · rw [e.1, e.2, zu_self]
        exact hC4.1.2.2.2.2.2.2.1.symm
      · exact X_up e
    have e18 : cS m4 18 n = A := by
      rw [cS_fr (fun j k hj _ => d2.of (p := 18 + j) (k := k) (by (try unfold r_LHs); (repeat' (first | exact trivial | refine z_of_c ?_ ?_)) <;> omega))]
      exact hA3
    have e6 : m4 24 6 = 0 := (d2.of (by (try unfold r_LHs); (repeat' (first | exact trivial | refine z_of_c ?_ ?_)) <;> omega)).trans k6
    have e9 : m4 24 9 = 0 := (d2.of (by (try unfold r_LHs); (repeat' (first | exact trivial | refine z_of_c ?_ ?_)) <;> omega)).trans k9
    obtain ⟨m5, g1, g2⟩ := W_sea1 hN (x1 := s) (N := N) (by omega) N 0 s m4 A (by omega) hC5 e18 hok h34 ht.1 (by omega) (by rw [e6]; decide +kernel) (by rw [e9]; decide +kernel)
    have g1 : z_R 144 (m4, 43, [(2, 0), (0, s), (0, (N : Int)), (0, s), (0, 0)], []) = some (m5, some (0, se_H w h n heat price cs D N s A (m4 24 9))) := g1
    rw [d1, zb_n, q_sea_38, g1, e, e9]
    exact ⟨m5, rfl, c_ln_s (if_pos (by omega)) g2⟩
  · have e : se_A w h n heat price cs D A s a = -1 := if_neg (by omega)
    rw [if_neg c2, e]
    exact ⟨m, rfl, c_ln_n (if_neg (by omega))⟩
theorem V_sea1 (hN : w_N w h n heat D) {x1 : Int} {N : Nat} (hN6 : N ≤ 60) : ∀ (f k : Nat) (r : Int) (v5 v6 : z_V) (m : z_M) (B : Nat → Int), k + f = N → R_is w h n heat price D A c U kn KS cs (z_up m 251 23 (-1)) → rS m 264 n = B → hr_ok n B → -1 ≤ B 34 → 0 ≤ B 35 → B 35 + (f : Int) ≤ 2147483647 → ∃ m', z_R 257 (m, 54, [(2, 251), (0, x1), (0, (N : Int)), (0, r), (0, (k : Int)), v5, v6], []) = some (m', some (0, se_H w h n heat price cs D f r B (m 251 35))) ∧ m' 251 10 = 3 := by
  intro f
  induction f with
  | zero =>
    intro k r v5 v6 m B hk hi hB hok h34 ht ht2
    obtain ⟨b, x, a1, a2⟩ := q_tse195 (x1 := x1) (x2 := (N : Int)) (x3 := r) (v6 := v6) 8 1 0 (z_up m 251 23 (-1)) (by decide) (by decide)
    have a1 : z_R 257 (z_up m 251 23 (-1), 195, [(2, 251), (0, x1), (0, (N : Int)), (0, r), (0, 0), (0, 1), v6], []) = _ := a1
    have e35 : (z_up m 251 23 (-1)) 251 35 = m 251 35 := zu_k (by decide)
    rw [q_tse_54, if_pos (by omega), a1]
    generalize z_up m 251 23 (-1) = m0 at hi e35 ⊢
    rw [t_tell0, zb_n, q_tse_243, if_pos a2]
    by_cases c1 : (z_up (z_up (z_up m0 251 10 0) 255 0 (z_i2l (m0 251 32))) 251 10 1) 274 b.toNat = 0
    · rw [if_pos c1, t_tell1, zb_n, q_tse_266, if_pos a2, t_tell2, zb_n, q_tse_278]
      rw [t_told3 (by decide) (by decide), e35]
      exact ⟨_, rfl, zu_self⟩
    · rw [if_neg c1, t_tell1, zb_n, q_tse_266, if_pos a2, t_tell2, zb_n, q_tse_278]
      rw [t_told3 (by decide) (by decide), e35]
      exact ⟨_, rfl, zu_self⟩
  | succ f ih =>
    intro k r v5 v6 m B hk hi hB hok h34 ht ht2
    have h5 := hN.1.2.2
    have e3 : m 251 3 = (n : Int) := by
      have := hi.1.2.2.1
      rw [zu_k (by decide)] at this
      exact this
    obtain ⟨r1, hr1⟩ : ∃ r1, se_n r = r1 := ⟨_, rfl⟩
    obtain ⟨r2, hr2⟩ : ∃ r2, se_n r1 = r2 := ⟨_, rfl⟩
    have es : se_H w h n heat price cs D (f + 1) r B (m 251 35) = se_H w h n heat price cs D f r2 (hr_H w h heat price (c_ml cs) (se_w D (z_rem (z_ush r2 16) ((n : Int) + 3))) n 1 (u_up B 36 (z_rem (z_ush r1 16) 10)) 0 0 0 (m 251 35)).1 (hr_H w h heat price (c_ml cs) (se_w D (z_rem (z_ush r2 16) ((n : Int) + 3))) n 1 (u_up B 36 (z_rem (z_ush r1 16) 10)) 0 0 0 (m 251 35)).2.2.2.2 := by
      rw [← hr2, ← hr1]
      rfl
    have hF := z_draw r1 (y := 10) (by decide) (by decide)
    -- one hour with the one that is warm
    have key : ∀ (F W V x5 : Int), 0 ≤ F ∧ F ≤ 9 → (∀ y : Nat, y < n → ((y : Int) = V ↔ (y : Int) = W)) → ∃ m', ((z_R 207 (z_up (z_up m 264 36 F) 251 23 V, 0, [(2, 251), (2, 264), (0, 1), (9, 0)], [])).bind fun qq => z_R 257 (qq.1, 135, [(2, 251), (0, x1), (0, (N : Int)), (0, r2), (0, (k : Int)), (0, x5), v6], qq.2.toList ++ [])) = some (m', some (0, se_H w h n heat price cs D f r2 (hr_H w h heat price (c_ml cs) (se_w D W) n 1 (u_up B 36 F) 0 0 0 (m 251 35)).1 (hr_H w h heat price (c_ml cs) (se_w D W) n 1 (u_up B 36 F) 0 0 0 (m 251 35)).2.2.2.2)) ∧ m' 251 10 = 3 := by
      intro F W V x5 hF hVW
      have hi2 : R_is w h n heat price D A c U kn KS cs (z_up (z_up (z_up m 264 36 F) 251 23 V) 251 23 (-1)) := R_f23 hi fun p k hk hn => by
        rw [X_up hn]
        exact X_up fun z => by
          unfold R_hit at hk
          have := of_decide_eq_true hk
          omega
      have hB2 : rS (z_up (z_up m 264 36 F) 251 23 V) 264 n = u_up B 36 F := by
        rw [rS_row (zu_rowne (by decide)), rS_up (by decide) (a_vis_hi (by decide)), hB]
      have lf : (z_up (z_up m 264 36 F) 251 23 V) 251 23 = V := zu_self
      have l35 : (z_up (z_up m 264 36 F) 251 23 V) 251 35 = m 251 35 := (zu_k (by decide)).trans (zu_p (by decide))
      generalize z_up (z_up m 264 36 F) 251 23 V = m2 at hi2 hB2 lf l35 ⊢
      have hok2 : hr_ok n (u_up B 36 F) := hr_ok_up hok (by decide) (fun _ => hF) (fun p h1 h2 => by omega)
      have h342 : -1 ≤ u_up B 36 F 34 := by rw [u_up_ne (by decide)]; exact h34
      have h352 : u_up B 36 F 35 = B 35 := u_up_ne (by decide)
      have hnum : hr_nums n heat (c_ml cs) (se_w D V) := ⟨h5, hN.2.1, c_ml_ok cs, wmf_b hN.2.2⟩
      obtain ⟨m3, b1, b2, b3⟩ := r_goHours z_A_264 (Or.inr rfl) hN.1.1 hN.1.2.1 (price := price) hnum (N := 1) (by decide) m2 (R_cfgf hi2 lf) hB2 hok2 (by rw [h352]; exact ht) (by rw [h352]; omega)
      have b1 : z_R 207 (m2, 0, [(2, 251), (2, 264), (0, 1), (9, 0)], []) = some (m3, none) := b1
      obtain ⟨⟨o1, o2⟩, o3⟩ := hr_H_ok (price := price) hN.1.1 hN.1.2.1 hnum 1 (u_up B 36 F) (m2 251 32) (m2 251 33) (m2 251 34) (m2 251 35) hok2 h342 (by rw [h352]; exact ht) (by rw [h352]; omega)
      rw [← b2] at o1 o2 o3
      have o1 : hr_ok n (rS m3 264 n) := o1
      have o2 : -1 ≤ rS m3 264 n 34 := o2
      have o3 : rS m3 264 n 35 = B 35 + 1 := by
        have o3 : rS m3 264 n 35 = u_up B 36 F 35 + ((1 : Nat) : Int) := o3
        omega
      obtain ⟨m4, y6, c1, c2⟩ := q_tse138 (x1 := x1) (x2 := (N : Int)) (x3 := r2) (x4 := (k : Int)) (x5 := x5) 9 0 m3 (by decide)
      have c1 : z_R 257 (m3, 138, [(2, 251), (0, x1), (0, (N : Int)), (0, r2), (0, (k : Int)), (0, x5), (0, 0)], []) = z_R 257 (m4, 54, [(2, 251), (0, x1), (0, (N : Int)), (0, r2), (0, z_add (k : Int) 1), (0, x5), y6], []) := c1
      have hi4 : R_is w h n heat price D A c U kn KS cs (z_up m4 251 23 (-1)) := R_f23 hi2 fun p k hk hn => by
        have hk' := hk
        unfold R_hit at hk'
        have hk' := of_decide_eq_true hk'
        rw [c2.of (p := p) (k := k) (by (try unfold r_LHs); (repeat' (first | exact trivial | refine z_of_c ?_ ?_)) <;> omega)]
        exact b3.of (by (try unfold r_LHs); (repeat' (first | exact trivial | refine z_of_c ?_ ?_)) <;> omega)
      have e18 : rS m4 264 n = rS m3 264 n := rS_row (c2.ofr (by (try unfold r_LHs); (repeat' (first | exact trivial | refine z_ofr_c ?_ ?_)) <;> omega))
      have q1 := hr_H1_cg (w := w) (h := h) (n := n) (heat := heat) (price := price) (ml := c_ml cs) (wmt := se_w D V) (wmt' := se_w D W) (A := u_up B 36 F) (fun y hy => by
        show (if (y : Int) = V then 9 else wmD D (u_up B 36 F 35) y) = (if (y : Int) = W then 9 else wmD D (u_up B 36 F 35) y)
        by_cases e : (y : Int) = V
        · rw [if_pos e, if_pos ((hVW y hy).mp e)]
        · rw [if_neg e, if_neg (fun z => e ((hVW y hy).mpr z))]) (M := m2 251 32) (M' := 0) (G := m2 251 33) (G' := 0) (F := m2 251 34) (F' := 0) (T := m2 251 35)
      rw [← b2] at q1
      have q2 : rS m3 264 n = (hr_H w h heat price (c_ml cs) (se_w D W) n 1 (u_up B 36 F) 0 0 0 (m2 251 35)).1 := q1.1
      have q3 : m3 251 35 = (hr_H w h heat price (c_ml cs) (se_w D W) n 1 (u_up B 36 F) 0 0 0 (m2 251 35)).2.2.2.2 := q1.2
      have e35 : m4 251 35 = m3 251 35 := c2.of (by (try unfold r_LHs); (repeat' (first | exact trivial | refine z_of_c ?_ ?_)) <;> omega)
      rw [b1, zb_n, q_tse_135, c1, z_add_eq (by omega) (by omega), tc1, ← l35, ← q2, ← q3, ← e35]
      exact ih (k + 1) r2 _ _ m4 (rS m3 264 n) (by omega) hi4 e18 o1 o2 (by omega) (by omega)
    rw [q_tse_54, if_neg (by omega), e3, z_add_eq (x := (n : Int)) (y := 3) (by omega) (by omega), if_neg (show ¬ (n : Int) + 3 = 0 by omega), es, show z_add (z_mul r 1103515245) 12345 = r1 from hr1, show z_add (z_mul r1 1103515245) 12345 = r2 from hr2]
    have hV := z_draw r2 (y := (n : Int) + 3) (by omega) (by omega)
    by_cases c1 : (n : Int) ≤ z_rem (z_ush r2 16) ((n : Int) + 3)
    · rw [if_pos c1]
      exact key _ _ _ _ (by omega) (fun y hy => by omega)
    · rw [if_neg c1]
      exact key _ _ _ _ (by omega) (fun y hy => Iff.rfl)
theorem V_season (hi : R_is w h n heat price D A c U kn KS cs m) (hN : w_N w h n heat D) (hok : hr_ok n A) (h34 : -1 ≤ A 34) (ht : 0 ≤ A 35 ∧ A 35 ≤ 1073741824) (s a : Int) : ∃ m', z_R 257 (m, 0, [(2, 251), (0, s), (0, a), (9, 0), (9, 0), (9, 0), (9, 0)], []) = some (m', some (0, se_A w h n heat price cs D A s a)) ∧ r_ln m m' (ro_sea a) := by
  have hu := R_upn (p0 := 251) (k0 := 11) (v := 0) hi (by decide)
  rw [q_tse_0]
  by_cases ok : 1 ≤ a ∧ a ≤ 60
  · have e : se_A w h n heat price cs D A s a = se_H w h n heat price cs D a.toNat s A 0 := if_pos ok
    obtain ⟨N, rfl⟩ : ∃ N : Nat, a = (N : Int) := ⟨a.toNat, by omega⟩
    rw [Int.toNat_natCast] at e
    obtain ⟨m1, b1, b2, b3⟩ := R_lt hu
    have hR3 : R_is w h n heat price D A c U kn KS cs (z_up (z_up (z_up (z_up m1 251 32 0) 251 33 0) 251 34 0) 251 35 0) := R_upn (R_upn (R_upn (R_upn b2 (by decide)) (by decide)) (by decide)) (by decide)
    have f3 : ∀ p k, ¬ p = 251 → (z_up (z_up (z_up (z_up m1 251 32 0) 251 33 0) 251 34 0) 251 35 0) p k = m1 p k := fun p k hp => by rw [zu_p hp, zu_p hp, zu_p hp, zu_p hp]
    have k35 : (z_up (z_up (z_up (z_up m1 251 32 0) 251 33 0) 251 34 0) 251 35 0) 251 35 = 0 := zu_self
    rw [if_pos ok, b1, zb_n, q_tse_23]
    generalize z_up (z_up (z_up (z_up m1 251 32 0) 251 33 0) 251 34 0) 251 35 0 = m2 at hR3 f3 k35 ⊢
    obtain ⟨m3, c1, c2⟩ := q_tse30 (x1 := s) (x2 := (N : Int)) (x3 := s) 9 0 m2 (by decide)
    have c1 : z_R 257 (m2, 30, [(2, 251), (0, s), (0, (N : Int)), (0, s), (0, 0), (9, 0), (9, 0)], []) = z_R 257 (m3, 54, [(2, 251), (0, s), (0, (N : Int)), (0, s), (0, 0), (9, 0), (9, 0)], []) := c1
    have hR4 : R_is w h n heat price D A c U kn KS cs m3 := R_fr hR3 fun p k hk => by
      have hk' := hk
      unfold R_hit at hk'
      have hk' := of_decide_eq_true hk'
      exact c2.of (by (try unfold r_LHs); (repeat' (first | exact trivial | refine z_of_c ?_ ?_)) <;> omega)
    have hR5 : R_is w h n heat price D A c U kn KS cs (z_up m3 251 23 (-1)) := R_fr hR4 fun p k hk => by
      by_cases e : p = 251 ∧ k = 23
      · rw [e.1, e.2, zu_self]
        exact hR4.1.2.2.2.2.2.symm
      · exact X_up e
    have e264 : rS m3 264 n = A := by
      rw [rS_row (c2.ofr (by (try unfold r_LHs); (repeat' (first | exact trivial | refine z_ofr_c ?_ ?_)) <;> omega)), rS_row (funext fun k => f3 264 k (by decide))]
      exact b3
    have e35 : m3 251 35 = 0 := (c2.of (by (try unfold r_LHs); (repeat' (first | exact trivial | refine z_of_c ?_ ?_)) <;> omega)).trans k35
    obtain ⟨m5, g1, g2⟩ := V_sea1 hN (x1 := s) (N := N) (by omega) N 0 s (9, 0) (9, 0) m3 A (by omega) hR5 e264 hok h34 ht.1 (by omega)
    have g1 : z_R 257 (m3, 54, [(2, 251), (0, s), (0, (N : Int)), (0, s), (0, 0), (9, 0), (9, 0)], []) = some (m5, some (0, se_H w h n heat price cs D N s A (m3 251 35))) := g1
    rw [c1, g1, e, e35]
    exact ⟨m5, rfl, r_ln_s (if_pos ok) g2⟩
  · have e : se_A w h n heat price cs D A s a = -1 := if_neg ok
    rw [if_neg ok, e]
    exact ⟨_, rfl, r_ln_n (zu_k (by decide)) (if_neg ok)⟩
/-! share, thaw: what is refused leaves all -/
theorem W_share (hi : C_is w h n heat price D A c U kn KS cs m) (h5 : n ≤ 5) (hw : wi w h n A) {p v : Int} {m' : z_M} (hE : z_R 116 (m, 0, [(2, 0), (0, p), (9, 0), (9, 0)], []) = some (m', some (0, v))) (hv : v < 0) : m' = m := by
  rw [x_sha_0, hi.1.1, hi.1.2.1, hi.1.2.2.1] at hE
  by_cases c1 : 0 ≤ p ∧ p < (n : Int)
  · obtain ⟨q, rfl⟩ : ∃ q : Nat, p = (q : Int) := ⟨p.toNat, by omega⟩
    have e15 : m 15 q = A (q + 18) := C_A3 hi (by omega) h5
    rw [if_pos c1, if_pos (show 0 ≤ (q : Int) ∧ (q : Int) < 5 by omega), Int.toNat_natCast, e15] at hE
    by_cases c2 : u_hs (w : Int) (h : Int) (A (q + 18)) = 0
    · rw [if_neg (not_not_intro c2)] at hE
      have z := (hw.1 q (by omega)).resolve_right (not_not_intro c2)
      exact s_mem hE
    · have z : ¬ A (q + 18) = -1 := fun z => by
        have := u_hs_rng c2
        omega
      rw [if_pos c2] at hE
      obtain ⟨m1, u1, h1⟩ := s_bI (by decide +kernel) hE
      rw [x_sha_49] at h1
      obtain ⟨m2, u2, h2⟩ := s_bI (by decide +kernel) h1
      rw [x_sha_64] at h2
      obtain ⟨m3, u3, h3⟩ := s_bI (by decide +kernel) h2
      rw [x_sha_81] at h3
      obtain ⟨m4, h4⟩ := s_bV (by decide +kernel) h3
      rw [x_sha_85] at h4
      exact absurd (s_val h4) (by omega)
  · rw [if_neg c1] at hE
    exact s_mem hE
theorem V_share (hi : R_is w h n heat price D A c U kn KS cs m) (h5 : n ≤ 5) {p v : Int} {m' : z_M} (hE : z_R 239 (m, 0, [(2, 251), (0, p), (9, 0), (9, 0)], []) = some (m', some (0, v))) (hv : v < 0) : m' 251 10 = m 251 10 := by
  rw [x_tsh_0 m p (by rw [hi.1.2.2.1]; omega), hi.1.2.2.1] at hE
  by_cases c1 : 0 ≤ p ∧ p < (n : Int)
  · obtain ⟨q, rfl⟩ : ∃ q : Nat, p = (q : Int) := ⟨p.toNat, by omega⟩
    have e18 : m 252 (q + 18) = A (q + 18) := R_A hi (by omega) (a_vis_p (b := 18) (p := q) (by omega) (by omega) (by omega) (by omega))
    rw [if_pos c1, show ((q : Int) + 18).toNat = q + 18 by omega, e18] at hE
    by_cases z : A (q + 18) = -1
    · rw [if_pos z] at hE
      rw [s_mem hE, zu_k (by decide)]
    · rw [if_neg z] at hE
      obtain ⟨m1, u1, h1⟩ := s_bI (by decide +kernel) hE
      rw [x_tsh_48] at h1
      obtain ⟨m2, u2, h2⟩ := s_bI (by decide +kernel) h1
      rw [x_tsh_51] at h2
      by_cases c2 : u2 = 0
      · rw [if_pos c2] at h2
        obtain ⟨m3, h3⟩ := s_bV (by decide +kernel) h2
        rw [x_tsh_67] at h3
        exact absurd (s_val h3) (by omega)
      · rw [if_neg c2] at h2
        obtain ⟨m3, u3, h3⟩ := s_bI (by decide +kernel) h2
        rw [x_tsh_80] at h3
        obtain ⟨m4, u4, h4⟩ := s_bI (by decide +kernel) h3
        rw [x_tsh_90] at h4
        obtain ⟨m5, h6⟩ := s_bV (by decide +kernel) h4
        rw [x_tsh_97] at h6
        exact absurd (s_val h6) (by omega)
  · rw [if_neg c1] at hE
    rw [s_mem hE, zu_k (by decide)]
/-! a method that gives nothing; one that only gives longs -/
def z_onlyV1 (q : a_K) : Bool := match q.2.1 with
  | .ireturn => false
  | .lreturn => false
  | .new _ => false
  | _ => true
noncomputable def z_onlyV (y : Nat) : Bool := (kt_at y).all fun r => r.all z_onlyV1
theorem z_ex_tagV {y : Nat} (hk : z_onlyV y = true) : ∀ (f : Nat) (g : z_G) (r : z_Q), z_ex f y g = some r → r.2 = none := by
  intro f
  induction f with
  | zero => intro g r h; cases h
  | succ f ih =>
    intro g r h
    unfold z_ex at h
    split at h
    · cases h
    · rename_i q hq
      obtain ⟨⟨row, h1, h2⟩, -⟩ := k_get_in hq
      have hb := List.all_eq_true.mp (List.all_eq_true.mp hk row h1) q h2
      split at h
      · split at h
        · exact ih _ _ h
        · cases h
      · obtain ⟨m, pc, ls, st⟩ := g
        unfold z_ret at h
        unfold z_onlyV1 at hb
        simp only at h
        split at h
        · rw [← Option.some.inj h]
        · rename_i e; rw [e] at hb; cases hb
        · rename_i e; rw [e] at hb; cases hb
        · rename_i e; rw [e] at hb; cases hb
        · cases h
      · split at h
        · split at h
          · exact ih _ _ h
          · cases h
        · cases h
theorem z_tagV {y : Nat} (hk : z_onlyV y = true) {g : z_G} {r : z_Q} (h : z_R y g = some r) : r.2 = none := by
  obtain ⟨f, h⟩ := z_R_iff.mp h
  exact z_ex_tagV hk f g r h
def z_onlyL1 (q : a_K) : Bool := match q.2.1 with
  | .return_ => false
  | .ireturn => false
  | .new _ => false
  | _ => true
noncomputable def z_onlyL (y : Nat) : Bool := (kt_at y).all fun r => r.all z_onlyL1
theorem z_ex_tagL {y : Nat} (hk : z_onlyL y = true) : ∀ (f : Nat) (g : z_G) (r : z_Q), z_ex f y g = some r → ∃ u, r.2 = some (1, u) := by
  intro f
  induction f with
  | zero => intro g r h; cases h
  | succ f ih =>
    intro g r h
    unfold z_ex at h
    split at h
    · cases h
    · rename_i q hq
      obtain ⟨⟨row, h1, h2⟩, -⟩ := k_get_in hq
      have hb := List.all_eq_true.mp (List.all_eq_true.mp hk row h1) q h2
      split at h
      · split at h
        · exact ih _ _ h
        · cases h
      · obtain ⟨m, pc, ls, st⟩ := g
        unfold z_ret at h
        unfold z_onlyL1 at hb
        simp only at h
        split at h
        · rename_i e; rw [e] at hb; cases hb
        · rename_i e; rw [e] at hb; cases hb
        · rename_i e; rw [e] at hb; cases hb
        · split at h
          · exact ⟨_, by rw [← Option.some.inj h]⟩
          · cases h
        · cases h
      · split at h
        · split at h
          · exact ih _ _ h
          · cases h
        · cases h
theorem z_tagL {y : Nat} (hk : z_onlyL y = true) {g : z_G} {r : z_Q} (h : z_R y g = some r) : ∃ u, r.2 = some (1, u) := by
  obtain ⟨f, h⟩ := z_R_iff.mp h
  exact z_ex_tagL hk f g r h
/-- thaw's answer -/
def h_v (n p : Int) : Int := if (1 ≤ n ∧ n ≤ 8) ∧ 0 ≤ p ∧ p ≤ 10 then 0 else -1
theorem h_val {m m' : z_M} {x v : Int} (h : some (m, some (0, x)) = (some (m', some (0, v)) : Option z_Q)) : v = x := (congrArg (fun z : z_Q => (z.2.getD (0, 0)).2) (Option.some.inj h)).symm
theorem h_c {m m' : z_M} {n p v : Int} (h : z_R 138 (m, 0, [(2, 0), (0, n), (0, p)], []) = some (m', some (0, v))) : v = h_v n p := by
  unfold h_v
  rw [h_thw_0] at h
  by_cases c1 : n < 1
  · rw [if_pos c1] at h
    rw [if_neg (by omega)]
    exact h_val h
  rw [if_neg c1] at h
  by_cases c2 : 8 < n
  · rw [if_pos c2] at h
    rw [if_neg (by omega)]
    exact h_val h
  rw [if_neg c2] at h
  by_cases c3 : p < 0
  · rw [if_pos c3] at h
    rw [if_neg (by omega)]
    exact h_val h
  rw [if_neg c3] at h
  by_cases c4 : p ≤ 10
  · rw [if_pos c4] at h
    rw [if_pos (by omega)]
    obtain ⟨⟨m1, x1⟩, h1, h2⟩ := Option.bind_eq_some_iff.mp h
    have e1 := z_tagV (y := 139) (by decide +kernel) h1
    simp only at e1
    subst e1
    change z_R 138 (m1, 36, [(2, 0), (0, n), (0, p)], []) = some (m', some (0, v)) at h2
    rw [h_thw_36, if_pos (show 0 ≤ n ∧ n < 9 by omega)] at h2
    obtain ⟨⟨m2, x2⟩, h3, h4⟩ := Option.bind_eq_some_iff.mp h2
    obtain ⟨u, e2⟩ := z_tagL (y := 142) (by decide +kernel) h3
    simp only at e2
    subst e2
    change z_R 138 (m2, 50, [(2, 0), (0, n), (0, p)], [(1, u), (1, m1 195 n.toNat), (2, 0)]) = some (m', some (0, v)) at h4
    rw [h_thw_50] at h4
    obtain ⟨⟨m3, x3⟩, h5, h6⟩ := Option.bind_eq_some_iff.mp h4
    have e3 := z_tagV (y := 122) (by decide +kernel) h5
    simp only at e3
    subst e3
    change z_R 138 (m3, 53, [(2, 0), (0, n), (0, p)], []) = some (m', some (0, v)) at h6
    rw [h_thw_53] at h6
    exact h_val h6
  · rw [if_neg c4] at h
    rw [if_neg (by omega)]
    exact h_val h
theorem h_t {m m' : z_M} {n p v : Int} (h : z_R 253 (m, 0, [(2, 251), (0, n), (0, p)], []) = some (m', some (0, v))) : v = h_v n p := by
  unfold h_v
  rw [h_tht_0, r_in] at h
  by_cases c1 : 1 ≤ n ∧ n ≤ 8
  · rw [if_pos c1] at h
    change z_R 253 (z_up m 251 11 0, 12, [(2, 251), (0, n), (0, p)], [(0, 1)]) = some (m', some (0, v)) at h
    rw [h_tht_12, if_neg (show ¬ (1 : Int) = 0 by decide), r_in] at h
    by_cases c2 : 0 ≤ p ∧ p ≤ 10
    · rw [if_pos c2] at h
      change z_R 253 (z_up m 251 11 0, 22, [(2, 251), (0, n), (0, p)], [(0, 1)]) = some (m', some (0, v)) at h
      rw [h_tht_22, if_neg (show ¬ (1 : Int) = 0 by decide)] at h
      rw [if_pos ⟨c1, c2⟩]
      obtain ⟨⟨m1, x1⟩, h1, h2⟩ := Option.bind_eq_some_iff.mp h
      obtain ⟨u, e1⟩ := z_tagL (y := 254) (by decide +kernel) h1
      simp only at e1
      subst e1
      change z_R 253 (m1, 39, [(2, 251), (0, n), (0, p)], [(1, u), (2, 251)]) = some (m', some (0, v)) at h2
      rw [h_tht_39] at h2
      obtain ⟨⟨m2, x2⟩, h3, h4⟩ := Option.bind_eq_some_iff.mp h2
      obtain ⟨u2, e2⟩ := z_tagL (y := 255) (by decide +kernel) h3
      simp only at e2
      subst e2
      change z_R 253 (m2, 46, [(2, 251), (0, n), (0, p)], [(1, u2), (1, u), (2, 251)]) = some (m', some (0, v)) at h4
      rw [h_tht_46] at h4
      obtain ⟨⟨m3, x3⟩, h5, h6⟩ := Option.bind_eq_some_iff.mp h4
      have e3 := z_tagV (y := 240) (by decide +kernel) h5
      simp only at e3
      subst e3
      change z_R 253 (m3, 49, [(2, 251), (0, n), (0, p)], []) = some (m', some (0, v)) at h6
      rw [h_tht_49] at h6
      exact h_val h6
    · rw [if_neg c2] at h
      change z_R 253 (z_up m 251 11 0, 22, [(2, 251), (0, n), (0, p)], [(0, 0)]) = some (m', some (0, v)) at h
      rw [h_tht_22, if_pos rfl] at h
      rw [if_neg (fun z => c2 z.2)]
      exact h_val h
  · rw [if_neg c1] at h
    change z_R 253 (z_up m 251 11 0, 12, [(2, 251), (0, n), (0, p)], [(0, 0)]) = some (m', some (0, v)) at h
    rw [h_tht_12, if_pos rfl] at h
    rw [if_neg (fun z => c1 z.1)]
    exact h_val h
theorem W_thaw {m m' : z_M} {n p v : Int} (h : z_R 138 (m, 0, [(2, 0), (0, n), (0, p)], []) = some (m', some (0, v))) (hv : v < 0) : m' = m := by
  rw [h_thw_0] at h
  by_cases c1 : n < 1
  · rw [if_pos c1] at h
    exact s_mem h
  rw [if_neg c1] at h
  by_cases c2 : 8 < n
  · rw [if_pos c2] at h
    exact s_mem h
  rw [if_neg c2] at h
  by_cases c3 : p < 0
  · rw [if_pos c3] at h
    exact s_mem h
  rw [if_neg c3] at h
  by_cases c4 : p ≤ 10
  · rw [if_pos c4] at h
    obtain ⟨⟨m1, x1⟩, h1, h2⟩ := Option.bind_eq_some_iff.mp h
    have e1 := z_tagV (y := 139) (by decide +kernel) h1
    simp only at e1
    subst e1
    change z_R 138 (m1, 36, [(2, 0), (0, n), (0, p)], []) = some (m', some (0, v)) at h2
    rw [h_thw_36, if_pos (show 0 ≤ n ∧ n < 9 by omega)] at h2
    obtain ⟨⟨m2, x2⟩, h3, h4⟩ := Option.bind_eq_some_iff.mp h2
    obtain ⟨u, e2⟩ := z_tagL (y := 142) (by decide +kernel) h3
    simp only at e2
    subst e2
    change z_R 138 (m2, 50, [(2, 0), (0, n), (0, p)], [(1, u), (1, m1 195 n.toNat), (2, 0)]) = some (m', some (0, v)) at h4
    rw [h_thw_50] at h4
    obtain ⟨⟨m3, x3⟩, h5, h6⟩ := Option.bind_eq_some_iff.mp h4
    have e3 := z_tagV (y := 122) (by decide +kernel) h5
    simp only at e3
    subst e3
    change z_R 138 (m3, 53, [(2, 0), (0, n), (0, p)], []) = some (m', some (0, v)) at h6
    rw [h_thw_53] at h6
    exact absurd (h_val h6) (by omega)
  · rw [if_neg c4] at h
    exact s_mem h
theorem V_thaw {m m' : z_M} {n p v : Int} (h : z_R 253 (m, 0, [(2, 251), (0, n), (0, p)], []) = some (m', some (0, v))) (hv : v < 0) : m' 251 10 = m 251 10 := by
  rw [h_tht_0, r_in] at h
  by_cases c1 : 1 ≤ n ∧ n ≤ 8
  · rw [if_pos c1] at h
    change z_R 253 (z_up m 251 11 0, 12, [(2, 251), (0, n), (0, p)], [(0, 1)]) = some (m', some (0, v)) at h
    rw [h_tht_12, if_neg (show ¬ (1 : Int) = 0 by decide), r_in] at h
    by_cases c2 : 0 ≤ p ∧ p ≤ 10
    · rw [if_pos c2] at h
      change z_R 253 (z_up m 251 11 0, 22, [(2, 251), (0, n), (0, p)], [(0, 1)]) = some (m', some (0, v)) at h
      rw [h_tht_22, if_neg (show ¬ (1 : Int) = 0 by decide)] at h
      obtain ⟨⟨m1, x1⟩, h1, h2⟩ := Option.bind_eq_some_iff.mp h
      obtain ⟨u, e1⟩ := z_tagL (y := 254) (by decide +kernel) h1
      simp only at e1
      subst e1
      change z_R 253 (m1, 39, [(2, 251), (0, n), (0, p)], [(1, u), (2, 251)]) = some (m', some (0, v)) at h2
      rw [h_tht_39] at h2
      obtain ⟨⟨m2, x2⟩, h3, h4⟩ := Option.bind_eq_some_iff.mp h2
      obtain ⟨u2, e2⟩ := z_tagL (y := 255) (by decide +kernel) h3
      simp only at e2
      subst e2
      change z_R 253 (m2, 46, [(2, 251), (0, n), (0, p)], [(1, u2), (1, u), (2, 251)]) = some (m', some (0, v)) at h4
      rw [h_tht_46] at h4
      obtain ⟨⟨m3, x3⟩, h5, h6⟩ := Option.bind_eq_some_iff.mp h4
      have e3 := z_tagV (y := 240) (by decide +kernel) h5
      simp only at e3
      subst e3
      change z_R 253 (m3, 49, [(2, 251), (0, n), (0, p)], []) = some (m', some (0, v)) at h6
      rw [h_tht_49] at h6
      exact absurd (h_val h6) (by omega)
    · rw [if_neg c2] at h
      change z_R 253 (z_up m 251 11 0, 22, [(2, 251), (0, n), (0, p)], [(0, 0)]) = some (m', some (0, v)) at h
      rw [h_tht_22, if_pos rfl] at h
      rw [s_mem h, zu_k (by decide)]
  · rw [if_neg c1] at h
    change z_R 253 (z_up m 251 11 0, 12, [(2, 251), (0, n), (0, p)], [(0, 0)]) = some (m', some (0, v)) at h
    rw [h_tht_12, if_pos rfl] at h
    rw [s_mem h, zu_k (by decide)]
/-! rests -/
def g_ln (b : Int) : Nat := if b = 0 then 0 else 2
def g_L (n : Nat) (heat : Int) (cs : List Int) (D A : Nat → Int) (a b v : Int) : Option Nat := if (0 ≤ a ∧ a < (n : Int)) ∧ (0 ≤ b ∧ b < (n : Int)) ∧ ¬ a = b ∧ 0 ≤ v ∧ v ≤ 99 then (if ¬ A (a.toNat + 18) = -1 ∧ A (b.toNat + 18) = A (a.toNat + 18) then some (g_ln (g_bits (g_G n heat cs D A a.toNat b.toNat (A (a.toNat + 18)).toNat v) 4 0 0)) else none) else none
theorem W_rst1 {mz : z_M} (hN : w_N w h n heat D) (hok : hr_ok n A) (ht : 0 ≤ A 35 ∧ A 35 ≤ 1073741824) {a b r : Nat} (ha : a < n) (hb : b < n) (hr : r < 9) (ea : A (a + 18) = (r : Int)) {v : Int} (hv : 0 ≤ v ∧ v ≤ 99) : ∀ (f x : Nat) (acc y : Int) (v8 v9 : z_V) (m : z_M), x + f = 4 → (acc = 0 ∨ (0 ≤ y ∧ y < 4)) → C_is w h n heat price D A c U kn KS cs m → ∃ m1, z_R 135 (m, 88, [(2, 0), (0, (a : Int)), (0, (b : Int)), (0, v), (0, (r : Int)), (0, acc), (0, y), (0, (x : Int)), v8, v9], []) = some (m1, some (0, g_bits (g_G n heat cs D A a b r v) f x acc)) ∧ c_ln mz m1 (some (g_ln (g_bits (g_G n heat cs D A a b r v) f x acc))) := by
  intro f
  induction f with
  | zero =>
    intro x acc y v8 v9 m hx hy hi
    have hi1 : C_is w h n heat price D A c U kn KS cs (z_up m 0 13 0) := C_upn hi (by decide)
    have g13 : (z_up m 0 13 0) 0 13 = ((0 : Nat) : Int) := zu_self
    show ∃ m1 : z_M, _ = some (m1, some (0, acc)) ∧ m1 0 13 = ((g_ln acc : Nat) : Int)
    unfold g_ln
    rw [z_rst_88, if_pos (by omega), s_tell0_0, zb_n, z_rst_201]
    generalize z_up m 0 13 0 = m0 at hi1 g13 ⊢
    by_cases z : acc = 0
    · rw [if_pos z, if_pos z]
      exact ⟨m0, rfl, g13⟩
    · obtain ⟨y', rfl⟩ : ∃ y' : Nat, y = (y' : Int) := ⟨y.toNat, by omega⟩
      obtain ⟨m1, a1, a2, a3⟩ := C_gain hi1 hN hok ht ha hb hr ea hv (s := 0) (x := y') (by decide) (by omega)
      have a1 : z_R 136 (m0, 0, [(2, 0), (0, (a : Int)), (0, (b : Int)), (0, v), (0, (y' : Int)), (0, 0), (9, 0), (9, 0), (9, 0), (9, 0)], []) = some (m1, some (0, g_G n heat cs D A a b r v 0 y')) := a1
      have hi2 : C_is w h n heat price D A c U kn KS cs (z_up (z_up m1 250 0 (z_i2l (g_G n heat cs D A a b r v 0 y'))) 0 13 ((0 + 1 : Nat) : Int)) := C_upn (C_upn a2 (by decide)) (by decide)
      have g2 : (z_up (z_up m1 250 0 (z_i2l (g_G n heat cs D A a b r v 0 y'))) 0 13 ((0 + 1 : Nat) : Int)) 0 13 = ((1 : Nat) : Int) := zu_self
      rw [if_neg z, if_neg z, a1, zb_v, z_rst_217, c_add (j := 0) m1 _ (by decide) (a3.trans g13), zb_n, z_rst_221]
      generalize z_up (z_up m1 250 0 (z_i2l (g_G n heat cs D A a b r v 0 y'))) 0 13 ((0 + 1 : Nat) : Int) = m2 at hi2 g2 ⊢
      obtain ⟨m3, b1, b2, b3⟩ := C_gain hi2 hN hok ht ha hb hr ea hv (s := 1) (x := y') (by decide) (by omega)
      have b1 : z_R 136 (m2, 0, [(2, 0), (0, (a : Int)), (0, (b : Int)), (0, v), (0, (y' : Int)), (0, 1), (9, 0), (9, 0), (9, 0), (9, 0)], []) = some (m3, some (0, g_G n heat cs D A a b r v 1 y')) := b1
      rw [b1, zb_v, z_rst_232, c_add (j := 1) m3 _ (by decide) (b3.trans g2), zb_n, z_rst_236]
      exact ⟨_, rfl, zu_self⟩
  | succ f ih =>
    intro x acc y v8 v9 m hx hy hi
    have hx4 : x < 4 := by omega
    obtain ⟨m1, a1, a2, -⟩ := C_gain hi hN hok ht ha hb hr ea hv (s := 0) (x := x) (by decide) hx4
    have a1 : z_R 136 (m, 0, [(2, 0), (0, (a : Int)), (0, (b : Int)), (0, v), (0, (x : Int)), (0, 0), (9, 0), (9, 0), (9, 0), (9, 0)], []) = some (m1, some (0, g_G n heat cs D A a b r v 0 x)) := a1
    obtain ⟨m2, b1, b2, -⟩ := C_gain a2 hN hok ht ha hb hr ea hv (s := 0) (x := g_x1 x) (by decide) (g_x1_lt hx4)
    have b1 : z_R 136 (m1, 0, [(2, 0), (0, (a : Int)), (0, (b : Int)), (0, v), (0, ((g_x1 x : Nat) : Int)), (0, 0), (9, 0), (9, 0), (9, 0), (9, 0)], []) = some (m2, some (0, g_G n heat cs D A a b r v 0 (g_x1 x))) := b1
    obtain ⟨m3, d1, d2, -⟩ := C_gain b2 hN hok ht ha hb hr ea hv (s := 1) (x := x) (by decide) hx4
    have d1 : z_R 136 (m2, 0, [(2, 0), (0, (a : Int)), (0, (b : Int)), (0, v), (0, (x : Int)), (0, 1), (9, 0), (9, 0), (9, 0), (9, 0)], []) = some (m3, some (0, g_G n heat cs D A a b r v 1 x)) := d1
    obtain ⟨m4, e1, e2, -⟩ := C_gain d2 hN hok ht ha hb hr ea hv (s := 1) (x := g_x2 x) (by decide) (g_x2_lt hx4)
    have e1 : z_R 136 (m3, 0, [(2, 0), (0, (a : Int)), (0, (b : Int)), (0, v), (0, ((g_x2 x : Nat) : Int)), (0, 1), (9, 0), (9, 0), (9, 0), (9, 0)], []) = some (m4, some (0, g_G n heat cs D A a b r v 1 (g_x2 x))) := e1
    have bit0 : (0 : Int) ≤ x ∧ (x : Int) < 4 := by omega
    rw [z_rst_88, if_neg (by omega), a1, zb_v, z_rst_104, g_xor1 hx4, b1, zb_v, z_rst_116]
    unfold g_bits
    generalize g_G n heat cs D A a b r v = G at d1 e1 ih ⊢
    by_cases p1 : G 0 x < G 0 (g_x1 x)
    · rw [if_pos p1, d1, zb_v, z_rst_136, g_xor2 hx4, e1, zb_v, z_rst_148, if_neg (show ¬ (G 0 (g_x1 x) ≤ G 0 x ∧ G 1 (g_x2 x) ≤ G 1 x) by omega), z_add_eq (x := (x : Int)) (y := 1) (by omega) (by omega), tc1]
      by_cases p2 : G 1 x < G 1 (g_x2 x)
      · rw [if_pos p2, if_pos rfl]
        exact ih (x + 1) acc y _ _ m4 (by omega) hy e2
      · rw [if_neg p2, if_pos rfl]
        exact ih (x + 1) acc y _ _ m4 (by omega) hy e2
    · rw [if_neg p1, d1, zb_v, z_rst_136, g_xor2 hx4, e1, zb_v, z_rst_148, z_add_eq (x := (x : Int)) (y := 1) (by omega) (by omega), tc1]
      by_cases p2 : G 1 x < G 1 (g_x2 x)
      · rw [if_pos p2, if_neg (show ¬ (1 : Int) = 0 by decide), if_neg (show ¬ (G 0 (g_x1 x) ≤ G 0 x ∧ G 1 (g_x2 x) ≤ G 1 x) by omega)]
        exact ih (x + 1) acc y _ _ m4 (by omega) hy e2
      · rw [if_neg p2, if_neg (show ¬ (1 : Int) = 0 by decide), if_pos (show G 0 (g_x1 x) ≤ G 0 x ∧ G 1 (g_x2 x) ≤ G 1 x by omega)]
        by_cases p3 : acc = 0
        · rw [if_pos p3]
          exact ih (x + 1) _ _ _ _ m4 (by omega) (Or.inr bit0) e2
        · rw [if_neg p3]
          exact ih (x + 1) _ _ _ _ m4 (by omega) (Or.inr (hy.resolve_left p3)) e2
theorem W_rests (hi : C_is w h n heat price D A c U kn KS cs m) (hN : w_N w h n heat D) (hok : hr_ok n A) (ht : 0 ≤ A 35 ∧ A 35 ≤ 1073741824) (hw : wi w h n A) (a b v : Int) : ∃ m1, z_R 135 (m, 0, [(2, 0), (0, a), (0, b), (0, v), (9, 0), (9, 0), (9, 0), (9, 0), (9, 0), (9, 0)], []) = some (m1, some (0, g_A n heat cs D A a b v)) ∧ c_ln m m1 (g_L n heat cs D A a b v) := by
  have h5 := hN.1.2.2
  rw [z_rst_0, hi.1.1, hi.1.2.1, hi.1.2.2.1]
  by_cases c1 : 0 ≤ a ∧ a < (n : Int)
  · rw [if_pos c1]
    by_cases c2 : 0 ≤ b ∧ b < (n : Int)
    · rw [if_pos c2]
      by_cases c3 : a = b
      · have e : g_A n heat cs D A a b v = -1 := if_neg (fun z => z.2.2.1 c3)
        rw [if_pos c3, e]
        exact ⟨m, rfl, c_ln_n (if_neg (fun z => z.2.2.1 c3))⟩
      rw [if_neg c3]
      by_cases c4 : v < 0
      · have e : g_A n heat cs D A a b v = -1 := if_neg (fun z => by have := z.2.2.2.1; omega)
        rw [if_pos c4, e]
        exact ⟨m, rfl, c_ln_n (if_neg (fun z => by have := z.2.2.2.1; omega))⟩
      rw [if_neg c4]
      by_cases c5 : v ≤ 99
      · obtain ⟨a', rfl⟩ : ∃ a' : Nat, a = (a' : Int) := ⟨a.toNat, by omega⟩
        obtain ⟨b', rfl⟩ : ∃ b' : Nat, b = (b' : Int) := ⟨b.toNat, by omega⟩
        have ha : a' < n := by omega
        have hb : b' < n := by omega
        have e15 : m 15 a' = A (a' + 18) := C_A3 hi ha h5
        have e15b : m 15 b' = A (b' + 18) := C_A3 hi hb h5
        have eA : g_A n heat cs D A (a' : Int) (b' : Int) v = if ¬ A ((a' : Int).toNat + 18) = -1 ∧ A ((b' : Int).toNat + 18) = A ((a' : Int).toNat + 18) then g_bits (g_G n heat cs D A (a' : Int).toNat (b' : Int).toNat (A ((a' : Int).toNat + 18)).toNat v) 4 0 0 else -2 := if_pos ⟨c1, c2, c3, by omega, c5⟩
        rw [Int.toNat_natCast, Int.toNat_natCast] at eA
        have eL : g_L n heat cs D A (a' : Int) (b' : Int) v = if ¬ A ((a' : Int).toNat + 18) = -1 ∧ A ((b' : Int).toNat + 18) = A ((a' : Int).toNat + 18) then some (g_ln (g_bits (g_G n heat cs D A (a' : Int).toNat (b' : Int).toNat (A ((a' : Int).toNat + 18)).toNat v) 4 0 0)) else none := if_pos ⟨c1, c2, c3, by omega, c5⟩
        rw [Int.toNat_natCast, Int.toNat_natCast] at eL
        rw [if_pos c5, if_pos (show 0 ≤ (a' : Int) ∧ (a' : Int) < 5 by omega), if_pos (show 0 ≤ (b' : Int) ∧ (b' : Int) < 5 by omega), Int.toNat_natCast, Int.toNat_natCast, e15, e15b, eA, eL]
        by_cases d1 : u_hs (w : Int) (h : Int) (A (a' + 18)) = 0
        · have z := (hw.1 a' ha).resolve_right (not_not_intro d1)
          rw [if_neg (not_not_intro d1), if_neg (fun y => y.1 z), if_neg (fun y => y.1 z)]
          exact ⟨m, rfl, rfl⟩
        · have hr := u_hs_rng d1
          rw [if_pos d1]
          by_cases d2 : A (b' + 18) = A (a' + 18)
          · obtain ⟨r, er⟩ : ∃ r : Nat, A (a' + 18) = (r : Int) := ⟨(A (a' + 18)).toNat, by omega⟩
            rw [if_pos d2, if_pos (show ¬ A (a' + 18) = -1 ∧ A (b' + 18) = A (a' + 18) from ⟨by omega, d2⟩), if_pos (show ¬ A (a' + 18) = -1 ∧ A (b' + 18) = A (a' + 18) from ⟨by omega, d2⟩), er, Int.toNat_natCast]
            exact W_rst1 hN hok ht ha hb (by omega) er (v := v) ⟨by omega, c5⟩ 4 0 0 (-1) (9, 0) (9, 0) m (by decide) (Or.inl rfl) hi
          · rw [if_neg d2, if_neg (fun y => d2 y.2), if_neg (fun y => d2 y.2)]
            exact ⟨m, rfl, rfl⟩
      · have e : g_A n heat cs D A a b v = -1 := if_neg (fun z => c5 z.2.2.2.2)
        rw [if_neg c5, e]
        exact ⟨m, rfl, c_ln_n (if_neg (fun z => c5 z.2.2.2.2))⟩
    · have e : g_A n heat cs D A a b v = -1 := if_neg (fun z => c2 z.2.1)
      rw [if_neg c2, e]
      exact ⟨m, rfl, c_ln_n (if_neg (fun z => c2 z.2.1))⟩
  · have e : g_A n heat cs D A a b v = -1 := if_neg (fun z => c1 z.1)
    rw [if_neg c1, e]
    exact ⟨m, rfl, c_ln_n (if_neg (fun z => c1 z.1))⟩
theorem V_rst3 {y1 y2 y3 y4 y5 y6 acc v : Int} {v9 : z_V} {m' : z_M} (hE : z_R 251 (m, 262, [(2, 251), (0, y1), (0, y2), (0, y3), (0, y4), (0, y5), (0, y6), (0, acc), (0, 4), v9], []) = some (m', some (0, v))) : m' 251 10 = ((g_ln acc : Nat) : Int) := by
  unfold g_ln
  rw [z_trs_262, if_pos (by decide)] at hE
  by_cases z : acc = 0
  · rw [if_pos z] at hE ⊢
    rw [s_mem hE, zu_self]
    rfl
  · rw [if_neg z] at hE ⊢
    rw [gv_ntz, zb_v, z_trs_348] at hE
    split at hE
    · rw [t_tell0, zb_n, z_trs_364] at hE
      split at hE
      · rw [t_tell1, zb_n, z_trs_380] at hE
        rw [s_mem hE, zu_self]
        rfl
      · cases hE
    · cases hE
theorem V_rests (hi : R_is w h n heat price D A c U kn KS cs m) (hN : w_N w h n heat D) (hok : hr_ok n A) (ht : 0 ≤ A 35 ∧ A 35 ≤ 1073741824) {a b v x : Int} {m' : z_M} (hE : z_R 251 (m, 0, [(2, 251), (0, a), (0, b), (0, v), (9, 0), (9, 0), (9, 0), (9, 0), (9, 0), (9, 0)], []) = some (m', some (0, x))) : r_ln m m' (g_L n heat cs D A a b v) := by
  have h5 := hN.1.2.2
  have hu := R_upn (p0 := 251) (k0 := 11) (v := 0) hi (by decide)
  rw [z_trs_0 m a b v (by rw [hi.1.2.2.1]; omega), hi.1.2.2.1] at hE
  have h10 : (z_up m 251 11 0) 251 10 = m 251 10 := zu_k (by decide)
  generalize z_up m 251 11 0 = m0 at hu hE h10
  by_cases c1 : 0 ≤ a ∧ a < (n : Int)
  · rw [if_pos c1] at hE
    by_cases c2 : 0 ≤ b ∧ b < (n : Int)
    · rw [if_pos c2] at hE
      by_cases c3 : a = b
      · rw [if_pos c3] at hE
        exact r_ln_n (by rw [s_mem hE]; exact h10) (if_neg (fun z => z.2.2.1 c3))
      rw [if_neg c3] at hE
      by_cases c5 : 0 ≤ v ∧ v ≤ 99
      · obtain ⟨a', rfl⟩ : ∃ a' : Nat, a = (a' : Int) := ⟨a.toNat, by omega⟩
        obtain ⟨b', rfl⟩ : ∃ b' : Nat, b = (b' : Int) := ⟨b.toNat, by omega⟩
        have ha : a' < n := by omega
        have hb : b' < n := by omega
        have e18 : m 252 (a' + 18) = A (a' + 18) := R_A hi (by omega) (a_vis_p (b := 18) (p := a') (by omega) (by omega) (by omega) (by omega))
        have e18b : m 252 (b' + 18) = A (b' + 18) := R_A hi (by omega) (a_vis_p (b := 18) (p := b') (by omega) (by omega) (by omega) (by omega))
        have eA : g_L n heat cs D A (a' : Int) (b' : Int) v = if ¬ A ((a' : Int).toNat + 18) = -1 ∧ A ((b' : Int).toNat + 18) = A ((a' : Int).toNat + 18) then some (g_ln (g_bits (g_G n heat cs D A (a' : Int).toNat (b' : Int).toNat (A ((a' : Int).toNat + 18)).toNat v) 4 0 0)) else none := if_pos ⟨c1, c2, c3, c5⟩
        rw [Int.toNat_natCast, Int.toNat_natCast] at eA
        rw [if_pos c5, show ((a' : Int) + 18).toNat = a' + 18 by omega, show ((b' : Int) + 18).toNat = b' + 18 by omega, e18, e18b] at hE
        rw [eA]
        by_cases d1 : A (a' + 18) = -1
        · rw [if_pos d1] at hE
          rw [if_neg (fun y => y.1 d1), s_mem hE]
          exact h10
        rw [if_neg d1] at hE
        by_cases d2 : A (b' + 18) = A (a' + 18)
        · have hw := hok.2.2.1 a' ha
          obtain ⟨r, er⟩ : ∃ r : Nat, A (a' + 18) = (r : Int) := ⟨(A (a' + 18)).toNat, by omega⟩
          have eb := d2.trans er
          have hr : r < 9 := by omega
          have bW := hr_wb_b hN ht.1 (r : Int) (hr_b (r : Int) n 0 A 0)
          have b2W := g_W2 hN ht.1 ha hb (fun z => c3 (by rw [z])) er eb
          have ba := hN.2.2 (A 35) ht.1 a' (by omega)
          have bb := hN.2.2 (A 35) ht.1 b' (by omega)
          have hrS := hu.2.2.1
          have pin := r_pin z_A_252 (Or.inl rfl) h5 (k := (r : Int)) m0 hu.1.2.2.1
          rw [hrS] at pin
          have pin : z_R 183 (m0, 0, [(2, 251), (2, 252), (0, (r : Int)), (9, 0), (9, 0)], []) = some (m0, some (0, hr_b (r : Int) n 0 A 0)) := pin
          have wbr := r_wb z_A_252 (Or.inl rfl) h5 (k := (r : Int)) (b := hr_b (r : Int) n 0 A 0) (t := A 35) (heat := heat) (wm := wmD D (A 35)) ht.1 (by omega) m0 hu.1.2.2.1 (R_cfg hu).2.2.2.1 (R_A hu (by decide) (a_vis_hi (by decide))) (fun p hp => (R_cfg hu).2.2.2.2.2.1 (A 35) ht.1 p hp)
          rw [hrS] at wbr
          have wbr : z_R 184 (m0, 0, [(2, 251), (2, 252), (0, (r : Int)), (0, hr_b (r : Int) n 0 A 0), (9, 0), (9, 0)], []) = some (m0, some (0, hr_wb heat (wmD D (A 35)) n A (r : Int) (hr_b (r : Int) n 0 A 0))) := wbr
          have wa := R_wmo hu ht (p := a') (by omega)
          have wb := R_wmo hu ht (p := b') (by omega)
          rw [if_pos d2, er, pin, zb_v, z_trs_82, wbr, zb_v, z_trs_96, wa, zb_v, z_trs_105, wb, zb_v, z_trs_115, z_sub_eq (x := hr_wb heat (wmD D (A 35)) n A (r : Int) (hr_b (r : Int) n 0 A 0)) (by omega) (by omega), z_sub_eq (x := hr_wb heat (wmD D (A 35)) n A (r : Int) (hr_b (r : Int) n 0 A 0) - wmD D (A 35) a') (by omega) (by omega)] at hE
          obtain ⟨m1, v9, f1, f2⟩ := R_rst1 (cs := cs) hok ht h5 ha hb hr (v := v) (W := hr_wb heat (wmD D (A 35)) n A (r : Int) (hr_b (r : Int) n 0 A 0)) (B := hr_b (r : Int) n 0 A 0) c5 (hr_pc_b _) ba bb ⟨b2W, bW.2⟩ rfl rfl (G := g_G n heat cs D A a' b' r v) rfl 4 0 (9, 0) (9, 0) m0 (by decide) hu (fun j hj => absurd hj (Nat.not_lt_zero j))
          have f1 : z_R 251 (m0, 121, [(2, 251), (0, (a' : Int)), (0, (b' : Int)), (0, v), (0, (r : Int)), (0, hr_b (r : Int) n 0 A 0), (0, hr_wb heat (wmD D (A 35)) n A (r : Int) (hr_b (r : Int) n 0 A 0) - wmD D (A 35) a' - wmD D (A 35) b'), (0, 0), (9, 0), (9, 0)], []) = _ := f1
          rw [f1] at hE
          have f3 := R_rst2 (y1 := (a' : Int)) (y2 := (b' : Int)) (y3 := v) (y4 := (r : Int)) (y5 := hr_b (r : Int) n 0 A 0) (y6 := hr_wb heat (wmD D (A 35)) n A (r : Int) (hr_b (r : Int) n 0 A 0) - wmD D (A 35) a' - wmD D (A 35) b') (v9 := v9) f2 4 0 0 (by decide)
          have z := V_rst3 (f3.symm.trans hE)
          rw [if_pos (show ¬ A (a' + 18) = -1 ∧ A (b' + 18) = A (a' + 18) from ⟨d1, d2⟩), er, Int.toNat_natCast]
          exact z
        · rw [if_neg d2] at hE
          rw [if_neg (fun y => d2 y.2), s_mem hE]
          exact h10
      · rw [if_neg c5] at hE
        exact r_ln_n (by rw [s_mem hE]; exact h10) (if_neg (fun z => c5 z.2.2.2))
    · rw [if_neg c2] at hE
      exact r_ln_n (by rw [s_mem hE]; exact h10) (if_neg (fun z => c2 z.2.1))
  · rw [if_neg c1] at hE
    exact r_ln_n (by rw [s_mem hE]; exact h10) (if_neg (fun z => c1 z.1))
end
end
section
/-! WHAT IS TOLD: the cases -/
theorem two_hour : l_two rw_Q (591, 80, 64, 0, false, 596, 83, 204) := by
  intro M1 M2 M3 σ σ1 σ2 as v1 v2 C1 C2 ρ1 ρ2 ha hR hh hM1 hC1 hp1 hE1 hC2 hp2 hE2
  obtain rfl := as_nil ha
  have hE1 : z_R 64 (z_m σ, 0, [(2, 0)], []) = some (z_m σ1, some (0, v1.toInt)) := z_R_iff.mpr hE1
  have hE2 : z_R 204 (z_m σ1, 0, [(2, 251)], []) = some (z_m σ2, some (0, v2.toInt)) := z_R_iff.mpr hE2
  obtain ⟨w, h, n, heat, price, D, A, c, U, kn, KS, cs, cC, cR, cW⟩ := hR.2
  obtain ⟨b1, b2, -, -, hok, b35, -, b7⟩ := core_b hh hM1 cR
  have f1 := R_off2_ok (y := 64) (by decide +kernel) hC1 hp1
  have cR1 := R_fr cR f1
  exact rw_do hE1 hE2 ((W_hour1 (mz := z_m σ) cC ⟨b1, b2, b7⟩ hok b35).imp fun _ h => ⟨_, h⟩) ((V_hour1 (mz := z_m σ1) cR1 ⟨b1, b2, b7⟩ hok b35).imp fun _ h => ⟨_, h⟩)
theorem two_hours : l_two rw_Q (610, 84, 80, 1, false, 621, 87, 205) := by
  intro M1 M2 M3 σ σ1 σ2 as v1 v2 C1 C2 ρ1 ρ2 ha hR hh hM1 hC1 hp1 hE1 hC2 hp2 hE2
  obtain ⟨a, rfl⟩ := as_one ha
  have hE1 : z_R 80 (z_m σ, 0, [(2, 0), (0, a.toInt)], []) = some (z_m σ1, some (0, v1.toInt)) := z_R_iff.mpr hE1
  have hE2 : z_R 205 (z_m σ1, 0, [(2, 251), (0, a.toInt)], []) = some (z_m σ2, some (0, v2.toInt)) := z_R_iff.mpr hE2
  obtain ⟨w, h, n, heat, price, D, A, c, U, kn, KS, cs, cC, cR, cW⟩ := hR.2
  obtain ⟨b1, b2, -, -, hok, b35, -, b7⟩ := core_b hh hM1 cR
  have f1 := R_off2_ok (y := 80) (by decide +kernel) hC1 hp1
  have cR1 := R_fr cR f1
  by_cases ok : 0 ≤ a.toInt ∧ a.toInt ≤ 60
  · obtain ⟨N, hN⟩ : ∃ N : Nat, a.toInt = (N : Int) := ⟨a.toInt.toNat, by omega⟩
    rw [hN] at hE1 hE2
    exact rw_do hE1 hE2 ((W_hours (mz := z_m σ) cC ⟨b1, b2, b7⟩ hok b35 (N := N) (by omega)).imp fun _ h => ⟨_, h⟩) ((V_lp (mz := z_m σ1) cR1 ⟨b1, b2, b7⟩ hok b35 (N := N) (by omega)).imp fun _ h => ⟨_, h⟩)
  · exact rw_do hE1 hE2 (⟨_, _, C_hours_no _ ok, c_rw_id⟩) (V_hours_no _ ok)
theorem two_thick : l_two rw_Q (704, 100, 89, 2, false, 721, 103, 217) := by
  intro M1 M2 M3 σ σ1 σ2 as v1 v2 C1 C2 ρ1 ρ2 ha hR hh hM1 hC1 hp1 hE1 hC2 hp2 hE2
  obtain ⟨r, a, rfl⟩ := as_two ha
  have hE1 : z_R 89 (z_m σ, 0, [(2, 0), (0, r.toInt), (0, a.toInt)], []) = some (z_m σ1, some (0, v1.toInt)) := z_R_iff.mpr hE1
  have hE2 : z_R 217 (z_m σ1, 0, [(2, 251), (0, r.toInt), (0, a.toInt)], []) = some (z_m σ2, some (0, v2.toInt)) := z_R_iff.mpr hE2
  obtain ⟨w, h, n, heat, price, D, A, c, U, kn, KS, cs, cC, cR, cW⟩ := hR.2
  obtain ⟨b1, b2, -, -, hok, b35, -, b7⟩ := core_b hh hM1 cR
  have hN : w_N w h n heat D := ⟨b1, b2, b7⟩
  have kk := core_24 hh
  have f1 := R_off2_ok (y := 89) (by decide +kernel) hC1 hp1
  have cR1 := R_fr cR f1
  exact rw_do hE1 hE2 ((W_thick cC hN hok b35 kk.1 kk.2 r.toInt a.toInt).imp fun _ h => ⟨_, h⟩) ((V_thick cR1 hN hok b35 r.toInt a.toInt).imp fun _ h => ⟨_, h⟩)
theorem two_drips : l_two rw_Q (748, 108, 94, 1, false, 759, 111, 225) := by
  intro M1 M2 M3 σ σ1 σ2 as v1 v2 C1 C2 ρ1 ρ2 ha hR hh hM1 hC1 hp1 hE1 hC2 hp2 hE2
  obtain ⟨a, rfl⟩ := as_one ha
  have hE1 : z_R 94 (z_m σ, 0, [(2, 0), (0, a.toInt), (9, 0), (9, 0)], []) = some (z_m σ1, some (0, v1.toInt)) := z_R_iff.mpr hE1
  have hE2 : z_R 225 (z_m σ1, 0, [(2, 251), (0, a.toInt), (9, 0), (9, 0)], []) = some (z_m σ2, some (0, v2.toInt)) := z_R_iff.mpr hE2
  obtain ⟨w, h, n, heat, price, D, A, c, U, kn, KS, cs, cC, cR, cW⟩ := hR.2
  obtain ⟨b1, b2, -, -, hok, b35, -, b7⟩ := core_b hh hM1 cR
  have hN : w_N w h n heat D := ⟨b1, b2, b7⟩
  have kk := core_24 hh
  have f1 := R_off2_ok (y := 94) (by decide +kernel) hC1 hp1
  have cR1 := R_fr cR f1
  exact rw_do hE1 hE2 ((W_drips cC hN hok b35 kk.1 kk.2 a.toInt).imp fun _ q => q.elim fun _ h => ⟨_, h⟩) ((V_drips cR1 hN hok b35 a.toInt).imp fun _ q => q.elim fun _ h => ⟨_, h⟩)
theorem two_gives : l_two rw_Q (729, 104, 91, 0, false, 734, 107, 220) := by
  intro M1 M2 M3 σ σ1 σ2 as v1 v2 C1 C2 ρ1 ρ2 ha hR hh hM1 hC1 hp1 hE1 hC2 hp2 hE2
  obtain rfl := as_nil ha
  have hE1 : z_R 91 (z_m σ, 0, [(2, 0), (9, 0), (9, 0), (9, 0)], []) = some (z_m σ1, some (0, v1.toInt)) := z_R_iff.mpr hE1
  have hE2 : z_R 220 (z_m σ1, 0, [(2, 251), (9, 0)], []) = some (z_m σ2, some (0, v2.toInt)) := z_R_iff.mpr hE2
  obtain ⟨w, h, n, heat, price, D, A, c, U, kn, KS, cs, cC, cR, cW⟩ := hR.2
  obtain ⟨b1, b2, -, -, hok, b35, -, b7⟩ := core_b hh hM1 cR
  have hN : w_N w h n heat D := ⟨b1, b2, b7⟩
  have kk := core_24 hh
  have f1 := R_off2_ok (y := 91) (by decide +kernel) hC1 hp1
  have cR1 := R_fr cR f1
  exact rw_do hE1 hE2 ((W_gives cC hN hok b35 kk.1 kk.2).imp fun _ h => ⟨_, h⟩) ((V_gives cR1 hN hok b35).imp fun _ q => q.elim fun _ h => ⟨_, h⟩)
theorem two_burden : l_two rw_Q (855, 128, 115, 0, false, 860, 131, 238) := by
  intro M1 M2 M3 σ σ1 σ2 as v1 v2 C1 C2 ρ1 ρ2 ha hR hh hM1 hC1 hp1 hE1 hC2 hp2 hE2
  obtain rfl := as_nil ha
  have hE1 : z_R 115 (z_m σ, 0, [(2, 0), (9, 0), (9, 0), (9, 0), (9, 0)], []) = some (z_m σ1, some (0, v1.toInt)) := z_R_iff.mpr hE1
  have hE2 : z_R 238 (z_m σ1, 0, [(2, 251), (9, 0), (9, 0), (9, 0), (9, 0), (9, 0)], []) = some (z_m σ2, some (0, v2.toInt)) := z_R_iff.mpr hE2
  obtain ⟨w, h, n, heat, price, D, A, c, U, kn, KS, cs, cC, cR, cW⟩ := hR.2
  obtain ⟨b1, b2, -, -, hok, b35, -, b7⟩ := core_b hh hM1 cR
  have hN : w_N w h n heat D := ⟨b1, b2, b7⟩
  have kk := core_24 hh
  have f1 := R_off2_ok (y := 115) (by decide +kernel) hC1 hp1
  have cR1 := R_fr cR f1
  exact rw_do hE1 hE2 ((W_burden cC hN hok b35 kk.1 kk.2).imp fun _ h => ⟨_, h⟩) ((V_burden cR1 hN hok b35).imp fun _ h => ⟨_, h⟩)
theorem two_warm : l_two rw_Q (930, 140, 125, 2, false, 947, 143, 243) := by
  intro M1 M2 M3 σ σ1 σ2 as v1 v2 C1 C2 ρ1 ρ2 ha hR hh hM1 hC1 hp1 hE1 hC2 hp2 hE2
  obtain ⟨r, v, rfl⟩ := as_two ha
  have hE1 : z_R 125 (z_m σ, 0, [(2, 0), (0, r.toInt), (0, v.toInt), (9, 0), (9, 0), (9, 0), (9, 0)], []) = some (z_m σ1, some (0, v1.toInt)) := z_R_iff.mpr hE1
  have hE2 : z_R 243 (z_m σ1, 0, [(2, 251), (0, r.toInt), (0, v.toInt), (9, 0), (9, 0), (9, 0), (9, 0)], []) = some (z_m σ2, some (0, v2.toInt)) := z_R_iff.mpr hE2
  obtain ⟨w, h, n, heat, price, D, A, c, U, kn, KS, cs, cC, cR, cW⟩ := hR.2
  obtain ⟨b1, b2, -, -, hok, b35, -, b7⟩ := core_b hh hM1 cR
  have hN : w_N w h n heat D := ⟨b1, b2, b7⟩
  have f1 := R_off2_ok (y := 125) (by decide +kernel) hC1 hp1
  have cR1 := R_fr cR f1
  exact rw_do hE1 hE2 ((W_warm cC hN b35 r.toInt v.toInt).imp fun _ h => ⟨_, h⟩) ((V_warm cR1 hN hok b35 r.toInt v.toInt).imp fun _ h => ⟨_, h⟩)
theorem two_charges : l_two rw_Q (899, 136, 123, 1, false, 910, 139, 242) := by
  intro M1 M2 M3 σ σ1 σ2 as v1 v2 C1 C2 ρ1 ρ2 ha hR hh hM1 hC1 hp1 hE1 hC2 hp2 hE2
  obtain ⟨a, rfl⟩ := as_one ha
  have hE1 : z_R 123 (z_m σ, 0, [(2, 0), (0, a.toInt), (9, 0), (9, 0), (9, 0)], []) = some (z_m σ1, some (0, v1.toInt)) := z_R_iff.mpr hE1
  have hE2 : z_R 242 (z_m σ1, 0, [(2, 251), (0, a.toInt), (9, 0), (9, 0)], []) = some (z_m σ2, some (0, v2.toInt)) := z_R_iff.mpr hE2
  obtain ⟨w, h, n, heat, price, D, A, c, U, kn, KS, cs, cC, cR, cW⟩ := hR.2
  obtain ⟨b1, b2, -, -, hok, b35, -, b7⟩ := core_b hh hM1 cR
  have hN : w_N w h n heat D := ⟨b1, b2, b7⟩
  have kk := core_24 hh
  have f1 := R_off2_ok (y := 123) (by decide +kernel) hC1 hp1
  have cR1 := R_fr cR f1
  exact rw_do hE1 hE2 ((W_charges cC hN hok b35 kk.1 kk.2 a.toInt).imp fun _ h => ⟨_, h⟩) ((V_charges cR1 hN hok b35 a.toInt).imp fun _ h => ⟨_, h⟩)
theorem two_water : l_two rw_Q (1067, 160, 137, 0, false, 1072, 163, 252) := by
  intro M1 M2 M3 σ σ1 σ2 as v1 v2 C1 C2 ρ1 ρ2 ha hR hh hM1 hC1 hp1 hE1 hC2 hp2 hE2
  obtain rfl := as_nil ha
  have hE1 : z_R 137 (z_m σ, 0, [(2, 0), (9, 0), (9, 0), (9, 0)], []) = some (z_m σ1, some (0, v1.toInt)) := z_R_iff.mpr hE1
  have hE2 : z_R 252 (z_m σ1, 0, [(2, 251), (9, 0), (9, 0), (9, 0)], []) = some (z_m σ2, some (0, v2.toInt)) := z_R_iff.mpr hE2
  obtain ⟨w, h, n, heat, price, D, A, c, U, kn, KS, cs, cC, cR, cW⟩ := hR.2
  have f1 := R_off2_ok (y := 137) (by decide +kernel) hC1 hp1
  have cR1 := R_fr cR f1
  exact rw_do hE1 hE2 ((W_water cC cW.2.1).imp fun _ h => ⟨_, h⟩) ((V_water cR1).imp fun _ h => ⟨_, h⟩)
theorem two_hearth : l_two rw_Q (999, 152, 133, 1, false, 1010, 155, 249) := by
  intro M1 M2 M3 σ σ1 σ2 as v1 v2 C1 C2 ρ1 ρ2 ha hR hh hM1 hC1 hp1 hE1 hC2 hp2 hE2
  obtain ⟨a, rfl⟩ := as_one ha
  have hE1 : z_R 133 (z_m σ, 0, [(2, 0), (0, a.toInt), (9, 0), (9, 0), (9, 0), (9, 0)], []) = some (z_m σ1, some (0, v1.toInt)) := z_R_iff.mpr hE1
  have hE2 : z_R 249 (z_m σ1, 0, [(2, 251), (0, a.toInt), (9, 0), (9, 0), (9, 0), (9, 0)], []) = some (z_m σ2, some (0, v2.toInt)) := z_R_iff.mpr hE2
  obtain ⟨w, h, n, heat, price, D, A, c, U, kn, KS, cs, cC, cR, cW⟩ := hR.2
  obtain ⟨b1, b2, -, -, hok, b35, -, b7⟩ := core_b hh hM1 cR
  have hN : w_N w h n heat D := ⟨b1, b2, b7⟩
  have f1 := R_off2_ok (y := 133) (by decide +kernel) hC1 hp1
  have cR1 := R_fr cR f1
  exact rw_do hE1 hE2 ((W_hearth cC hN hok b35 a.toInt).imp fun _ h => ⟨_, h⟩) ((V_hearth cR1 hN hok b35 cW.1 a.toInt).imp fun _ h => ⟨_, h⟩)
theorem two_look : l_two rw_Q (955, 144, 126, 0, false, 960, 147, 244) := by
  intro M1 M2 M3 σ σ1 σ2 as v1 v2 C1 C2 ρ1 ρ2 ha hR hh hM1 hC1 hp1 hE1 hC2 hp2 hE2
  obtain rfl := as_nil ha
  have hE1 : z_R 126 (z_m σ, 0, [(2, 0), (9, 0), (9, 0), (9, 0), (9, 0)], []) = some (z_m σ1, some (0, v1.toInt)) := z_R_iff.mpr hE1
  have hE2 : z_R 244 (z_m σ1, 0, [(2, 251), (9, 0), (9, 0), (9, 0), (9, 0), (9, 0), (9, 0), (9, 0), (9, 0)], []) = some (z_m σ2, some (0, v2.toInt)) := z_R_iff.mpr hE2
  obtain ⟨w, h, n, heat, price, D, A, c, U, kn, KS, cs, cC, cR, cW⟩ := hR.2
  obtain ⟨b1, b2, -, -, hok, b35, -, b7⟩ := core_b hh hM1 cR
  have hN : w_N w h n heat D := ⟨b1, b2, b7⟩
  have f1 := R_off2_ok (y := 126) (by decide +kernel) hC1 hp1
  have cR1 := R_fr cR f1
  exact rw_do hE1 hE2 ((W_look cC hN hok b35).imp fun _ q => q.elim fun _ h => ⟨_, h⟩) ((V_look cR1 hN hok b35 cW.1).imp fun _ q => q.elim fun _ h => ⟨_, h⟩)
theorem two_season : l_two ln_Q (1166, 172, 144, 2, false, 1183, 175, 257) := by
  intro M1 M2 M3 σ σ1 σ2 as v1 v2 C1 C2 ρ1 ρ2 ha hR hh hM1 hC1 hp1 hE1 hC2 hp2 hE2
  obtain ⟨s, a, rfl⟩ := as_two ha
  have hE1 : z_R 144 (z_m σ, 0, [(2, 0), (0, s.toInt), (0, a.toInt), (9, 0), (9, 0)], []) = some (z_m σ1, some (0, v1.toInt)) := z_R_iff.mpr hE1
  have hE2 : z_R 257 (z_m σ1, 0, [(2, 251), (0, s.toInt), (0, a.toInt), (9, 0), (9, 0), (9, 0), (9, 0)], []) = some (z_m σ2, some (0, v2.toInt)) := z_R_iff.mpr hE2
  obtain ⟨w, h, n, heat, price, D, A, c, U, kn, KS, cs, cC, cR, cW⟩ := hR.2
  obtain ⟨b1, b2, -, -, hok, b35, b34, b7⟩ := core_b hh hM1 cR
  have hN : w_N w h n heat D := ⟨b1, b2, b7⟩
  have f1 := R_off2_ok (y := 144) (by decide +kernel) hC1 hp1
  have cR1 := R_fr cR f1
  exact ln_do hE1 hE2 ((W_season cC hN hok b34.1 b35 s.toInt a.toInt).imp fun _ h => ⟨_, h⟩) ((V_season cR1 hN hok b34.1 b35 s.toInt a.toInt).imp fun _ h => ⟨_, h⟩)
theorem two_winter : l_two ln_Q (666, 92, 82, 0, false, 671, 95, 212) := by
  intro M1 M2 M3 σ σ1 σ2 as v1 v2 C1 C2 ρ1 ρ2 ha hR hh hM1 hC1 hp1 hE1 hC2 hp2 hE2
  obtain rfl := as_nil ha
  have hE1 : z_R 82 (z_m σ, 0, [(2, 0), (9, 0), (9, 0)], []) = some (z_m σ1, some (0, v1.toInt)) := z_R_iff.mpr hE1
  have hE2 : z_R 212 (z_m σ1, 0, [(2, 251), (9, 0), (9, 0), (9, 0)], []) = some (z_m σ2, some (0, v2.toInt)) := z_R_iff.mpr hE2
  have hT : u_R (z_m σ) := hR.1
  obtain ⟨r1, r2⟩ := z_rng hh (p := 1) (k := 1) (lo := 0) (hi := 80) (by decide) (by decide +kernel) (by decide +kernel)
  have rb : ∀ k, k < 80 → -128 ≤ z_m σ 254 k ∧ z_m σ 254 k ≤ 127 := fun k hk => z_rng hh (p := 254) (k := k) (lo := -128) (hi := 127) (by decide) (by rw [show h_ln 254 = 80 by decide +kernel]; exact hk) (h_ty_254 k)
  have o8 : z_m σ1 251 8 = z_m σ 251 8 := md_off_ok (y := 82) (by decide +kernel) hC1 hp1
  have o4 : z_m σ1 254 = z_m σ 254 := md_offr_ok (y := 82) (by decide +kernel) hC1 hp1
  have e8 : z_m σ1 251 8 = z_m σ 1 1 := o8.trans hT.1.symm
  have eG : u_nx (u_t (z_m σ1)) (z_m σ1 251 8) 60 = u_nx (z_m σ 2) (z_m σ 1 1) 60 := by
    rw [u_nx_R hT]
    unfold u_t
    rw [o8, o4]
  obtain ⟨w, h, n, heat, price, D, A, c, U, kn, KS, cs, cC, cR, cW⟩ := hR.2
  obtain ⟨b1, b2, -, -, hok, b35, b34, b7⟩ := core_b hh hM1 cR
  have f1 := R_off2_ok (y := 82) (by decide +kernel) hC1 hp1
  have cR1 := R_fr cR f1
  have rb1 : ∀ k, k < 80 → -128 ≤ z_m σ1 254 k ∧ z_m σ1 254 k ≤ 127 := fun k hk => by rw [o4]; exact rb k hk
  have hN : w_N w h n heat D := ⟨b1, b2, b7⟩
  have hI : w_inv n A 1073741824 := ⟨hok, b34.1, b35.1, b35.2⟩
  have hS := w_rd_b (G := u_nx (z_m σ 2) (z_m σ 1 1) 60) (u_nx_b r2) (z_m σ 1 1)
  rcases hW : w_rd (u_nx (z_m σ 2) (z_m σ 1 1) 60) (z_m σ 1 1) with ⟨x, j, l⟩
  rw [hW] at hS
  cases x with
  | true =>
    rcases hd : w_go w h n heat price cs D l A with ⟨d, B⟩
    exact ln_do hE1 hE2 ((W_win cC hN hI (by decide) r2 (u_gr_Rc hT) rfl hW hS.2 hd).imp fun _ h => ⟨_, h⟩) ((V_win cR1 hN hI (by decide) (by rw [e8]; exact r1) (by rw [e8]; exact r2) rb1 eG (by rw [e8]; exact hW) hS.2 hd).imp fun _ h => ⟨_, h⟩)
  | false =>
    refine ln_do (o := none) hE1 hE2 ((W_win_no r2 (u_gr_Rc hT) rfl hW hS.1).imp fun _ h => ⟨_, h⟩) ?_
    obtain ⟨m2, d1, -, d3⟩ := w_readq (z_m σ1) (by rw [e8]; exact r1) (by rw [e8]; exact r2) rb1 eG
    rw [e8, hW] at d3
    exact ⟨m2, _, d3 rfl, d1.of (by (repeat' (first | exact trivial | refine z_of_c ?_ ?_)) <;> omega)⟩
theorem two_share : l_two ln_Q (874, 132, 116, 1, false, 885, 135, 239) := by
  intro M1 M2 M3 σ σ1 σ2 as v1 v2 C1 C2 ρ1 ρ2 ha hR hh hM1 hC1 hp1 hE1 hC2 hp2 hE2
  obtain ⟨p, rfl⟩ := as_one ha
  have hE1 : z_R 116 (z_m σ, 0, [(2, 0), (0, p.toInt), (9, 0), (9, 0)], []) = some (z_m σ1, some (0, v1.toInt)) := z_R_iff.mpr hE1
  have hE2 : z_R 239 (z_m σ1, 0, [(2, 251), (0, p.toInt), (9, 0), (9, 0)], []) = some (z_m σ2, some (0, v2.toInt)) := z_R_iff.mpr hE2
  obtain ⟨w, h, n, heat, price, D, A, c, U, kn, KS, cs, cC, cR, cW⟩ := hR.2
  obtain ⟨⟨-, -, n5⟩, -⟩ := core_b hh hM1 cR
  have f1 := R_off2_ok (y := 116) (by decide +kernel) hC1 hp1
  have x1 := C_share cC n5 cW.2.1 hE1
  have x2 := R_share (R_fr cR f1) n5 hE2
  have e : v1 = v2 := Int32.toInt_inj.mp (x1.trans x2.symm)
  by_cases z : 0 ≤ v1.toInt
  · exact ⟨some 2, ln_ck_ok (y := 116) (p := 0) (k := 13) (x := 2) (by decide +kernel) hC1 z hp1, ln_ck_ok (y := 239) (p := 251) (k := 10) (x := 2) (by decide +kernel) hC2 (by rw [← e]; exact z) hp2⟩
  · exact ⟨none, congrArg (fun q : z_M => q 0 13) (W_share cC n5 cW.2.1 hE1 (by omega)), V_share (R_fr cR f1) n5 hE2 (by rw [← e]; omega)⟩
theorem two_thaw : l_two ln_Q (1092, 164, 138, 2, false, 1109, 167, 253) := by
  intro M1 M2 M3 σ σ1 σ2 as v1 v2 C1 C2 ρ1 ρ2 ha hR hh hM1 hC1 hp1 hE1 hC2 hp2 hE2
  obtain ⟨n, p, rfl⟩ := as_two ha
  have hE1 : z_R 138 (z_m σ, 0, [(2, 0), (0, n.toInt), (0, p.toInt)], []) = some (z_m σ1, some (0, v1.toInt)) := z_R_iff.mpr hE1
  have hE2 : z_R 253 (z_m σ1, 0, [(2, 251), (0, n.toInt), (0, p.toInt)], []) = some (z_m σ2, some (0, v2.toInt)) := z_R_iff.mpr hE2
  have e : v1 = v2 := Int32.toInt_inj.mp ((h_c hE1).trans (h_t hE2).symm)
  by_cases z : 0 ≤ v1.toInt
  · exact ⟨some 2, ln_ck_ok (y := 138) (p := 0) (k := 13) (x := 2) (by decide +kernel) hC1 z hp1, ln_ck_ok (y := 253) (p := 251) (k := 10) (x := 2) (by decide +kernel) hC2 (by rw [← e]; exact z) hp2⟩
  · exact ⟨none, congrArg (fun q : z_M => q 0 13) (W_thaw hE1 (by omega)), V_thaw hE2 (by rw [← e]; omega)⟩
theorem two_rests : l_two ln_Q (1036, 156, 135, 3, false, 1059, 159, 251) := by
  intro M1 M2 M3 σ σ1 σ2 as v1 v2 C1 C2 ρ1 ρ2 ha hR hh hM1 hC1 hp1 hE1 hC2 hp2 hE2
  obtain ⟨a, b, v, rfl⟩ := as_three ha
  have hE1 : z_R 135 (z_m σ, 0, [(2, 0), (0, a.toInt), (0, b.toInt), (0, v.toInt), (9, 0), (9, 0), (9, 0), (9, 0), (9, 0), (9, 0)], []) = some (z_m σ1, some (0, v1.toInt)) := z_R_iff.mpr hE1
  have hE2 : z_R 251 (z_m σ1, 0, [(2, 251), (0, a.toInt), (0, b.toInt), (0, v.toInt), (9, 0), (9, 0), (9, 0), (9, 0), (9, 0), (9, 0)], []) = some (z_m σ2, some (0, v2.toInt)) := z_R_iff.mpr hE2
  obtain ⟨w, h, n, heat, price, D, A, c, U, kn, KS, cs, cC, cR, cW⟩ := hR.2
  obtain ⟨b1, b2, -, -, hok, b35, -, b7⟩ := core_b hh hM1 cR
  have hN : w_N w h n heat D := ⟨b1, b2, b7⟩
  have f1 := R_off2_ok (y := 135) (by decide +kernel) hC1 hp1
  obtain ⟨m1, x1, x2⟩ := W_rests cC hN hok b35 cW.2.1 a.toInt b.toInt v.toInt
  rw [← s_mem (x1.symm.trans hE1)] at x2
  exact ⟨_, x2, V_rests (R_fr cR f1) hN hok b35 hE2⟩
end
section
/-! STRETCHES of count, row, with bounds done -/
theorem ct_cou_0  (m : z_M) (k : Int) : z_R 154 (m, 0, [(2, 0), (0, k)], []) = if k = 0 then some (m, some (0, m 3 8)) else if k = 1 then some (m, some (0, m 3 9)) else if k = 2 then some (m, some (0, m 3 11)) else if k = 3 then (z_R 100 (m, 0, [(2, 3), (2, 12), (0, (-1)), (9, 0), (9, 0)], [])).bind fun qq => z_R 154 (qq.1, 104, [(2, 0), (0, k)], qq.2.toList ++ []) else if k = 4 then some (m, some (0, m 12 6)) else if k = 5 then some (m, some (0, m 3 12)) else if k = 6 then some (m, some (0, m 12 8)) else if k = 7 then some (m, some (0, m 3 13)) else if k = 8 then some (m, some (0, m 12 7)) else if k = 9 then (z_R 92 (m, 0, [(2, 3), (2, 12), (9, 0), (9, 0)], [])).bind fun qq => z_R 154 (qq.1, 163, [(2, 0), (0, k)], qq.2.toList ++ [(0, m 3 10)]) else if k = 10 then some (m, some (0, m 28 4)) else if k = 11 then some (m, some (0, m 0 13)) else if k = 12 then some (m, some (0, m 1 1)) else some (m, some (0, (-100))) :=
  have hK : kt_at 154 = kt_154 := rfl
  (z_R_run hK (n := 1) (g' := (m, 1, [(2, 0), (0, k)], [(0, k)])) rfl).trans ((z_R_s1 hK (g' := (m, z_tgt 1 (z_tbo (187) (0) (12) [(67 : Int), (75 : Int), (83 : Int), (91 : Int), (104 : Int), (112 : Int), (120 : Int), (128 : Int), (136 : Int), (144 : Int), (166 : Int), (174 : Int), (179 : Int)] k), [(2, 0), (0, k)], [])) rfl rfl rfl).trans (z_dite (fun h1 => z_R_tbk h1 rfl ((z_R_run hK (n := 2) (g' := (m, 72, [(2, 0), (0, k)], [(2, 3)])) rfl).trans ((z_R_run hK (n := 1) (g' := (m, 75, [(2, 0), (0, k)], [(0, m 3 8)])) rfl).trans (z_R_ret hK rfl rfl rfl)))) (fun h1 => z_dite (fun h2 => z_R_tbk h2 rfl ((z_R_run hK (n := 2) (g' := (m, 80, [(2, 0), (0, k)], [(2, 3)])) rfl).trans ((z_R_run hK (n := 1) (g' := (m, 83, [(2, 0), (0, k)], [(0, m 3 9)])) rfl).trans (z_R_ret hK rfl rfl rfl)))) (fun h2 => z_dite (fun h3 => z_R_tbk h3 rfl ((z_R_run hK (n := 2) (g' := (m, 88, [(2, 0), (0, k)], [(2, 3)])) rfl).trans ((z_R_run hK (n := 1) (g' := (m, 91, [(2, 0), (0, k)], [(0, m 3 11)])) rfl).trans (z_R_ret hK rfl rfl rfl)))) (fun h3 => z_dite (fun h4 => z_R_tbk h4 rfl ((z_R_run hK (n := 2) (g' := (m, 96, [(2, 0), (0, k)], [(2, 3)])) rfl).trans ((z_R_run hK (n := 2) (g' := (m, 100, [(2, 0), (0, k)], [(2, 12), (2, 3)])) rfl).trans ((z_R_run hK (n := 1) (g' := (m, 101, [(2, 0), (0, k)], [(0, (-1)), (2, 12), (2, 3)])) rfl).trans (z_R_call hK rfl rfl rfl rfl rfl))))) (fun h4 => z_dite (fun h5 => z_R_tbk h5 rfl ((z_R_run hK (n := 2) (g' := (m, 109, [(2, 0), (0, k)], [(2, 12)])) rfl).trans ((z_R_run hK (n := 1) (g' := (m, 112, [(2, 0), (0, k)], [(0, m 12 6)])) rfl).trans (z_R_ret hK rfl rfl rfl)))) (fun h5 => z_dite (fun h6 => z_R_tbk h6 rfl ((z_R_run hK (n := 2) (g' := (m, 117, [(2, 0), (0, k)], [(2, 3)])) rfl).trans ((z_R_run hK (n := 1) (g' := (m, 120, [(2, 0), (0, k)], [(0, m 3 12)])) rfl).trans (z_R_ret hK rfl rfl rfl)))) (fun h6 => z_dite (fun h7 => z_R_tbk h7 rfl ((z_R_run hK (n := 2) (g' := (m, 125, [(2, 0), (0, k)], [(2, 12)])) rfl).trans ((z_R_run hK (n := 1) (g' := (m, 128, [(2, 0), (0, k)], [(0, m 12 8)])) rfl).trans (z_R_ret hK rfl rfl rfl)))) (fun h7 => z_dite (fun h8 => z_R_tbk h8 rfl ((z_R_run hK (n := 2) (g' := (m, 133, [(2, 0), (0, k)], [(2, 3)])) rfl).trans ((z_R_run hK (n := 1) (g' := (m, 136, [(2, 0), (0, k)], [(0, m 3 13)])) rfl).trans (z_R_ret hK rfl rfl rfl)))) (fun h8 => z_dite (fun h9 => z_R_tbk h9 rfl ((z_R_run hK (n := 2) (g' := (m, 141, [(2, 0), (0, k)], [(2, 12)])) rfl).trans ((z_R_run hK (n := 1) (g' := (m, 144, [(2, 0), (0, k)], [(0, m 12 7)])) rfl).trans (z_R_ret hK rfl rfl rfl)))) (fun h9 => z_dite (fun h10 => z_R_tbk h10 rfl ((z_R_run hK (n := 2) (g' := (m, 149, [(2, 0), (0, k)], [(2, 3)])) rfl).trans ((z_R_run hK (n := 3) (g' := (m, 156, [(2, 0), (0, k)], [(2, 3), (0, m 3 10)])) rfl).trans ((z_R_run hK (n := 2) (g' := (m, 160, [(2, 0), (0, k)], [(2, 12), (2, 3), (0, m 3 10)])) rfl).trans (z_R_call hK rfl rfl rfl rfl rfl))))) (fun h10 => z_dite (fun h11 => z_R_tbk h11 rfl ((z_R_run hK (n := 2) (g' := (m, 171, [(2, 0), (0, k)], [(2, 28)])) rfl).trans ((z_R_run hK (n := 1) (g' := (m, 174, [(2, 0), (0, k)], [(0, m 28 4)])) rfl).trans (z_R_ret hK rfl rfl rfl)))) (fun h11 => z_dite (fun h12 => z_R_tbk h12 rfl ((z_R_run hK (n := 2) (g' := (m, 179, [(2, 0), (0, k)], [(0, m 0 13)])) rfl).trans (z_R_ret hK rfl rfl rfl))) (fun h12 => z_dite (fun h13 => z_R_tbk h13 rfl ((z_R_run hK (n := 2) (g' := (m, 184, [(2, 0), (0, k)], [(2, 1)])) rfl).trans ((z_R_run hK (n := 1) (g' := (m, 187, [(2, 0), (0, k)], [(0, m 1 1)])) rfl).trans (z_R_ret hK rfl rfl rfl)))) (fun h13 => z_R_tbd (show ¬ (0 ≤ k ∧ k ≤ 12) by omega) ((z_R_run hK (n := 1) (g' := (m, 190, [(2, 0), (0, k)], [(0, (-100))])) rfl).trans (z_R_ret hK rfl rfl rfl)))))))))))))))))
theorem ct_cou_104  (m : z_M) (x1 : Int) (u : Int) : z_R 154 (m, 104, [(2, 0), (0, x1)], [(0, u)]) = some (m, some (0, u)) :=
  have hK : kt_at 154 = kt_154 := rfl
  z_R_ret hK rfl rfl rfl
theorem ct_cou_163  (m : z_M) (x1 : Int) (s0 : Int) (u : Int) : z_R 154 (m, 163, [(2, 0), (0, x1)], [(0, u), (0, s0)]) = some (m, some (0, z_and s0 (z_xor u (-1)))) :=
  have hK : kt_at 154 = kt_154 := rfl
  (z_R_run hK (n := 3) (g' := (m, 166, [(2, 0), (0, x1)], [(0, z_and s0 (z_xor u (-1)))])) rfl).trans (z_R_ret hK rfl rfl rfl)
theorem ct_tco_0  (m : z_M) (k : Int) : z_R 260 (m, 0, [(2, 251), (0, k)], []) = if k = 0 then some (z_up m 251 11 0, some (0, m 251 1)) else if k = 1 then some (z_up m 251 11 0, some (0, m 251 2)) else if k = 2 then some (z_up m 251 11 0, some (0, m 251 3)) else if k = 3 then (z_R 183 (z_up m 251 11 0, 0, [(2, 251), (2, 252), (0, (-1)), (9, 0), (9, 0)], [])).bind fun qq => z_R 260 (qq.1, 96, [(2, 251), (0, k)], qq.2.toList ++ []) else if k = 4 then some (z_up m 251 11 0, some (0, m 252 34)) else if k = 5 then some (z_up m 251 11 0, some (0, m 251 5)) else if k = 6 then some (z_up m 251 11 0, some (0, m 252 36)) else if k = 7 then some (z_up m 251 11 0, some (0, m 251 6)) else if k = 8 then some (z_up m 251 11 0, some (0, m 252 35)) else if k = 9 then (z_R 223 (z_up m 251 11 0, 0, [(2, 251), (2, 252), (9, 0), (9, 0)], [])).bind fun qq => z_R 260 (qq.1, 139, [(2, 251), (0, k)], qq.2.toList ++ []) else if k = 10 then some (z_up m 251 11 0, some (0, m 251 25)) else if k = 11 then some (z_up m 251 11 0, some (0, m 251 10)) else if k = 12 then some (z_up m 251 11 0, some (0, m 251 8)) else some (z_up m 251 11 0, some (0, (-100))) :=
  have hK : kt_at 260 = kt_260 := rfl
  (z_R_run hK (n := 4) (g' := (z_up m 251 11 0, 6, [(2, 251), (0, k)], [(0, k)])) rfl).trans ((z_R_s1 hK (g' := (z_up m 251 11 0, z_tgt 6 (z_tbo (149) (0) (12) [(66 : Int), (71 : Int), (76 : Int), (81 : Int), (91 : Int), (99 : Int), (104 : Int), (112 : Int), (117 : Int), (125 : Int), (134 : Int), (139 : Int), (144 : Int)] k), [(2, 251), (0, k)], [])) rfl rfl rfl).trans (z_dite (fun h1 => z_R_tbk h1 rfl ((z_R_run hK (n := 2) (g' := (z_up m 251 11 0, 76, [(2, 251), (0, k)], [(0, (z_up m 251 11 0) 251 1)])) rfl).trans ((congrArg (fun vv => z_R 260 (z_up m 251 11 0, 76, [(2, 251), (0, k)], [(0, vv)])) (zu_k (by decide))).trans (z_R_ret hK rfl rfl rfl)))) (fun h1 => z_dite (fun h2 => z_R_tbk h2 rfl ((z_R_run hK (n := 2) (g' := (z_up m 251 11 0, 81, [(2, 251), (0, k)], [(0, (z_up m 251 11 0) 251 2)])) rfl).trans ((congrArg (fun vv => z_R 260 (z_up m 251 11 0, 81, [(2, 251), (0, k)], [(0, vv)])) (zu_k (by decide))).trans (z_R_ret hK rfl rfl rfl)))) (fun h2 => z_dite (fun h3 => z_R_tbk h3 rfl ((z_R_run hK (n := 2) (g' := (z_up m 251 11 0, 86, [(2, 251), (0, k)], [(0, (z_up m 251 11 0) 251 3)])) rfl).trans ((congrArg (fun vv => z_R 260 (z_up m 251 11 0, 86, [(2, 251), (0, k)], [(0, vv)])) (zu_k (by decide))).trans (z_R_ret hK rfl rfl rfl)))) (fun h3 => z_dite (fun h4 => z_R_tbk h4 rfl ((z_R_run hK (n := 3) (g' := (z_up m 251 11 0, 92, [(2, 251), (0, k)], [(2, 252), (2, 251)])) rfl).trans ((z_R_run hK (n := 1) (g' := (z_up m 251 11 0, 93, [(2, 251), (0, k)], [(0, (-1)), (2, 252), (2, 251)])) rfl).trans (z_R_call hK rfl rfl rfl rfl rfl)))) (fun h4 => z_dite (fun h5 => z_R_tbk h5 rfl ((z_R_run hK (n := 2) (g' := (z_up m 251 11 0, 101, [(2, 251), (0, k)], [(2, 252)])) rfl).trans ((z_R_run hK (n := 2) (g' := (z_up m 251 11 0, 104, [(2, 251), (0, k)], [(0, (z_up m 251 11 0) 252 34)])) rfl).trans ((congrArg (fun vv => z_R 260 (z_up m 251 11 0, 104, [(2, 251), (0, k)], [(0, vv)])) (zu_p (by decide))).trans (z_R_ret hK rfl rfl rfl))))) (fun h5 => z_dite (fun h6 => z_R_tbk h6 rfl ((z_R_run hK (n := 2) (g' := (z_up m 251 11 0, 109, [(2, 251), (0, k)], [(0, (z_up m 251 11 0) 251 5)])) rfl).trans ((congrArg (fun vv => z_R 260 (z_up m 251 11 0, 109, [(2, 251), (0, k)], [(0, vv)])) (zu_k (by decide))).trans (z_R_ret hK rfl rfl rfl)))) (fun h6 => z_dite (fun h7 => z_R_tbk h7 rfl ((z_R_run hK (n := 2) (g' := (z_up m 251 11 0, 114, [(2, 251), (0, k)], [(2, 252)])) rfl).trans ((z_R_run hK (n := 2) (g' := (z_up m 251 11 0, 117, [(2, 251), (0, k)], [(0, (z_up m 251 11 0) 252 36)])) rfl).trans ((congrArg (fun vv => z_R 260 (z_up m 251 11 0, 117, [(2, 251), (0, k)], [(0, vv)])) (zu_p (by decide))).trans (z_R_ret hK rfl rfl rfl))))) (fun h7 => z_dite (fun h8 => z_R_tbk h8 rfl ((z_R_run hK (n := 2) (g' := (z_up m 251 11 0, 122, [(2, 251), (0, k)], [(0, (z_up m 251 11 0) 251 6)])) rfl).trans ((congrArg (fun vv => z_R 260 (z_up m 251 11 0, 122, [(2, 251), (0, k)], [(0, vv)])) (zu_k (by decide))).trans (z_R_ret hK rfl rfl rfl)))) (fun h8 => z_dite (fun h9 => z_R_tbk h9 rfl ((z_R_run hK (n := 2) (g' := (z_up m 251 11 0, 127, [(2, 251), (0, k)], [(2, 252)])) rfl).trans ((z_R_run hK (n := 2) (g' := (z_up m 251 11 0, 130, [(2, 251), (0, k)], [(0, (z_up m 251 11 0) 252 35)])) rfl).trans ((congrArg (fun vv => z_R 260 (z_up m 251 11 0, 130, [(2, 251), (0, k)], [(0, vv)])) (zu_p (by decide))).trans (z_R_ret hK rfl rfl rfl))))) (fun h9 => z_dite (fun h10 => z_R_tbk h10 rfl ((z_R_run hK (n := 3) (g' := (z_up m 251 11 0, 136, [(2, 251), (0, k)], [(2, 252), (2, 251)])) rfl).trans (z_R_call hK rfl rfl rfl rfl rfl))) (fun h10 => z_dite (fun h11 => z_R_tbk h11 rfl ((z_R_run hK (n := 2) (g' := (z_up m 251 11 0, 144, [(2, 251), (0, k)], [(0, (z_up m 251 11 0) 251 25)])) rfl).trans ((congrArg (fun vv => z_R 260 (z_up m 251 11 0, 144, [(2, 251), (0, k)], [(0, vv)])) (zu_k (by decide))).trans (z_R_ret hK rfl rfl rfl)))) (fun h11 => z_dite (fun h12 => z_R_tbk h12 rfl ((z_R_run hK (n := 2) (g' := (z_up m 251 11 0, 149, [(2, 251), (0, k)], [(0, (z_up m 251 11 0) 251 10)])) rfl).trans ((congrArg (fun vv => z_R 260 (z_up m 251 11 0, 149, [(2, 251), (0, k)], [(0, vv)])) (zu_k (by decide))).trans (z_R_ret hK rfl rfl rfl)))) (fun h12 => z_dite (fun h13 => z_R_tbk h13 rfl ((z_R_run hK (n := 2) (g' := (z_up m 251 11 0, 154, [(2, 251), (0, k)], [(0, (z_up m 251 11 0) 251 8)])) rfl).trans ((congrArg (fun vv => z_R 260 (z_up m 251 11 0, 154, [(2, 251), (0, k)], [(0, vv)])) (zu_k (by decide))).trans (z_R_ret hK rfl rfl rfl)))) (fun h13 => z_R_tbd (show ¬ (0 ≤ k ∧ k ≤ 12) by omega) ((z_R_run hK (n := 1) (g' := (z_up m 251 11 0, 157, [(2, 251), (0, k)], [(0, (-100))])) rfl).trans (z_R_ret hK rfl rfl rfl)))))))))))))))))
theorem ct_tco_96  (m : z_M) (x1 : Int) (u : Int) : z_R 260 (m, 96, [(2, 251), (0, x1)], [(0, u)]) = some (m, some (0, u)) :=
  have hK : kt_at 260 = kt_260 := rfl
  z_R_ret hK rfl rfl rfl
theorem ct_tco_139  (m : z_M) (x1 : Int) (u : Int) : z_R 260 (m, 139, [(2, 251), (0, x1)], [(0, u)]) = some (m, some (0, u)) :=
  have hK : kt_at 260 = kt_260 := rfl
  z_R_ret hK rfl rfl rfl
theorem ct_row_0  (m : z_M) (i : Int) : z_R 158 (m, 0, [(2, 0), (0, i)], []) = if i < 0 then some (m, some (9, 0)) else if i < m 0 13 then if 0 ≤ i ∧ i < 9 then some (m, some (1, m 250 (i).toNat)) else none else some (m, some (9, 0)) :=
  have hK : kt_at 158 = kt_158 := rfl
  (z_R_run hK (n := 1) (g' := (m, 1, [(2, 0), (0, i)], [(0, i)])) rfl).trans (z_R_ifd hK (c := i < 0) (p1 := 12) (p2 := 4) rfl rfl rfl (fun h1 => z_R_ret hK rfl rfl rfl) (fun h1 => (z_R_run hK (n := 3) (g' := (m, 9, [(2, 0), (0, i)], [(0, m 0 13), (0, i)])) rfl).trans (z_R_ifd hK (c := i < m 0 13) (p1 := 23) (p2 := 12) rfl rfl rfl (fun h2 => (z_R_run hK (n := 2) (g' := (m, 27, [(2, 0), (0, i)], [(2, 250)])) rfl).trans ((z_R_run hK (n := 1) (g' := (m, 28, [(2, 0), (0, i)], [(0, i), (2, 250)])) rfl).trans (z_R_ixD hK (n := 9) (g' := (m, 29, [(2, 0), (0, i)], [(1, m 250 (i).toNat)])) rfl rfl rfl  (fun h3 => z_R_ret hK rfl rfl rfl)))) (fun h2 => z_R_ret hK rfl rfl rfl))))
theorem ct_tro_0  (m : z_M) (i : Int) : z_R 261 (m, 0, [(2, 251), (0, i)], []) = (z_R 162 (z_up m 251 11 0, 0, [(0, i), (0, 0), (0, z_sub (m 251 10) 1)], [])).bind fun qq => z_R 261 (qq.1, 16, [(2, 251), (0, i)], qq.2.toList ++ []) :=
  have hK : kt_at 261 = kt_261 := rfl
  (z_R_run hK (n := 7) (g' := (z_up m 251 11 0, 11, [(2, 251), (0, i)], [(0, (z_up m 251 11 0) 251 10), (0, 0), (0, i)])) rfl).trans ((congrArg (fun vv => z_R 261 (z_up m 251 11 0, 11, [(2, 251), (0, i)], [(0, vv), (0, 0), (0, i)])) (zu_k (by decide))).trans ((z_R_run hK (n := 2) (g' := (z_up m 251 11 0, 13, [(2, 251), (0, i)], [(0, z_sub (m 251 10) 1), (0, 0), (0, i)])) rfl).trans (z_R_call hK rfl rfl rfl rfl rfl)))
theorem ct_tro_16  (m : z_M) (x1 : Int) (u : Int) : z_R 261 (m, 16, [(2, 251), (0, x1)], [(0, u)]) = if u = 0 then (z_R 182 (m, 0, [(2, 251)], [])).bind fun qq => z_R 261 (qq.1, 32, [(2, 251), (0, x1)], qq.2.toList ++ []) else if 0 ≤ x1 ∧ x1 < 16 then some (m, some (1, m 255 (x1).toNat)) else none :=
  have hK : kt_at 261 = kt_261 := rfl
  z_R_ifd hK (c := u = 0) (p1 := 28) (p2 := 19) rfl rfl rfl (fun h1 => (z_R_run hK (n := 1) (g' := (m, 29, [(2, 251), (0, x1)], [(2, 251)])) rfl).trans (z_R_call hK rfl rfl rfl rfl rfl)) (fun h1 => (z_R_run hK (n := 2) (g' := (m, 23, [(2, 251), (0, x1)], [(2, 255)])) rfl).trans ((z_R_run hK (n := 1) (g' := (m, 24, [(2, 251), (0, x1)], [(0, x1), (2, 255)])) rfl).trans (z_R_ixD hK (n := 16) (g' := (m, 25, [(2, 251), (0, x1)], [(1, m 255 (x1).toNat)])) rfl rfl rfl  (fun h2 => (z_R_run hK (n := 1) (g' := (m, 33, [(2, 251), (0, x1)], [(1, m 255 (x1).toNat)])) rfl).trans (z_R_ret hK rfl rfl rfl)))))
theorem ct_tro_32  (m : z_M) (x1 : Int) (u : Int) : z_R 261 (m, 32, [(2, 251), (0, x1)], [(0, u)]) = some (m, some (1, z_i2l u)) :=
  have hK : kt_at 261 = kt_261 := rfl
  (z_R_run hK (n := 1) (g' := (m, 33, [(2, 251), (0, x1)], [(1, z_i2l u)])) rfl).trans (z_R_ret hK rfl rfl rfl)
theorem ct_flo_0  (m : z_M) : z_R 92 (m, 0, [(2, 3), (2, 12), (9, 0), (9, 0)], []) = z_R 92 (m, 4, [(2, 3), (2, 12), (0, 0), (0, 0)], []) :=
  have hK : kt_at 92 = kt_92 := rfl
  (z_R_run hK (n := 4) (g' := (m, 4, [(2, 3), (2, 12), (0, 0), (0, 0)], [])) rfl).trans (rfl)
theorem ct_flo_4  (m : z_M) (x2 : Int) (x3 : Int) : z_R 92 (m, 4, [(2, 3), (2, 12), (0, x2), (0, x3)], []) = if 9 ≤ x3 then some (m, some (0, x2)) else if ¬ u_hs (m 3 8) (m 3 9) x3 = 0 then if m 13 (x3).toNat ≤ 0 then z_R 92 (m, 4, [(2, 3), (2, 12), (0, x2), (0, x3 + 1)], []) else z_R 92 (m, 4, [(2, 3), (2, 12), (0, z_or x2 (z_shl 1 x3)), (0, x3 + 1)], []) else z_R 92 (m, 4, [(2, 3), (2, 12), (0, x2), (0, z_add x3 1)], []) :=
  have hK : kt_at 92 = kt_92 := rfl
  (z_R_run hK (n := 2) (g' := (m, 7, [(2, 3), (2, 12), (0, x2), (0, x3)], [(0, 9), (0, x3)])) rfl).trans (z_R_ifd hK (c := 9 ≤ x3) (p1 := 39) (p2 := 10) rfl rfl rfl (fun h1 => (z_R_run hK (n := 1) (g' := (m, 40, [(2, 3), (2, 12), (0, x2), (0, x3)], [(0, x2)])) rfl).trans (z_R_ret hK rfl rfl rfl)) (fun h1 => (z_R_run hK (n := 2) (g' := (m, 12, [(2, 3), (2, 12), (0, x2), (0, x3)], [(0, x3), (2, 3)])) rfl).trans (z_R_cif hK rfl rfl rfl rfl rfl (c_ifhas _ _ rfl rfl) (fun h2 => have h4 := u_hs_rng h2; (z_R_run hK (n := 3) (g' := (m, 22, [(2, 3), (2, 12), (0, x2), (0, x3)], [(2, 13)])) rfl).trans ((z_R_run hK (n := 1) (g' := (m, 23, [(2, 3), (2, 12), (0, x2), (0, x3)], [(0, x3), (2, 13)])) rfl).trans (z_R_ixT hK (n := 9) (g' := (m, 24, [(2, 3), (2, 12), (0, x2), (0, x3)], [(0, m 13 (x3).toNat)])) rfl rfl rfl  (show 0 ≤ x3 ∧ x3 < 9 by omega) (z_R_ifd hK (c := m 13 (x3).toNat ≤ 0) (p1 := 33) (p2 := 27) rfl rfl rfl (fun h3 => (z_R_run hK (n := 1) (g' := (m, 36, [(2, 3), (2, 12), (0, x2), (0, z_add x3 1)], [])) rfl).trans ((congrArg (fun vv => z_R 92 (m, 36, [(2, 3), (2, 12), (0, x2), (0, vv)], [])) (z_add_eq (by omega) (by omega))).trans ((z_R_run hK (n := 1) (g' := (m, 4, [(2, 3), (2, 12), (0, x2), (0, x3 + 1)], [])) rfl).trans (rfl)))) (fun h3 => (z_R_run hK (n := 7) (g' := (m, 36, [(2, 3), (2, 12), (0, z_or x2 (z_shl 1 x3)), (0, z_add x3 1)], [])) rfl).trans ((congrArg (fun vv => z_R 92 (m, 36, [(2, 3), (2, 12), (0, z_or x2 (z_shl 1 x3)), (0, vv)], [])) (z_add_eq (by omega) (by omega))).trans ((z_R_run hK (n := 1) (g' := (m, 4, [(2, 3), (2, 12), (0, z_or x2 (z_shl 1 x3)), (0, x3 + 1)], [])) rfl).trans (rfl)))))))) (fun h2 => (z_R_run hK (n := 3) (g' := (m, 4, [(2, 3), (2, 12), (0, x2), (0, z_add x3 1)], [])) rfl).trans (rfl)))))
theorem ct_tha_0  (m : z_M) : z_R 223 (m, 0, [(2, 251), (2, 252), (9, 0), (9, 0)], []) = z_R 223 (m, 4, [(2, 251), (2, 252), (0, 0), (0, 0)], []) :=
  have hK : kt_at 223 = kt_223 := rfl
  (z_R_run hK (n := 4) (g' := (m, 4, [(2, 251), (2, 252), (0, 0), (0, 0)], [])) rfl).trans (rfl)
theorem ct_tha_4  (m : z_M) (x2 : Int) (x3 : Int) : z_R 223 (m, 4, [(2, 251), (2, 252), (0, x2), (0, x3)], []) = if 9 ≤ x3 then some (m, some (0, x2)) else if ¬ u_hs (m 251 1) (m 251 2) x3 = 0 then if m 252 (x3).toNat = 0 then z_R 223 (m, 4, [(2, 251), (2, 252), (0, z_or x2 (z_shl 1 x3)), (0, x3 + 1)], []) else z_R 223 (m, 4, [(2, 251), (2, 252), (0, z_or x2 0), (0, x3 + 1)], []) else z_R 223 (m, 4, [(2, 251), (2, 252), (0, z_or x2 0), (0, z_add x3 1)], []) :=
  have hK : kt_at 223 = kt_223 := rfl
  (z_R_run hK (n := 2) (g' := (m, 7, [(2, 251), (2, 252), (0, x2), (0, x3)], [(0, 9), (0, x3)])) rfl).trans (z_R_ifd hK (c := 9 ≤ x3) (p1 := 40) (p2 := 10) rfl rfl rfl (fun h1 => (z_R_run hK (n := 1) (g' := (m, 41, [(2, 251), (2, 252), (0, x2), (0, x3)], [(0, x2)])) rfl).trans (z_R_ret hK rfl rfl rfl)) (fun h1 => (z_R_run hK (n := 3) (g' := (m, 13, [(2, 251), (2, 252), (0, x2), (0, x3)], [(0, x3), (2, 251), (0, x2)])) rfl).trans (z_R_cif hK rfl rfl rfl rfl rfl (t_ifroom _ _ rfl rfl) (fun h2 => have h4 := u_hs_rng h2; (z_R_run hK (n := 3) (g' := (m, 21, [(2, 251), (2, 252), (0, x2), (0, x3)], [(0, x3), (2, 252), (0, x2)])) rfl).trans (z_R_ixT hK (n := 37) (g' := (m, 22, [(2, 251), (2, 252), (0, x2), (0, x3)], [(0, m 252 (x3).toNat), (0, x2)])) rfl rfl rfl  (show 0 ≤ x3 ∧ x3 < 37 by omega) (z_R_ifnd hK (c := m 252 (x3).toNat = 0) (p1 := 31) (p2 := 25) rfl rfl rfl (fun h3 => (z_R_run hK (n := 4) (g' := (m, 37, [(2, 251), (2, 252), (0, z_or x2 0), (0, z_add x3 1)], [])) rfl).trans ((congrArg (fun vv => z_R 223 (m, 37, [(2, 251), (2, 252), (0, z_or x2 0), (0, vv)], [])) (z_add_eq (by omega) (by omega))).trans ((z_R_run hK (n := 1) (g' := (m, 4, [(2, 251), (2, 252), (0, z_or x2 0), (0, x3 + 1)], [])) rfl).trans (rfl)))) (fun h3 => (z_R_run hK (n := 7) (g' := (m, 37, [(2, 251), (2, 252), (0, z_or x2 (z_shl 1 x3)), (0, z_add x3 1)], [])) rfl).trans ((congrArg (fun vv => z_R 223 (m, 37, [(2, 251), (2, 252), (0, z_or x2 (z_shl 1 x3)), (0, vv)], [])) (z_add_eq (by omega) (by omega))).trans ((z_R_run hK (n := 1) (g' := (m, 4, [(2, 251), (2, 252), (0, z_or x2 (z_shl 1 x3)), (0, x3 + 1)], [])) rfl).trans (rfl))))))) (fun h2 => (z_R_run hK (n := 6) (g' := (m, 4, [(2, 251), (2, 252), (0, z_or x2 0), (0, z_add x3 1)], [])) rfl).trans (rfl)))))
end
section
/-! COUNT, of what both are in -/
section
variable {w h n : Nat} {heat price : Int} {D A : Nat → Int} {c : Nat} {U : Nat → Nat → Int} {kn : Nat → Int} {KS : Nat → Nat → Int} {cs : List Int} {m : z_M}
theorem W_flo {B : Nat → Int} (h8 : m 3 8 = (w : Int)) (h9 : m 3 9 = (h : Int)) (hB : cS m 12 n = B) : ∀ (f x : Nat) (b : Int), x + f = 9 → z_R 92 (m, 4, [(2, 3), (2, 12), (0, b), (0, (x : Int))], []) = some (m, some (0, s_bt (fun k => decide (¬ u_hs (w : Int) (h : Int) (k : Int) = 0 ∧ 0 < B k)) f x b)) := by
  intro f
  induction f with
  | zero =>
    intro x b hx
    rw [ct_flo_4, if_pos (by omega)]
    rfl
  | succ f ih =>
    intro x b hx
    have eB : m 13 x = B x := by
      rw [← hB]
      exact (cS_at1 (s := 12) (by omega)).symm
    rw [ct_flo_4, if_neg (show ¬ (9 : Int) ≤ (x : Int) by omega), h8, h9, z_add_eq (x := (x : Int)) (y := 1) (by omega) (by omega), tc1, Int.toNat_natCast, eB]
    unfold s_bt
    by_cases c1 : u_hs (w : Int) (h : Int) (x : Int) = 0
    · rw [if_neg (not_not_intro c1), if_neg (fun z => (of_decide_eq_true z).1 c1)]
      exact ih (x + 1) b (by omega)
    · rw [if_pos c1]
      by_cases c2 : B x ≤ 0
      · rw [if_pos c2, if_neg (fun z => by have := (of_decide_eq_true z).2; omega)]
        exact ih (x + 1) b (by omega)
      · rw [if_neg c2, if_pos (decide_eq_true ⟨c1, by omega⟩)]
        exact ih (x + 1) _ (by omega)
theorem V_tha {B : Nat → Int} (h1 : m 251 1 = (w : Int)) (h2 : m 251 2 = (h : Int)) (hB : rS m 252 n = B) : ∀ (f x : Nat) (b : Int), x + f = 9 → z_w b = b → z_R 223 (m, 4, [(2, 251), (2, 252), (0, b), (0, (x : Int))], []) = some (m, some (0, s_bt (fun k => decide (¬ u_hs (w : Int) (h : Int) (k : Int) = 0 ∧ B k = 0)) f x b)) := by
  intro f
  induction f with
  | zero =>
    intro x b hx hb
    rw [ct_tha_4, if_pos (by omega)]
    rfl
  | succ f ih =>
    intro x b hx hb
    have eB : m 252 x = B x := by
      rw [← hB]
      exact (rS_at (by omega) (a_vis_lo (by omega))).symm
    rw [ct_tha_4, if_neg (show ¬ (9 : Int) ≤ (x : Int) by omega), h1, h2, z_add_eq (x := (x : Int)) (y := 1) (by omega) (by omega), tc1, Int.toNat_natCast, eB, z_or0 hb]
    unfold s_bt
    by_cases c1 : u_hs (w : Int) (h : Int) (x : Int) = 0
    · rw [if_neg (not_not_intro c1), if_neg (fun z => (of_decide_eq_true z).1 c1)]
      exact ih (x + 1) b (by omega) hb
    · rw [if_pos c1]
      by_cases c2 : B x = 0
      · rw [if_pos c2, if_pos (decide_eq_true ⟨c1, c2⟩)]
        exact ih (x + 1) _ (by omega) z_or_w
      · rw [if_neg c2, if_neg (fun z => c2 (of_decide_eq_true z).2)]
        exact ih (x + 1) b (by omega) hb
def n_ct (w h n : Nat) (heat price : Int) (A : Nat → Int) (c : Nat) (row txt k : Int) : Int := if k = 0 then (w : Int) else if k = 1 then (h : Int) else if k = 2 then (n : Int) else if k = 3 then hr_b (-1) n 0 A 0 else if k = 4 then A 34 else if k = 5 then heat else if k = 6 then A 36 else if k = 7 then price else if k = 8 then A 35 else if k = 9 then s_G w h A else if k = 10 then (c : Int) else if k = 11 then row else if k = 12 then txt else -100
theorem n_511 : ∀ M : Nat, M < 512 → z_and (M : Int) 511 = (M : Int) := by decide +kernel
theorem n_9 {M : Int} (hm : ∀ r : Nat, r < 9 → (z_and (z_shr M (r : Int)) 1 = 0 ↔ u_hs (w : Int) (h : Int) (r : Int) = 0)) (hM : 0 ≤ M ∧ M < 512) (hA : ∀ k, k < 9 → 0 ≤ A k) : z_and M (z_xor (s_F w h A) (-1)) = s_G w h A := by
  have bG : 0 ≤ s_G w h A ∧ s_G w h A < 512 := s_bt_b 9 0 0 (by decide) ⟨by decide, by decide⟩
  refine zb_ext z_and_w (z_w_of (by omega) (by omega)) (fun k hk => ?_)
  rw [zb_and, zb_xor, zb_m1 hk]
  unfold s_F s_G
  rw [zb_bt hk 9 0 0 (by decide), zb_bt hk 9 0 0 (by decide), zb_0]
  by_cases k9 : k < 9
  · have e := hm k k9
    rw [zb_test k9] at e
    rw [decide_eq_true (show 0 ≤ k ∧ k < 0 + 9 by omega)]
    have hk0 := hA k k9
    by_cases c1 : u_hs (w : Int) (h : Int) (k : Int) = 0
    · rw [e.mpr c1, decide_eq_false (show ¬ (¬ u_hs (w : Int) (h : Int) (k : Int) = 0 ∧ A k = 0) from fun z => z.1 c1)]
      rfl
    · cases y : zb M k with
      | false => exact absurd (e.mp y) c1
      | true =>
        by_cases c2 : A k = 0
        · rw [decide_eq_false (show ¬ (¬ u_hs (w : Int) (h : Int) (k : Int) = 0 ∧ 0 < A k) by omega), decide_eq_true (show ¬ u_hs (w : Int) (h : Int) (k : Int) = 0 ∧ A k = 0 from ⟨c1, c2⟩)]
          rfl
        · rw [decide_eq_true (show ¬ u_hs (w : Int) (h : Int) (k : Int) = 0 ∧ 0 < A k from ⟨c1, by omega⟩), decide_eq_false (show ¬ (¬ u_hs (w : Int) (h : Int) (k : Int) = 0 ∧ A k = 0) from fun z => c2 z.2)]
          rfl
  · rw [decide_eq_false (show ¬ (0 ≤ k ∧ k < 0 + 9) by omega)]
    have e5 : zb 511 k = false := by
      have : ∀ k, k < 32 → 9 ≤ k → zb 511 k = false := by decide +kernel
      exact this k hk (by omega)
    have eM : zb M k = false := by
      obtain ⟨q, rfl⟩ : ∃ q : Nat, M = (q : Int) := ⟨M.toNat, by omega⟩
      rw [← n_511 q (by omega), zb_and, e5, Bool.and_false]
    rw [eM]
    rfl
theorem C_count (hi : C_is w h n heat price D A c U kn KS cs m) (h5 : n ≤ 5) (hok : hr_ok n A) (hM : 0 ≤ m 3 10 ∧ m 3 10 < 512) (k : Int) : z_R 154 (m, 0, [(2, 0), (0, k)], []) = some (m, some (0, n_ct w h n heat price A c (m 0 13) (m 1 1) k)) := by
  have e6 : m 12 6 = A 34 := by
    rw [← hi.2.2.1]
    exact (cS_at0 (s := 12) (j := 6) (by decide)).symm
  have e7 : m 12 7 = A 35 := by
    rw [← hi.2.2.1]
    exact (cS_at0 (s := 12) (j := 7) (by decide)).symm
  have e8 : m 12 8 = A 36 := by
    rw [← hi.2.2.1]
    exact (cS_at0 (s := 12) (j := 8) (by decide)).symm
  have aB := C_bin hi h5 (r := -1) n 0 0 (by omega) (by decide)
  have aB : z_R 100 (m, 5, [(2, 3), (2, 12), (0, -1), (0, 0), (0, 0)], []) = some (m, some (0, hr_b (-1) n 0 A 0)) := aB
  have eF := W_flo (w := w) (h := h) (n := n) hi.1.1 hi.1.2.1 hi.2.2.1 9 0 0 (by decide)
  have eF : z_R 92 (m, 4, [(2, 3), (2, 12), (0, 0), (0, 0)], []) = some (m, some (0, s_F w h A)) := eF
  rw [ct_cou_0]
  unfold n_ct
  by_cases k0 : k = 0
  · rw [if_pos k0, if_pos k0, hi.1.1]
  rw [if_neg k0, if_neg k0]
  by_cases k1 : k = 1
  · rw [if_pos k1, if_pos k1, hi.1.2.1]
  rw [if_neg k1, if_neg k1]
  by_cases k2 : k = 2
  · rw [if_pos k2, if_pos k2, hi.1.2.2.1]
  rw [if_neg k2, if_neg k2]
  by_cases k3 : k = 3
  · rw [if_pos k3, if_pos k3, z_bin_0, aB, zb_v, ct_cou_104]
  rw [if_neg k3, if_neg k3]
  by_cases k4 : k = 4
  · rw [if_pos k4, if_pos k4, e6]
  rw [if_neg k4, if_neg k4]
  by_cases k5 : k = 5
  · rw [if_pos k5, if_pos k5, hi.1.2.2.2.1]
  rw [if_neg k5, if_neg k5]
  by_cases k6 : k = 6
  · rw [if_pos k6, if_pos k6, e8]
  rw [if_neg k6, if_neg k6]
  by_cases k7 : k = 7
  · rw [if_pos k7, if_pos k7, hi.1.2.2.2.2.1]
  rw [if_neg k7, if_neg k7]
  by_cases k8 : k = 8
  · rw [if_pos k8, if_pos k8, e7]
  rw [if_neg k8, if_neg k8]
  by_cases k9 : k = 9
  · rw [if_pos k9, if_pos k9, ct_flo_0, eF, zb_v, ct_cou_163, n_9 hi.1.2.2.2.2.2.1 hM (fun j hj => (hok.1 j hj).1)]
  rw [if_neg k9, if_neg k9]
  by_cases k10 : k = 10
  · rw [if_pos k10, if_pos k10, hi.2.2.2.1.2.1]
  rw [if_neg k10, if_neg k10]
  by_cases k11 : k = 11
  · rw [if_pos k11, if_pos k11]
  rw [if_neg k11, if_neg k11]
  by_cases k12 : k = 12
  · rw [if_pos k12, if_pos k12]
  rw [if_neg k12, if_neg k12]
theorem R_count (hi : R_is w h n heat price D A c U kn KS cs m) (h5 : n ≤ 5) (k : Int) : z_R 260 (m, 0, [(2, 251), (0, k)], []) = some (z_up m 251 11 0, some (0, n_ct w h n heat price A c (m 251 10) (m 251 8) k)) := by
  have e34 : m 252 34 = A 34 := R_A hi (by decide) (a_vis_hi (by decide))
  have e35 : m 252 35 = A 35 := R_A hi (by decide) (a_vis_hi (by decide))
  have e36 : m 252 36 = A 36 := R_A hi (by decide) (a_vis_hi (by decide))
  have hu := R_upn (p0 := 251) (k0 := 11) (v := 0) hi (by decide)
  have pin := r_pin z_A_252 (Or.inl rfl) h5 (k := -1) (z_up m 251 11 0) hu.1.2.2.1
  rw [hu.2.2.1] at pin
  have pin : z_R 183 (z_up m 251 11 0, 0, [(2, 251), (2, 252), (0, -1), (9, 0), (9, 0)], []) = some (z_up m 251 11 0, some (0, hr_b (-1) n 0 A 0)) := pin
  have eF := V_tha (w := w) (h := h) (n := n) hu.1.1 hu.1.2.1 hu.2.2.1 9 0 0 (by decide) (by decide +kernel)
  have eF : z_R 223 (z_up m 251 11 0, 4, [(2, 251), (2, 252), (0, 0), (0, 0)], []) = some (z_up m 251 11 0, some (0, s_G w h A)) := eF
  rw [ct_tco_0]
  unfold n_ct
  by_cases k0 : k = 0
  · rw [if_pos k0, if_pos k0, hi.1.1]
  rw [if_neg k0, if_neg k0]
  by_cases k1 : k = 1
  · rw [if_pos k1, if_pos k1, hi.1.2.1]
  rw [if_neg k1, if_neg k1]
  by_cases k2 : k = 2
  · rw [if_pos k2, if_pos k2, hi.1.2.2.1]
  rw [if_neg k2, if_neg k2]
  by_cases k3 : k = 3
  · rw [if_pos k3, if_pos k3, pin, zb_v, ct_tco_96]
  rw [if_neg k3, if_neg k3]
  by_cases k4 : k = 4
  · rw [if_pos k4, if_pos k4, e34]
  rw [if_neg k4, if_neg k4]
  by_cases k5 : k = 5
  · rw [if_pos k5, if_pos k5, hi.1.2.2.2.1]
  rw [if_neg k5, if_neg k5]
  by_cases k6 : k = 6
  · rw [if_pos k6, if_pos k6, e36]
  rw [if_neg k6, if_neg k6]
  by_cases k7 : k = 7
  · rw [if_pos k7, if_pos k7, hi.1.2.2.2.2.1]
  rw [if_neg k7, if_neg k7]
  by_cases k8 : k = 8
  · rw [if_pos k8, if_pos k8, e35]
  rw [if_neg k8, if_neg k8]
  by_cases k9 : k = 9
  · rw [if_pos k9, if_pos k9, ct_tha_0, eF, zb_v, ct_tco_139]
  rw [if_neg k9, if_neg k9]
  by_cases k10 : k = 10
  · rw [if_pos k10, if_pos k10, hi.2.2.2.1.1]
  rw [if_neg k10, if_neg k10]
  by_cases k11 : k = 11
  · rw [if_pos k11, if_pos k11]
  rw [if_neg k11, if_neg k11]
  by_cases k12 : k = 12
  · rw [if_pos k12, if_pos k12]
  rw [if_neg k12, if_neg k12]
theorem u_mk_b : ∀ w : Nat, w < 4 → ∀ h : Nat, h < 4 → 0 ≤ u_mk (w : Int) (h : Int) 9 0 0 ∧ u_mk (w : Int) (h : Int) 9 0 0 < 512 := by decide +kernel
theorem W_house (hi : C_is w h n heat price D A c U kn KS cs m) (h0 : 0 ≤ m 1 1) (h1 : m 1 1 ≤ 80) {S : u_H} (hS : u_hou (u_nx (m 2) (m 1 1) 80) (m 1 1) 3 0 3 0 (m 9) = S) : ∃ m', z_R 18 (m, 0, [(2, 0), (9, 0), (9, 0)], []) = some (m', some (0, u_ans S)) ∧ (0 ≤ m 3 10 ∧ m 3 10 < 512 → 0 ≤ m' 3 10 ∧ m' 3 10 < 512) := by
  have b := u_hou_b (u_nx_b h1) (n := m 1 1) 3 0 3 0 (m 9) (g := u_nx (m 2) (m 1 1) 80) (by decide) (by decide) (by decide) (by decide) (by decide) (by decide)
  obtain ⟨m1, a1, a2⟩ := c_readHouse m h1
  rw [hS] at a1 a2 b
  obtain ⟨ok, w', h', i, a⟩ := S
  obtain ⟨p1, p2, p3, p4, p5⟩ := a2
  try simp only at a1 p1 p2 p3 p4 b
  unfold u_ans
  try simp only
  rw [s_house_0, a1]
  show ∃ m', z_R 18 (m1, 11, [(2, 0), (9, 0), (9, 0)], [(0, if ok = true then 1 else 0)]) = _ ∧ _
  rw [s_house_11, s_empty_0]
  show ∃ m', z_R 18 (z_up m1 1 1 0, 19, [(2, 0), (0, if ok = true then 1 else 0), (9, 0)], []) = _ ∧ _
  rw [s_house_19]
  have hf1 : ∀ p k, ¬ (p = 1 ∧ 1 ≤ k ∧ k ≤ 3) → ¬ (p = 3 ∧ 5 ≤ k ∧ k ≤ 6) → ¬ p = 9 → (z_up m1 1 1 0) p k = m p k := fun p k n1 n2 n3 => by
    rw [X_up (by omega)]
    exact p5.of (by
      unfold u_L2
      (repeat' (first | exact trivial | refine z_of_c ?_ ?_)) <;> omega)
  by_cases c : ok = true
  · rw [if_pos c, if_neg (by decide), if_pos c]
    obtain ⟨w2, rfl⟩ : ∃ w2 : Nat, w' = (w2 : Int) := ⟨w'.toNat, by omega⟩
    obtain ⟨h2, rfl⟩ : ∃ h2 : Nat, h' = (h2 : Int) := ⟨h'.toNat, by omega⟩
    obtain ⟨m2, d1, ⟨d2, d3, d4, d5⟩, d6, d7, d8, d9⟩ := C_build (z_up m1 1 1 0) ((zu_p (by decide)).trans p1) ((zu_p (by decide)).trans (p2 c))
    rw [d1]
    show ∃ m', z_R 18 (m2, 44, [(2, 0), (0, 1), (9, 0)], [(0, z_mul (w2 : Int) (h2 : Int))]) = _ ∧ _
    rw [s_house_44, s_fd_0]
    show ∃ m', z_R 18 (z_up m2 28 4 0, 52, [(2, 0), (0, 1), (0, z_mul (w2 : Int) (h2 : Int))], []) = _ ∧ _
    rw [s_house_52, s_fk_0]
    obtain ⟨m3, f1, f2, f3⟩ := c_fk 2 0 (z_up m2 28 4 0) (by decide) (by decide)
    rw [f1]
    have hf3 : ∀ p k, ¬ (p = 31 ∧ k ≤ 1) → ¬ (p = 28 ∧ k = 4) → m3 p k = m2 p k := fun p k n1 n2 => by
      rw [f2.of (by
        refine z_of_c ?_ trivial
        omega), X_up n2]
    refine ⟨m3, (s_house_59 _ _ _).trans (by rw [u_mul3 b.1 b.2.1 b.2.2.1 b.2.2.2.1]), fun _ => ?_⟩
    rw [hf3 3 10 (by decide) (by decide), d5]
    exact u_mk_b w2 (by omega) h2 (by omega)
  · rw [if_neg c, if_pos rfl, if_neg c]
    have e1 : (z_up m1 1 1 0) 1 2 = i := (zu_k (by decide)).trans p3
    rw [e1, z_sub_eq (by omega) (by omega)]
    refine ⟨_, rfl, fun z => ?_⟩
    rw [hf1 3 10 (by decide) (by decide) (by decide)]
    exact z
end
/-! the relation, with how many numbers were told, and the mask of the rooms -/
def ln_E (m : z_M) : Prop := m 251 10 = m 0 13 ∧ (0 ≤ m 3 10 ∧ m 3 10 < 512)
def Rel_N (σ : m_H) : Prop := Rel_L σ ∧ ln_E (z_m σ)
theorem ln_start : ∀ σ, xs_is σ → Rel_N σ := fun σ hx => ⟨lo_start σ hx, by
  have V := V_ck_ok (xs_ck_ok (f := fun σ => V_ck [(0, 13, 1, 0), (251, 10, 1, 0), (3, 10, 1, 0)] σ) (by decide +kernel) hx)
  have z0 : z_m σ 0 13 = 0 := V (0, 13, 1, 0) List.mem_cons_self 0 (by decide)
  have z1 : z_m σ 251 10 = 0 := V (251, 10, 1, 0) (List.mem_cons_of_mem _ List.mem_cons_self) 0 (by decide)
  have z2 : z_m σ 3 10 = 0 := V (3, 10, 1, 0) (List.mem_cons_of_mem _ (List.mem_cons_of_mem _ List.mem_cons_self)) 0 (by decide)
  exact ⟨z1.trans z0.symm, by rw [z2]; decide⟩⟩
noncomputable def ln_offb (y1 y2 : Nat) : Bool := (md_off y1 251 10 && md_off y2 0 13) && (md_off y1 3 10 && md_off y2 3 10)
theorem ln_case {c : l_C} (h1 : l_rel2 Rel_L c) (h2 : l_twR Rel_L ln_Q c) (h : ln_offb c.2.2.1 c.2.2.2.2.2.2.2 = true) : l_rel2 Rel_N c := by
  obtain ⟨g, g'⟩ := Bool.and_eq_true _ _ |>.mp h
  obtain ⟨g1, g2⟩ := Bool.and_eq_true _ _ |>.mp g
  obtain ⟨g3, g4⟩ := Bool.and_eq_true _ _ |>.mp g'
  intro M1 M2 M3 σ σ1 σ2 as v1 v2 C1 C2 ρ1 ρ2 ha hR hh hM1 hC1 hp1 hE1 hC2 hp2 hE2
  have z := h1 M1 M2 M3 σ σ1 σ2 as v1 v2 C1 C2 ρ1 ρ2 ha hR.1 hh hM1 hC1 hp1 hE1 hC2 hp2 hE2
  refine ⟨⟨z.1, ?_, ?_⟩, z.2⟩
  · obtain ⟨o, a, b⟩ := h2 M1 M2 M3 σ σ1 σ2 as v1 v2 C1 C2 ρ1 ρ2 ha hR.1 hh hM1 hC1 hp1 hE1 hC2 hp2 hE2
    have f1 : z_m σ1 251 10 = z_m σ 251 10 := md_off_ok g1 hC1 hp1
    have f2 : z_m σ2 0 13 = z_m σ1 0 13 := md_off_ok g2 hC2 hp2
    cases o with
    | none =>
      have a : z_m σ1 0 13 = z_m σ 0 13 := a
      have b : z_m σ2 251 10 = z_m σ1 251 10 := b
      rw [b, f1, f2, a]
      exact hR.2.1
    | some k =>
      have a : z_m σ1 0 13 = (k : Int) := a
      have b : z_m σ2 251 10 = (k : Int) := b
      rw [b, f2, a]
  · have f3 : z_m σ1 3 10 = z_m σ 3 10 := md_off_ok g3 hC1 hp1
    have f4 : z_m σ2 3 10 = z_m σ1 3 10 := md_off_ok g4 hC2 hp2
    rw [f4, f3]
    exact hR.2.2
theorem two_L {Q : z_M → z_M → z_M → Prop} {c : l_C} (h : l_two Q c) : l_twR Rel_L Q c := by
  intro M1 M2 M3 σ σ1 σ2 as v1 v2 C1 C2 ρ1 ρ2 ha hR hh hM1 hC1 hp1 hE1 hC2 hp2 hE2
  exact h M1 M2 M3 σ σ1 σ2 as v1 v2 C1 C2 ρ1 ρ2 ha hR.1 hh hM1 hC1 hp1 hE1 hC2 hp2 hE2
theorem ln_none {c : l_C} (h : (md_off c.2.2.1 0 13 && md_off c.2.2.2.2.2.2.2 251 10) = true) : l_twR Rel_L ln_Q c := by
  obtain ⟨g1, g2⟩ := Bool.and_eq_true _ _ |>.mp h
  intro M1 M2 M3 σ σ1 σ2 as v1 v2 C1 C2 ρ1 ρ2 ha hR hh hM1 hC1 hp1 hE1 hC2 hp2 hE2
  exact ⟨none, md_off_ok g1 hC1 hp1, md_off_ok g2 hC2 hp2⟩
theorem ln_q {c : l_C} (h1 : l_rel2 Rel_L c) (h : ((md_off c.2.2.1 0 13 && md_off c.2.2.2.2.2.2.2 251 10) && ln_offb c.2.2.1 c.2.2.2.2.2.2.2) = true) : l_rel2 Rel_N c := by
  obtain ⟨g1, g2⟩ := Bool.and_eq_true _ _ |>.mp h
  exact ln_case h1 (ln_none g1) g2
theorem ln_q3 {y n : Nat} (h1 : l_rel3 Rel_L y n) (h : (md_off y 0 13 && (md_off y 251 10 && md_off y 3 10)) = true) : l_rel3 Rel_N y n := by
  obtain ⟨g1, g⟩ := Bool.and_eq_true _ _ |>.mp h
  obtain ⟨g2, g3⟩ := Bool.and_eq_true _ _ |>.mp g
  intro M1 M2 M3 σ σ1 σ2 as v C2 ρ2 ha hR hh hM1 hf hh1 hC2 hp2 hE2
  have hz : ∀ p k, (¬ p = 6 ∧ ¬ p = 7 ∧ ¬ p = 278) → z_m σ1 p k = z_m σ p k := fun p k hp => by
    have e := hf p k (fun ⟨q, q1, q2, _⟩ => by
      simp only [List.mem_cons, List.not_mem_nil, or_false] at q1
      rcases q1 with rfl | rfl | rfl <;> simp only at q2 <;> omega)
    unfold z_m
    rw [e]
  refine ⟨h1 M1 M2 M3 σ σ1 σ2 as v C2 ρ2 ha hR.1 hh hM1 hf hh1 hC2 hp2 hE2, ?_, ?_⟩
  · have f1 : z_m σ2 251 10 = z_m σ1 251 10 := md_off_ok g2 hC2 hp2
    have f2 : z_m σ2 0 13 = z_m σ1 0 13 := md_off_ok g1 hC2 hp2
    rw [f1, f2, hz 251 10 (by decide), hz 0 13 (by decide)]
    exact hR.2.1
  · have f3 : z_m σ2 3 10 = z_m σ1 3 10 := md_off_ok g3 hC2 hp2
    rw [f3, hz 3 10 (by decide)]
    exact hR.2.2
theorem ln_house (h1 : l_rel2 Rel_L (263, 36, 18, 0, false, 268, 40, 163)) : l_rel2 Rel_N (263, 36, 18, 0, false, 268, 40, 163) := by
  intro M1 M2 M3 σ σ1 σ2 as v1 v2 C1 C2 ρ1 ρ2 ha hR hh hM1 hC1 hp1 hE1 hC2 hp2 hE2
  have z := h1 M1 M2 M3 σ σ1 σ2 as v1 v2 C1 C2 ρ1 ρ2 ha hR.1 hh hM1 hC1 hp1 hE1 hC2 hp2 hE2
  obtain rfl := as_nil ha
  have hE1 : z_R 18 (z_m σ, 0, [(2, 0), (9, 0), (9, 0)], []) = some (z_m σ1, some (0, v1.toInt)) := z_R_iff.mpr hE1
  obtain ⟨r1, r2⟩ := z_rng hh (p := 1) (k := 1) (lo := 0) (hi := 80) (by decide) (by decide +kernel) (by decide +kernel)
  obtain ⟨w, h, n, heat, price, D, A, c, U, kn, KS, cs, cC, cR, cW⟩ := hR.1.1.2
  obtain ⟨m1, d1, d2⟩ := W_house cC r1 r2 rfl
  rw [← s_mem (d1.symm.trans hE1)] at d2
  have f1 : z_m σ1 251 10 = z_m σ 251 10 := md_off_ok (y := 18) (by decide +kernel) hC1 hp1
  have f2 : z_m σ1 0 13 = z_m σ 0 13 := md_off_ok (y := 18) (by decide +kernel) hC1 hp1
  have f3 : z_m σ2 251 10 = z_m σ1 251 10 := md_off_ok (y := 163) (by decide +kernel) hC2 hp2
  have f4 : z_m σ2 0 13 = z_m σ1 0 13 := md_off_ok (y := 163) (by decide +kernel) hC2 hp2
  have f5 : z_m σ2 3 10 = z_m σ1 3 10 := md_off_ok (y := 163) (by decide +kernel) hC2 hp2
  refine ⟨⟨z.1, ?_, ?_⟩, z.2⟩
  · rw [f3, f4, f1, f2]
    exact hR.2.1
  · rw [f5]
    exact d2 hR.2.2
theorem core_count : l_rel2 Rel_N (1247, 184, 154, 1, true, 1257, 187, 260) := by
  intro M1 M2 M3 σ σ1 σ2 as v1 v2 C1 C2 ρ1 ρ2 ha hR hh hM1 hC1 hp1 hE1 hC2 hp2 hE2
  obtain ⟨k, rfl⟩ := as_one ha
  have hE1 : z_R 154 (z_m σ, 0, [(2, 0), (0, k.toInt)], []) = some (z_m σ1, some (0, v1.toInt)) := z_R_iff.mpr hE1
  have hE2 : z_R 260 (z_m σ1, 0, [(2, 251), (0, k.toInt)], []) = some (z_m σ2, some (0, v2.toInt)) := z_R_iff.mpr hE2
  have hT := T_two (y1 := 154) (y2 := 260) (by decide +kernel) (by decide +kernel) hC1 hC2 hp1 hp2 hR.1.1.1
  have hL := lo_off_ok (y := 260) (by decide +kernel) hC2 hp2 (lo_off_ok (y := 154) (by decide +kernel) hC1 hp1 hR.1.2)
  have hK := core_off_ok (y := 260) (by decide +kernel) hC2 hp2 (core_off_ok (y := 154) (by decide +kernel) hC1 hp1 hR.1.1.2)
  have hT0 : u_R (z_m σ) := hR.1.1.1
  obtain ⟨w, h, n, heat, price, D, A, c, U, kn, KS, cs, cC, cR, cW⟩ := hR.1.1.2
  obtain ⟨⟨-, -, n5⟩, -, -, -, hok, -⟩ := core_b hh hM1 cR
  have e1 := C_count cC n5 hok hR.2.2 k.toInt
  have m1 := s_mem (e1.symm.trans hE1)
  have x1 := (R_inj e1 hE1).2
  rw [m1] at hE2
  have e2 := R_count cR n5 k.toInt
  have m2 := s_mem (e2.symm.trans hE2)
  have x2 := (R_inj e2 hE2).2
  rw [hR.2.1, ← hT0.1] at x2
  refine ⟨⟨⟨⟨hT, hK⟩, hL⟩, ?_, ?_⟩, fun _ => Int32.toInt_inj.mp (x1.symm.trans x2)⟩
  · rw [m2, zu_k (by decide), zu_p (by decide)]
    exact hR.2.1
  · rw [m2, zu_p (by decide)]
    exact hR.2.2
end
section
/-! STRETCHES of longest, of the reference -/
theorem ll_tlo_0  (m : z_M) : z_R 232 (m, 0, [(2, 251)], []) = (z_R 228 (z_up m 251 11 0, 0, [(2, 251), (9, 0)], [])).bind fun qq => z_R 232 (qq.1, 9, [(2, 251)], qq.2.toList ++ []) :=
  have hK : kt_at 232 = kt_232 := rfl
  (z_R_run hK (n := 4) (g' := (z_up m 251 11 0, 6, [(2, 251)], [(2, 251)])) rfl).trans (z_R_call hK rfl rfl rfl rfl rfl)
theorem ll_tlo_9  (m : z_M) : z_R 232 (m, 9, [(2, 251)], []) = if m 251 39 ≤ 4 then if m 251 39 ≤ z_mul (m 251 1) (m 251 2) then (z_R 229 (m, 0, [(2, 251), (0, 100)], [])).bind fun qq => z_R 232 (qq.1, 45, [(2, 251)], qq.2.toList ++ []) else some (m, some (0, (-2))) else some (m, some (0, (-3))) :=
  have hK : kt_at 232 = kt_232 := rfl
  (z_R_run hK (n := 3) (g' := (m, 14, [(2, 251)], [(0, 4), (0, m 251 39)])) rfl).trans (z_R_ifd hK (c := m 251 39 ≤ 4) (p1 := 20) (p2 := 17) rfl rfl rfl (fun h1 => (z_R_run hK (n := 7) (g' := (m, 33, [(2, 251)], [(0, z_mul (m 251 1) (m 251 2)), (0, m 251 39)])) rfl).trans (z_R_ifd hK (c := m 251 39 ≤ z_mul (m 251 1) (m 251 2)) (p1 := 39) (p2 := 36) rfl rfl rfl (fun h2 => (z_R_run hK (n := 2) (g' := (m, 42, [(2, 251)], [(0, 100), (2, 251)])) rfl).trans (z_R_call hK rfl rfl rfl rfl rfl)) (fun h2 => (z_R_run hK (n := 1) (g' := (m, 38, [(2, 251)], [(0, (-2))])) rfl).trans (z_R_ret hK rfl rfl rfl)))) (fun h1 => (z_R_run hK (n := 1) (g' := (m, 19, [(2, 251)], [(0, (-3))])) rfl).trans (z_R_ret hK rfl rfl rfl)))
theorem ll_tlo_45  (m : z_M) : z_R 232 (m, 45, [(2, 251)], []) = (z_R 231 (z_up m 251 10 0, 0, [(2, 251), (9, 0)], [])).bind fun qq => z_R 232 (qq.1, 54, [(2, 251)], qq.2.toList ++ []) :=
  have hK : kt_at 232 = kt_232 := rfl
  (z_R_run hK (n := 4) (g' := (z_up m 251 10 0, 51, [(2, 251)], [(2, 251)])) rfl).trans (z_R_call hK rfl rfl rfl rfl rfl)
theorem ll_tlo_54  (m : z_M) : z_R 232 (m, 54, [(2, 251)], []) = some (m, some (0, m 251 43)) :=
  have hK : kt_at 232 = kt_232 := rfl
  (z_R_run hK (n := 2) (g' := (m, 58, [(2, 251)], [(0, m 251 43)])) rfl).trans (z_R_ret hK rfl rfl rfl)
end
