/-! WHAT IS TOLD: the numbers, in both -/
def c_rw (m m1 : z_M) : Option (List Int) → Prop
  | none => m1 0 13 = m 0 13 ∧ ∀ i, i < 9 → m1 250 i = m 250 i
  | some l => m1 0 13 = (l.length : Int) ∧ ∀ i, i < l.length → m1 250 i = l.getD i 0
def r_rw (m m1 : z_M) : Option (List Int) → Prop
  | none => m1 251 10 = m 251 10 ∧ ∀ i, i < 9 → m1 255 i = m 255 i
  | some l => m1 251 10 = (l.length : Int) ∧ ∀ i, i < l.length → m1 255 i = l.getD i 0
theorem c_rw_id {m : z_M} : c_rw m m none := ⟨rfl, fun _ _ => rfl⟩
theorem c_rw_n {m : z_M} {o : Option (List Int)} (h : o = none) : c_rw m m o := by
  subst h
  exact c_rw_id
theorem c_rw_s {m m1 : z_M} {o : Option (List Int)} {l : List Int} (h : o = some l) (hc : c_rw m m1 (some l)) : c_rw m m1 o := by
  subst h
  exact hc
theorem c_rw_fr {m m1 m2 : z_M} (h : c_rw m m1 none) (h1 : m2 0 13 = m1 0 13) (h2 : ∀ i, i < 9 → m2 250 i = m1 250 i) : c_rw m m2 none := ⟨h1.trans h.1, fun i hi => (h2 i hi).trans (h.2 i hi)⟩
theorem r_rw_11 {m : z_M} {v : Int} : r_rw m (z_up m 251 11 v) none := ⟨zu_k (by decide), fun _ _ => zu_p (by decide)⟩
theorem r_rw_n {m : z_M} {v : Int} {o : Option (List Int)} (h : o = none) : r_rw m (z_up m 251 11 v) o := by
  subst h
  exact r_rw_11
theorem r_rw_m {m m1 : z_M} {o : Option (List Int)} (hm : r_rw m m1 none) (h : o = none) : r_rw m m1 o := by
  subst h
  exact hm
theorem r_rw_s {m m1 : z_M} {o : Option (List Int)} {l : List Int} (h : o = some l) (hc : r_rw m m1 (some l)) : r_rw m m1 o := by
  subst h
  exact hc
theorem r_rw_fr {m m1 m2 : z_M} (h : r_rw m m1 none) (h1 : m2 251 10 = m1 251 10) (h2 : ∀ i, i < 9 → m2 255 i = m1 255 i) : r_rw m m2 none := ⟨h1.trans h.1, fun i hi => (h2 i hi).trans (h.2 i hi)⟩
theorem c_rw_0 {mz m : z_M} : c_rw mz (z_up m 0 13 0) (some []) := ⟨zu_self, fun i hi => absurd hi (Nat.not_lt_zero i)⟩
theorem c_rw_2 {mz m : z_M} {u1 u2 : Int} : c_rw mz (z_up (z_up (z_up (z_up m 250 0 u1) 0 13 1) 250 1 u2) 0 13 2) (some [u1, u2]) := by
  refine ⟨zu_self, fun i hi => ?_⟩
  have hi : i < 2 := hi
  rcases (show i = 0 ∨ i = 1 by omega) with rfl | rfl
  · show _ = u1
    rw [zu_p (by decide), zu_k (by decide), zu_p (by decide), zu_self]
  · show _ = u2
    rw [zu_p (by decide), zu_self]
theorem c_rw_3 {mz m : z_M} {u1 u2 u3 : Int} : c_rw mz (z_up (z_up (z_up (z_up (z_up (z_up m 250 0 u1) 0 13 1) 250 1 u2) 0 13 2) 250 2 u3) 0 13 3) (some [u1, u2, u3]) := by
  refine ⟨zu_self, fun i hi => ?_⟩
  have hi : i < 3 := hi
  rcases (show i = 0 ∨ i = 1 ∨ i = 2 by omega) with rfl | rfl | rfl
  · show _ = u1
    rw [zu_p (by decide), zu_k (by decide), zu_p (by decide), zu_k (by decide), zu_p (by decide), zu_self]
  · show _ = u2
    rw [zu_p (by decide), zu_k (by decide), zu_p (by decide), zu_self]
  · show _ = u3
    rw [zu_p (by decide), zu_self]
theorem t_told1 {m : z_M} {u1 a0 a1 : Int} {p k : Nat} (h0 : ¬ (p = 251 ∧ k = 10)) (h1 : ¬ p = 255) : (z_up (z_up (z_up m 251 10 a0) 255 0 u1) 251 10 a1) p k = m p k := by rw [X_up h0, zu_p h1, X_up h0]
theorem r_rw_2 {mz m : z_M} {u1 u2 w1 w2 a1 a2 : Int} (h : a2 = 2) (e1 : u1 = w1) (e2 : u2 = w2) : r_rw mz (z_up (z_up (z_up (z_up m 255 0 u1) 251 10 a1) 255 1 u2) 251 10 a2) (some [w1, w2]) := by
  refine ⟨zu_self.trans h, fun i hi => ?_⟩
  have hi : i < 2 := hi
  rcases (show i = 0 ∨ i = 1 by omega) with rfl | rfl
  · show _ = w1
    rw [zu_p (by decide), zu_k (by decide), zu_p (by decide), zu_self, e1]
  · show _ = w2
    rw [zu_p (by decide), zu_self, e2]
theorem r_rw_3 {mz m : z_M} {u1 u2 u3 w1 w2 w3 a1 a2 a3 : Int} (h : a3 = 3) (e1 : u1 = w1) (e2 : u2 = w2) (e3 : u3 = w3) : r_rw mz (z_up (z_up (z_up (z_up (z_up (z_up m 255 0 u1) 251 10 a1) 255 1 u2) 251 10 a2) 255 2 u3) 251 10 a3) (some [w1, w2, w3]) := by
  refine ⟨zu_self.trans h, fun i hi => ?_⟩
  have hi : i < 3 := hi
  rcases (show i = 0 ∨ i = 1 ∨ i = 2 by omega) with rfl | rfl | rfl
  · show _ = w1
    rw [zu_p (by decide), zu_k (by decide), zu_p (by decide), zu_k (by decide), zu_p (by decide), zu_self, e1]
  · show _ = w2
    rw [zu_p (by decide), zu_k (by decide), zu_p (by decide), zu_self, e2]
  · show _ = w3
    rw [zu_p (by decide), zu_self, e3]
/-! rows that both keep alike -/
def rw_eq (m : z_M) : Prop := m 251 10 = m 0 13 ∧ ∀ i : Nat, i < 9 → (i : Int) < m 0 13 → m 255 i = m 250 i
theorem rw_eq_do {m m1 m2 : z_M} {o : Option (List Int)} (h : rw_eq m) (h1 : c_rw m m1 o) (h2 : r_rw m1 m2 o) (f1 : m1 251 10 = m 251 10 ∧ m1 255 = m 255) (f2 : m2 0 13 = m1 0 13 ∧ m2 250 = m1 250) : rw_eq m2 := by
  obtain ⟨g1, g2⟩ := f2
  cases o with
  | none =>
    obtain ⟨a1, a2⟩ := h1
    obtain ⟨b1, b2⟩ := h2
    refine ⟨by rw [b1, f1.1, g1, a1]; exact h.1, fun i h9 hi => ?_⟩
    rw [g1, a1] at hi
    rw [b2 i h9, f1.2, g2, a2 i h9]
    exact h.2 i h9 hi
  | some l =>
    obtain ⟨a1, a2⟩ := h1
    obtain ⟨b1, b2⟩ := h2
    refine ⟨by rw [b1, g1, a1], fun i h9 hi => ?_⟩
    rw [g1, a1] at hi
    rw [b2 i (by omega), g2, a2 i (by omega)]
section
variable {w h n : Nat} {heat price : Int} {D A : Nat → Int} {c : Nat} {U : Nat → Nat → Int} {kn : Nat → Int} {KS : Nat → Nat → Int} {cs : List Int} {m : z_M}
/-! hour, hours -/
def ro_h (R : (Nat → Int) × Int × Int × Int × Int) : List Int := [z_i2l R.2.2.1, z_i2l R.2.2.2.1, z_i2l (R.1 33)]
theorem ro_hC {s : Nat} {N a b d e : Int} : ro_h (cS m s N, a, b, d, e) = [z_i2l b, z_i2l d, z_i2l (m s 5)] := by
  unfold ro_h
  show [_, _, z_i2l (cS m s N 33)] = _
  rw [cS_pondv]
theorem ro_hR {s : Nat} {N a b d e : Int} : ro_h (rS m s N, a, b, d, e) = [z_i2l b, z_i2l d, z_i2l (m s 33)] := by
  unfold ro_h
  show [_, _, z_i2l (rS m s N 33)] = _
  rw [rS_at (by decide) (a_vis_hi (by decide))]
theorem W_lpt {mz : z_M} (hi : C_is w h n heat price D A c U kn KS cs m) (hN : (w ≤ 3 ∧ h ≤ 3 ∧ n ≤ 5) ∧ (0 ≤ heat ∧ heat ≤ 9) ∧ ∀ t : Int, 0 ≤ t → ∀ p, p < 5 → 0 ≤ wmD D t p ∧ wmD D t p ≤ 9) (hok : hr_ok n A) (ht : 0 ≤ A 35 ∧ A 35 ≤ 1073741824) {N : Nat} (hN6 : N ≤ 60) : ∃ m1, ((z_R 67 (z_up (z_up (z_up (z_up m 24 6 0) 24 7 0) 24 8 0) 24 9 0, 0, [(2, 24), (2, 12), (0, (N : Int)), (9, 0)], [])).bind fun qq => z_R 65 (qq.1, 34, [(2, 0), (0, (N : Int))], qq.2.toList ++ [])) = some (m1, some (0, (hr_R w h heat price cs D n N A).2.1)) ∧ c_rw mz m1 (some (ro_h (hr_R w h heat price cs D n N A))) := by
  have h0 : C_is w h n heat price D A c U kn KS cs (z_up (z_up (z_up (z_up m 24 6 0) 24 7 0) 24 8 0) 24 9 0) := C_upn (C_upn (C_upn (C_upn hi (by decide)) (by decide)) (by decide)) (by decide)
  have k6 : (z_up (z_up (z_up (z_up m 24 6 0) 24 7 0) 24 8 0) 24 9 0) 24 6 = 0 := by rw [zu_k (by decide), zu_k (by decide), zu_k (by decide), zu_self]
  have k7 : (z_up (z_up (z_up (z_up m 24 6 0) 24 7 0) 24 8 0) 24 9 0) 24 7 = 0 := by rw [zu_k (by decide), zu_k (by decide), zu_self]
  have k8 : (z_up (z_up (z_up (z_up m 24 6 0) 24 7 0) 24 8 0) 24 9 0) 24 8 = 0 := by rw [zu_k (by decide), zu_self]
  have k9 : (z_up (z_up (z_up (z_up m 24 6 0) 24 7 0) 24 8 0) 24 9 0) 24 9 = 0 := zu_self
  generalize z_up (z_up (z_up (z_up m 24 6 0) 24 7 0) 24 8 0) 24 9 0 = m0 at h0 k6 k7 k8 k9 ⊢
  obtain ⟨m1, a1, a2, a3⟩ := C_go z_st_12 (by decide) hN hok ht (N := N) (by omega) h0 h0.2.2.1 k6 k7 k8 k9
  have a1 : z_R 67 (m0, 0, [(2, 24), (2, 12), (0, (N : Int)), (9, 0)], []) = some (m1, none) := a1
  generalize hr_R w h heat price cs D n N A = R at a2 ⊢
  subst a2
  have h1 := C_LH12 h0 a3 rfl
  rw [a1, zb_n, s_lp_34, c_tell3, zb_n, s_lp_62]
  rw [c_told3 (by decide) (by decide)]
  refine ⟨_, rfl, ?_⟩
  rw [ro_hC]
  exact c_rw_3
theorem W_lp {mz : z_M} (hi : C_is w h n heat price D A c U kn KS cs m) (hN : (w ≤ 3 ∧ h ≤ 3 ∧ n ≤ 5) ∧ (0 ≤ heat ∧ heat ≤ 9) ∧ ∀ t : Int, 0 ≤ t → ∀ p, p < 5 → 0 ≤ wmD D t p ∧ wmD D t p ≤ 9) (hok : hr_ok n A) (ht : 0 ≤ A 35 ∧ A 35 ≤ 1073741824) {N : Nat} (hN6 : N ≤ 60) : ∃ m1, z_R 65 (m, 0, [(2, 0), (0, (N : Int))], []) = some (m1, some (0, (hr_R w h heat price cs D n N A).2.1)) ∧ c_rw mz m1 (some (ro_h (hr_R w h heat price cs D n N A))) := by
  rw [s_lp_0 m N (by omega)]
  by_cases z : N = 0
  · rw [if_pos (by omega)]
    exact W_lpt hi hN hok ht hN6
  · rw [if_neg (by omega)]
    obtain ⟨m1, a1, a2, -⟩ := C_rem hi (s := 12) (Or.inl rfl)
    rw [hi.2.2.1] at a2
    have a1 : z_R 60 (m, 0, [(2, 28), (2, 12)], []) = some (m1, none) := a1
    rw [a1, zb_n, s_lp_15]
    exact W_lpt a2 hN hok ht hN6
theorem W_hours {mz : z_M} (hi : C_is w h n heat price D A c U kn KS cs m) (hN : (w ≤ 3 ∧ h ≤ 3 ∧ n ≤ 5) ∧ (0 ≤ heat ∧ heat ≤ 9) ∧ ∀ t : Int, 0 ≤ t → ∀ p, p < 5 → 0 ≤ wmD D t p ∧ wmD D t p ≤ 9) (hok : hr_ok n A) (ht : 0 ≤ A 35 ∧ A 35 ≤ 1073741824) {N : Nat} (hN6 : N ≤ 60) : ∃ m1, z_R 80 (m, 0, [(2, 0), (0, (N : Int))], []) = some (m1, some (0, (hr_R w h heat price cs D n N A).2.1)) ∧ c_rw mz m1 (some (ro_h (hr_R w h heat price cs D n N A))) := by
  obtain ⟨m1, a1, a2⟩ := W_lp (mz := mz) hi hN hok ht hN6
  rw [s_hours_0, if_neg (by omega), if_pos (by omega), a1, zb_v, s_hours_17]
  exact ⟨m1, rfl, a2⟩
theorem W_hour1 {mz : z_M} (hi : C_is w h n heat price D A c U kn KS cs m) (hN : (w ≤ 3 ∧ h ≤ 3 ∧ n ≤ 5) ∧ (0 ≤ heat ∧ heat ≤ 9) ∧ ∀ t : Int, 0 ≤ t → ∀ p, p < 5 → 0 ≤ wmD D t p ∧ wmD D t p ≤ 9) (hok : hr_ok n A) (ht : 0 ≤ A 35 ∧ A 35 ≤ 1073741824) : ∃ m1, z_R 64 (m, 0, [(2, 0)], []) = some (m1, some (0, (hr_R w h heat price cs D n 1 A).2.1)) ∧ c_rw mz m1 (some (ro_h (hr_R w h heat price cs D n 1 A))) := by
  obtain ⟨m1, a1, a2⟩ := W_lp (mz := mz) hi hN hok ht (N := 1) (by decide)
  have a1 : z_R 65 (m, 0, [(2, 0), (0, 1)], []) = some (m1, some (0, (hr_R w h heat price cs D n 1 A).2.1)) := a1
  rw [s_hour_0, a1, zb_v, s_hour_5]
  exact ⟨m1, rfl, a2⟩
theorem V_lpt {mz : z_M} (hi : R_is w h n heat price D A c U kn KS cs m) (hN : (w ≤ 3 ∧ h ≤ 3 ∧ n ≤ 5) ∧ (0 ≤ heat ∧ heat ≤ 9) ∧ ∀ t : Int, 0 ≤ t → ∀ p, p < 5 → 0 ≤ wmD D t p ∧ wmD D t p ≤ 9) (hok : hr_ok n A) (ht : 0 ≤ A 35 ∧ A 35 ≤ 1073741824) {N : Nat} (hN6 : N ≤ 60) : ∃ m1, ((z_R 207 (z_up (z_up (z_up (z_up m 251 32 0) 251 33 0) 251 34 0) 251 35 0, 0, [(2, 251), (2, 252), (0, (N : Int)), (9, 0)], [])).bind fun qq => z_R 205 (qq.1, 42, [(2, 251), (0, (N : Int))], qq.2.toList ++ [])) = some (m1, some (0, (hr_R w h heat price cs D n N A).2.1)) ∧ r_rw mz m1 (some (ro_h (hr_R w h heat price cs D n N A))) := by
  have h0 : R_is w h n heat price D A c U kn KS cs (z_up (z_up (z_up (z_up m 251 32 0) 251 33 0) 251 34 0) 251 35 0) := R_upn (R_upn (R_upn (R_upn hi (by decide)) (by decide)) (by decide)) (by decide)
  have k6 : (z_up (z_up (z_up (z_up m 251 32 0) 251 33 0) 251 34 0) 251 35 0) 251 32 = 0 := by rw [zu_k (by decide), zu_k (by decide), zu_k (by decide), zu_self]
  have k7 : (z_up (z_up (z_up (z_up m 251 32 0) 251 33 0) 251 34 0) 251 35 0) 251 33 = 0 := by rw [zu_k (by decide), zu_k (by decide), zu_self]
  have k8 : (z_up (z_up (z_up (z_up m 251 32 0) 251 33 0) 251 34 0) 251 35 0) 251 34 = 0 := by rw [zu_k (by decide), zu_self]
  have k9 : (z_up (z_up (z_up (z_up m 251 32 0) 251 33 0) 251 34 0) 251 35 0) 251 35 = 0 := zu_self
  generalize z_up (z_up (z_up (z_up m 251 32 0) 251 33 0) 251 34 0) 251 35 0 = m0 at h0 k6 k7 k8 k9 ⊢
  obtain ⟨m1, a1, a2, a3⟩ := R_go z_A_252 (Or.inl rfl) hN hok ht (N := N) (by omega) h0 h0.2.2.1 k6 k7 k8 k9
  have a1 : z_R 207 (m0, 0, [(2, 251), (2, 252), (0, (N : Int)), (9, 0)], []) = some (m1, none) := a1
  generalize hr_R w h heat price cs D n N A = R at a2 ⊢
  subst a2
  have h1 := R_LH252 h0 a3 rfl
  rw [a1, zb_n, t_hours_42 m1 N (by omega)]
  have e32 : ∀ v, (z_up m1 251 10 v) 251 32 = m1 251 32 := fun v => zu_k (by decide)
  rw [t_tell0, zb_n, t_hours_56, t_tell1, zb_n, t_hours_65, t_tell2, zb_n, t_hours_77]
  rw [t_told3 (by decide) (by decide)]
  refine ⟨_, rfl, ?_⟩
  rw [ro_hR]
  exact r_rw_3 rfl rfl (congrArg z_i2l (t_told1 (by omega) (by omega))) (congrArg z_i2l (t_told2 (by omega) (by omega)))
theorem V_lp {mz : z_M} (hi : R_is w h n heat price D A c U kn KS cs m) (hN : (w ≤ 3 ∧ h ≤ 3 ∧ n ≤ 5) ∧ (0 ≤ heat ∧ heat ≤ 9) ∧ ∀ t : Int, 0 ≤ t → ∀ p, p < 5 → 0 ≤ wmD D t p ∧ wmD D t p ≤ 9) (hok : hr_ok n A) (ht : 0 ≤ A 35 ∧ A 35 ≤ 1073741824) {N : Nat} (hN6 : N ≤ 60) : ∃ m1, z_R 205 (m, 0, [(2, 251), (0, (N : Int))], []) = some (m1, some (0, (hr_R w h heat price cs D n N A).2.1)) ∧ r_rw mz m1 (some (ro_h (hr_R w h heat price cs D n N A))) := by
  have hu := R_upn (p0 := 251) (k0 := 11) (v := 0) hi (by decide)
  rw [t_hours_0, if_pos (by omega)]
  generalize z_up m 251 11 0 = m0 at hu ⊢
  by_cases z : N = 0
  · rw [if_pos (by omega)]
    exact V_lpt hu hN hok ht hN6
  · rw [if_neg (by omega)]
    obtain ⟨m1, a1, a2, -⟩ := R_rem hu (a := 252) (Or.inl rfl)
    rw [hu.2.2.1] at a2
    have a1 : z_R 197 (m0, 0, [(2, 251), (2, 252), (9, 0)], []) = some (m1, none) := a1
    rw [a1, zb_n, t_hours_29]
    exact V_lpt a2 hN hok ht hN6
theorem V_hour1 {mz : z_M} (hi : R_is w h n heat price D A c U kn KS cs m) (hN : (w ≤ 3 ∧ h ≤ 3 ∧ n ≤ 5) ∧ (0 ≤ heat ∧ heat ≤ 9) ∧ ∀ t : Int, 0 ≤ t → ∀ p, p < 5 → 0 ≤ wmD D t p ∧ wmD D t p ≤ 9) (hok : hr_ok n A) (ht : 0 ≤ A 35 ∧ A 35 ≤ 1073741824) : ∃ m1, z_R 204 (m, 0, [(2, 251)], []) = some (m1, some (0, (hr_R w h heat price cs D n 1 A).2.1)) ∧ r_rw mz m1 (some (ro_h (hr_R w h heat price cs D n 1 A))) := by
  obtain ⟨m1, a1, a2⟩ := V_lp (mz := mz) hi hN hok ht (N := 1) (by decide)
  have a1 : z_R 205 (m, 0, [(2, 251), (0, 1)], []) = some (m1, some (0, (hr_R w h heat price cs D n 1 A).2.1)) := a1
  rw [t_hour_0, a1, zb_v, t_hour_5]
  exact ⟨m1, rfl, a2⟩
/-! thick -/
def ro_thick (w h n : Nat) (heat price : Int) (cs : List Int) (D A : Nat → Int) (r a : Int) : Option (List Int) := if ¬ (0 ≤ a ∧ a ≤ 100) then none else if u_hs (w : Int) (h : Int) r = 0 then none else some [z_i2l ((hr_R w h heat price cs D n a.toNat A).1 (r.toNat + 9)), z_i2l ((hr_R w h heat price cs D n a.toNat A).1 33)]
theorem W_thick (hi : C_is w h n heat price D A c U kn KS cs m) (hN : w_N w h n heat D) (hok : hr_ok n A) (ht : 0 ≤ A 35 ∧ A 35 ≤ 1073741824) (k6 : z_w (m 24 6) = m 24 6) (k9 : z_w (m 24 9) = m 24 9) (r a : Int) : ∃ m1, z_R 89 (m, 0, [(2, 0), (0, r), (0, a)], []) = some (m1, some (0, o_thick w h n heat price cs D A r a)) ∧ c_rw m m1 (ro_thick w h n heat price cs D A r a) := by
  rw [o_thi_0, hi.1.1, hi.1.2.1]
  by_cases c1 : a < 0
  · have e : o_thick w h n heat price cs D A r a = -2 := if_pos (by omega)
    rw [if_pos c1, e]
    exact ⟨m, rfl, c_rw_n (if_pos (by omega))⟩
  rw [if_neg c1]
  by_cases c2 : a ≤ 100
  · rw [if_pos c2]
    by_cases c3 : u_hs (w : Int) (h : Int) r = 0
    · have e : o_thick w h n heat price cs D A r a = -3 := (if_neg (by omega)).trans (if_pos c3)
      rw [if_neg (not_not_intro c3), e]
      exact ⟨m, rfl, c_rw_n ((if_neg (by omega)).trans (if_pos c3))⟩
    · have e : o_thick w h n heat price cs D A r a = (hr_R w h heat price cs D n a.toNat A).1 r.toNat := (if_neg (by omega)).trans (if_neg c3)
      have hr := u_hs_rng c3
      obtain ⟨N, rfl⟩ : ∃ N : Nat, a = (N : Int) := ⟨a.toNat, by omega⟩
      rw [Int.toNat_natCast] at e
      obtain ⟨m1, d1, d2, d3, -⟩ := C_la hi hN hok ht k6 k9 (N := N) (by omega)
      rw [if_pos c3, d1, zb_n, o_thi_32, if_pos (show 0 ≤ r ∧ r < 9 from hr), c_tell2, zb_n, o_thi_54, if_pos (show 0 ≤ r ∧ r < 9 from hr), e]
      rw [c_told2 (by decide) (by decide), ← d3]
      rw [show m1 19 r.toNat = cS m1 18 n r.toNat from (cS_at1 (s := 18) (by omega)).symm]
      refine ⟨_, rfl, c_rw_s ((if_neg (by omega)).trans (if_neg c3)) ?_⟩
      rw [Int.toNat_natCast, ← d3, cS_pondv, show cS m1 18 n (r.toNat + 9) = m1 20 r.toNat from cS_at2 (s := 18) (by omega)]
      exact c_rw_2
  · have e : o_thick w h n heat price cs D A r a = -2 := if_pos (by omega)
    rw [if_neg c2, e]
    exact ⟨m, rfl, c_rw_n (if_pos (by omega))⟩
theorem V_thick (hi : R_is w h n heat price D A c U kn KS cs m) (hN : w_N w h n heat D) (hok : hr_ok n A) (ht : 0 ≤ A 35 ∧ A 35 ≤ 1073741824) (r a : Int) : ∃ m1, z_R 217 (m, 0, [(2, 251), (0, r), (0, a)], []) = some (m1, some (0, o_thick w h n heat price cs D A r a)) ∧ r_rw m m1 (ro_thick w h n heat price cs D A r a) := by
  have hu := R_upn (p0 := 251) (k0 := 11) (v := 0) hi (by decide)
  have hw : r_rw m (z_up m 251 11 0) none := r_rw_11
  rw [o_tth_0, R_isl]
  generalize z_up m 251 11 0 = m0 at hu hw ⊢
  by_cases c1 : 0 ≤ a ∧ a ≤ 100
  · rw [if_pos c1, zb_v, o_tth_9, if_neg (show ¬ (1 : Int) = 0 by decide), hu.1.1, hu.1.2.1]
    by_cases c3 : u_hs (w : Int) (h : Int) r = 0
    · have e : o_thick w h n heat price cs D A r a = -3 := (if_neg (not_not_intro c1)).trans (if_pos c3)
      rw [if_neg (not_not_intro c3), e]
      exact ⟨m0, rfl, r_rw_m hw ((if_neg (not_not_intro c1)).trans (if_pos c3))⟩
    · have e : o_thick w h n heat price cs D A r a = (hr_R w h heat price cs D n a.toNat A).1 r.toNat := (if_neg (not_not_intro c1)).trans (if_neg c3)
      have hr := u_hs_rng c3
      obtain ⟨N, rfl⟩ : ∃ N : Nat, a = (N : Int) := ⟨a.toNat, by omega⟩
      rw [Int.toNat_natCast] at e
      obtain ⟨m1, m2, d1, d2, d3, d4⟩ := R_la hu hN hok ht (N := N) (by omega)
      rw [if_pos c3, d1, zb_n, o_tth_30, d2, zb_n, o_tth_39, z_add_eq (by omega) (by omega), if_pos (show 0 ≤ 9 + r ∧ 9 + r < 37 by omega), t_tell0, zb_n, o_tth_58, t_tell1, zb_n, o_tth_70, if_pos (show 0 ≤ r ∧ r < 37 by omega), e]
      rw [t_told2 (by omega) (by omega), ← d4]
      rw [show m2 264 r.toNat = rS m2 264 n r.toNat from (rS_at (by omega) (a_vis_lo (by omega))).symm]
      refine ⟨_, rfl, r_rw_s ((if_neg (not_not_intro c1)).trans (if_neg c3)) ?_⟩
      rw [Int.toNat_natCast, ← d4, show rS m2 264 n 33 = m2 264 33 from rS_at (by decide) (a_vis_hi (by decide)), show rS m2 264 n (r.toNat + 9) = m2 264 (r.toNat + 9) from rS_at (by omega) (a_vis_lo (by omega)), show r.toNat + 9 = (9 + r).toNat by omega]
      exact r_rw_2 rfl rfl (congrArg z_i2l (t_told1 (by omega) (by omega)))
  · have e : o_thick w h n heat price cs D A r a = -2 := if_pos c1
    rw [if_neg c1, zb_v, o_tth_9, if_pos rfl, e]
    exact ⟨m0, rfl, r_rw_m hw (if_pos c1)⟩
/-! drips -/
def o_dr (w h : Nat) (B : Nat → Int) : Nat → Nat → Int → Int
  | 0, _, b => b
  | f + 1, x, b => if u_hs (w : Int) (h : Int) (x : Int) = 0 then o_dr w h B f (x + 1) b else if b = -1 ∨ B b.toNat < B x then o_dr w h B f (x + 1) (x : Int) else o_dr w h B f (x + 1) b
def o_drr (B : Nat → Int) (b : Int) : List Int := [z_i2l b, if b = -1 then 0 else z_i2l (B b.toNat)]
def ro_drips (w h n : Nat) (heat price : Int) (cs : List Int) (D A : Nat → Int) (a : Int) : Option (List Int) := if 0 ≤ a ∧ a ≤ 100 then some (o_drr (hr_R w h heat price cs D n a.toNat A).1 (o_dr w h (hr_R w h heat price cs D n a.toNat A).1 9 0 (-1))) else none
theorem W_dri1 {mz : z_M} {x1 : Int} {B : Nat → Int} : ∀ (f x : Nat) (b : Int) (m : z_M), x + f = 9 → (b = -1 ∨ (0 ≤ b ∧ b < 9)) → m 3 8 = (w : Int) → m 3 9 = (h : Int) → (∀ j, j < 9 → m 19 j = B j) → ∃ m1 v, z_R 94 (m, 21, [(2, 0), (0, x1), (0, b), (0, (x : Int))], []) = some (m1, some (0, v)) ∧ c_rw mz m1 (some (o_drr B (o_dr w h B f x b))) := by
  intro f
  induction f with
  | zero =>
    intro x b m hx hb h8 h9 hB
    show ∃ m1 v, _ ∧ c_rw mz m1 (some [z_i2l b, if b = -1 then 0 else z_i2l (B b.toNat)])
    rw [o_dri_21, if_pos (show (9 : Int) ≤ (x : Int) by omega)]
    by_cases c1 : b = -1
    · rw [if_pos c1, if_pos c1, c_tell2, zb_n, o_dri_97]
      exact ⟨_, _, rfl, c_rw_2⟩
    · rw [if_neg c1, if_neg c1, if_pos (show 0 ≤ b ∧ b < 9 by omega), c_tell2, zb_n, o_dri_97, ← hB b.toNat (by omega)]
      exact ⟨_, _, rfl, c_rw_2⟩
  | succ f ih =>
    intro x b m hx hb h8 h9 hB
    rw [o_dri_21, if_neg (show ¬ (9 : Int) ≤ (x : Int) by omega), h8, h9, z_add_eq (x := (x : Int)) (y := 1) (by omega) (by omega), tc1, Int.toNat_natCast]
    unfold o_dr
    by_cases c1 : u_hs (w : Int) (h : Int) (x : Int) = 0
    · rw [if_neg (not_not_intro c1), if_pos c1]
      exact ih (x + 1) b m (by omega) hb h8 h9 hB
    · rw [if_pos c1, if_neg c1]
      by_cases c2 : b = -1
      · rw [if_pos c2, if_pos (Or.inl c2)]
        exact ih (x + 1) x m (by omega) (Or.inr (by omega)) h8 h9 hB
      · rw [if_neg c2, if_pos (show 0 ≤ b ∧ b < 9 by omega), hB x (by omega), hB b.toNat (by omega)]
        by_cases c3 : B x ≤ B b.toNat
        · rw [if_pos c3, if_neg (show ¬ (b = -1 ∨ B b.toNat < B x) by omega)]
          exact ih (x + 1) b m (by omega) hb h8 h9 hB
        · rw [if_neg c3, if_pos (show b = -1 ∨ B b.toNat < B x by omega)]
          exact ih (x + 1) x m (by omega) (Or.inr (by omega)) h8 h9 hB
theorem V_dri1 {mz : z_M} {x1 : Int} {B : Nat → Int} : ∀ (f x : Nat) (b : Int) (m : z_M), x + f = 9 → (b = -1 ∨ (0 ≤ b ∧ b < 9)) → m 251 1 = (w : Int) → m 251 2 = (h : Int) → (∀ j, j < 9 → m 264 j = B j) → ∃ m1 v, z_R 225 (m, 31, [(2, 251), (0, x1), (0, b), (0, (x : Int))], []) = some (m1, some (0, v)) ∧ r_rw mz m1 (some (o_drr B (o_dr w h B f x b))) := by
  intro f
  induction f with
  | zero =>
    intro x b m hx hb h8 h9 hB
    show ∃ m1 v, _ ∧ r_rw mz m1 (some [z_i2l b, if b = -1 then 0 else z_i2l (B b.toNat)])
    rw [o_tdr_31, if_pos (show (9 : Int) ≤ (x : Int) by omega), t_tell0, zb_n, o_tdr_84]
    by_cases c1 : b = -1
    · rw [if_pos c1, if_pos c1, t_tell1, zb_n, o_tdr_104]
      exact ⟨_, _, rfl, r_rw_2 rfl rfl rfl⟩
    · rw [if_neg c1, if_neg c1, if_pos (show 0 ≤ b ∧ b < 37 by omega), t_tell1, zb_n, o_tdr_104, ← hB b.toNat (by omega)]
      exact ⟨_, _, rfl, r_rw_2 rfl rfl (congrArg z_i2l (t_told1 (by omega) (by omega)))⟩
  | succ f ih =>
    intro x b m hx hb h8 h9 hB
    rw [o_tdr_31, if_neg (show ¬ (9 : Int) ≤ (x : Int) by omega), h8, h9, z_add_eq (x := (x : Int)) (y := 1) (by omega) (by omega), tc1, Int.toNat_natCast]
    unfold o_dr
    by_cases c1 : u_hs (w : Int) (h : Int) (x : Int) = 0
    · rw [if_neg (not_not_intro c1), if_pos c1]
      exact ih (x + 1) b m (by omega) hb h8 h9 hB
    · rw [if_pos c1, if_neg c1]
      by_cases c2 : b = -1
      · rw [if_pos c2, if_pos (Or.inl c2)]
        exact ih (x + 1) x m (by omega) (Or.inr (by omega)) h8 h9 hB
      · rw [if_neg c2, if_pos (show 0 ≤ b ∧ b < 37 by omega), hB x (by omega), hB b.toNat (by omega)]
        by_cases c3 : B x ≤ B b.toNat
        · rw [if_pos c3, if_neg (show ¬ (b = -1 ∨ B b.toNat < B x) by omega)]
          exact ih (x + 1) b m (by omega) hb h8 h9 hB
        · rw [if_neg c3, if_pos (show b = -1 ∨ B b.toNat < B x by omega)]
          exact ih (x + 1) x m (by omega) (Or.inr (by omega)) h8 h9 hB
theorem W_drips (hi : C_is w h n heat price D A c U kn KS cs m) (hN : w_N w h n heat D) (hok : hr_ok n A) (ht : 0 ≤ A 35 ∧ A 35 ≤ 1073741824) (k6 : z_w (m 24 6) = m 24 6) (k9 : z_w (m 24 9) = m 24 9) (a : Int) : ∃ m1 v, z_R 94 (m, 0, [(2, 0), (0, a), (9, 0), (9, 0)], []) = some (m1, some (0, v)) ∧ c_rw m m1 (ro_drips w h n heat price cs D A a) := by
  rw [o_dri_0]
  by_cases c1 : a < 0
  · rw [if_pos c1]
    exact ⟨m, _, rfl, c_rw_n (if_neg (by omega))⟩
  rw [if_neg c1]
  by_cases c2 : a ≤ 100
  · obtain ⟨N, rfl⟩ : ∃ N : Nat, a = (N : Int) := ⟨a.toNat, by omega⟩
    obtain ⟨m1, d1, d2, d3, d4⟩ := C_la hi hN hok ht k6 k9 (N := N) (by omega)
    obtain ⟨m2, v2, g1, g2⟩ := W_dri1 (mz := m) (w := w) (h := h) (B := (hr_R w h heat price cs D n N A).1) (x1 := (N : Int)) 9 0 (-1) m1 (by decide) (Or.inl rfl) d2.1.1 d2.1.2.1 (fun j hj => by
      rw [← d3]
      exact (cS_at1 (s := 18) hj).symm)
    have g1 : z_R 94 (m1, 21, [(2, 0), (0, (N : Int)), (0, -1), (0, 0)], []) = some (m2, some (0, v2)) := g1
    rw [if_pos c2, d1, zb_n, o_dri_17, g1]
    refine ⟨m2, v2, rfl, c_rw_s (if_pos (by omega)) ?_⟩
    rw [Int.toNat_natCast]
    exact g2
  · rw [if_neg c2]
    exact ⟨m, _, rfl, c_rw_n (if_neg (by omega))⟩
theorem V_drips (hi : R_is w h n heat price D A c U kn KS cs m) (hN : w_N w h n heat D) (hok : hr_ok n A) (ht : 0 ≤ A 35 ∧ A 35 ≤ 1073741824) (a : Int) : ∃ m1 v, z_R 225 (m, 0, [(2, 251), (0, a), (9, 0), (9, 0)], []) = some (m1, some (0, v)) ∧ r_rw m m1 (ro_drips w h n heat price cs D A a) := by
  have hu := R_upn (p0 := 251) (k0 := 11) (v := 0) hi (by decide)
  have hw : r_rw m (z_up m 251 11 0) none := r_rw_11
  rw [o_tdr_0, R_isl]
  generalize z_up m 251 11 0 = m0 at hu hw ⊢
  by_cases c1 : 0 ≤ a ∧ a ≤ 100
  · obtain ⟨N, rfl⟩ : ∃ N : Nat, a = (N : Int) := ⟨a.toNat, by omega⟩
    obtain ⟨m1, m2, d1, d2, d3, d4⟩ := R_la hu hN hok ht (N := N) (by omega)
    obtain ⟨m3, v3, g1, g2⟩ := V_dri1 (mz := m) (w := w) (h := h) (B := (hr_R w h heat price cs D n N A).1) (x1 := (N : Int)) 9 0 (-1) m2 (by decide) (Or.inl rfl) d3.1.1 d3.1.2.1 (fun j hj => by
      rw [← d4]
      exact (rS_at (by omega) (a_vis_lo (by omega))).symm)
    have g1 : z_R 225 (m2, 31, [(2, 251), (0, (N : Int)), (0, -1), (0, 0)], []) = some (m3, some (0, v3)) := g1
    rw [if_pos c1, zb_v, o_tdr_9, if_neg (show ¬ (1 : Int) = 0 by decide), d1, zb_n, o_tdr_18, d2, zb_n, o_tdr_27, g1]
    refine ⟨m3, v3, rfl, r_rw_s (if_pos c1) ?_⟩
    rw [Int.toNat_natCast]
    exact g2
  · rw [if_neg c1, zb_v, o_tdr_9, if_pos rfl]
    exact ⟨m0, _, rfl, r_rw_m hw (if_neg c1)⟩
/-! gives -/
def gv_f (b : Int) : Nat → Nat → Int
  | 0, _ => -1
  | f + 1, x => if z_and (z_shr b (x : Int)) 1 = 0 then gv_f b f (x + 1) else (x : Int)
def gv_r (w h n : Nat) (heat price : Int) (cs : List Int) (D : Nat → Int) (F : Int) : Nat → (Nat → Int) → Option (List Int)
  | 0, _ => none
  | f + 1, B => if z_and (s_G w h (hr_A w h heat price (c_ml cs) (wmD D (B 35)) n B)) F = 0 then gv_r w h n heat price cs D F f (hr_A w h heat price (c_ml cs) (wmD D (B 35)) n B) else some [z_i2l (gv_f (z_and (s_G w h (hr_A w h heat price (c_ml cs) (wmD D (B 35)) n B)) F) 9 0), z_i2l (hr_K w h heat price (c_ml cs) (wmD D (B 35)) n B).2.2.1]
theorem gv_sta {F : Int} {N : Nat} : ∀ (f x : Nat) (B : Nat → Int), x + f = N → (s_sta w h n heat price cs D F N f x B = (N : Int) ∧ gv_r w h n heat price cs D F f B = none) ∨ (¬ s_sta w h n heat price cs D F N f x B = (N : Int) ∧ ∃ l, gv_r w h n heat price cs D F f B = some l) := by
  intro f
  induction f with
  | zero => intro x B hx; exact Or.inl ⟨rfl, rfl⟩
  | succ f ih =>
    intro x B hx
    unfold s_sta gv_r
    by_cases c1 : z_and (s_G w h (hr_A w h heat price (c_ml cs) (wmD D (B 35)) n B)) F = 0
    · rw [if_pos c1, if_pos c1]
      exact ih (x + 1) _ (by omega)
    · rw [if_neg c1, if_neg c1]
      exact Or.inr ⟨by omega, _, rfl⟩
theorem gv_fst : ∀ (f x : Nat) (b : Int) (m : z_M), x + f = 9 → z_R 93 (m, 2, [(0, b), (0, (x : Int))], []) = some (m, some (0, gv_f b f x)) := by
  intro f
  induction f with
  | zero =>
    intro x b m hx
    rw [p_fst_2, if_pos (by omega)]
    rfl
  | succ f ih =>
    intro x b m hx
    rw [p_fst_2, if_neg (by omega), z_add_eq (by omega) (by omega), tc1]
    unfold gv_f
    by_cases c1 : z_and (z_shr b (x : Int)) 1 = 0
    · rw [if_pos c1, if_pos c1]
      exact ih (x + 1) b m (by omega)
    · rw [if_neg c1, if_neg c1]
theorem z_ifm {q : Prop} [Decidable q] {m : z_M} {X Y : Option z_Q} {x y : Int} (h1 : X = some (m, some (0, x))) (h2 : Y = some (m, some (0, y))) : (if q then X else Y) = some (m, some (0, if q then x else y)) := by
  by_cases z : q
  · rw [if_pos z, if_pos z]; exact h1
  · rw [if_neg z, if_neg z]; exact h2
def gv_nz (a : Int) : Int := if 0 < z_and (z_xor a (-1)) (z_sub a 1) then if z_and (z_xor a (-1)) (z_sub a 1) ≤ 65536 then if z_and (z_xor a (-1)) (z_sub a 1) ≤ 256 then if z_and (z_xor a (-1)) (z_sub a 1) ≤ 16 then if z_and (z_xor a (-1)) (z_sub a 1) ≤ 4 then z_add 1 (z_ush (z_and (z_xor a (-1)) (z_sub a 1)) 1) else z_add 3 (z_ush (z_ush (z_and (z_xor a (-1)) (z_sub a 1)) 2) 1) else if z_ush (z_and (z_xor a (-1)) (z_sub a 1)) 4 ≤ 4 then z_add 5 (z_ush (z_ush (z_and (z_xor a (-1)) (z_sub a 1)) 4) 1) else z_add 7 (z_ush (z_ush (z_ush (z_and (z_xor a (-1)) (z_sub a 1)) 4) 2) 1) else if z_ush (z_and (z_xor a (-1)) (z_sub a 1)) 8 ≤ 16 then if z_ush (z_and (z_xor a (-1)) (z_sub a 1)) 8 ≤ 4 then z_add 9 (z_ush (z_ush (z_and (z_xor a (-1)) (z_sub a 1)) 8) 1) else z_add 11 (z_ush (z_ush (z_ush (z_and (z_xor a (-1)) (z_sub a 1)) 8) 2) 1) else if z_ush (z_ush (z_and (z_xor a (-1)) (z_sub a 1)) 8) 4 ≤ 4 then z_add 13 (z_ush (z_ush (z_ush (z_and (z_xor a (-1)) (z_sub a 1)) 8) 4) 1) else z_add 15 (z_ush (z_ush (z_ush (z_ush (z_and (z_xor a (-1)) (z_sub a 1)) 8) 4) 2) 1) else if z_ush (z_and (z_xor a (-1)) (z_sub a 1)) 16 ≤ 256 then if z_ush (z_and (z_xor a (-1)) (z_sub a 1)) 16 ≤ 16 then if z_ush (z_and (z_xor a (-1)) (z_sub a 1)) 16 ≤ 4 then z_add 17 (z_ush (z_ush (z_and (z_xor a (-1)) (z_sub a 1)) 16) 1) else z_add 19 (z_ush (z_ush (z_ush (z_and (z_xor a (-1)) (z_sub a 1)) 16) 2) 1) else if z_ush (z_ush (z_and (z_xor a (-1)) (z_sub a 1)) 16) 4 ≤ 4 then z_add 21 (z_ush (z_ush (z_ush (z_and (z_xor a (-1)) (z_sub a 1)) 16) 4) 1) else z_add 23 (z_ush (z_ush (z_ush (z_ush (z_and (z_xor a (-1)) (z_sub a 1)) 16) 4) 2) 1) else if z_ush (z_ush (z_and (z_xor a (-1)) (z_sub a 1)) 16) 8 ≤ 16 then if z_ush (z_ush (z_and (z_xor a (-1)) (z_sub a 1)) 16) 8 ≤ 4 then z_add 25 (z_ush (z_ush (z_ush (z_and (z_xor a (-1)) (z_sub a 1)) 16) 8) 1) else z_add 27 (z_ush (z_ush (z_ush (z_ush (z_and (z_xor a (-1)) (z_sub a 1)) 16) 8) 2) 1) else if z_ush (z_ush (z_ush (z_and (z_xor a (-1)) (z_sub a 1)) 16) 8) 4 ≤ 4 then z_add 29 (z_ush (z_ush (z_ush (z_ush (z_and (z_xor a (-1)) (z_sub a 1)) 16) 8) 4) 1) else z_add 31 (z_ush (z_ush (z_ush (z_ush (z_ush (z_and (z_xor a (-1)) (z_sub a 1)) 16) 8) 4) 2) 1) else z_and (z_and (z_xor a (-1)) (z_sub a 1)) 32
theorem gv_ntz (m : z_M) (a : Int) : z_R 224 (m, 0, [(0, a), (9, 0)], []) = some (m, some (0, gv_nz a)) := (p_ntz_0 m a).trans (by
  unfold gv_nz
  repeat' (first | refine z_ifm ?_ ?_ | exact rfl))
theorem gv_nz_ok : ∀ a : Nat, a < 512 → 0 < a → gv_nz (a : Int) = gv_f (a : Int) 9 0 := by decide +kernel
theorem s_bt_or : ∀ x : Nat, x < 9 → ∀ k : Nat, k < 2 ^ x → 0 ≤ z_or (k : Int) (z_shl 1 (x : Int)) ∧ z_or (k : Int) (z_shl 1 (x : Int)) < ((2 ^ (x + 1) : Nat) : Int) := by decide +kernel
theorem s_bt_b {P : Nat → Bool} : ∀ (f x : Nat) (b : Int), x + f = 9 → (0 ≤ b ∧ b < ((2 ^ x : Nat) : Int)) → 0 ≤ s_bt P f x b ∧ s_bt P f x b < 512 := by
  intro f
  induction f with
  | zero =>
    intro x b hx hb
    obtain rfl : x = 9 := by omega
    exact hb
  | succ f ih =>
    intro x b hx hb
    unfold s_bt
    refine ih (x + 1) _ (by omega) ?_
    by_cases c1 : P x = true
    · rw [if_pos c1]
      obtain ⟨k, rfl⟩ : ∃ k : Nat, b = (k : Int) := ⟨b.toNat, by omega⟩
      exact s_bt_or x (by omega) k (by omega)
    · rw [if_neg c1]
      refine ⟨hb.1, Int.lt_of_lt_of_le hb.2 ?_⟩
      exact Int.ofNat_le.mpr (Nat.pow_le_pow_right (by decide) (Nat.le_succ x))
theorem gv_and {a b : Int} (hb : 0 ≤ b ∧ b < 512) : 0 ≤ z_and a b ∧ z_and a b < 512 := by
  have e : (Int32.ofInt b).toInt = b := zr_of (by omega) (by omega)
  have := i32_and_r (x := Int32.ofInt a) (y := Int32.ofInt b) (by rw [e]; exact hb.1)
  rw [e] at this
  unfold z_and
  omega
theorem W_giv1 {mz : z_M} {F : Int} (hN : w_N w h n heat D) : ∀ (f x : Nat) (v3 : z_V) (m : z_M) (B : Nat → Int), x + f = 100 → C_is w h n heat price D A c U kn KS cs m → cS m 18 n = B → hr_ok n B → 0 ≤ B 35 → B 35 + (f : Int) ≤ 2147483647 → z_w (m 24 6) = m 24 6 → z_w (m 24 9) = m 24 9 → c_rw mz m none → ∃ m1, z_R 91 (m, 25, [(2, 0), (0, F), (0, ((x + 1 : Nat) : Int)), v3], []) = some (m1, some (0, o_gv (s_sta w h n heat price cs D F 100 f x B))) ∧ c_rw mz m1 (gv_r w h n heat price cs D F f B) := by
  intro f
  induction f with
  | zero =>
    intro x v3 m B hx hi hB hok ht ht2 k6 k9 hz
    rw [p_giv_25, if_pos (by omega)]
    exact ⟨m, rfl, hz⟩
  | succ f ih =>
    intro x v3 m B hx hi hB hok ht ht2 k6 k9 hz
    obtain ⟨m1, a1, a2, a3, a4, a5, a6, a7, a8, a9⟩ := c_hour z_st_18 hN.1.1 hN.1.2.1 (price := price) ⟨hN.1.2.2, hN.2.1, c_ml_ok cs, hN.2.2⟩ m (C_cfg hi) hB hok ht (by omega) k6 k9
    have a1 : z_R 68 (m, 0, [(2, 24), (2, ((18 : Nat) : Int)), (0, m 3 10), (9, 0), (9, 0), (9, 0)], []) = some (m1, none) := a1
    have g1 : z_R 67 (m, 0, [(2, 24), (2, ((18 : Nat) : Int)), (0, 1), (9, 0)], []) = some (m1, none) := by
      rw [s_goOn_0 z_st_18 m 1 ⟨by decide, by decide⟩, s_goOn_2 z_st_18 m 1 0 ⟨by decide, by decide⟩ ⟨by decide, by decide⟩, if_neg (show ¬ (1 : Int) ≤ 0 by decide), a1, zb_n, s_goOn_19 z_st_18 m1 1 0 ⟨by decide, by decide⟩, s_goOn_2 z_st_18 m1 1 (0 + 1) ⟨by decide, by decide⟩ ⟨by decide, by decide⟩, if_pos (show (1 : Int) ≤ 0 + 1 by decide)]
    have g1 : z_R 67 (m, 0, [(2, 24), (2, 18), (0, 1), (9, 0)], []) = some (m1, none) := g1
    have hC1 : C_is w h n heat price D A c U kn KS cs m1 := C_fr hi fun p k hk => by
      have hk' := hk
      unfold C_hit at hk'
      have hk' := of_decide_eq_true hk'
      exact a9.of (by (try unfold r_LHs); (repeat' (first | exact trivial | refine z_of_c ?_ ?_)) <;> omega)
    rw [p_giv_25, if_neg (by omega), g1, zb_n, p_giv_43, a7, hr_K_gb hN.1.2.2, z_add_eq (by omega) (by omega), tc1]
    unfold s_sta gv_r
    by_cases c1 : z_and (s_G w h (hr_A w h heat price (c_ml cs) (wmD D (B 35)) n B)) F = 0
    · rw [if_pos c1, if_pos c1, if_pos c1]
      have hok' := hr_A_ok (price := price) hN.1.1 hN.1.2.1 hN.1.2.2 hN.2.1 (c_ml_ok cs) (hN.2.2 (B 35) ht) hok
      have e35 : hr_A w h heat price (c_ml cs) (wmD D (B 35)) n B 35 = B 35 + 1 := by rw [hr_A_35 hN.1.1 hN.1.2.1 hN.1.2.2, z_add_eq (by omega) (by omega)]
      exact ih (x + 1) _ m1 _ (by omega) hC1 a2 hok' (by rw [e35]; omega) (by rw [e35]; omega) (by rw [a3, z_add_w]; exact z_w_w) (by rw [a6, z_add_w]; exact z_w_w) (c_rw_fr hz (a9.of (by (try unfold r_LHs); (repeat' (first | exact trivial | refine z_of_c ?_ ?_)) <;> omega)) (fun i _ => a9.of (by (try unfold r_LHs); (repeat' (first | exact trivial | refine z_of_c ?_ ?_)) <;> omega)))
    · have hv := gv_fst 9 0 (z_and (s_G w h (hr_A w h heat price (c_ml cs) (wmD D (B 35)) n B)) F) m1 (by decide)
      have hv : z_R 93 (m1, 2, [(0, z_and (s_G w h (hr_A w h heat price (c_ml cs) (wmD D (B 35)) n B)) F), (0, 0)], []) = some (m1, some (0, gv_f (z_and (s_G w h (hr_A w h heat price (c_ml cs) (wmD D (B 35)) n B)) F) 9 0)) := hv
      have eo : o_gv (x : Int) = ((x + 1 : Nat) : Int) := (if_neg (by omega)).trans (by omega)
      rw [if_neg c1, if_neg c1, if_neg c1, p_fst_0, hv, zb_v, p_giv_62, c_tell2, zb_n, p_giv_74, eo]
      refine ⟨_, rfl, ?_⟩
      rw [← a8]
      exact c_rw_2
theorem W_gives (hi : C_is w h n heat price D A c U kn KS cs m) (hN : w_N w h n heat D) (hok : hr_ok n A) (ht : 0 ≤ A 35 ∧ A 35 ≤ 1073741824) (k6 : z_w (m 24 6) = m 24 6) (k9 : z_w (m 24 9) = m 24 9) : ∃ m1, z_R 91 (m, 0, [(2, 0), (9, 0), (9, 0), (9, 0)], []) = some (m1, some (0, o_gv (s_sta w h n heat price cs D (s_F w h A) 100 100 0 A))) ∧ c_rw m m1 (gv_r w h n heat price cs D (s_F w h A) 100 A) := by
  obtain ⟨m2, b1, b2, b3⟩ := c_become z_st_12 z_st_18 (by decide) m
  have b1 : z_R 61 (m, 0, [(2, 18), (2, 12)], []) = some (m2, none) := b1
  have hC2 : C_is w h n heat price D A c U kn KS cs m2 := C_fr hi fun p k hk => by
    have hk' := hk
    unfold C_hit at hk'
    have hk' := of_decide_eq_true hk'
    exact b3.of (by (try unfold r_LHs); (repeat' (first | exact trivial | refine z_of_c ?_ ?_)) <;> omega)
  have hA2 : cS m2 18 n = A := (cS_cR b2).trans hi.2.2.1
  have j6 : m2 24 6 = m 24 6 := b3.of (by (try unfold r_LHs); (repeat' (first | exact trivial | refine z_of_c ?_ ?_)) <;> omega)
  have j9 : m2 24 9 = m 24 9 := b3.of (by (try unfold r_LHs); (repeat' (first | exact trivial | refine z_of_c ?_ ?_)) <;> omega)
  have e := C_flo (w := w) (h := h) (n := n) hC2.1.1 hC2.1.2.1 hA2 9 0 0 (by decide)
  have e : z_R 92 (m2, 4, [(2, 3), (2, 18), (0, 0), (0, 0)], []) = some (m2, some (0, s_F w h A)) := e
  obtain ⟨m3, c1, c2⟩ := W_giv1 (mz := m) (F := s_F w h A) hN 100 0 (9, 0) m2 A (by decide) hC2 hA2 hok ht.1 (by omega) (by rw [j6]; exact k6) (by rw [j9]; exact k9) (c_rw_fr c_rw_id (b3.of (by (try unfold r_LHs); (repeat' (first | exact trivial | refine z_of_c ?_ ?_)) <;> omega)) (fun i _ => b3.of (by (try unfold r_LHs); (repeat' (first | exact trivial | refine z_of_c ?_ ?_)) <;> omega)))
  have c1 : z_R 91 (m2, 25, [(2, 0), (0, s_F w h A), (0, 1), (9, 0)], []) = some (m3, some (0, o_gv (s_sta w h n heat price cs D (s_F w h A) 100 100 0 A))) := c1
  rw [p_giv_0, b1, zb_n, p_giv_11, p_flo_0, e, zb_v, p_giv_22, c1]
  exact ⟨m3, rfl, c2⟩
theorem V_lt {m2 : z_M} (b1 : z_R 219 (m, 0, [(2, 251)], []) = some (m2, none)) : ∀ q j, ¬ q = 264 → m2 q j = m q j := fun q j hq => by
  obtain ⟨m2', d1, -, d3⟩ := t_layd (a := 252) (q := 264) (B := 0) t_lay264_0 t_lay264_2 (by decide) (b := 0) (by decide) m
  have d1 : z_R 198 (m, 0, [(2, 252), (2, 264), (0, 0), (9, 0)], []) = some (m2', none) := d1
  have e : z_R 219 (m, 0, [(2, 251)], []) = some (m2', none) := by rw [q_lt_0, d1, zb_n, q_lt_12]
  rw [b1] at e
  have e := congrArg Prod.fst (Option.some.inj e)
  have e : m2 = m2' := e
  rw [e]
  exact d3 q j (fun z => hq z.1)
theorem V_sta1 {F : Int} {N : Nat} (hN6 : N ≤ 1000) (hN : w_N w h n heat D) : ∀ (f x : Nat) (m : z_M) (B : Nat → Int), x + f = N → R_is w h n heat price D A c U kn KS cs m → rS m 264 n = B → hr_ok n B → 0 ≤ B 35 → B 35 + (f : Int) ≤ 2147483647 → ∃ m1, z_R 221 (m, 7, [(2, 251), (0, (N : Int)), (0, F), (0, (x : Int))], []) = some (m1, some (0, s_sta w h n heat price cs D F N f x B)) ∧ z_same (r_LHs 264) m m1 ∧ ∀ l, gv_r w h n heat price cs D F f B = some l → l = [z_i2l (gv_f (z_and (s_G w h (rS m1 264 n)) F) 9 0), z_i2l (m1 251 30)] ∧ ¬ z_and (s_G w h (rS m1 264 n)) F = 0 := by
  intro f
  induction f with
  | zero =>
    intro x m B hx hi hB hok ht ht2
    rw [q_sta_7, if_pos (by omega)]
    exact ⟨m, rfl, z_same.rf, fun l hl => by
      have hl : (none : Option (List Int)) = some l := hl
      cases hl⟩
  | succ f ih =>
    intro x m B hx hi hB hok ht ht2
    obtain ⟨m1, a1, a2, a3, a4, a5, a6, a7⟩ := r_hour (a := 264) z_A_264 (Or.inr rfl) hN.1.1 hN.1.2.1 (price := price) ⟨hN.1.2.2, hN.2.1, c_ml_ok cs, hN.2.2⟩ m (R_cfg hi) hB hok ht (by omega)
    have a1 : z_R 208 (m, 0, [(2, 251), (2, 264), (9, 0), (9, 0), (9, 0)], []) = some (m1, none) := a1
    have s1 : z_same (r_LHs 264) m m1 := a7.subo (by (try unfold r_LHs); (repeat' (first | exact trivial | refine z_sbo_c ?_ ?_)) <;> (intro k h1 h2; first | exact z_on_h rfl (by omega) (by omega) | exact z_on_t (z_on_h rfl (by omega) (by omega)) | exact z_on_t (z_on_t (z_on_h rfl (by omega) (by omega))) | exact z_on_t (z_on_t (z_on_t (z_on_h rfl (by omega) (by omega)))) | exact z_on_t (z_on_t (z_on_t (z_on_t (z_on_h rfl (by omega) (by omega))))) | exact z_on_t (z_on_t (z_on_t (z_on_t (z_on_t (z_on_h rfl (by omega) (by omega)))))) | exact z_on_t (z_on_t (z_on_t (z_on_t (z_on_t (z_on_t (z_on_h rfl (by omega) (by omega))))))) | exact z_on_t (z_on_t (z_on_t (z_on_t (z_on_t (z_on_t (z_on_t (z_on_h rfl (by omega) (by omega)))))))) | exact z_on_t (z_on_t (z_on_t (z_on_t (z_on_t (z_on_t (z_on_t (z_on_t (z_on_h rfl (by omega) (by omega))))))))) | exact z_on_t (z_on_t (z_on_t (z_on_t (z_on_t (z_on_t (z_on_t (z_on_t (z_on_t (z_on_h rfl (by omega) (by omega)))))))))) | exact z_on_t (z_on_t (z_on_t (z_on_t (z_on_t (z_on_t (z_on_t (z_on_t (z_on_t (z_on_t (z_on_h rfl (by omega) (by omega))))))))))) | exact z_on_t (z_on_t (z_on_t (z_on_t (z_on_t (z_on_t (z_on_t (z_on_t (z_on_t (z_on_t (z_on_t (z_on_h rfl (by omega) (by omega)))))))))))) | exact z_on_t (z_on_t (z_on_t (z_on_t (z_on_t (z_on_t (z_on_t (z_on_t (z_on_t (z_on_t (z_on_t (z_on_t (z_on_h rfl (by omega) (by omega)))))))))))))))
    have hR1 := R_off264 hi s1
    have hv := R_tha (w := w) (h := h) (n := n) hR1.1.1 hR1.1.2.1 a2 9 0 0 (by decide) (by decide +kernel)
    have hv : z_R 223 (m1, 4, [(2, 251), (2, 264), (0, 0), (0, 0)], []) = some (m1, some (0, s_G w h (hr_A w h heat price (c_ml cs) (wmD D (B 35)) n B))) := hv
    rw [q_sta_7, if_neg (by omega), a1, zb_n, q_sta_20, q_tha_0, hv, zb_v, q_sta_28, z_add_eq (by omega) (by omega), tc1]
    unfold s_sta
    by_cases c1 : z_and (s_G w h (hr_A w h heat price (c_ml cs) (wmD D (B 35)) n B)) F = 0
    · rw [if_pos c1, if_pos c1]
      have hok' := hr_A_ok (price := price) hN.1.1 hN.1.2.1 hN.1.2.2 hN.2.1 (c_ml_ok cs) (hN.2.2 (B 35) ht) hok
      have e35 : hr_A w h heat price (c_ml cs) (wmD D (B 35)) n B 35 = B 35 + 1 := by rw [hr_A_35 hN.1.1 hN.1.2.1 hN.1.2.2, z_add_eq (by omega) (by omega)]
      obtain ⟨m2, b1, b2, b3⟩ := ih (x + 1) m1 _ (by omega) hR1 a2 hok' (by rw [e35]; omega) (by rw [e35]; omega)
      exact ⟨m2, b1, s1.tr b2, fun l hl => b3 l (by
        unfold gv_r at hl
        rw [if_pos c1] at hl
        exact hl)⟩
    · rw [if_neg c1, if_neg c1]
      exact ⟨m1, rfl, s1, fun l hl => by
        unfold gv_r at hl
        rw [if_neg c1] at hl
        rw [← Option.some.inj hl, a2, a5]
        exact ⟨rfl, c1⟩⟩
theorem V_gives (hi : R_is w h n heat price D A c U kn KS cs m) (hN : w_N w h n heat D) (hok : hr_ok n A) (ht : 0 ≤ A 35 ∧ A 35 ≤ 1073741824) : ∃ m1 v, z_R 220 (m, 0, [(2, 251), (9, 0)], []) = some (m1, some (0, v)) ∧ r_rw m m1 (gv_r w h n heat price cs D (s_F w h A) 100 A) := by
  have hu := R_upn (p0 := 251) (k0 := 11) (v := 0) hi (by decide)
  have hw : r_rw m (z_up m 251 11 0) none := r_rw_11
  rw [p_tgi_0]
  generalize z_up m 251 11 0 = m0 at hu hw ⊢
  obtain ⟨m2, b1, b2, b3⟩ := R_lt hu
  have f2 := V_lt b1
  have hv := R_ice (w := w) (h := h) (n := n) b2.1.1 b2.1.2.1 b2.2.2.1 9 0 0 (by decide) (by decide +kernel)
  have hv : z_R 222 (m2, 4, [(2, 251), (0, 0), (0, 0)], []) = some (m2, some (0, s_F w h A)) := hv
  obtain ⟨m3, c1, c2, c3⟩ := V_sta1 (F := s_F w h A) (N := 100) (by decide) hN 100 0 m2 A (by decide) b2 b3 hok ht.1 (by omega)
  have c1 : z_R 221 (m2, 7, [(2, 251), (0, 100), (0, s_F w h A), (0, 0)], []) = some (m3, some (0, s_sta w h n heat price cs D (s_F w h A) 100 100 0 A)) := c1
  have c4 : z_R 221 (m2, 0, [(2, 251), (0, 100), (9, 0), (9, 0)], []) = some (m3, some (0, s_sta w h n heat price cs D (s_F w h A) 100 100 0 A)) := by rw [q_sta_0, q_ice_0, hv, zb_v, q_sta_4, c1]
  have hR3 := R_off264 b2 c2
  have hw3 : r_rw m m3 none := r_rw_fr (r_rw_fr hw (f2 251 10 (by decide)) (fun i _ => f2 255 i (by decide))) (c2.of (by (try unfold r_LHs); (repeat' (first | exact trivial | refine z_of_c ?_ ?_)) <;> omega)) (fun i _ => c2.of (by (try unfold r_LHs); (repeat' (first | exact trivial | refine z_of_c ?_ ?_)) <;> omega))
  have hx := s_sta_x (w := w) (h := h) (n := n) (heat := heat) (price := price) (cs := cs) (D := D) (F := s_F w h A) 100 0 A rfl
  rw [b1, zb_n, p_tgi_9, c4, zb_v, p_tgi_15]
  rcases gv_sta (w := w) (h := h) (n := n) (heat := heat) (price := price) (cs := cs) (D := D) (F := s_F w h A) (N := 100) 100 0 A rfl with ⟨z, zn⟩ | ⟨z, l, zl⟩
  · have z : s_sta w h n heat price cs D (s_F w h A) 100 100 0 A = 100 := z
    rw [if_pos z]
    exact ⟨m3, _, rfl, r_rw_m hw3 zn⟩
  · have z : ¬ s_sta w h n heat price cs D (s_F w h A) 100 100 0 A = 100 := z
    obtain ⟨y1, y2⟩ := c3 l zl
    have hR4 := R_upn (p0 := 251) (k0 := 10) (v := 0) hR3 (by decide)
    have k10 : (z_up m3 251 10 0) 251 10 = ((0 : Nat) : Int) := zu_self
    have k30 : (z_up m3 251 10 0) 251 30 = m3 251 30 := zu_k (by decide)
    have k264 : rS (z_up m3 251 10 0) 264 n = rS m3 264 n := rS_row (zu_rowne (by decide))
    rw [if_neg z]
    generalize s_sta w h n heat price cs D (s_F w h A) 100 100 0 A = s at hx ⊢
    generalize z_up m3 251 10 0 = m4 at hR4 k10 k30 k264 ⊢
    have h1 := R_tha (w := w) (h := h) (n := n) hR4.1.1 hR4.1.2.1 k264 9 0 0 (by decide) (by decide +kernel)
    have h1 : z_R 223 (m4, 4, [(2, 251), (2, 264), (0, 0), (0, 0)], []) = some (m4, some (0, s_G w h (rS m3 264 n))) := h1
    have h2 := R_ice (w := w) (h := h) (n := n) hR4.1.1 hR4.1.2.1 hR4.2.2.1 9 0 0 (by decide) (by decide +kernel)
    have h2 : z_R 222 (m4, 4, [(2, 251), (0, 0), (0, 0)], []) = some (m4, some (0, s_F w h A)) := h2
    have bF : 0 ≤ s_F w h A ∧ s_F w h A < 512 := s_bt_b 9 0 0 (by decide) ⟨by decide, by decide⟩
    have bA := gv_and (a := s_G w h (rS m3 264 n)) bF
    have eN : gv_nz (z_and (s_G w h (rS m3 264 n)) (s_F w h A)) = gv_f (z_and (s_G w h (rS m3 264 n)) (s_F w h A)) 9 0 := by
      generalize z_and (s_G w h (rS m3 264 n)) (s_F w h A) = a at bA y2
      obtain ⟨k, rfl⟩ : ∃ k : Nat, a = (k : Int) := ⟨a.toNat, by omega⟩
      exact gv_nz_ok k (by omega) (by omega)
    rw [q_tha_0, h1, zb_v, p_tgi_39, q_ice_0, h2, zb_v, p_tgi_43, gv_ntz, zb_v, p_tgi_47, t_tell (j := 0) _ _ (by decide) k10, zb_n, p_tgi_51, t_tell (j := 1) _ _ (by decide) zu_self, zb_n, p_tgi_60]
    refine ⟨_, _, rfl, r_rw_s zl ?_⟩
    rw [y1, ← eN]
    refine r_rw_2 rfl rfl (congrArg z_i2l ?_)
    rw [zu_k (by decide), zu_p (by decide), k30]
/-! burden -/
def o_bv (S : Nat → Int) : List Nat → Int → Int
  | [], v => v
  | p :: l, v => if v < S p then o_bv S l (S p) else o_bv S l v
def ro_bu (w h n : Nat) (heat price : Int) (cs : List Int) (D A : Nat → Int) (l : List Nat) (b v : Int) : Option (List Int) := if o_bu (o_S w h n heat price cs D A) l b v = -1 then none else some [z_i2l (o_bv (o_S w h n heat price cs D A) l v), z_i2l (s_sta w h n heat price cs D (s_F w h A) 100 100 0 A)]
theorem W_bur1 {mz : z_M} (hN : w_N w h n heat D) (hok : hr_ok n A) (ht : 0 ≤ A 35 ∧ A 35 ≤ 1073741824) : ∀ (f x : Nat) (b v : Int) (v4 : z_V) (m : z_M), x + f = n → C_is w h n heat price D A c U kn KS cs m → z_w (m 24 6) = m 24 6 → z_w (m 24 9) = m 24 9 → (b = -1 → v = -1 ∧ c_rw mz m none) → ∃ m1, z_R 115 (m, 6, [(2, 0), (0, v), (0, b), (0, (x : Int)), v4], []) = some (m1, some (0, o_bud w h n heat price cs D A (o_ls A f x) b v)) ∧ c_rw mz m1 (ro_bu w h n heat price cs D A (o_ls A f x) b v) := by
  have h5 := hN.1.2.2
  -- the State without one, laid beside
  have lay : ∀ (m : z_M), C_is w h n heat price D A c U kn KS cs m → ∃ m2, z_R 61 (m, 0, [(2, 18), (2, 12)], []) = some (m2, none) ∧ C_is w h n heat price D A c U kn KS cs m2 ∧ cS m2 18 n = A ∧ m2 24 6 = m 24 6 ∧ m2 24 9 = m 24 9 := by
    intro m hi
    obtain ⟨m2, b1, b2, b3⟩ := c_become z_st_12 z_st_18 (by decide) m
    exact ⟨m2, b1, C_fr hi fun p k hk => by
      have hk' := hk
      unfold C_hit at hk'
      have hk' := of_decide_eq_true hk'
      exact b3.of (by (try unfold r_LHs); (repeat' (first | exact trivial | refine z_of_c ?_ ?_)) <;> omega), (cS_cR b2).trans hi.2.2.1, b3.of (by (try unfold r_LHs); (repeat' (first | exact trivial | refine z_of_c ?_ ?_)) <;> omega), b3.of (by (try unfold r_LHs); (repeat' (first | exact trivial | refine z_of_c ?_ ?_)) <;> omega)⟩
  intro f
  induction f with
  | zero =>
    intro x b v v4 m hx hi k6 k9 hz
    have e11 := hi.1.2.2.1
    rw [b_bur_6 m v b x v4 (by omega), e11, if_pos (by omega)]
    show ∃ m1, _ = some (m1, some (0, if b = -1 then -2 else b)) ∧ c_rw mz m1 (if b = -1 then none else some [z_i2l v, z_i2l (s_sta w h n heat price cs D (s_F w h A) 100 100 0 A)])
    by_cases z : b = -1
    · rw [if_pos z, if_pos z, if_pos z]
      exact ⟨m, rfl, (hz z).2⟩
    · obtain ⟨m2, b1, b2, b3, b4, b5⟩ := lay m hi
      obtain ⟨m3, c1, c2, -, -⟩ := C_stand hN hok ht b2 b3 (by rw [b4]; exact k6) (by rw [b5]; exact k9) (N := 100) (by decide)
      have c1 : z_R 96 (m2, 0, [(2, 24), (2, 18), (0, 100)], []) = some (m3, some (0, s_sta w h n heat price cs D (s_F w h A) 100 100 0 A)) := c1
      rw [if_neg z, if_neg z, if_neg z, b1, zb_n, b_bur_102, c1, zb_v, b_bur_118, c_tell2, zb_n, b_bur_122]
      exact ⟨_, rfl, c_rw_2⟩
  | succ f ih =>
    intro x b v v4 m hx hi k6 k9 hz
    have e11 := hi.1.2.2.1
    have e15 : m 15 x = A (x + 18) := C_A3 hi (by omega) h5
    rw [b_bur_6 m v b x v4 (by omega), e11, if_neg (by omega), if_pos (show 0 ≤ (x : Int) ∧ (x : Int) < 5 by omega), Int.toNat_natCast, e15, tc1]
    unfold o_ls
    by_cases z : A (x + 18) = -1
    · rw [if_pos z, if_pos z]
      exact ih (x + 1) b v v4 m (by omega) hi k6 k9 hz
    · obtain ⟨m2, b1, b2, b3, b4, b5⟩ := lay m hi
      have hC3 : C_is w h n heat price D A c U kn KS cs (z_up m2 21 x (-1)) := C_upn b2 (by
        have : ∀ x, x < 5 → C_hit 21 x x = false := by decide +kernel
        exact this x (by omega))
      have hA3 : cS (z_up m2 21 x (-1)) 18 n = u_up A (x + 18) (-1) := by
        have e := cS_up3 (m := m2) (s := 18) (j := x) (v := -1) (n := (n : Int)) (by omega) (by omega)
        rw [b3] at e
        exact e
      have j6 : (z_up m2 21 x (-1)) 24 6 = m 24 6 := (zu_p (by decide)).trans b4
      have j9 : (z_up m2 21 x (-1)) 24 9 = m 24 9 := (zu_p (by decide)).trans b5
      rw [if_neg z, if_neg z, b1, zb_n, b_bur_41, if_pos (show 0 ≤ (x : Int) ∧ (x : Int) < 5 by omega), Int.toNat_natCast]
      generalize z_up m2 21 x (-1) = m3 at hC3 hA3 j6 j9 ⊢
      have hok3 : hr_ok n (u_up A (x + 18) (-1)) := hr_ok_up hok (by omega) (fun z => by omega) (fun p h1 h2 => by decide)
      have h35 : u_up A (x + 18) (-1) 35 = A 35 := u_up_ne (by omega)
      obtain ⟨m4, c1, c2, c3, c4⟩ := C_stand hN hok3 (by rw [h35]; exact ht) hC3 hA3 (by rw [j6]; exact k6) (by rw [j9]; exact k9) (N := 100) (by decide)
      rw [s_F_18] at c1
      have c1 : z_R 96 (m3, 0, [(2, 24), (2, 18), (0, 100)], []) = some (m4, some (0, o_S w h n heat price cs D A x)) := c1
      rw [c1, zb_v, b_bur_64, z_add_eq (x := (x : Int)) (y := 1) (by omega) (by omega), tc1]
      have eo : ∀ b v, o_bu (o_S w h n heat price cs D A) (x :: o_ls A f (x + 1)) b v = if v < o_S w h n heat price cs D A x then o_bu (o_S w h n heat price cs D A) (o_ls A f (x + 1)) (x : Int) (o_S w h n heat price cs D A x) else o_bu (o_S w h n heat price cs D A) (o_ls A f (x + 1)) b v := fun _ _ => rfl
      have eb : o_bud w h n heat price cs D A (x :: o_ls A f (x + 1)) b v = if v < o_S w h n heat price cs D A x then o_bud w h n heat price cs D A (o_ls A f (x + 1)) (x : Int) (o_S w h n heat price cs D A x) else o_bud w h n heat price cs D A (o_ls A f (x + 1)) b v := by
        unfold o_bud
        rw [eo]
        by_cases y : v < o_S w h n heat price cs D A x
        · rw [if_pos y, if_pos y]
        · rw [if_neg y, if_neg y]
      have eb2 : ro_bu w h n heat price cs D A (x :: o_ls A f (x + 1)) b v = if v < o_S w h n heat price cs D A x then ro_bu w h n heat price cs D A (o_ls A f (x + 1)) (x : Int) (o_S w h n heat price cs D A x) else ro_bu w h n heat price cs D A (o_ls A f (x + 1)) b v := by
        unfold ro_bu
        rw [eo, show o_bv (o_S w h n heat price cs D A) (x :: o_ls A f (x + 1)) v = if v < o_S w h n heat price cs D A x then o_bv (o_S w h n heat price cs D A) (o_ls A f (x + 1)) (o_S w h n heat price cs D A x) else o_bv (o_S w h n heat price cs D A) (o_ls A f (x + 1)) v from rfl]
        by_cases y : v < o_S w h n heat price cs D A x
        · rw [if_pos y, if_pos y, if_pos y]
        · rw [if_neg y, if_neg y, if_neg y]
      have nn := o_S_nn (w := w) (h := h) (n := n) (heat := heat) (price := price) (cs := cs) (D := D) (A := A) (p := x)
      rw [eb, eb2]
      by_cases y : o_S w h n heat price cs D A x ≤ v
      · rw [if_pos y, if_neg (show ¬ v < o_S w h n heat price cs D A x by omega), if_neg (show ¬ v < o_S w h n heat price cs D A x by omega)]
        exact ih (x + 1) b v _ m4 (by omega) c2 c3 c4 (fun e => by
          have := (hz e).1
          omega)
      · rw [if_neg y, if_pos (show v < o_S w h n heat price cs D A x by omega), if_pos (show v < o_S w h n heat price cs D A x by omega)]
        exact ih (x + 1) x _ _ m4 (by omega) c2 c3 c4 (fun e => by omega)
theorem W_burden (hi : C_is w h n heat price D A c U kn KS cs m) (hN : w_N w h n heat D) (hok : hr_ok n A) (ht : 0 ≤ A 35 ∧ A 35 ≤ 1073741824) (k6 : z_w (m 24 6) = m 24 6) (k9 : z_w (m 24 9) = m 24 9) : ∃ m1, z_R 115 (m, 0, [(2, 0), (9, 0), (9, 0), (9, 0), (9, 0)], []) = some (m1, some (0, o_bud w h n heat price cs D A (o_ls A n 0) (-1) (-1))) ∧ c_rw m m1 (ro_bu w h n heat price cs D A (o_ls A n 0) (-1) (-1)) := by
  rw [b_bur_0]
  exact W_bur1 hN hok ht n 0 (-1) (-1) (9, 0) m (by omega) hi k6 k9 (fun _ => ⟨rfl, c_rw_id⟩)
theorem V_bur1 {mz : z_M} {x1 : Int} (hN : w_N w h n heat D) (hok : hr_ok n A) (ht : 0 ≤ A 35 ∧ A 35 ≤ 1073741824) : ∀ (l : List Nat) (k : Nat) (b v : Int) (v5 : z_V) (m : z_M), k + l.length ≤ 5 → (∀ p ∈ l, p < n) → R_is w h n heat price D A c U kn KS cs m → m 251 39 = ((k + l.length : Nat) : Int) → o_hl m k l → ∃ m1, z_R 238 (m, 37, [(2, 251), (0, x1), (0, b), (0, v), (0, (k : Int)), v5], []) = some (m1, some (0, o_bu (o_S w h n heat price cs D A) l b v)) ∧ r_rw mz m1 (some [z_i2l (o_bv (o_S w h n heat price cs D A) l v), z_i2l x1]) := by
  have h5 := hN.1.2.2
  intro l
  induction l with
  | nil =>
    intro k b v v5 m hk hp hi h39 hl
    have h39 : m 251 39 = (k : Int) := h39
    rw [b_tbu_37, h39, if_pos (Int.le_refl _), t_tell0, zb_n, b_tbu_111, t_tell1, zb_n, b_tbu_117]
    exact ⟨_, rfl, r_rw_2 rfl rfl rfl⟩
  | cons p l ih =>
    intro k b v v5 m hk hp hi h39 hl
    have hk : k + (l.length + 1) ≤ 5 := hk
    have h39 : m 251 39 = ((k + (l.length + 1) : Nat) : Int) := h39
    have hpn := hp p List.mem_cons_self
    obtain ⟨m2, b1, b2, b3⟩ := R_lt hi
    have f2 : ∀ q j, ¬ (q = 264) → m2 q j = m q j := fun q j hq => by
      obtain ⟨m2', d1, -, d3⟩ := t_layd (a := 252) (q := 264) (B := 0) t_lay264_0 t_lay264_2 (by decide) (b := 0) (by decide) m
      have d1 : z_R 198 (m, 0, [(2, 252), (2, 264), (0, 0), (9, 0)], []) = some (m2', none) := d1
      have e : z_R 219 (m, 0, [(2, 251)], []) = some (m2', none) := by rw [q_lt_0, d1, zb_n, q_lt_12]
      rw [b1] at e
      have e := congrArg Prod.fst (Option.some.inj e)
      have e : m2 = m2' := e
      rw [e]
      exact d3 q j (fun z => hq z.1)
    have g265 : m2 265 k = (p : Int) := (f2 265 k (by decide)).trans hl.1
    have hR3 : R_is w h n heat price D A c U kn KS cs (z_up m2 264 (p + 18) (-1)) := R_upn b2 (by
      have : ∀ p, p < 5 → R_hit 264 (p + 18) (p + 18) = false := by decide +kernel
      exact this p (by omega))
    have hA3 : rS (z_up m2 264 (p + 18) (-1)) 264 n = u_up A (p + 18) (-1) := by rw [rS_up (by omega) (a_vis_p (b := 18) (p := p) (by omega) (by omega) (by omega) (by omega)), b3]
    have f3 : ∀ q j, ¬ (q = 264) → (z_up m2 264 (p + 18) (-1)) q j = m q j := fun q j hq => (zu_p hq).trans (f2 q j hq)
    rw [b_tbu_37, h39, if_neg (by omega), b1, zb_n, b_tbu_50, if_pos (show 0 ≤ (k : Int) ∧ (k : Int) < 5 by omega), Int.toNat_natCast, g265, z_add_eq (x := 18) (y := (p : Int)) (by omega) (by omega), if_pos (show 0 ≤ 18 + (p : Int) ∧ 18 + (p : Int) < 37 by omega), show (18 + (p : Int)).toNat = p + 18 by omega]
    generalize z_up m2 264 (p + 18) (-1) = m3 at hR3 hA3 f3 ⊢
    have hok3 : hr_ok n (u_up A (p + 18) (-1)) := hr_ok_up hok (by omega) (fun z => by omega) (fun p h1 h2 => by decide)
    have h35 : u_up A (p + 18) (-1) 35 = A 35 := u_up_ne (by omega)
    obtain ⟨v0, hv0⟩ := q_iceq 9 0 0 m3 (by decide)
    have hv := R_ice (w := w) (h := h) (n := n) hR3.1.1 hR3.1.2.1 hR3.2.2.1 9 0 0 (by decide) (by decide +kernel)
    have hv : z_R 222 (m3, 4, [(2, 251), (0, 0), (0, 0)], []) = some (m3, some (0, s_F w h A)) := hv
    obtain ⟨m4, c1, c2⟩ := R_sta1 (F := s_F w h A) (N := 100) (by decide) hN 100 0 m3 (u_up A (p + 18) (-1)) (by decide) hR3 hA3 hok3 (by rw [h35]; exact ht.1) (by rw [h35]; omega)
    have c1 : z_R 221 (m3, 7, [(2, 251), (0, 100), (0, s_F w h A), (0, 0)], []) = some (m4, some (0, o_S w h n heat price cs D A p)) := c1
    have c3 : z_R 221 (m3, 0, [(2, 251), (0, 100), (9, 0), (9, 0)], []) = some (m4, some (0, o_S w h n heat price cs D A p)) := by rw [q_sta_0, q_ice_0, hv, zb_v, q_sta_4, c1]
    have hR4 := R_off264 hR3 c2
    have f4 : ∀ j, m4 265 j = m 265 j := fun j => (c2.of (by (try unfold r_LHs); (repeat' (first | exact trivial | refine z_of_c ?_ ?_)) <;> omega)).trans (f3 265 j (by decide))
    have g39 : m4 251 39 = ((k + 1 + l.length : Nat) : Int) := by
      rw [c2.of (p := 251) (k := 39) (by (try unfold r_LHs); (repeat' (first | exact trivial | refine z_of_c ?_ ?_)) <;> omega), f3 251 39 (by decide), h39]
      omega
    rw [c3, zb_v, b_tbu_72, if_pos (show 0 ≤ (k : Int) ∧ (k : Int) < 5 by omega), Int.toNat_natCast, f4 k, hl.1, z_add_eq (x := (k : Int)) (y := 1) (by omega) (by omega), tc1]
    unfold o_bu o_bv
    by_cases y : v < o_S w h n heat price cs D A p
    · rw [if_pos y, if_pos y, if_pos y]
      exact ih (k + 1) p _ _ m4 (by omega) (fun q hq => hp q (List.mem_cons_of_mem _ hq)) hR4 g39 (o_hl_fr l (k + 1) hl.2 f4)
    · rw [if_neg y, if_neg y, if_neg y]
      exact ih (k + 1) b v _ m4 (by omega) (fun q hq => hp q (List.mem_cons_of_mem _ hq)) hR4 g39 (o_hl_fr l (k + 1) hl.2 f4)
theorem V_burden (hi : R_is w h n heat price D A c U kn KS cs m) (hN : w_N w h n heat D) (hok : hr_ok n A) (ht : 0 ≤ A 35 ∧ A 35 ≤ 1073741824) : ∃ m1, z_R 238 (m, 0, [(2, 251), (9, 0), (9, 0), (9, 0), (9, 0), (9, 0)], []) = some (m1, some (0, o_bud w h n heat price cs D A (o_ls A n 0) (-1) (-1))) ∧ r_rw m m1 (ro_bu w h n heat price cs D A (o_ls A n 0) (-1) (-1)) := by
  have hu := R_upn (p0 := 251) (k0 := 39) (v := 0) (R_upn (p0 := 251) (k0 := 11) (v := 0) hi (by decide)) (by decide)
  have hw : r_rw m (z_up (z_up m 251 11 0) 251 39 0) none := r_rw_fr r_rw_11 (zu_k (by decide)) (fun _ _ => zu_p (by decide))
  have g0 : (z_up (z_up m 251 11 0) 251 39 0) 251 39 = ((0 : Nat) : Int) := zu_self
  rw [b_tbu_0, b_fl_0]
  generalize z_up (z_up m 251 11 0) 251 39 0 = m0 at hu g0 hw ⊢
  obtain ⟨m1, a1, a2, a3, a4⟩ := R_fl1 hN.1.2.2 n 0 0 m0 (by omega) (Nat.le_refl _) hu g0
  have a1 : z_R 228 (m0, 7, [(2, 251), (0, 0)], []) = some (m1, none) := a1
  rw [Nat.zero_add] at a2
  have hR1 : R_is w h n heat price D A c U kn KS cs m1 := R_fr hu fun p k hk => by
    have hk' := hk
    unfold R_hit at hk'
    have hk' := of_decide_eq_true hk'
    exact a4 p k (by omega) (by omega)
  have hlen := o_ls_len (A := A) n 0
  have h5 := hN.1.2.2
  rw [a1, zb_n, b_tbu_9, a2]
  generalize hL : o_ls A n 0 = L at a2 a3 hlen ⊢
  cases L with
  | nil =>
    have e : o_bud w h n heat price cs D A [] (-1) (-1) = -2 := if_pos rfl
    rw [if_pos (show ((([] : List Nat).length : Nat) : Int) = 0 from rfl), e]
    exact ⟨m1, rfl, r_rw_m (r_rw_fr hw (a4 251 10 (by decide) (by decide)) (fun i _ => a4 255 i (by omega) (by omega))) (if_pos rfl)⟩
  | cons p l =>
    have hS := o_S_nn (w := w) (h := h) (n := n) (heat := heat) (price := price) (cs := cs) (D := D) (A := A) (p := p)
    have e0 : o_bu (o_S w h n heat price cs D A) (p :: l) (-1) (-1) = o_bu (o_S w h n heat price cs D A) l (p : Int) (o_S w h n heat price cs D A p) := if_pos (by omega)
    have e1 := o_bu_nn (S := o_S w h n heat price cs D A) l (p : Int) (o_S w h n heat price cs D A p) (by omega)
    have e : o_bud w h n heat price cs D A (p :: l) (-1) (-1) = o_bu (o_S w h n heat price cs D A) (p :: l) (-1) (-1) := if_neg (by rw [e0]; omega)
    obtain ⟨m2, b1, b2, b3⟩ := R_lt hR1
    have f2 : ∀ q j, ¬ (q = 264) → m2 q j = m1 q j := fun q j hq => by
      obtain ⟨m2', d1, -, d3⟩ := t_layd (a := 252) (q := 264) (B := 0) t_lay264_0 t_lay264_2 (by decide) (b := 0) (by decide) m1
      have d1 : z_R 198 (m1, 0, [(2, 252), (2, 264), (0, 0), (9, 0)], []) = some (m2', none) := d1
      have e : z_R 219 (m1, 0, [(2, 251)], []) = some (m2', none) := by rw [q_lt_0, d1, zb_n, q_lt_12]
      rw [b1] at e
      have e := congrArg Prod.fst (Option.some.inj e)
      have e : m2 = m2' := e
      rw [e]
      exact d3 q j (fun z => hq z.1)
    have hv := R_ice (w := w) (h := h) (n := n) b2.1.1 b2.1.2.1 b2.2.2.1 9 0 0 (by decide) (by decide +kernel)
    have hv : z_R 222 (m2, 4, [(2, 251), (0, 0), (0, 0)], []) = some (m2, some (0, s_F w h A)) := hv
    obtain ⟨m3, c1, c2⟩ := R_sta1 (F := s_F w h A) (N := 100) (by decide) hN 100 0 m2 A (by decide) b2 b3 hok ht.1 (by omega)
    have c1 : z_R 221 (m2, 7, [(2, 251), (0, 100), (0, s_F w h A), (0, 0)], []) = some (m3, some (0, s_sta w h n heat price cs D (s_F w h A) 100 100 0 A)) := c1
    have c3 : z_R 221 (m2, 0, [(2, 251), (0, 100), (9, 0), (9, 0)], []) = some (m3, some (0, s_sta w h n heat price cs D (s_F w h A) 100 100 0 A)) := by rw [q_sta_0, q_ice_0, hv, zb_v, q_sta_4, c1]
    have hR3 := R_off264 b2 c2
    have f3 : ∀ j, m3 265 j = m1 265 j := fun j => (c2.of (by (try unfold r_LHs); (repeat' (first | exact trivial | refine z_of_c ?_ ?_)) <;> omega)).trans (f2 265 j (by decide))
    have g39 : m3 251 39 = (((p :: l).length : Nat) : Int) := by rw [c2.of (p := 251) (k := 39) (by (try unfold r_LHs); (repeat' (first | exact trivial | refine z_of_c ?_ ?_)) <;> omega), f2 251 39 (by decide), a2]
    obtain ⟨m4, d1, d2⟩ := V_bur1 (mz := m) (x1 := s_sta w h n heat price cs D (s_F w h A) 100 100 0 A) hN hok ht (p :: l) 0 (-1) (-1) (9, 0) m3 (by omega) (fun q hq => by have := hlen.2 q hq; omega) hR3 (by rw [Nat.zero_add]; exact g39) (o_hl_fr (p :: l) 0 a3 f3)
    have d1 : z_R 238 (m3, 37, [(2, 251), (0, s_sta w h n heat price cs D (s_F w h A) 100 100 0 A), (0, -1), (0, -1), (0, 0), (9, 0)], []) = some (m4, some (0, o_bu (o_S w h n heat price cs D A) (p :: l) (-1) (-1))) := d1
    have hn0 : ¬ (((p :: l).length : Nat) : Int) = 0 := by
      show ¬ ((l.length + 1 : Nat) : Int) = 0
      omega
    have er : ro_bu w h n heat price cs D A (p :: l) (-1) (-1) = some [z_i2l (o_bv (o_S w h n heat price cs D A) (p :: l) (-1)), z_i2l (s_sta w h n heat price cs D (s_F w h A) 100 100 0 A)] := if_neg (by rw [e0]; omega)
    rw [if_neg hn0, b1, zb_n, b_tbu_23, c3, zb_v, b_tbu_29, d1, e]
    exact ⟨m4, rfl, r_rw_s er d2⟩
/-! warm -/
def o_wf (F : Int → Int) (v : Int) : Nat → Nat → Int → Int → Int → List Int
  | 0, _, _, l, a => [z_i2l l, z_i2l a]
  | f + 1, x, k, l, a => if F (x : Int) = v then (if k = 0 then o_wf F v f (x + 1) (k + 1) (x : Int) (x : Int) else o_wf F v f (x + 1) (k + 1) l (z_and a (x : Int))) else o_wf F v f (x + 1) k l a
def ro_warm (w h n : Nat) (heat : Int) (cs : List Int) (D A : Nat → Int) (r v : Int) : Option (List Int) := if (¬ u_hs (w : Int) (h : Int) r = 0) ∧ 0 ≤ v ∧ v ≤ 99 then some (o_wf (o_mel n heat cs D A r.toNat) v (2 ^ n) 0 0 (-1) 0) else none
theorem o_wf_all : ∀ n : Nat, n < 6 → ∀ x : Nat, x < 2 ^ n → z_and (z_sub (z_shl 1 (n : Int)) 1) (x : Int) = (x : Int) := by decide +kernel
theorem W_wrm1 {mz : z_M} (hN : w_N w h n heat D) (ht : 0 ≤ A 35 ∧ A 35 ≤ 1073741824) {r : Nat} (hr : r < 9) {v : Int} : ∀ (f x : Nat) (y3 y4 k : Int) (m : z_M), x + f = 2 ^ n → 0 ≤ k → k ≤ (x : Int) → C_is w h n heat price D A c U kn KS cs m → ∃ m1, z_R 125 (m, 34, [(2, 0), (0, (r : Int)), (0, v), (0, y3), (0, y4), (0, k), (0, (x : Int))], []) = some (m1, some (0, o_cnt (o_mel n heat cs D A r) v f x k)) ∧ c_rw mz m1 (some (o_wf (o_mel n heat cs D A r) v f x k y3 y4)) := by
  have h5 := hN.1.2.2
  have h32 := z_p32 h5
  intro f
  induction f with
  | zero =>
    intro x y3 y4 k m hx h0 h1 hi
    rw [u_wrm_34, hi.1.2.2.1, z_p2 h5, if_pos (by omega), c_tell2, zb_n, u_wrm_113]
    exact ⟨_, rfl, c_rw_2⟩
  | succ f ih =>
    intro x y3 y4 k m hx h0 h1 hi
    obtain ⟨m1, a1, a2⟩ := C_mbs hi hN ht hr (x : Int)
    rw [u_wrm_34, hi.1.2.2.1, z_p2 h5, if_neg (by omega), a1, zb_v, u_wrm_62, z_add_eq (x := (x : Int)) (y := 1) (by omega) (by omega), tc1, z_add_eq (x := k) (y := 1) (by omega) (by omega)]
    unfold o_cnt o_wf
    by_cases z : o_mel n heat cs D A r (x : Int) = v
    · rw [if_pos z, if_pos z, if_pos z]
      by_cases z0 : k = 0
      · rw [if_pos z0, if_pos z0]
        exact ih (x + 1) _ _ _ m1 (by omega) (by omega) (by omega) a2
      · rw [if_neg z0, if_neg z0, if_neg z0]
        exact ih (x + 1) _ _ _ m1 (by omega) (by omega) (by omega) a2
    · rw [if_neg z, if_neg z, if_neg z]
      exact ih (x + 1) _ _ _ m1 (by omega) h0 (by omega) a2
theorem W_warm (hi : C_is w h n heat price D A c U kn KS cs m) (hN : w_N w h n heat D) (ht : 0 ≤ A 35 ∧ A 35 ≤ 1073741824) (r v : Int) : ∃ m1, z_R 125 (m, 0, [(2, 0), (0, r), (0, v), (9, 0), (9, 0), (9, 0), (9, 0)], []) = some (m1, some (0, o_warm w h n heat cs D A r v)) ∧ c_rw m m1 (ro_warm w h n heat cs D A r v) := by
  rw [u_wrm_0, hi.1.1, hi.1.2.1]
  by_cases c1 : u_hs (w : Int) (h : Int) r = 0
  · have e : o_warm w h n heat cs D A r v = -1 := if_neg (fun z => z.1 c1)
    rw [if_neg (not_not_intro c1), e]
    exact ⟨m, rfl, c_rw_n (if_neg (fun z => z.1 c1))⟩
  rw [if_pos c1]
  by_cases c2 : v < 0
  · have e : o_warm w h n heat cs D A r v = -1 := if_neg (fun z => by have := z.2; omega)
    rw [if_pos c2, e]
    exact ⟨m, rfl, c_rw_n (if_neg (fun z => by have := z.2; omega))⟩
  rw [if_neg c2]
  by_cases c3 : v ≤ 99
  · have hr := u_hs_rng c1
    have e : o_warm w h n heat cs D A r v = o_cnt (o_mel n heat cs D A r.toNat) v (2 ^ n) 0 0 := if_pos ⟨c1, by omega, c3⟩
    obtain ⟨q, rfl⟩ : ∃ q : Nat, r = (q : Int) := ⟨r.toNat, by omega⟩
    rw [Int.toNat_natCast] at e
    rw [if_pos c3, e]
    obtain ⟨m1, g1, g2⟩ := W_wrm1 (mz := m) hN ht (r := q) (by omega) (v := v) (2 ^ n) 0 (-1) 0 0 m (by omega) (by decide) (by decide) hi
    refine ⟨m1, g1, c_rw_s (if_pos ⟨c1, by omega, c3⟩) ?_⟩
    rw [Int.toNat_natCast]
    exact g2
  · have e : o_warm w h n heat cs D A r v = -1 := if_neg (fun z => by have := z.2; omega)
    rw [if_neg c3, e]
    exact ⟨m, rfl, c_rw_n (if_neg (fun z => by have := z.2; omega))⟩
theorem V_wrm1 {mz : z_M} (hN : w_N w h n heat D) (hok : hr_ok n A) (ht : 0 ≤ A 35 ∧ A 35 ≤ 1073741824) {r : Nat} (hr : r < 9) {v : Int} : ∀ (f x : Nat) (k y4 y5 a : Int) (m : z_M), x + f = 2 ^ n → 0 ≤ k → k ≤ (x : Int) → ((k = 0 ∧ a = 0 ∧ y5 = z_sub (z_shl 1 (n : Int)) 1) ∨ (¬ k = 0 ∧ y5 = a)) → R_is w h n heat price D A c U kn KS cs m → ∃ m1, z_R 243 (m, 43, [(2, 251), (0, (r : Int)), (0, v), (0, k), (0, y4), (0, y5), (0, (x : Int))], []) = some (m1, some (0, o_cnt (o_mel n heat cs D A r) v f x k)) ∧ r_rw mz m1 (some (o_wf (o_mel n heat cs D A r) v f x k y4 a)) := by
  have h5 := hN.1.2.2
  have h32 := z_p32 h5
  intro f
  induction f with
  | zero =>
    intro x k y4 y5 a m hx h0 h1 hq hi
    show ∃ m1, _ ∧ r_rw mz m1 (some [z_i2l y4, z_i2l a])
    rw [u_twr_43, hi.1.2.2.1, z_p2 h5, if_pos (by omega), t_tell0, zb_n, u_twr_113]
    by_cases z : k = 0
    · have ea : a = 0 := by
        rcases hq with q | q
        · exact q.2.1
        · exact absurd z q.1
      rw [if_pos z, t_tell1, zb_n, u_twr_128, ea]
      exact ⟨_, rfl, r_rw_2 rfl rfl (by decide +kernel)⟩
    · have ea : y5 = a := by
        rcases hq with q | q
        · exact absurd q.1 z
        · exact q.2
      rw [if_neg z, t_tell1, zb_n, u_twr_128, ea]
      exact ⟨_, rfl, r_rw_2 rfl rfl rfl⟩
  | succ f ih =>
    intro x k y4 y5 a m hx h0 h1 hq hi
    obtain ⟨m1, a1, a2⟩ := R_mbs hi hN hok ht hr (x : Int)
    rw [u_twr_43, hi.1.2.2.1, z_p2 h5, if_neg (by omega), a1, zb_v, u_twr_65, z_add_eq (x := (x : Int)) (y := 1) (by omega) (by omega), tc1, z_add_eq (x := k) (y := 1) (by omega) (by omega)]
    unfold o_cnt o_wf
    by_cases z : o_mel n heat cs D A r (x : Int) = v
    · rw [if_pos z, if_pos z, if_pos z]
      by_cases z0 : k = 0
      · rw [if_pos z0, if_pos z0]
        exact ih (x + 1) _ _ _ _ m1 (by omega) (by omega) (by omega) (Or.inr ⟨by omega, by
          rcases hq with q | q
          · rw [q.2.2]
            exact o_wf_all n (by omega) x (by omega)
          · exact absurd z0 q.1⟩) a2
      · rw [if_neg z0, if_neg z0]
        exact ih (x + 1) _ _ _ _ m1 (by omega) (by omega) (by omega) (Or.inr ⟨by omega, by
          rcases hq with q | q
          · exact absurd q.1 z0
          · rw [q.2]⟩) a2
    · rw [if_neg z, if_neg z, if_neg z]
      exact ih (x + 1) _ _ _ _ m1 (by omega) h0 (by omega) hq a2
theorem V_warm (hi : R_is w h n heat price D A c U kn KS cs m) (hN : w_N w h n heat D) (hok : hr_ok n A) (ht : 0 ≤ A 35 ∧ A 35 ≤ 1073741824) (r v : Int) : ∃ m1, z_R 243 (m, 0, [(2, 251), (0, r), (0, v), (9, 0), (9, 0), (9, 0), (9, 0)], []) = some (m1, some (0, o_warm w h n heat cs D A r v)) ∧ r_rw m m1 (ro_warm w h n heat cs D A r v) := by
  have hu := R_upn (p0 := 251) (k0 := 11) (v := 0) hi (by decide)
  rw [u_twr_0, hi.1.1, hi.1.2.1]
  by_cases c1 : u_hs (w : Int) (h : Int) r = 0
  · have e : o_warm w h n heat cs D A r v = -1 := if_neg (fun z => z.1 c1)
    rw [if_neg (not_not_intro c1), e]
    exact ⟨_, rfl, r_rw_n (if_neg (fun z => z.1 c1))⟩
  rw [if_pos c1]
  by_cases c2 : 0 ≤ v ∧ v ≤ 99
  · have hr := u_hs_rng c1
    have e : o_warm w h n heat cs D A r v = o_cnt (o_mel n heat cs D A r.toNat) v (2 ^ n) 0 0 := if_pos ⟨c1, c2⟩
    obtain ⟨q, rfl⟩ : ∃ q : Nat, r = (q : Int) := ⟨r.toNat, by omega⟩
    rw [Int.toNat_natCast] at e
    rw [if_pos c2, e]
    obtain ⟨m1, g1, g2⟩ := V_wrm1 (mz := m) hN hok ht (r := q) (by omega) (v := v) (2 ^ n) 0 0 (-1) (z_sub (z_shl 1 (m 251 3)) 1) 0 _ (by omega) (by decide) (by decide) (Or.inl ⟨rfl, rfl, by rw [hi.1.2.2.1]⟩) hu
    refine ⟨m1, g1, r_rw_s (if_pos ⟨c1, c2⟩) ?_⟩
    rw [Int.toNat_natCast]
    exact g2
  · have e : o_warm w h n heat cs D A r v = -1 := if_neg (fun z => c2 z.2)
    rw [if_neg c2, e]
    exact ⟨_, rfl, r_rw_n (if_neg (fun z => c2 z.2))⟩
/-! water -/
def ro_wa (A : Nat → Int) (f x : Nat) (s t : Int) : List Int := [z_i2l (x_s A f x s), z_i2l (x_s (fun k => A (k + 9)) f x t), z_i2l (A 33)]
theorem W_wat {mz : z_M} (hi : C_is w h n heat price D A c U kn KS cs m) (hw : wi w h n A) : ∀ (f x : Nat) (s t : Int), x + f = 9 → z_w s = s → z_w t = t → ∃ m', z_R 137 (m, 6, [(2, 0), (0, s), (0, t), (0, (x : Int))], []) = some (m', some (0, z_add (z_add (x_s A f x s) (x_s (fun k => A (k + 9)) f x t)) (A 33))) ∧ c_rw mz m' (some (ro_wa A f x s t)) := by
  have e33 : m 12 5 = A 33 := by
    rw [← hi.2.2.1]
    exact (cS_at0 (s := 12) (j := 5) (by decide)).symm
  intro f
  induction f with
  | zero =>
    intro x s t hx hs ht
    show ∃ m', _ ∧ c_rw mz m' (some [z_i2l s, z_i2l t, z_i2l (A 33)])
    rw [x_wat_6, if_pos (by omega), c_tell3, zb_n, x_wat_69, c_told3 (by decide) (by decide), e33]
    exact ⟨_, rfl, c_rw_3⟩
  | succ f ih =>
    intro x s t hx hs ht
    rw [x_wat_6, if_neg (by omega), hi.1.1, hi.1.2.1]
    show ∃ m', _ = some (m', some (0, z_add (z_add (x_s A f (x + 1) (z_add s (A x))) (x_s (fun k => A (k + 9)) f (x + 1) (z_add t (A (x + 9))))) (A 33))) ∧ c_rw mz m' (some (ro_wa A f (x + 1) (z_add s (A x)) (z_add t (A (x + 9)))))
    by_cases z : u_hs (w : Int) (h : Int) (x : Int) = 0
    · obtain ⟨z1, z2⟩ := hw.2.1 x (by omega) z
      rw [if_neg (not_not_intro z), z1, z2, z_add0 hs, z_add0 ht, z_add_eq (x := (x : Int)) (y := 1) (by omega) (by omega), tc1]
      exact ih (x + 1) s t (by omega) hs ht
    · have e13 : m 13 x = A x := by
        rw [← hi.2.2.1]
        exact (cS_at1 (s := 12) (by omega)).symm
      have e14 : m 14 x = A (x + 9) := by
        rw [← hi.2.2.1]
        exact (cS_at2 (s := 12) (by omega)).symm
      rw [if_pos z, Int.toNat_natCast, e13, e14, tc1]
      exact ih (x + 1) _ _ (by omega) (by rw [z_add_w]; exact z_w_w) (by rw [z_add_w]; exact z_w_w)
theorem W_water (hi : C_is w h n heat price D A c U kn KS cs m) (hw : wi w h n A) : ∃ m', z_R 137 (m, 0, [(2, 0), (9, 0), (9, 0), (9, 0)], []) = some (m', some (0, x_w A)) ∧ c_rw m m' (some (ro_wa A 9 0 0 0)) := by
  rw [x_wat_0]
  exact W_wat hi hw 9 0 0 0 (by decide) (by decide +kernel) (by decide +kernel)
theorem V_wat {mz : z_M} (hi : R_is w h n heat price D A c U kn KS cs m) : ∀ (f x : Nat) (s t : Int), x + f = 9 → ∃ m', z_R 252 (m, 11, [(2, 251), (0, s), (0, t), (0, (x : Int))], []) = some (m', some (0, z_add (z_add (x_s A f x s) (x_s (fun k => A (k + 9)) f x t)) (A 33))) ∧ r_rw mz m' (some (ro_wa A f x s t)) := by
  have e33 : m 252 33 = A 33 := R_A hi (by decide) (a_vis_hi (by decide))
  intro f
  induction f with
  | zero =>
    intro x s t hx
    show ∃ m', _ ∧ r_rw mz m' (some [z_i2l s, z_i2l t, z_i2l (A 33)])
    rw [x_twa_11, if_pos (by omega), t_tell0, zb_n, x_twa_55, t_tell1, zb_n, x_twa_61, t_tell2, zb_n, x_twa_73, t_told3 (by omega) (by omega), e33]
    exact ⟨_, rfl, r_rw_3 rfl rfl rfl (congrArg z_i2l ((t_told2 (by omega) (by omega)).trans e33))⟩
  | succ f ih =>
    intro x s t hx
    have e0 : m 252 x = A x := R_A hi (by omega) (a_vis_lo (by omega))
    have e9 : m 252 (x + 9) = A (x + 9) := R_A hi (by omega) (a_vis_lo (by omega))
    rw [x_twa_11, if_neg (by omega), if_pos (show 0 ≤ (x : Int) ∧ (x : Int) < 37 by omega), Int.toNat_natCast, show ((x : Int) + 9).toNat = x + 9 by omega, e0, e9, tc1]
    show ∃ m', _ ∧ r_rw mz m' (some (ro_wa A f (x + 1) (z_add s (A x)) (z_add t (A (x + 9)))))
    exact ih (x + 1) _ _ (by omega)
theorem V_water (hi : R_is w h n heat price D A c U kn KS cs m) : ∃ m', z_R 252 (m, 0, [(2, 251), (9, 0), (9, 0), (9, 0)], []) = some (m', some (0, x_w A)) ∧ r_rw m m' (some (ro_wa A 9 0 0 0)) := by
  have hu := R_upn (p0 := 251) (k0 := 11) (v := 0) hi (by decide)
  rw [x_twa_0]
  exact V_wat hu 9 0 0 0 (by decide)
/-! hearth -/
def y_v (w h : Nat) (F : Int → Int) : Nat → Nat → Int → Int → Int
  | 0, _, _, l => l
  | f + 1, x, b, l => if u_hs (w : Int) (h : Int) (x : Int) = 0 then y_v w h F f (x + 1) b l else if b = -1 ∨ F (x : Int) < l then y_v w h F f (x + 1) (x : Int) (F (x : Int)) else y_v w h F f (x + 1) b l
def ro_he (w h n : Nat) (heat price : Int) (cs : List Int) (D A : Nat → Int) (N f x : Nat) (b l : Int) : Option (List Int) := if y_b w h (y_M w h n heat price cs D A N) f x b l = -1 then none else some [z_i2l (y_v w h (y_M w h n heat price cs D A N) f x b l), z_i2l (y_M w h n heat price cs D A N (-1))]
def ro_hearth (w h n : Nat) (heat price : Int) (cs : List Int) (D A : Nat → Int) (a : Int) : Option (List Int) := if 1 ≤ a ∧ a ≤ 60 then ro_he w h n heat price cs D A a.toNat 9 0 (-1) 0 else none
theorem W_hea1 {mz : z_M} (hN : w_N w h n heat D) (hok : hr_ok n A) (ht : 0 ≤ A 35 ∧ A 35 ≤ 1073741824) {N : Nat} (hN6 : N ≤ 60) : ∀ (f x : Nat) (b l : Int) (v5 : z_V) (m : z_M), x + f = 9 → C_is w h n heat price D A c U kn KS cs m → (b = -1 → c_rw mz m none) → ∃ m1, z_R 133 (m, 20, [(2, 0), (0, (N : Int)), (0, b), (0, l), (0, (x : Int)), v5], []) = some (m1, some (0, if y_b w h (y_M w h n heat price cs D A N) f x b l = -1 then -2 else y_b w h (y_M w h n heat price cs D A N) f x b l)) ∧ c_rw mz m1 (ro_he w h n heat price cs D A N f x b l) := by
  intro f
  induction f with
  | zero =>
    intro x b l v5 m hx hi hz
    show ∃ m1, _ = some (m1, some (0, if b = -1 then -2 else b)) ∧ c_rw mz m1 (if b = -1 then none else some [z_i2l l, z_i2l (y_M w h n heat price cs D A N (-1))])
    rw [y_hea_20, if_pos (by omega)]
    by_cases z : b = -1
    · rw [if_pos z, if_pos z, if_pos z]
      exact ⟨m, rfl, hz z⟩
    · obtain ⟨m1, a1, a2⟩ := C_mws hi hN hok ht hN6 (-1)
      rw [if_neg z, if_neg z, if_neg z, a1, zb_v, y_hea_88, c_tell2, zb_n, y_hea_92]
      exact ⟨_, rfl, c_rw_2⟩
  | succ f ih =>
    intro x b l v5 m hx hi hz
    rw [y_hea_20, if_neg (by omega), hi.1.1, hi.1.2.1]
    unfold ro_he y_b y_v
    by_cases z : u_hs (w : Int) (h : Int) (x : Int) = 0
    · rw [if_neg (not_not_intro z), if_pos z, if_pos z, z_add_eq (x := (x : Int)) (y := 1) (by omega) (by omega), tc1]
      exact ih (x + 1) b l v5 m (by omega) hi hz
    · obtain ⟨m1, a1, a2⟩ := C_mws hi hN hok ht hN6 (x : Int)
      rw [if_pos z, if_neg z, if_neg z, a1, zb_v, y_hea_46, z_add_eq (x := (x : Int)) (y := 1) (by omega) (by omega), tc1]
      by_cases c1 : b = -1
      · rw [if_pos c1, if_pos (Or.inl c1), if_pos (Or.inl c1)]
        exact ih (x + 1) _ _ _ m1 (by omega) a2 (fun e => by omega)
      · rw [if_neg c1]
        by_cases c2 : l ≤ y_M w h n heat price cs D A N (x : Int)
        · rw [if_pos c2, if_neg (show ¬ (b = -1 ∨ y_M w h n heat price cs D A N (x : Int) < l) by omega), if_neg (show ¬ (b = -1 ∨ y_M w h n heat price cs D A N (x : Int) < l) by omega)]
          exact ih (x + 1) _ _ _ m1 (by omega) a2 (fun e => absurd e c1)
        · rw [if_neg c2, if_pos (show b = -1 ∨ y_M w h n heat price cs D A N (x : Int) < l by omega), if_pos (show b = -1 ∨ y_M w h n heat price cs D A N (x : Int) < l by omega)]
          exact ih (x + 1) _ _ _ m1 (by omega) a2 (fun e => by omega)
theorem W_hearth (hi : C_is w h n heat price D A c U kn KS cs m) (hN : w_N w h n heat D) (hok : hr_ok n A) (ht : 0 ≤ A 35 ∧ A 35 ≤ 1073741824) (a : Int) : ∃ m1, z_R 133 (m, 0, [(2, 0), (0, a), (9, 0), (9, 0), (9, 0), (9, 0)], []) = some (m1, some (0, y_A w h n heat price cs D A a)) ∧ c_rw m m1 (ro_hearth w h n heat price cs D A a) := by
  rw [y_hea_0]
  by_cases c1 : a < 1
  · have e : y_A w h n heat price cs D A a = -1 := if_neg (by omega)
    rw [if_pos c1, e]
    exact ⟨m, rfl, c_rw_n (if_neg (by omega))⟩
  rw [if_neg c1]
  by_cases c2 : a ≤ 60
  · obtain ⟨N, rfl⟩ : ∃ N : Nat, a = (N : Int) := ⟨a.toNat, by omega⟩
    have e : y_A w h n heat price cs D A (N : Int) = if y_b w h (y_M w h n heat price cs D A (N : Int).toNat) 9 0 (-1) 0 = -1 then -2 else y_b w h (y_M w h n heat price cs D A (N : Int).toNat) 9 0 (-1) 0 := if_pos (by omega)
    rw [Int.toNat_natCast] at e
    rw [if_pos c2, e]
    obtain ⟨m1, g1, g2⟩ := W_hea1 (mz := m) hN hok ht (N := N) (by omega) 9 0 (-1) 0 (9, 0) m (by decide) hi (fun _ => c_rw_id)
    refine ⟨m1, g1, ?_⟩
    rw [show ro_hearth w h n heat price cs D A (N : Int) = ro_he w h n heat price cs D A (N : Int).toNat 9 0 (-1) 0 from if_pos (by omega), Int.toNat_natCast]
    exact g2
  · have e : y_A w h n heat price cs D A a = -1 := if_neg (by omega)
    rw [if_neg c2, e]
    exact ⟨m, rfl, c_rw_n (if_neg (by omega))⟩
theorem V_mwi {N : Nat} {r v : Int} {m1 : z_M} (h1 : z_R 250 (m, 0, [(2, 251), (0, r), (0, (N : Int))], []) = some (m1, some (0, v))) (hi : R_is w h n heat price D A c U kn KS cs m) (hN : w_N w h n heat D) (hok : hr_ok n A) (ht : 0 ≤ A 35 ∧ A 35 ≤ 1073741824) (hN6 : N ≤ 60) : ∀ k, m1 255 k = m 255 k := fun k => by
  have h5 := hN.1.2.2
  obtain ⟨m2, b1, b2, b3⟩ := R_lt hi
  have f2 := V_lt b1 255 k (by decide)
  have hR3 : R_is w h n heat price D A c U kn KS cs (z_up (z_up (z_up (z_up (z_up m2 264 34 r) 251 32 0) 251 33 0) 251 34 0) 251 35 0) := R_upn (R_upn (R_upn (R_upn (R_upn b2 (by decide)) (by decide)) (by decide)) (by decide)) (by decide)
  have hB3 : rS (z_up (z_up (z_up (z_up (z_up m2 264 34 r) 251 32 0) 251 33 0) 251 34 0) 251 35 0) 264 n = u_up A 34 r := by rw [rS_row (zu_rowne (by decide)), rS_row (zu_rowne (by decide)), rS_row (zu_rowne (by decide)), rS_row (zu_rowne (by decide)), rS_up (by decide) (a_vis_hi (by decide)), b3]
  have k10 : (z_up (z_up (z_up (z_up (z_up m2 264 34 r) 251 32 0) 251 33 0) 251 34 0) 251 35 0) 255 k = m 255 k := by rw [zu_p (by decide), zu_p (by decide), zu_p (by decide), zu_p (by decide), zu_p (by decide), f2]
  rw [y_mwi_0, b1, zb_n, y_mwi_4] at h1
  generalize z_up (z_up (z_up (z_up (z_up m2 264 34 r) 251 32 0) 251 33 0) 251 34 0) 251 35 0 = m3 at hR3 hB3 k10 h1
  have hok' : hr_ok n (u_up A 34 r) := hr_ok_up hok (by decide) (fun z => absurd z (by decide)) (fun p h1 h2 => by omega)
  have h35 : u_up A 34 r 35 = A 35 := u_up_ne (by decide)
  obtain ⟨m4, c1, c2, c3⟩ := r_goHours z_A_264 (Or.inr rfl) hN.1.1 hN.1.2.1 (price := price) ⟨h5, hN.2.1, c_ml_ok cs, hN.2.2⟩ (N := N) (by omega) m3 (R_cfg hR3) hB3 hok' (by rw [h35]; exact ht.1) (by rw [h35]; omega)
  have c1 : z_R 207 (m3, 0, [(2, 251), (2, 264), (0, (N : Int)), (9, 0)], []) = some (m4, none) := c1
  rw [c1, zb_n, y_mwi_25] at h1
  have e := congrArg Prod.fst (Option.some.inj h1)
  have e : m4 = m1 := e
  rw [← e, c3.of (p := 255) (k := k) (by (try unfold r_LHs); (repeat' (first | exact trivial | refine z_of_c ?_ ?_)) <;> omega)]
  exact k10
theorem V_hea1 {mz : z_M} (hN : w_N w h n heat D) (hok : hr_ok n A) (ht : 0 ≤ A 35 ∧ A 35 ≤ 1073741824) {N : Nat} (hN6 : N ≤ 60) : ∀ (f x : Nat) (b l l' : Int) (v5 : z_V) (m : z_M), x + f = 9 → ((b = -1 ∧ l' = 1000000) ∨ (0 ≤ b ∧ l' = l)) → R_is w h n heat price D A c U kn KS cs m → ∃ m1, z_R 249 (m, 36, [(2, 251), (0, (N : Int)), (0, b), (0, l'), (0, (x : Int)), v5], []) = some (m1, some (0, y_b w h (y_M w h n heat price cs D A N) f x b l)) ∧ (0 ≤ y_b w h (y_M w h n heat price cs D A N) f x b l → r_rw mz m1 (some [z_i2l (y_v w h (y_M w h n heat price cs D A N) f x b l), z_i2l (y_M w h n heat price cs D A N (-1))])) := by
  intro f
  induction f with
  | zero =>
    intro x b l l' v5 m hx hb hi
    have hR1 := R_upn (p0 := 251) (k0 := 10) (v := 1) (R_upn (p0 := 255) (k0 := 0) (v := z_i2l l') (R_upn (p0 := 251) (k0 := 10) (v := 0) hi (by decide)) (by decide)) (by decide)
    have g0 : (z_up (z_up (z_up m 251 10 0) 255 0 (z_i2l l')) 251 10 1) 255 0 = z_i2l l' := (zu_p (by decide)).trans zu_self
    have g10 : (z_up (z_up (z_up m 251 10 0) 255 0 (z_i2l l')) 251 10 1) 251 10 = ((1 : Nat) : Int) := zu_self
    rw [y_the_36, if_pos (by omega), t_tell0, zb_n, y_the_96]
    generalize z_up (z_up (z_up m 251 10 0) 255 0 (z_i2l l')) 251 10 1 = m0 at hR1 g10 g0 ⊢
    obtain ⟨m1, a1, a2, a3⟩ := R_mwi hR1 hN hok ht hN6 (-1)
    have f5 := V_mwi a1 hR1 hN hok ht hN6
    have e0 : m0 255 0 = z_i2l l' := g0
    rw [a1, zb_v, y_the_103, t_tell (j := 1) _ _ (by decide) (a3.trans g10), zb_n, y_the_107]
    refine ⟨_, rfl, fun hb0 => ⟨zu_self, fun i hi => ?_⟩⟩
    have hi : i < 2 := hi
    have hb0 : 0 ≤ b := hb0
    have el : l' = l := by
      rcases hb with q | q
      · omega
      · exact q.2
    rcases (show i = 0 ∨ i = 1 by omega) with rfl | rfl
    · show _ = z_i2l l
      rw [zu_p (by decide), zu_k (by decide), f5, e0, el]
    · show _ = z_i2l (y_M w h n heat price cs D A N (-1))
      rw [zu_p (by decide), zu_self]
  | succ f ih =>
    intro x b l l' v5 m hx hb hi
    rw [y_the_36, if_neg (by omega), hi.1.1, hi.1.2.1]
    unfold y_b y_v
    by_cases z : u_hs (w : Int) (h : Int) (x : Int) = 0
    · rw [if_neg (not_not_intro z), if_pos z, if_pos z, z_add_eq (x := (x : Int)) (y := 1) (by omega) (by omega), tc1]
      exact ih (x + 1) b l l' v5 m (by omega) hb hi
    · obtain ⟨m1, a1, a2, -⟩ := R_mwi hi hN hok ht hN6 (x : Int)
      have bM := y_M_b (price := price) (cs := cs) hN hok ht hN6 (x : Int)
      rw [if_pos z, if_neg z, if_neg z, a1, zb_v, y_the_62, z_add_eq (x := (x : Int)) (y := 1) (by omega) (by omega), tc1]
      by_cases c1 : y_M w h n heat price cs D A N (x : Int) < l'
      · rw [if_pos c1, if_pos (show b = -1 ∨ y_M w h n heat price cs D A N (x : Int) < l by omega), if_pos (show b = -1 ∨ y_M w h n heat price cs D A N (x : Int) < l by omega)]
        exact ih (x + 1) _ _ _ _ m1 (by omega) (Or.inr ⟨by omega, rfl⟩) a2
      · rw [if_neg c1, if_neg (show ¬ (b = -1 ∨ y_M w h n heat price cs D A N (x : Int) < l) by omega), if_neg (show ¬ (b = -1 ∨ y_M w h n heat price cs D A N (x : Int) < l) by omega)]
        exact ih (x + 1) _ _ _ _ m1 (by omega) hb a2
theorem V_hearth (hi : R_is w h n heat price D A c U kn KS cs m) (hN : w_N w h n heat D) (hok : hr_ok n A) (ht : 0 ≤ A 35 ∧ A 35 ≤ 1073741824) (h0 : w = 0 ↔ h = 0) (a : Int) : ∃ m1, z_R 249 (m, 0, [(2, 251), (0, a), (9, 0), (9, 0), (9, 0), (9, 0)], []) = some (m1, some (0, y_A w h n heat price cs D A a)) ∧ r_rw m m1 (ro_hearth w h n heat price cs D A a) := by
  have hu := R_upn (p0 := 251) (k0 := 11) (v := 0) hi (by decide)
  have hw : r_rw m (z_up m 251 11 0) none := r_rw_11
  rw [y_the_0, hi.1.1]
  generalize z_up m 251 11 0 = m0 at hu hw ⊢
  by_cases c1 : 1 ≤ a ∧ a ≤ 60
  · obtain ⟨N, rfl⟩ : ∃ N : Nat, a = (N : Int) := ⟨a.toNat, by omega⟩
    have e : y_A w h n heat price cs D A (N : Int) = if y_b w h (y_M w h n heat price cs D A (N : Int).toNat) 9 0 (-1) 0 = -1 then -2 else y_b w h (y_M w h n heat price cs D A (N : Int).toNat) 9 0 (-1) 0 := if_pos c1
    rw [Int.toNat_natCast] at e
    have er : ro_hearth w h n heat price cs D A (N : Int) = ro_he w h n heat price cs D A (N : Int).toNat 9 0 (-1) 0 := if_pos c1
    rw [Int.toNat_natCast] at er
    rw [if_pos c1, e]
    by_cases c2 : (w : Int) = 0
    · have eb : y_b w h (y_M w h n heat price cs D A N) 9 0 (-1) 0 = -1 := y_b_no (fun x hx => by
        rw [u_hs_eq hN.1.1 hN.1.2.1 (by omega), if_neg (by omega)]) 9 0 (-1) 0 (by decide)
      rw [if_pos c2, eb, if_pos rfl]
      exact ⟨m0, rfl, r_rw_m hw (er.trans (if_pos eb))⟩
    · have hx0 : ¬ u_hs (w : Int) (h : Int) ((0 : Nat) : Int) = 0 := by
        rw [u_hs_eq hN.1.1 hN.1.2.1 (by omega), if_pos (by omega)]
        decide
      have eb : 0 ≤ y_b w h (y_M w h n heat price cs D A N) 9 0 (-1) 0 := by
        show 0 ≤ y_b w h (y_M w h n heat price cs D A N) (8 + 1) 0 (-1) 0
        unfold y_b
        rw [if_neg hx0, if_pos (Or.inl rfl)]
        exact y_b_nn 8 1 _ _ (by decide)
      rw [if_neg c2, if_neg (by omega)]
      obtain ⟨m1, g1, g2⟩ := V_hea1 (mz := m) hN hok ht (N := N) (by omega) 9 0 (-1) 0 1000000 (9, 0) m0 (by decide) (Or.inl ⟨rfl, rfl⟩) hu
      exact ⟨m1, g1, r_rw_s (er.trans (if_neg (by omega))) (g2 eb)⟩
  · have e : y_A w h n heat price cs D A a = -1 := if_neg c1
    rw [if_neg c1, e]
    exact ⟨m0, rfl, r_rw_m hw (if_neg c1)⟩
/-! look -/
def ro_lr (q : Int × Int × Int) : Option (List Int) := if q.1 = -1 then none else some [z_i2l q.2.1, z_i2l q.2.2]
theorem W_look1 {mz : z_M} (hN : w_N w h n heat D) (hok : hr_ok n A) (ht : 0 ≤ A 35 ∧ A 35 ≤ 1073741824) : ∀ (f r : Nat) (b k g : Int) (m : z_M), r + f = 9 → C_is w h n heat price D A c U kn KS cs m → (b = -1 → k = 0 ∧ c_rw mz m none) → ∃ m1, z_R 126 (m, 9, [(2, 0), (0, b), (0, k), (0, g), (0, (r : Int))], []) = some (m1, some (0, if (o_lr w h (o_F n heat cs D A) f r b k g).1 = -1 then -2 else (o_lr w h (o_F n heat cs D A) f r b k g).1)) ∧ c_rw mz m1 (ro_lr (o_lr w h (o_F n heat cs D A) f r b k g)) := by
  intro f
  induction f with
  | zero =>
    intro r b k g m hr hi hz
    rw [k_loo_9, if_pos (by omega)]
    show ∃ m1, _ = some (m1, some (0, if b = -1 then -2 else b)) ∧ c_rw mz m1 (if b = -1 then none else some [z_i2l k, z_i2l g])
    by_cases z : b = -1
    · rw [if_pos z, if_pos z, if_pos z]
      exact ⟨m, rfl, (hz z).2⟩
    · rw [if_neg z, if_neg z, if_neg z, c_tell2, zb_n, k_loo_93]
      exact ⟨_, rfl, c_rw_2⟩
  | succ f ih =>
    intro r b k g m hr hi hz
    rw [k_loo_9, if_neg (by omega), hi.1.1, hi.1.2.1, z_add_eq (x := (r : Int)) (y := 1) (by omega) (by omega), tc1]
    have eo : o_lr w h (o_F n heat cs D A) (f + 1) r b k g = if (¬ u_hs (w : Int) (h : Int) (r : Int) = 0) ∧ k < (o_F n heat cs D A r).1 then o_lr w h (o_F n heat cs D A) f (r + 1) (r : Int) (o_F n heat cs D A r).1 (o_F n heat cs D A r).2 else o_lr w h (o_F n heat cs D A) f (r + 1) b k g := rfl
    rw [eo]
    by_cases z : u_hs (w : Int) (h : Int) (r : Int) = 0
    · rw [if_neg (not_not_intro z), if_neg (show ¬ ((¬ u_hs (w : Int) (h : Int) (r : Int) = 0) ∧ k < (o_F n heat cs D A r).1) from fun q => q.1 z)]
      exact ih (r + 1) b k g m (by omega) hi hz
    · obtain ⟨m1, a1, a2, a3, a4⟩ := C_cm hi hN hok ht (r := r) (by omega)
      rw [if_pos z, a1, zb_n, k_loo_41, a3, a4, z_add_eq (x := (r : Int)) (y := 1) (by omega) (by omega), tc1]
      by_cases y : k < (o_F n heat cs D A r).1
      · rw [if_neg (by omega), if_pos (show (¬ u_hs (w : Int) (h : Int) (r : Int) = 0) ∧ k < (o_F n heat cs D A r).1 from ⟨z, y⟩)]
        exact ih (r + 1) _ _ _ m1 (by omega) a2 (fun e => by omega)
      · rw [if_pos (by omega), if_neg (show ¬ ((¬ u_hs (w : Int) (h : Int) (r : Int) = 0) ∧ k < (o_F n heat cs D A r).1) from fun q => y q.2)]
        exact ih (r + 1) b k g m1 (by omega) a2 (fun e => by
          have e0 := (hz e).1
          have := o_F_pos (n := n) (heat := heat) (cs := cs) (D := D) (A := A) r
          omega)
theorem W_look (hi : C_is w h n heat price D A c U kn KS cs m) (hN : w_N w h n heat D) (hok : hr_ok n A) (ht : 0 ≤ A 35 ∧ A 35 ≤ 1073741824) : ∃ m1 v, z_R 126 (m, 0, [(2, 0), (9, 0), (9, 0), (9, 0), (9, 0)], []) = some (m1, some (0, v)) ∧ c_rw m m1 (ro_lr (o_lr w h (o_F n heat cs D A) 9 0 (-1) 0 0)) := by
  obtain ⟨m1, a1, a2⟩ := W_look1 (mz := m) hN hok ht 9 0 (-1) 0 0 m (by omega) hi (fun _ => ⟨rfl, c_rw_id⟩)
  rw [k_loo_0]
  exact ⟨m1, _, a1, a2⟩
theorem V_look1 {mz : z_M} (hN : w_N w h n heat D) (hok : hr_ok n A) (ht : 0 ≤ A 35 ∧ A 35 ≤ 1073741824) : ∀ (f r : Nat) (b k g : Int) (v5 v6 v7 v8 : z_V) (m : z_M), r + f = 9 → R_is w h n heat price D A c U kn KS cs m → ∃ m1, z_R 244 (m, 24, [(2, 251), (0, b), (0, k), (0, g), (0, (r : Int)), v5, v6, v7, v8], []) = some (m1, some (0, (o_lr w h (o_F n heat cs D A) f r b k g).1)) ∧ r_rw mz m1 (some [z_i2l (o_lr w h (o_F n heat cs D A) f r b k g).2.1, z_i2l (o_lr w h (o_F n heat cs D A) f r b k g).2.2]) := by
  intro f
  induction f with
  | zero =>
    intro r b k g v5 v6 v7 v8 m hr hi
    rw [k_tlo_24, if_pos (by omega), t_tell0, zb_n, k_tlo_179, t_tell1, zb_n, k_tlo_185]
    exact ⟨_, rfl, r_rw_2 rfl rfl rfl⟩
  | succ f ih =>
    intro r b k g v5 v6 v7 v8 m hr hi
    rw [k_tlo_24, if_neg (by omega), hi.1.1, hi.1.2.1, z_add_eq (x := (r : Int)) (y := 1) (by omega) (by omega), tc1]
    unfold o_lr
    by_cases z : u_hs (w : Int) (h : Int) (r : Int) = 0
    · rw [if_neg (not_not_intro z), if_neg (fun q => q.1 z)]
      exact ih (r + 1) b k g _ _ _ _ m (by omega) hi
    · rw [if_pos z]
      obtain ⟨m1, a1, a2, a3⟩ := R_clr 100 0 b k g (r : Int) v6 v7 v8 m (by omega) (fun v hv => absurd hv (Nat.not_lt_zero v)) hi
      obtain ⟨m2, w5, w6, w7, w8, b1, b2⟩ := R_lset hN hok ht (r := r) (by omega) (x1 := b) (x2 := k) (x3 := g) (2 ^ n) 0 v8 (fun _ => false) 0 0 m1 (by omega) (fun v hv => (a2 v hv).trans (if_neg Bool.false_ne_true).symm) ⟨by decide, by decide⟩ a3
      have a1 : z_R 244 (m, 46, [(2, 251), (0, b), (0, k), (0, g), (0, (r : Int)), (0, 0), v6, v7, v8], []) = z_R 244 (m1, 76, [(2, 251), (0, b), (0, k), (0, g), (0, (r : Int)), (0, 0), (0, 0), (0, 0), v8], []) := a1
      have b1 : z_R 244 (m1, 76, [(2, 251), (0, b), (0, k), (0, g), (0, (r : Int)), (0, 0), (0, 0), (0, 0), v8], []) = (if k < (o_F n heat cs D A r).1 then z_R 244 (m2, 24, [(2, 251), (0, (r : Int)), (0, (o_F n heat cs D A r).1), (0, (o_F n heat cs D A r).2), (0, ((r + 1 : Nat) : Int)), w5, w6, w7, w8], []) else z_R 244 (m2, 24, [(2, 251), (0, b), (0, k), (0, g), (0, ((r + 1 : Nat) : Int)), w5, w6, w7, w8], [])) := b1
      rw [a1, b1]
      by_cases y : k < (o_F n heat cs D A r).1
      · rw [if_pos y, if_pos ⟨z, y⟩]
        exact ih (r + 1) _ _ _ _ _ _ _ m2 (by omega) b2
      · rw [if_neg y, if_neg (fun q => y q.2)]
        exact ih (r + 1) b k g _ _ _ _ m2 (by omega) b2
theorem V_look (hi : R_is w h n heat price D A c U kn KS cs m) (hN : w_N w h n heat D) (hok : hr_ok n A) (ht : 0 ≤ A 35 ∧ A 35 ≤ 1073741824) (h0 : w = 0 ↔ h = 0) : ∃ m1 v, z_R 244 (m, 0, [(2, 251), (9, 0), (9, 0), (9, 0), (9, 0), (9, 0), (9, 0), (9, 0), (9, 0)], []) = some (m1, some (0, v)) ∧ r_rw m m1 (ro_lr (o_lr w h (o_F n heat cs D A) 9 0 (-1) 0 0)) := by
  have hu := R_upn (p0 := 251) (k0 := 11) (v := 0) hi (by decide)
  have e := o_lr_w (n := n) (heat := heat) (cs := cs) (D := D) (A := A) hN.1.1 hN.1.2.1 h0
  rw [k_tlo_0, hi.1.1]
  by_cases z : w = 0
  · rw [if_pos (by omega)]
    exact ⟨_, _, rfl, r_rw_n (if_pos (e.mpr z))⟩
  · rw [if_neg (by omega)]
    obtain ⟨m1, g1, g2⟩ := V_look1 (mz := m) hN hok ht 9 0 (-1) 0 0 _ _ _ _ _ (by omega) hu
    exact ⟨m1, _, g1, r_rw_s (if_neg (fun y => z (e.mp y))) g2⟩
end
