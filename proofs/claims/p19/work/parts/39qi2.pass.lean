/-! HOURS GO BY, in both -/
section
variable {w h n : Nat} {heat price : Int} {D A : Nat → Int} {c : Nat} {U : Nat → Nat → Int} {kn : Nat → Int} {KS : Nat → Nat → Int} {cs : List Int} {m : z_M}
theorem C_cfg (hi : C_is w h n heat price D A c U kn KS cs m) : c_cfg w h n heat price (c_ml cs) (wmD D) m := by
  obtain ⟨⟨a1, a2, a3, a4, a5, a6, a7, a8⟩, b, -, -, -, f1, f2, f3, f4⟩ := hi
  exact ⟨a1, a2, a3, a4, a5, fun t ht p hp => cw_D a7 a8 b ht hp, K_rule_c f1 f2 f3 f4, a6⟩
theorem R_cfg (hi : R_is w h n heat price D A c U kn KS cs m) : r_cfg w h n heat price (c_ml cs) (wmD D) m := by
  obtain ⟨⟨a1, a2, a3, a4, a5, a6⟩, b, -, -, -, f⟩ := hi
  exact ⟨a1, a2, a3, a4, a5, fun t ht p hp => rwm_D a6 b ht hp, K_rule_r f⟩
theorem c_add {j : Nat} (m : z_M) (u : Int) (hj : j ≤ 8) (h : m 0 13 = (j : Int)) : z_R 79 (m, 0, [(2, 0), (1, u), (9, 0)], []) = some (z_up (z_up m 250 j u) 0 13 ((j + 1 : Nat) : Int), none) := by
  rw [s_add_0 m u (by omega), if_neg (by omega), h, Int.toNat_natCast, tc1]
theorem c_add0 {m : z_M} {u : Int} : z_R 79 (z_up m 0 13 0, 0, [(2, 0), (1, u), (9, 0)], []) = some (z_up (z_up (z_up m 0 13 0) 250 0 u) 0 13 1, none) := c_add (j := 0) (z_up m 0 13 0) u (by decide) zu_self
theorem c_add1 {m : z_M} {u : Int} : z_R 79 (z_up m 0 13 1, 0, [(2, 0), (1, u), (9, 0)], []) = some (z_up (z_up (z_up m 0 13 1) 250 1 u) 0 13 2, none) := c_add (j := 1) (z_up m 0 13 1) u (by decide) zu_self
theorem c_add2 {m : z_M} {u : Int} : z_R 79 (z_up m 0 13 2, 0, [(2, 0), (1, u), (9, 0)], []) = some (z_up (z_up (z_up m 0 13 2) 250 2 u) 0 13 3, none) := c_add (j := 2) (z_up m 0 13 2) u (by decide) zu_self
theorem c_tell2 (m : z_M) (u1 u2 : Int) : z_R 77 (m, 0, [(2, 0), (1, u1), (9, 0), (1, u2), (9, 0)], []) = some (z_up (z_up (z_up (z_up (z_up m 0 13 0) 250 0 u1) 0 13 1) 250 1 u2) 0 13 2, none) := by
  rw [s_tell2_0, s_tell0_0, zb_n, s_tell2_4, c_add0, zb_n, s_tell2_9, c_add1, zb_n, s_tell2_14]
theorem c_tell3 (m : z_M) (u1 u2 u3 : Int) : z_R 76 (m, 0, [(2, 0), (1, u1), (9, 0), (1, u2), (9, 0), (1, u3), (9, 0)], []) = some (z_up (z_up (z_up (z_up (z_up (z_up (z_up m 0 13 0) 250 0 u1) 0 13 1) 250 1 u2) 0 13 2) 250 2 u3) 0 13 3, none) := by
  rw [s_tell3_0, c_tell2, zb_n, s_tell3_6, c_add2, zb_n, s_tell3_12]
theorem C_tell3 (hi : C_is w h n heat price D A c U kn KS cs m) (u1 u2 u3 : Int) : C_is w h n heat price D A c U kn KS cs (z_up (z_up (z_up (z_up (z_up (z_up (z_up m 0 13 0) 250 0 u1) 0 13 1) 250 1 u2) 0 13 2) 250 2 u3) 0 13 3) := C_upn (C_upn (C_upn (C_upn (C_upn (C_upn (C_upn hi (by decide)) (by decide)) (by decide)) (by decide)) (by decide)) (by decide)) (by decide)
theorem t_tell {j : Nat} (m : z_M) (u : Int) (hj : j ≤ 15) (h : m 251 10 = (j : Int)) : z_R 210 (m, 0, [(2, 251), (1, u), (9, 0)], []) = some (z_up (z_up m 255 j u) 251 10 ((j + 1 : Nat) : Int), none) := by
  rw [t_tell_0 m u (by omega), h, Int.toNat_natCast, tc1]
theorem t_tell0 {m : z_M} {u : Int} : z_R 210 (z_up m 251 10 0, 0, [(2, 251), (1, u), (9, 0)], []) = some (z_up (z_up (z_up m 251 10 0) 255 0 u) 251 10 1, none) := t_tell (j := 0) (z_up m 251 10 0) u (by decide) zu_self
theorem t_tell1 {m : z_M} {u : Int} : z_R 210 (z_up m 251 10 1, 0, [(2, 251), (1, u), (9, 0)], []) = some (z_up (z_up (z_up m 251 10 1) 255 1 u) 251 10 2, none) := t_tell (j := 1) (z_up m 251 10 1) u (by decide) zu_self
theorem t_tell2 {m : z_M} {u : Int} : z_R 210 (z_up m 251 10 2, 0, [(2, 251), (1, u), (9, 0)], []) = some (z_up (z_up (z_up m 251 10 2) 255 2 u) 251 10 3, none) := t_tell (j := 2) (z_up m 251 10 2) u (by decide) zu_self
/-- what is told is told in these cells alone -/
theorem c_told2 {m : z_M} {u1 u2 : Int} {p k : Nat} (h0 : ¬ p = 0) (h1 : ¬ p = 250) : (z_up (z_up (z_up (z_up (z_up m 0 13 0) 250 0 u1) 0 13 1) 250 1 u2) 0 13 2) p k = m p k := by rw [zu_p h0, zu_p h1, zu_p h0, zu_p h1, zu_p h0]
theorem c_told3 {m : z_M} {u1 u2 u3 : Int} {p k : Nat} (h0 : ¬ p = 0) (h1 : ¬ p = 250) : (z_up (z_up (z_up (z_up (z_up (z_up (z_up m 0 13 0) 250 0 u1) 0 13 1) 250 1 u2) 0 13 2) 250 2 u3) 0 13 3) p k = m p k := by rw [zu_p h0, zu_p h1, zu_p h0, zu_p h1, zu_p h0, zu_p h1, zu_p h0]
theorem t_told2 {m : z_M} {u1 u2 a1 a2 : Int} {p k : Nat} (h0 : ¬ (p = 251 ∧ k = 10)) (h1 : ¬ p = 255) : (z_up (z_up (z_up (z_up (z_up m 251 10 0) 255 0 u1) 251 10 a1) 255 1 u2) 251 10 a2) p k = m p k := by rw [X_up h0, zu_p h1, X_up h0, zu_p h1, X_up h0]
theorem t_told3 {m : z_M} {u1 u2 u3 a1 a2 a3 : Int} {p k : Nat} (h0 : ¬ (p = 251 ∧ k = 10)) (h1 : ¬ p = 255) : (z_up (z_up (z_up (z_up (z_up (z_up (z_up m 251 10 0) 255 0 u1) 251 10 a1) 255 1 u2) 251 10 a2) 255 2 u3) 251 10 a3) p k = m p k := by rw [X_up h0, zu_p h1, X_up h0, zu_p h1, X_up h0, zu_p h1, X_up h0]
/-- hours from here on: all that is told of them -/
abbrev hr_R (w h : Nat) (heat price : Int) (cs : List Int) (D : Nat → Int) (n N : Nat) (A : Nat → Int) : (Nat → Int) × Int × Int × Int × Int := hr_H w h heat price (c_ml cs) (wmD D) n N A 0 0 0 0
theorem C_go {s : Nat} (hs : z_st s) (hs24 : ¬ s = 24) (hN : (w ≤ 3 ∧ h ≤ 3 ∧ n ≤ 5) ∧ (0 ≤ heat ∧ heat ≤ 9) ∧ ∀ t : Int, 0 ≤ t → ∀ p, p < 5 → 0 ≤ wmD D t p ∧ wmD D t p ≤ 9) {B : Nat → Int} (hok : hr_ok n B) (ht : 0 ≤ B 35 ∧ B 35 ≤ 1073741824) {N : Nat} (hN6 : N ≤ 1000000) (hi : C_is w h n heat price D A c U kn KS cs m) (hB : cS m s n = B) (k6 : m 24 6 = 0) (k7 : m 24 7 = 0) (k8 : m 24 8 = 0) (k9 : m 24 9 = 0) : ∃ m1, z_R 67 (m, 0, [(2, 24), (2, ((s : Nat) : Int)), (0, (N : Int)), (9, 0)], []) = some (m1, none) ∧ (cS m1 s n, m1 24 6, m1 24 7, m1 24 8, m1 24 9) = hr_R w h heat price cs D n N B ∧ z_same (c_LH s) m m1 := by
  obtain ⟨m1, a1, a2, a3⟩ := c_goOn hs hN.1.1 hN.1.2.1 (price := price) ⟨hN.1.2.2, hN.2.1, c_ml_ok cs, hN.2.2⟩ hN6 m (C_cfg hi) hB hok ht.1 (by omega) (by rw [k6]; decide +kernel) (by rw [k9]; decide +kernel)
  rw [k6, k7, k8, k9] at a2
  exact ⟨m1, a1, a2, a3⟩
theorem C_LH12 (hi : C_is w h n heat price D A c U kn KS cs m) {m1 : z_M} {B : Nat → Int} (hs : z_same (c_LH 12) m m1) (hB : cS m1 12 n = B) : C_is w h n heat price D B c U kn KS cs m1 := C_mkA hi (fun p k hk h1 => by
  have hk' := hk
  unfold C_hit at hk'
  have hk' := of_decide_eq_true hk'
  exact hs.of (by
    unfold c_LH
    (repeat' (first | exact trivial | refine z_of_c ?_ ?_)) <;> omega)) hB
theorem C_lpt (hi : C_is w h n heat price D A c U kn KS cs m) (hN : (w ≤ 3 ∧ h ≤ 3 ∧ n ≤ 5) ∧ (0 ≤ heat ∧ heat ≤ 9) ∧ ∀ t : Int, 0 ≤ t → ∀ p, p < 5 → 0 ≤ wmD D t p ∧ wmD D t p ≤ 9) (hok : hr_ok n A) (ht : 0 ≤ A 35 ∧ A 35 ≤ 1073741824) {N : Nat} (hN6 : N ≤ 60) : ∃ m1, ((z_R 67 (z_up (z_up (z_up (z_up m 24 6 0) 24 7 0) 24 8 0) 24 9 0, 0, [(2, 24), (2, 12), (0, (N : Int)), (9, 0)], [])).bind fun qq => z_R 65 (qq.1, 34, [(2, 0), (0, (N : Int))], qq.2.toList ++ [])) = some (m1, some (0, (hr_R w h heat price cs D n N A).2.1)) ∧ C_is w h n heat price D (hr_R w h heat price cs D n N A).1 c U kn KS cs m1 := by
  have h0 : C_is w h n heat price D A c U kn KS cs (z_up (z_up (z_up (z_up m 24 6 0) 24 7 0) 24 8 0) 24 9 0) := C_upn (C_upn (C_upn (C_upn hi (by decide)) (by decide)) (by decide)) (by decide)
  have k6 : (z_up (z_up (z_up (z_up m 24 6 0) 24 7 0) 24 8 0) 24 9 0) 24 6 = 0 := by rw [zu_k (by decide), zu_k (by decide), zu_k (by decide), zu_self]
  have k7 : (z_up (z_up (z_up (z_up m 24 6 0) 24 7 0) 24 8 0) 24 9 0) 24 7 = 0 := by rw [zu_k (by decide), zu_k (by decide), zu_self]
  have k8 : (z_up (z_up (z_up (z_up m 24 6 0) 24 7 0) 24 8 0) 24 9 0) 24 8 = 0 := by rw [zu_k (by decide), zu_self]
  have k9 : (z_up (z_up (z_up (z_up m 24 6 0) 24 7 0) 24 8 0) 24 9 0) 24 9 = 0 := zu_self
  generalize z_up (z_up (z_up (z_up m 24 6 0) 24 7 0) 24 8 0) 24 9 0 = m0 at h0 k6 k7 k8 k9 ⊢
  obtain ⟨m1, a1, a2, a3⟩ := C_go z_st_12 (by decide) hN hok ht (N := N) (by omega) h0 h0.2.2.1 k6 k7 k8 k9
  have a1 : z_R 67 (m0, 0, [(2, 24), (2, 12), (0, (N : Int)), (9, 0)], []) = some (m1, none) := a1
  generalize hr_R w h heat price cs D n N A = R at a2 ⊢
  subst a2
  have h1 := C_LH12 h0 a3 rfl
  rw [a1, zb_n, s_lp_34, c_tell3, zb_n, s_lp_62]
  rw [c_told3 (by decide) (by decide)]
  exact ⟨_, rfl, C_tell3 h1 _ _ _⟩
theorem C_lp (hi : C_is w h n heat price D A c U kn KS cs m) (hN : (w ≤ 3 ∧ h ≤ 3 ∧ n ≤ 5) ∧ (0 ≤ heat ∧ heat ≤ 9) ∧ ∀ t : Int, 0 ≤ t → ∀ p, p < 5 → 0 ≤ wmD D t p ∧ wmD D t p ≤ 9) (hok : hr_ok n A) (ht : 0 ≤ A 35 ∧ A 35 ≤ 1073741824) {N : Nat} (hN6 : N ≤ 60) : ∃ m1, z_R 65 (m, 0, [(2, 0), (0, (N : Int))], []) = some (m1, some (0, (hr_R w h heat price cs D n N A).2.1)) ∧ C_is w h n heat price D (hr_R w h heat price cs D n N A).1 (if N = 0 then c else c_inc c) (if N = 0 then U else u_cons A U) kn KS cs m1 := by
  rw [s_lp_0 m N (by omega)]
  by_cases z : N = 0
  · rw [if_pos (by omega), if_pos z, if_pos z]
    exact C_lpt hi hN hok ht hN6
  · rw [if_neg (by omega), if_neg z, if_neg z]
    obtain ⟨m1, a1, a2, -⟩ := C_rem hi (s := 12) (Or.inl rfl)
    rw [hi.2.2.1] at a2
    have a1 : z_R 60 (m, 0, [(2, 28), (2, 12)], []) = some (m1, none) := a1
    rw [a1, zb_n, s_lp_15]
    exact C_lpt a2 hN hok ht hN6
theorem C_hours_no (v : Int) (ok : ¬ (0 ≤ v ∧ v ≤ 60)) : z_R 80 (m, 0, [(2, 0), (0, v)], []) = some (m, some (0, -1)) := by
  rw [s_hours_0]
  by_cases h1 : v < 0
  · rw [if_pos h1]
  · rw [if_neg h1, if_neg (by omega)]
theorem C_hours (hi : C_is w h n heat price D A c U kn KS cs m) (hN : (w ≤ 3 ∧ h ≤ 3 ∧ n ≤ 5) ∧ (0 ≤ heat ∧ heat ≤ 9) ∧ ∀ t : Int, 0 ≤ t → ∀ p, p < 5 → 0 ≤ wmD D t p ∧ wmD D t p ≤ 9) (hok : hr_ok n A) (ht : 0 ≤ A 35 ∧ A 35 ≤ 1073741824) {N : Nat} (hN6 : N ≤ 60) : ∃ m1, z_R 80 (m, 0, [(2, 0), (0, (N : Int))], []) = some (m1, some (0, (hr_R w h heat price cs D n N A).2.1)) ∧ C_is w h n heat price D (hr_R w h heat price cs D n N A).1 (if N = 0 then c else c_inc c) (if N = 0 then U else u_cons A U) kn KS cs m1 := by
  obtain ⟨m1, a1, a2⟩ := C_lp hi hN hok ht hN6
  rw [s_hours_0, if_neg (by omega), if_pos (by omega), a1, zb_v, s_hours_17]
  exact ⟨m1, rfl, a2⟩
theorem C_hour1 (hi : C_is w h n heat price D A c U kn KS cs m) (hN : (w ≤ 3 ∧ h ≤ 3 ∧ n ≤ 5) ∧ (0 ≤ heat ∧ heat ≤ 9) ∧ ∀ t : Int, 0 ≤ t → ∀ p, p < 5 → 0 ≤ wmD D t p ∧ wmD D t p ≤ 9) (hok : hr_ok n A) (ht : 0 ≤ A 35 ∧ A 35 ≤ 1073741824) : ∃ m1, z_R 64 (m, 0, [(2, 0)], []) = some (m1, some (0, (hr_R w h heat price cs D n 1 A).2.1)) ∧ C_is w h n heat price D (hr_R w h heat price cs D n 1 A).1 (c_inc c) (u_cons A U) kn KS cs m1 := by
  obtain ⟨m1, a1, a2⟩ := C_lp hi hN hok ht (N := 1) (by decide)
  have a1 : z_R 65 (m, 0, [(2, 0), (0, 1)], []) = some (m1, some (0, (hr_R w h heat price cs D n 1 A).2.1)) := a1
  rw [if_neg (by decide), if_neg (by decide)] at a2
  rw [s_hour_0, a1, zb_v, s_hour_5]
  exact ⟨m1, rfl, a2⟩
theorem R_go {a : Nat} (ha : z_A 37 a) (ha2 : z_ab a) (hN : (w ≤ 3 ∧ h ≤ 3 ∧ n ≤ 5) ∧ (0 ≤ heat ∧ heat ≤ 9) ∧ ∀ t : Int, 0 ≤ t → ∀ p, p < 5 → 0 ≤ wmD D t p ∧ wmD D t p ≤ 9) {B : Nat → Int} (hok : hr_ok n B) (ht : 0 ≤ B 35 ∧ B 35 ≤ 1073741824) {N : Nat} (hN6 : N ≤ 1000000) (hi : R_is w h n heat price D A c U kn KS cs m) (hB : rS m a n = B) (k6 : m 251 32 = 0) (k7 : m 251 33 = 0) (k8 : m 251 34 = 0) (k9 : m 251 35 = 0) : ∃ m1, z_R 207 (m, 0, [(2, 251), (2, ((a : Nat) : Int)), (0, (N : Int)), (9, 0)], []) = some (m1, none) ∧ (rS m1 a n, m1 251 32, m1 251 33, m1 251 34, m1 251 35) = hr_R w h heat price cs D n N B ∧ z_same (r_LHs a) m m1 := by
  obtain ⟨m1, a1, a2, a3⟩ := r_goHours ha ha2 hN.1.1 hN.1.2.1 (price := price) ⟨hN.1.2.2, hN.2.1, c_ml_ok cs, hN.2.2⟩ hN6 m (R_cfg hi) hB hok ht.1 (by omega)
  rw [k6, k7, k8, k9] at a2
  exact ⟨m1, a1, a2, a3⟩
theorem R_LH252 (hi : R_is w h n heat price D A c U kn KS cs m) {m1 : z_M} {B : Nat → Int} (hs : z_same (r_LHs 252) m m1) (hB : rS m1 252 n = B) : R_is w h n heat price D B c U kn KS cs m1 := R_mkA hi (fun p k hk h1 => by
  have hk' := hk
  unfold R_hit at hk'
  have hk' := of_decide_eq_true hk'
  exact hs.of (by
    unfold r_LHs
    (repeat' (first | exact trivial | refine z_of_c ?_ ?_)) <;> omega)) hB
theorem R_lpt (hi : R_is w h n heat price D A c U kn KS cs m) (hN : (w ≤ 3 ∧ h ≤ 3 ∧ n ≤ 5) ∧ (0 ≤ heat ∧ heat ≤ 9) ∧ ∀ t : Int, 0 ≤ t → ∀ p, p < 5 → 0 ≤ wmD D t p ∧ wmD D t p ≤ 9) (hok : hr_ok n A) (ht : 0 ≤ A 35 ∧ A 35 ≤ 1073741824) {N : Nat} (hN6 : N ≤ 60) : ∃ m1, ((z_R 207 (z_up (z_up (z_up (z_up m 251 32 0) 251 33 0) 251 34 0) 251 35 0, 0, [(2, 251), (2, 252), (0, (N : Int)), (9, 0)], [])).bind fun qq => z_R 205 (qq.1, 42, [(2, 251), (0, (N : Int))], qq.2.toList ++ [])) = some (m1, some (0, (hr_R w h heat price cs D n N A).2.1)) ∧ R_is w h n heat price D (hr_R w h heat price cs D n N A).1 c U kn KS cs m1 := by
  have h0 : R_is w h n heat price D A c U kn KS cs (z_up (z_up (z_up (z_up m 251 32 0) 251 33 0) 251 34 0) 251 35 0) := R_upn (R_upn (R_upn (R_upn hi (by decide)) (by decide)) (by decide)) (by decide)
  have k6 : (z_up (z_up (z_up (z_up m 251 32 0) 251 33 0) 251 34 0) 251 35 0) 251 32 = 0 := by rw [zu_k (by decide), zu_k (by decide), zu_k (by decide), zu_self]
  have k7 : (z_up (z_up (z_up (z_up m 251 32 0) 251 33 0) 251 34 0) 251 35 0) 251 33 = 0 := by rw [zu_k (by decide), zu_k (by decide), zu_self]
  have k8 : (z_up (z_up (z_up (z_up m 251 32 0) 251 33 0) 251 34 0) 251 35 0) 251 34 = 0 := by rw [zu_k (by decide), zu_self]
  have k9 : (z_up (z_up (z_up (z_up m 251 32 0) 251 33 0) 251 34 0) 251 35 0) 251 35 = 0 := zu_self
  generalize z_up (z_up (z_up (z_up m 251 32 0) 251 33 0) 251 34 0) 251 35 0 = m0 at h0 k6 k7 k8 k9 ⊢
  obtain ⟨m1, a1, a2, a3⟩ := R_go z_A_252 (Or.inl rfl) hN hok ht (N := N) (by omega) h0 h0.2.2.1 k6 k7 k8 k9
  have a1 : z_R 207 (m0, 0, [(2, 251), (2, 252), (0, (N : Int)), (9, 0)], []) = some (m1, none) := a1
  generalize hr_R w h heat price cs D n N A = R at a2 ⊢
  subst a2
  have h1 := R_LH252 h0 a3 rfl
  rw [a1, zb_n, t_hours_42 m1 N (by omega)]
  have e32 : ∀ v, (z_up m1 251 10 v) 251 32 = m1 251 32 := fun v => zu_k (by decide)
  rw [t_tell0, zb_n, t_hours_56, t_tell1, zb_n, t_hours_65, t_tell2, zb_n, t_hours_77]
  rw [t_told3 (by decide) (by decide)]
  exact ⟨_, rfl, R_upn (R_upn (R_upn (R_upn (R_upn (R_upn (R_upn h1 (by decide)) (by decide)) (by decide)) (by decide)) (by decide)) (by decide)) (by decide)⟩
theorem R_lp (hi : R_is w h n heat price D A c U kn KS cs m) (hN : (w ≤ 3 ∧ h ≤ 3 ∧ n ≤ 5) ∧ (0 ≤ heat ∧ heat ≤ 9) ∧ ∀ t : Int, 0 ≤ t → ∀ p, p < 5 → 0 ≤ wmD D t p ∧ wmD D t p ≤ 9) (hok : hr_ok n A) (ht : 0 ≤ A 35 ∧ A 35 ≤ 1073741824) {N : Nat} (hN6 : N ≤ 60) : ∃ m1, z_R 205 (m, 0, [(2, 251), (0, (N : Int))], []) = some (m1, some (0, (hr_R w h heat price cs D n N A).2.1)) ∧ R_is w h n heat price D (hr_R w h heat price cs D n N A).1 (if N = 0 then c else c_inc c) (if N = 0 then U else u_cons A U) kn KS cs m1 := by
  have hu := R_upn (p0 := 251) (k0 := 11) (v := 0) hi (by decide)
  rw [t_hours_0, if_pos (by omega)]
  generalize z_up m 251 11 0 = m0 at hu ⊢
  by_cases z : N = 0
  · rw [if_pos (by omega), if_pos z, if_pos z]
    exact R_lpt hu hN hok ht hN6
  · rw [if_neg (by omega), if_neg z, if_neg z]
    obtain ⟨m1, a1, a2, -⟩ := R_rem hu (a := 252) (Or.inl rfl)
    rw [hu.2.2.1] at a2
    have a1 : z_R 197 (m0, 0, [(2, 251), (2, 252), (9, 0)], []) = some (m1, none) := a1
    rw [a1, zb_n, t_hours_29]
    exact R_lpt a2 hN hok ht hN6
theorem R_hours_no (hi : R_is w h n heat price D A c U kn KS cs m) (v : Int) (ok : ¬ (0 ≤ v ∧ v ≤ 60)) : ∃ m1, z_R 205 (m, 0, [(2, 251), (0, v)], []) = some (m1, some (0, -1)) ∧ R_is w h n heat price D A c U kn KS cs m1 := by
  refine ⟨z_up m 251 11 0, ?_, R_upn hi (by decide)⟩
  rw [t_hours_0, if_neg ok]
theorem R_hour1 (hi : R_is w h n heat price D A c U kn KS cs m) (hN : (w ≤ 3 ∧ h ≤ 3 ∧ n ≤ 5) ∧ (0 ≤ heat ∧ heat ≤ 9) ∧ ∀ t : Int, 0 ≤ t → ∀ p, p < 5 → 0 ≤ wmD D t p ∧ wmD D t p ≤ 9) (hok : hr_ok n A) (ht : 0 ≤ A 35 ∧ A 35 ≤ 1073741824) : ∃ m1, z_R 204 (m, 0, [(2, 251)], []) = some (m1, some (0, (hr_R w h heat price cs D n 1 A).2.1)) ∧ R_is w h n heat price D (hr_R w h heat price cs D n 1 A).1 (c_inc c) (u_cons A U) kn KS cs m1 := by
  obtain ⟨m1, a1, a2⟩ := R_lp hi hN hok ht (N := 1) (by decide)
  have a1 : z_R 205 (m, 0, [(2, 251), (0, 1)], []) = some (m1, some (0, (hr_R w h heat price cs D n 1 A).2.1)) := a1
  rw [if_neg (by decide), if_neg (by decide)] at a2
  rw [t_hour_0, a1, zb_v, t_hour_5]
  exact ⟨m1, rfl, a2⟩
end
