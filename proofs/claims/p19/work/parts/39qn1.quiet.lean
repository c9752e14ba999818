/-! quiet leaves what both are in -/
/-- a cell that each way out says to be v, but where the answer is -1 -/
noncomputable def md_vr (y p k : Nat) (v : Int) : Bool := (cs_at y).all fun C => C.2.2.2.2.2.2.2.1.all fun q => (q.2.2.2.any fun u => Nat.beq u.1.1 p && (Nat.beq u.1.2 k && (Nat.beq u.2.1 0 && i_eq u.2.2.2 v))) || (match q.2.2.1 with
  | some a => Nat.beq a.1 0 && i_eq a.2.2 (-1)
  | none => false)
theorem md_vr_ok {y p k : Nat} {v : Int} (h : md_vr y p k v = true) {C : A_C} (hC : C ∈ cs_at y) {T : Int} {ρ : List Int} {σ σ' : m_H} {x : Int32} (hp : c_post C.2.2.2.2.2.2.2.1 C.2.2.2.2.1 T ρ σ (some (.int x)) σ') : z_m σ' p k = v ∨ x.toInt = -1 := by
  obtain ⟨q, hq, ρ', c1, c2, c3, c4, c5, c6, c7⟩ := hp
  have hb := List.all_eq_true.mp (List.all_eq_true.mp h C hC) q hq
  rcases Bool.or_eq_true _ _ |>.mp hb with hb | hb
  · obtain ⟨u, hu, hb⟩ := List.any_eq_true.mp hb
    obtain ⟨b1, hb⟩ := Bool.and_eq_true _ _ |>.mp hb
    obtain ⟨b2, hb⟩ := Bool.and_eq_true _ _ |>.mp hb
    obtain ⟨b3, b4⟩ := Bool.and_eq_true _ _ |>.mp hb
    have g1 := Nat.eq_of_beq_eq_true b1
    have g2 := Nat.eq_of_beq_eq_true b2
    have g3 := Nat.eq_of_beq_eq_true b3
    have g4 := i_eq_iff.mp b4
    obtain ⟨z, v1, v2⟩ := c6 u hu
    clear b1 b2 b3 b4
    obtain ⟨⟨up, uk⟩, ut, un, uc⟩ := u
    try simp only at g1 g2 g3 g4 v1 v2
    subst g1; subst g2; subst g3; subst g4
    obtain ⟨x', rfl, hx⟩ : ∃ x : Int32, z = .int x ∧ x.toInt = uc := v2
    refine Or.inl ?_
    unfold z_m
    rw [v1]
    exact hx
  · obtain ⟨qe, qf, qa, qo⟩ := q
    cases qa with
    | none => cases hb
    | some a =>
      have hb : (Nat.beq a.1 0 && i_eq a.2.2 (-1)) = true := hb
      obtain ⟨b1, b2⟩ := Bool.and_eq_true _ _ |>.mp hb
      have g1 := Nat.eq_of_beq_eq_true b1
      have g2 := i_eq_iff.mp b2
      obtain ⟨ut, un, uc⟩ := a
      try simp only at g1 g2
      subst g1; subst g2
      obtain ⟨x', e, hx⟩ : ∃ x' : Int32, Value.int x = .int x' ∧ x'.toInt = -1 := c4
      cases e
      exact Or.inr hx
theorem i32_and63 (y : Int32) : (y &&& Int32.ofInt 63).toInt = y.toInt % 64 := by
  have h1 : (y &&& Int32.ofInt 63).toBitVec.toNat = y.toBitVec.toNat % 64 := by
    show (y.toBitVec &&& 63#32).toNat = _
    rw [BitVec.toNat_and]
    exact Nat.and_two_pow_sub_one_eq_mod _ 6
  have h2 := i32_ofNat (x := y &&& Int32.ofInt 63) (by rw [h1]; omega)
  have h3 : y.toInt = y.toBitVec.toInt := rfl
  rw [h2, h1, h3, BitVec.toInt_eq_toNat_cond]
  have := y.toBitVec.isLt
  split <;> omega
theorem z_and63 (a : Int) : 0 ≤ z_and a 63 := by
  have : z_and a 63 = (Int32.ofInt a).toInt % 64 := i32_and63 _
  omega
theorem q_bcn (m : z_M) (a : Int) : ∃ v, z_R 101 (m, 0, [(0, a)], []) = some (m, some (0, v)) ∧ 0 ≤ v := by
  rw [q_bc_0]
  exact ⟨_, rfl, z_and63 _⟩
theorem q_qlp (x1 : Int) : ∀ (f x : Nat) (m m' : z_M) (v : Int), x + f = 30 → z_R 110 (m, 37, [(2, 0), (0, x1), (0, (x : Int))], []) = some (m', some (0, v)) → 0 ≤ v := by
  intro f
  induction f with
  | zero =>
    intro x m m' v hx hz
    obtain ⟨u, hu, h0⟩ := q_bcn m (m 140 5)
    rw [q_qui_37, if_pos (by omega), hu, zb_v, q_qui_79] at hz
    have := congrArg (fun z : z_Q => (z.2.getD (0, 0)).2) (Option.some.inj hz)
    have : u = v := this
    omega
  | succ f ih =>
    intro x m m' v hx hz
    rw [q_qui_37, if_neg (by omega), z_add_eq (by omega) (by omega), tc1] at hz
    by_cases c : z_and (z_shr (m 140 5) (x : Int)) 1 = 0
    · rw [if_pos c] at hz
      exact ih (x + 1) _ _ _ (by omega) hz
    · rw [if_neg c, q_add_0] at hz
      by_cases c1 : 9 ≤ m 0 13
      · rw [if_pos c1, zb_n, q_qui_63, z_add_eq (by omega) (by omega), tc1] at hz
        exact ih (x + 1) _ _ _ (by omega) hz
      rw [if_neg c1] at hz
      by_cases c2 : 0 ≤ m 0 13 ∧ m 0 13 < 9
      · rw [if_pos c2, zb_n, q_qui_63, z_add_eq (by omega) (by omega), tc1] at hz
        exact ih (x + 1) _ _ _ (by omega) hz
      · rw [if_neg c2] at hz
        exact absurd (show (none : Option z_Q) = some (m', some (0, v)) from hz) (fun z => by cases z)
/-- the class: in the hours it can be asked for it never answers -1; else nothing is done -/
theorem q_cq (m m' : z_M) (a v : Int) (hz : z_R 110 (m, 0, [(2, 0), (0, a), (9, 0)], []) = some (m', some (0, v))) : m' = m ∨ ¬ v = -1 := by
  rw [q_qui_0] at hz
  by_cases c1 : a < 1
  · rw [if_pos c1] at hz
    exact Or.inl (congrArg Prod.fst (Option.some.inj hz)).symm
  rw [if_neg c1] at hz
  by_cases c2 : a ≤ 40
  · rw [if_pos c2] at hz
    obtain ⟨r, h1, h2⟩ := Option.bind_eq_some_iff.mp hz
    obtain ⟨u, hu⟩ := z_tag (y := 111) (by decide +kernel) h1
    obtain ⟨mr, vr⟩ := r
    try simp only at hu
    subst hu
    change z_R 110 (mr, 25, [(2, 0), (0, a), (9, 0)], [(0, u)]) = some (m', some (0, v)) at h2
    rw [q_qui_25] at h2
    by_cases c3 : u = 0
    · rw [if_pos c3] at h2
      have : (-2 : Int) = v := congrArg (fun z : z_Q => (z.2.getD (0, 0)).2) (Option.some.inj h2)
      exact Or.inr (by omega)
    · rw [if_neg c3, s_tell0_0, zb_n, q_qui_35] at h2
      have := q_qlp a 30 0 _ _ _ (by decide) h2
      exact Or.inr (by omega)
  · rw [if_neg c2] at hz
    exact Or.inl (congrArg Prod.fst (Option.some.inj hz)).symm
section
variable {w h n : Nat} {heat price : Int} {D A : Nat → Int} {c : Nat} {U : Nat → Nat → Int} {kn : Nat → Int} {KS : Nat → Nat → Int} {cs : List Int} {m : z_M}
/-- the column of doings left off is none again -/
theorem C_frq {m' : z_M} (hi : C_is w h n heat price D A c U kn KS cs m) (h5 : m' 24 5 = 0) (hf : ∀ p k, C_hit p k k = true → ¬ (p = 24 ∧ k = 5) → m' p k = m p k) : C_is w h n heat price D A c U kn KS cs m' := by
  have hi' : C_is w h n heat price D A c U kn KS cs (z_up m' 24 5 (m 24 5)) := C_fr hi fun p k hk => by
    by_cases e : p = 24 ∧ k = 5
    · rw [e.1, e.2, zu_self]
    · rw [X_up e]
      exact hf p k hk e
  have e : z_up m' 24 5 (m 24 5) = m' := by
    rw [hi.1.2.2.2.2.2.2.2, ← h5]
    exact zu_id
  rw [e] at hi'
  exact hi'
/-! the reference -/
theorem R_dz (hi : R_is w h n heat price D A c U kn KS cs m) {a : Nat} (ha : a < 30) (v : Int) : R_is w h n heat price (u_up D a v) A c U kn KS cs (z_up m 253 a v) := by
  refine R_mk0 hi ((zu_p (by decide)).trans hi.1.2.2.2.1) ((zu_p (by decide)).trans hi.1.2.2.2.2.1) (fun j hj => ?_) (fun p k _ _ h1 _ _ => zu_p h1) ?_ (r_un_fr hi.2.2.2.1 (fun p k hp => zu_p (by omega)))
  · rw [zu_at]
    unfold u_up
    exact z_ifc (fun _ => rfl) (fun _ => hi.2.1 j hj)
  · rw [rS_row (zu_rowne (by decide))]
    exact hi.2.2.1
theorem R_Dcg {D' : Nat → Int} (hi : R_is w h n heat price D A c U kn KS cs m) (he : ∀ j, j < 30 → D j = D' j) : R_is w h n heat price D' A c U kn KS cs m := ⟨hi.1, fun j hj => (hi.2.1 j hj).trans (he j hj), hi.2.2⟩
def q_D (D : Nat → Int) : Prop := ∀ j, j < 30 → 0 ≤ D j ∧ D j ≤ 9
theorem q_D_N (hw : w ≤ 3 ∧ h ≤ 3 ∧ n ≤ 5) (hh : 0 ≤ heat ∧ heat ≤ 9) (hD : q_D D) : w_N w h n heat D := ⟨hw, hh, fun t ht p hp => by
  have hm : 0 ≤ t % 6 ∧ t % 6 < 6 := ⟨Int.emod_nonneg _ (by decide), Int.emod_lt_of_pos _ (by decide)⟩
  exact hD _ (by omega)⟩
theorem R_lo (hi : R_is w h n heat price D A c U kn KS cs m) (hD : q_D D) {a : Int} (ha : a = -1 ∨ (0 ≤ a ∧ a < 30)) : ∃ m1 v D1, z_R 235 (m, 0, [(2, 251), (0, a), (9, 0)], []) = some (m1, some (0, v)) ∧ q_D D1 ∧ R_is w h n heat price D1 A c U kn KS cs m1 ∧ ∀ m2, R_is w h n heat price D1 A c U kn KS cs m2 → ∃ m3, z_R 236 (m2, 0, [(2, 251), (0, a), (0, v)], []) = some (m3, none) ∧ R_is w h n heat price D A c U kn KS cs m3 := by
  rw [q_lo_0]
  by_cases c1 : a = -1
  · rw [if_pos c1]
    exact ⟨m, 0, D, rfl, hD, hi, fun m2 h2 => ⟨m2, by rw [q_tu_0, if_pos c1], h2⟩⟩
  · have hb : 0 ≤ a ∧ a < 30 := by omega
    rw [if_neg c1, if_pos hb]
    refine ⟨_, _, u_up D a.toNat 0, rfl, fun j hj => ?_, R_dz hi (by omega) 0, fun m2 h2 => ?_⟩
    · unfold u_up
      by_cases e : j = a.toNat
      · rw [if_pos e]; omega
      · rw [if_neg e]; exact hD j hj
    · rw [q_tu_0, if_neg c1, if_pos hb]
      refine ⟨_, rfl, R_Dcg (R_dz h2 (a := a.toNat) (by omega) (m 253 a.toNat)) fun j hj => ?_⟩
      unfold u_up
      by_cases e : j = a.toNat
      · rw [if_pos e, e]; exact hi.2.1 a.toNat (by omega)
      · rw [if_neg e, if_neg e]
theorem q_iceq : ∀ (f x : Nat) (b : Int) (m : z_M), x + f = 9 → ∃ v, z_R 222 (m, 4, [(2, 251), (0, b), (0, (x : Int))], []) = some (m, some (0, v)) := by
  intro f
  induction f with
  | zero =>
    intro x b m hx
    rw [q_ice_4, if_pos (by omega)]
    exact ⟨_, rfl⟩
  | succ f ih =>
    intro x b m hx
    rw [q_ice_4, if_neg (by omega), z_add_eq (by omega) (by omega), tc1]
    by_cases c1 : ¬ u_hs (m 251 1) (m 251 2) (x : Int) = 0
    · rw [if_pos c1]
      by_cases c2 : m 252 (x : Int).toNat ≤ 0
      · rw [if_pos c2]; exact ih (x + 1) _ m (by omega)
      · rw [if_neg c2]; exact ih (x + 1) _ m (by omega)
    · rw [if_neg c1]; exact ih (x + 1) _ m (by omega)
theorem q_thaq : ∀ (f x : Nat) (b : Int) (m : z_M), x + f = 9 → ∃ v, z_R 223 (m, 4, [(2, 251), (2, 264), (0, b), (0, (x : Int))], []) = some (m, some (0, v)) := by
  intro f
  induction f with
  | zero =>
    intro x b m hx
    rw [q_tha_4, if_pos (by omega)]
    exact ⟨_, rfl⟩
  | succ f ih =>
    intro x b m hx
    rw [q_tha_4, if_neg (by omega), z_add_eq (by omega) (by omega), tc1]
    by_cases c1 : ¬ u_hs (m 251 1) (m 251 2) (x : Int) = 0
    · rw [if_pos c1]
      by_cases c2 : m 264 (x : Int).toNat = 0
      · rw [if_pos c2]; exact ih (x + 1) _ m (by omega)
      · rw [if_neg c2]; exact ih (x + 1) _ m (by omega)
    · rw [if_neg c1]; exact ih (x + 1) _ m (by omega)
theorem R_off264 (hi : R_is w h n heat price D A c U kn KS cs m) {m1 : z_M} (hs : z_same (r_LHs 264) m m1) : R_is w h n heat price D A c U kn KS cs m1 := R_fr hi fun p k hk => by
  have hk' := hk
  unfold R_hit at hk'
  have hk' := of_decide_eq_true hk'
  exact hs.of (by (try unfold r_LHs); (repeat' (first | exact trivial | refine z_of_c ?_ ?_)) <;> omega)
theorem R_stands1 {x2 : Int} {N : Nat} (hN6 : N ≤ 1000) (hN : w_N w h n heat D) : ∀ (f x : Nat) (m : z_M) (B : Nat → Int), x + f = N → R_is w h n heat price D A c U kn KS cs m → rS m 264 n = B → hr_ok n B → 0 ≤ B 35 → B 35 + (f : Int) ≤ 2147483647 → ∃ m1 v, z_R 221 (m, 7, [(2, 251), (0, (N : Int)), (0, x2), (0, (x : Int))], []) = some (m1, some (0, v)) ∧ z_same (r_LHs 264) m m1 := by
  intro f
  induction f with
  | zero =>
    intro x m B hx hi hB hok ht ht2
    rw [q_sta_7, if_pos (by omega)]
    exact ⟨m, _, rfl, z_same.rf⟩
  | succ f ih =>
    intro x m B hx hi hB hok ht ht2
    obtain ⟨m1, a1, a2, a3, a4, a5, a6, a7⟩ := r_hour (a := 264) z_A_264 (Or.inr rfl) hN.1.1 hN.1.2.1 (price := price) ⟨hN.1.2.2, hN.2.1, c_ml_ok cs, hN.2.2⟩ m (R_cfg hi) hB hok ht (by omega)
    have a1 : z_R 208 (m, 0, [(2, 251), (2, 264), (9, 0), (9, 0), (9, 0)], []) = some (m1, none) := a1
    have s1 : z_same (r_LHs 264) m m1 := a7.subo (by (try unfold r_LHs); (repeat' (first | exact trivial | refine z_sbo_c ?_ ?_)) <;> (intro k h1 h2; first | exact z_on_h rfl (by omega) (by omega) | exact z_on_t (z_on_h rfl (by omega) (by omega)) | exact z_on_t (z_on_t (z_on_h rfl (by omega) (by omega))) | exact z_on_t (z_on_t (z_on_t (z_on_h rfl (by omega) (by omega)))) | exact z_on_t (z_on_t (z_on_t (z_on_t (z_on_h rfl (by omega) (by omega))))) | exact z_on_t (z_on_t (z_on_t (z_on_t (z_on_t (z_on_h rfl (by omega) (by omega)))))) | exact z_on_t (z_on_t (z_on_t (z_on_t (z_on_t (z_on_t (z_on_h rfl (by omega) (by omega))))))) | exact z_on_t (z_on_t (z_on_t (z_on_t (z_on_t (z_on_t (z_on_t (z_on_h rfl (by omega) (by omega)))))))) | exact z_on_t (z_on_t (z_on_t (z_on_t (z_on_t (z_on_t (z_on_t (z_on_t (z_on_h rfl (by omega) (by omega))))))))) | exact z_on_t (z_on_t (z_on_t (z_on_t (z_on_t (z_on_t (z_on_t (z_on_t (z_on_t (z_on_h rfl (by omega) (by omega)))))))))) | exact z_on_t (z_on_t (z_on_t (z_on_t (z_on_t (z_on_t (z_on_t (z_on_t (z_on_t (z_on_t (z_on_h rfl (by omega) (by omega))))))))))) | exact z_on_t (z_on_t (z_on_t (z_on_t (z_on_t (z_on_t (z_on_t (z_on_t (z_on_t (z_on_t (z_on_t (z_on_h rfl (by omega) (by omega)))))))))))) | exact z_on_t (z_on_t (z_on_t (z_on_t (z_on_t (z_on_t (z_on_t (z_on_t (z_on_t (z_on_t (z_on_t (z_on_t (z_on_h rfl (by omega) (by omega)))))))))))))))
    obtain ⟨v, hv⟩ := q_thaq 9 0 0 m1 (by decide)
    have hv : z_R 223 (m1, 4, [(2, 251), (2, 264), (0, 0), (0, 0)], []) = some (m1, some (0, v)) := hv
    rw [q_sta_7, if_neg (by omega), a1, zb_n, q_sta_20, q_tha_0, hv, zb_v, q_sta_28, z_add_eq (by omega) (by omega), tc1]
    by_cases c1 : z_and v x2 = 0
    · rw [if_pos c1]
      have hok' := hr_A_ok (price := price) hN.1.1 hN.1.2.1 hN.1.2.2 hN.2.1 (c_ml_ok cs) (hN.2.2 (B 35) ht) hok
      have e35 : hr_A w h heat price (c_ml cs) (wmD D (B 35)) n B 35 = B 35 + 1 := by rw [hr_A_35 hN.1.1 hN.1.2.1 hN.1.2.2, z_add_eq (by omega) (by omega)]
      obtain ⟨m2, u, b1, b2⟩ := ih (x + 1) m1 _ (by omega) (R_off264 hi s1) a2 hok' (by rw [e35]; omega) (by rw [e35]; omega)
      exact ⟨m2, u, b1, s1.tr b2⟩
    · rw [if_neg c1]
      exact ⟨m1, _, rfl, s1⟩
theorem R_lt (hi : R_is w h n heat price D A c U kn KS cs m) : ∃ m1, z_R 219 (m, 0, [(2, 251)], []) = some (m1, none) ∧ R_is w h n heat price D A c U kn KS cs m1 ∧ rS m1 264 n = A := by
  obtain ⟨m1, b1, b2, b3⟩ := t_layd (a := 252) (q := 264) (B := 0) t_lay264_0 t_lay264_2 (by decide) (b := 0) (by decide) m
  have b1 : z_R 198 (m, 0, [(2, 252), (2, 264), (0, 0), (9, 0)], []) = some (m1, none) := b1
  rw [q_lt_0, b1, zb_n, q_lt_12]
  refine ⟨m1, rfl, R_fr hi fun p k hk => ?_, ?_⟩
  · have hk' := hk
    unfold R_hit at hk'
    have hk' := of_decide_eq_true hk'
    exact b3 p k (by omega)
  · rw [← hi.2.2.1]
    refine rS_cp fun k hk => ?_
    have := b2 k hk
    rw [Nat.zero_add] at this
    exact this
theorem R_stands (hN : w_N w h n heat D) (hok : hr_ok n A) (ht : 0 ≤ A 35 ∧ A 35 ≤ 1073741824) (hi : R_is w h n heat price D A c U kn KS cs m) (hB : rS m 264 n = A) {N : Nat} (hN6 : N ≤ 1000) : ∃ m1 v, z_R 221 (m, 0, [(2, 251), (0, (N : Int)), (9, 0), (9, 0)], []) = some (m1, some (0, v)) ∧ R_is w h n heat price D A c U kn KS cs m1 := by
  obtain ⟨v, hv⟩ := q_iceq 9 0 0 m (by decide)
  have hv : z_R 222 (m, 4, [(2, 251), (0, 0), (0, 0)], []) = some (m, some (0, v)) := hv
  obtain ⟨m1, u, a1, a2⟩ := R_stands1 (x2 := v) hN6 hN N 0 m A (by omega) hi hB hok ht.1 (by omega)
  have a1 : z_R 221 (m, 7, [(2, 251), (0, (N : Int)), (0, v), (0, 0)], []) = some (m1, some (0, u)) := a1
  rw [q_sta_0, q_ice_0, hv, zb_v, q_sta_4, a1]
  exact ⟨m1, u, rfl, R_off264 hi a2⟩
theorem R_isq (hw : w ≤ 3 ∧ h ≤ 3 ∧ n ≤ 5) (hh : 0 ≤ heat ∧ heat ≤ 9) (hD : q_D D) (hok : hr_ok n A) (ht : 0 ≤ A 35 ∧ A 35 ≤ 1073741824) (hi : R_is w h n heat price D A c U kn KS cs m) {N : Nat} (hN6 : N ≤ 40) {a b d : Int} (ha : a = -1 ∨ (0 ≤ a ∧ a < 30)) (hb : b = -1 ∨ (0 ≤ b ∧ b < 30)) (hd : d = -1 ∨ (0 ≤ d ∧ d < 30)) : ∃ m1 v, z_R 234 (m, 0, [(2, 251), (0, (N : Int)), (0, a), (0, b), (0, d), (9, 0), (9, 0), (9, 0), (9, 0)], []) = some (m1, some (0, v)) ∧ R_is w h n heat price D A c U kn KS cs m1 := by
  obtain ⟨m1, v1, D1, a1, a2, a3, a4⟩ := R_lo hi hD ha
  obtain ⟨m2, v2, D2, b1, b2, b3, b4⟩ := R_lo a3 a2 hb
  obtain ⟨m3, v3, D3, c1, c2, c3, c4⟩ := R_lo b3 b2 hd
  obtain ⟨m4, d1, d2, d3⟩ := R_lt c3
  obtain ⟨m5, v5, e1, e2⟩ := R_stands (q_D_N hw hh c2) hok ht d2 d3 (N := N) (by omega)
  obtain ⟨m6, f1, f2⟩ := c4 m5 e2
  obtain ⟨m7, g1, g2⟩ := b4 m6 f2
  obtain ⟨m8, k1, k2⟩ := a4 m7 g2
  rw [q_isq_0, a1, zb_v, q_isq_5, b1, zb_v, q_isq_12, c1, zb_v, q_isq_20, d1, zb_n, q_isq_26, e1, zb_v, q_isq_31]
  by_cases z : v5 = (N : Int)
  · rw [if_pos z, f1, zb_n, q_isq_50, g1, zb_n, q_isq_57, k1, zb_n, q_isq_64]
    exact ⟨m8, _, rfl, k2⟩
  · rw [if_neg z, f1, zb_n, q_isq_50, g1, zb_n, q_isq_57, k1, zb_n, q_isq_64]
    exact ⟨m8, _, rfl, k2⟩
theorem R_tq (hi : R_is w h n heat price D A c U kn KS cs m) {q : Int} (hq : 0 ≤ q ∧ q ≤ 3) (a b d : Int) : ∃ m1, z_R 237 (m, 0, [(2, 251), (0, q), (0, a), (0, b), (0, d)], []) = some (m1, some (0, q)) ∧ R_is w h n heat price D A c U kn KS cs m1 := by
  rw [q_tq_0 m q a b d hq]
  by_cases c0 : q ≤ 0
  · rw [if_pos c0]
    exact ⟨_, rfl, R_upn hi (by decide)⟩
  have h1 := R_upn (p0 := 255) (k0 := 0) (v := z_i2l a) (R_upn (p0 := 251) (k0 := 10) (v := 0) hi (by decide)) (by decide)
  rw [if_neg c0, t_tell0, zb_n, q_tq_15]
  by_cases c1 : q ≤ 1
  · rw [if_pos c1]
    exact ⟨_, rfl, R_upn h1 (by decide)⟩
  rw [if_neg c1, t_tell1, zb_n, q_tq_26]
  by_cases c2 : q ≤ 2
  · rw [if_pos c2]
    exact ⟨_, rfl, R_upn (R_upn (R_upn h1 (by decide)) (by decide)) (by decide)⟩
  rw [if_neg c2, t_tell2, zb_n, q_tq_38]
  exact ⟨_, rfl, R_upn (R_upn (R_upn (R_upn (R_upn h1 (by decide)) (by decide)) (by decide)) (by decide)) (by decide)⟩
/-- what the loops of quiet come to -/
def q_qE (w h n : Nat) (heat price : Int) (D A : Nat → Int) (c : Nat) (U : Nat → Nat → Int) (kn : Nat → Int) (KS : Nat → Nat → Int) (cs : List Int) (X : Option z_Q) : Prop := ∃ m1 v, X = some (m1, some (0, v)) ∧ R_is w h n heat price D A c U kn KS cs m1
theorem R_quiet (hw : w ≤ 3 ∧ h ≤ 3 ∧ n ≤ 5) (hh : 0 ≤ heat ∧ heat ≤ 9) (hD : q_D D) (hok : hr_ok n A) (ht : 0 ≤ A 35 ∧ A 35 ≤ 1073741824) (hi : R_is w h n heat price D A c U kn KS cs m) (a : Int) : q_qE w h n heat price D A c U kn KS cs (z_R 233 (m, 0, [(2, 251), (0, a), (9, 0), (9, 0), (9, 0), (9, 0)], [])) := by
  rw [q_tqu_0]
  have hu := R_upn (p0 := 251) (k0 := 11) (v := 0) hi (by decide)
  by_cases ok : ¬ (1 ≤ a ∧ a ≤ 40)
  · rw [if_neg ok]
    exact ⟨_, _, rfl, hu⟩
  have ok : 1 ≤ a ∧ a ≤ 40 := Decidable.not_not.mp ok
  obtain ⟨N, rfl⟩ : ∃ N : Nat, a = (N : Int) := ⟨a.toNat, by omega⟩
  have hN6 : N ≤ 40 := by omega
  have e3 : m 251 3 = (n : Int) := hi.1.2.2.1
  obtain ⟨L, hL, hL30⟩ : ∃ L : Nat, z_mul 6 (m 251 3) = (L : Int) ∧ L ≤ 30 := ⟨6 * n, by rw [e3, z_mul_eq (by omega) (by omega)]; omega, by omega⟩
  rw [if_pos ok, hL]
  generalize z_up m 251 11 0 = m0 at hu ⊢
  -- the innermost loop of three, given the two about it
  have l154 : ∀ (x y : Nat), x < L → y < L → (∀ m x5, R_is w h n heat price D A c U kn KS cs m → q_qE w h n heat price D A c U kn KS cs (z_R 233 (m, 142, [(2, 251), (0, (N : Int)), (0, (L : Int)), (0, (x : Int)), (0, ((y + 1 : Nat) : Int)), (0, x5)], []))) → ∀ (f z : Nat) (m : z_M), z + f = L → R_is w h n heat price D A c U kn KS cs m → q_qE w h n heat price D A c U kn KS cs (z_R 233 (m, 154, [(2, 251), (0, (N : Int)), (0, (L : Int)), (0, (x : Int)), (0, (y : Int)), (0, (z : Int))], [])) := by
    intro x y hx hy nx f
    induction f with
    | zero =>
      intro z m hz hi
      rw [q_tqu_154, if_pos (by omega), z_add_eq (by omega) (by omega), tc1]
      exact nx m _ hi
    | succ f ih =>
      intro z m hz hi
      obtain ⟨m1, v, a1, a2⟩ := R_isq hw hh hD hok ht hi hN6 (a := (x : Int)) (b := (y : Int)) (d := (z : Int)) (Or.inr (by omega)) (Or.inr (by omega)) (Or.inr (by omega))
      rw [q_tqu_154, if_neg (by omega), a1, zb_v, q_tqu_170]
      by_cases c1 : v = 0
      · rw [if_pos c1, z_add_eq (by omega) (by omega), tc1]
        exact ih (z + 1) m1 (by omega) a2
      · obtain ⟨m2, b1, b2⟩ := R_tq a2 (q := 3) (by decide) (x : Int) (y : Int) (z : Int)
        rw [if_neg c1, b1, zb_v, q_tqu_183]
        exact ⟨m2, _, rfl, b2⟩
  have l142 : ∀ (x : Nat), x < L → (∀ m v4 v5, R_is w h n heat price D A c U kn KS cs m → q_qE w h n heat price D A c U kn KS cs (z_R 233 (m, 132, [(2, 251), (0, (N : Int)), (0, (L : Int)), (0, ((x + 1 : Nat) : Int)), v4, v5], []))) → ∀ (f y : Nat) (v5 : z_V) (m : z_M), y + f = L → R_is w h n heat price D A c U kn KS cs m → q_qE w h n heat price D A c U kn KS cs (z_R 233 (m, 142, [(2, 251), (0, (N : Int)), (0, (L : Int)), (0, (x : Int)), (0, (y : Int)), v5], [])) := by
    intro x hx nx f
    induction f with
    | zero =>
      intro y v5 m hy hi
      rw [q_tqu_142, if_pos (by omega), z_add_eq (by omega) (by omega), tc1]
      exact nx m _ _ hi
    | succ f ih =>
      intro y v5 m hy hi
      rw [q_tqu_142, if_neg (by omega), z_add_eq (x := (y : Int)) (by omega) (by omega), tc1]
      exact l154 x y hx (by omega) (fun m x5 hm => ih (y + 1) _ m (by omega) hm) (L - (y + 1)) (y + 1) m (by omega) hi
  have l132 : ∀ (f x : Nat) (v4 v5 : z_V) (m : z_M), x + f = L → R_is w h n heat price D A c U kn KS cs m → q_qE w h n heat price D A c U kn KS cs (z_R 233 (m, 132, [(2, 251), (0, (N : Int)), (0, (L : Int)), (0, (x : Int)), v4, v5], [])) := by
    intro f
    induction f with
    | zero =>
      intro x v4 v5 m hx hi
      rw [q_tqu_132, if_pos (by omega)]
      exact ⟨m, _, rfl, hi⟩
    | succ f ih =>
      intro x v4 v5 m hx hi
      rw [q_tqu_132, if_neg (by omega), z_add_eq (by omega) (by omega), tc1]
      exact l142 x (by omega) (fun m v4 v5 hm => ih (x + 1) v4 v5 m (by omega) hm) (L - (x + 1)) (x + 1) _ m (by omega) hi
  have l90 : ∀ (x : Nat), x < L → (∀ m v4, R_is w h n heat price D A c U kn KS cs m → q_qE w h n heat price D A c U kn KS cs (z_R 233 (m, 80, [(2, 251), (0, (N : Int)), (0, (L : Int)), (0, ((x + 1 : Nat) : Int)), v4, (9, 0)], []))) → ∀ (f y : Nat) (m : z_M), y + f = L → R_is w h n heat price D A c U kn KS cs m → q_qE w h n heat price D A c U kn KS cs (z_R 233 (m, 90, [(2, 251), (0, (N : Int)), (0, (L : Int)), (0, (x : Int)), (0, (y : Int)), (9, 0)], [])) := by
    intro x hx nx f
    induction f with
    | zero =>
      intro y m hy hi
      rw [q_tqu_90, if_pos (by omega), z_add_eq (by omega) (by omega), tc1]
      exact nx m _ hi
    | succ f ih =>
      intro y m hy hi
      obtain ⟨m1, v, a1, a2⟩ := R_isq hw hh hD hok ht hi hN6 (a := (x : Int)) (b := (y : Int)) (d := -1) (Or.inr (by omega)) (Or.inr (by omega)) (Or.inl rfl)
      rw [q_tqu_90, if_neg (by omega), a1, zb_v, q_tqu_105]
      by_cases c1 : v = 0
      · rw [if_pos c1, z_add_eq (by omega) (by omega), tc1]
        exact ih (y + 1) m1 (by omega) a2
      · obtain ⟨m2, b1, b2⟩ := R_tq a2 (q := 2) (by decide) (x : Int) (y : Int) 0
        rw [if_neg c1, b1, zb_v, q_tqu_117]
        exact ⟨m2, _, rfl, b2⟩
  have l80 : ∀ (f x : Nat) (v4 : z_V) (m : z_M), x + f = L → R_is w h n heat price D A c U kn KS cs m → q_qE w h n heat price D A c U kn KS cs (z_R 233 (m, 80, [(2, 251), (0, (N : Int)), (0, (L : Int)), (0, (x : Int)), v4, (9, 0)], [])) := by
    intro f
    induction f with
    | zero =>
      intro x v4 m hx hi
      rw [q_tqu_80, if_pos (by omega)]
      exact l132 L 0 v4 (9, 0) m (by omega) hi
    | succ f ih =>
      intro x v4 m hx hi
      rw [q_tqu_80, if_neg (by omega), z_add_eq (by omega) (by omega), tc1]
      exact l90 x (by omega) (fun m v4 hm => ih (x + 1) v4 m (by omega) hm) (L - (x + 1)) (x + 1) m (by omega) hi
  have l47 : ∀ (f x : Nat) (m : z_M), x + f = L → R_is w h n heat price D A c U kn KS cs m → q_qE w h n heat price D A c U kn KS cs (z_R 233 (m, 47, [(2, 251), (0, (N : Int)), (0, (L : Int)), (0, (x : Int)), (9, 0), (9, 0)], [])) := by
    intro f
    induction f with
    | zero =>
      intro x m hx hi
      rw [q_tqu_47, if_pos (by omega)]
      exact l80 L 0 (9, 0) m (by omega) hi
    | succ f ih =>
      intro x m hx hi
      obtain ⟨m1, v, a1, a2⟩ := R_isq hw hh hD hok ht hi hN6 (a := (x : Int)) (b := -1) (d := -1) (Or.inr (by omega)) (Or.inl rfl) (Or.inl rfl)
      rw [q_tqu_47, if_neg (by omega), a1, zb_v, q_tqu_60]
      by_cases c1 : v = 0
      · rw [if_pos c1, z_add_eq (by omega) (by omega), tc1]
        exact ih (x + 1) m1 (by omega) a2
      · obtain ⟨m2, b1, b2⟩ := R_tq a2 (q := 1) (by decide) (x : Int) 0 0
        rw [if_neg c1, b1, zb_v, q_tqu_71]
        exact ⟨m2, _, rfl, b2⟩
  obtain ⟨m1, v, a1, a2⟩ := R_isq hw hh hD hok ht hu hN6 (a := -1) (b := -1) (d := -1) (Or.inl rfl) (Or.inl rfl) (Or.inl rfl)
  rw [a1, zb_v, q_tqu_33]
  by_cases c1 : v = 0
  · rw [if_pos c1]
    exact l47 L 0 m1 (by omega) a2
  · obtain ⟨m2, b1, b2⟩ := R_tq a2 (q := 0) (by decide) 0 0 0
    rw [if_neg c1, b1, zb_v, q_tqu_44]
    exact ⟨m2, _, rfl, b2⟩
end
