section
/-! THE CLASS READS A RULE -/
def wr : (Nat → Int) → Nat → List Int → (Nat → Int)
  | row, _, [] => row
  | row, n, c :: cs => wr (u_up row n c) (n + 1) cs
theorem wr_app : ∀ (a b : List Int) (row : Nat → Int) (n : Nat), wr row n (a ++ b) = wr (wr row n a) (n + a.length) b
  | [], b, row, n => rfl
  | c :: a, b, row, n => by
    show wr (u_up row n c) (n + 1) (a ++ b) = wr (wr (u_up row n c) (n + 1) a) (n + (a.length + 1)) b
    rw [wr_app a b, show n + 1 + a.length = n + (a.length + 1) by omega]
def okf (b : Bool) : Int := bif b then 1 else 0
abbrev c_RL : List (Nat × Nat × Nat) := [(1, 2, 2), (116, 2, 2), (117, 0, 39)]
/-- what a part of it leaves -/
def c_RP (m m' : z_M) (r : q_Q) : Prop := z_same c_RL m m' ∧ m' 1 2 = r.2.1 ∧ (0 ≤ m' 116 2 ∧ m' 116 2 ≤ 40) ∧ (r.1 = true → m' 116 2 = m 116 2 + ((r.2.2).length : Int) ∧ m' 117 = wr (m 117) (m 116 2).toNat r.2.2)
/-- where it may begin -/
def c_RB (g : Int → Int) (m : z_M) : Prop := u_g m = g ∧ m 1 1 ≤ 80 ∧ (0 ≤ m 1 2 ∧ m 1 2 ≤ 40) ∧ 0 ≤ m 116 2 ∧ m 116 2 ≤ m 1 2
theorem u_g_RL {m m' : z_M} (h : z_same c_RL m m') : u_g m' = u_g m := u_g_eq (h.ofr (by (try unfold c_RL); (repeat' (first | exact trivial | refine z_ofr_c ?_ ?_)) <;> omega)) (h.of (by (try unfold c_RL); (repeat' (first | exact trivial | refine z_of_c ?_ ?_)) <;> omega)) (h.of (by (try unfold c_RL); (repeat' (first | exact trivial | refine z_of_c ?_ ?_)) <;> omega))
theorem c_emit (m : z_M) (c : Int) (h0 : 0 ≤ m 116 2) (h1 : m 116 2 ≤ 40) : ∃ m', z_R 48 (m, 0, [(2, 116), (0, c)], []) = some (m', none) ∧ z_same c_RL m m' ∧ m' 1 2 = m 1 2 ∧ (0 ≤ m' 116 2 ∧ m' 116 2 ≤ 40) ∧ (m 116 2 < 40 → m' 116 2 = m 116 2 + 1 ∧ m' 117 = u_up (m 117) (m 116 2).toNat c) := by
  rw [s_rem__0 m c ⟨h0, h1⟩]
  by_cases h : 40 ≤ m 116 2
  · rw [if_pos h]
    exact ⟨m, rfl, z_same.rf, rfl, ⟨h0, h1⟩, fun z => by omega⟩
  · rw [if_neg h]
    refine ⟨_, rfl, (z_same.rf.upo (by (try unfold c_RL); first | exact z_on_h rfl (by omega) (by omega) | exact z_on_t (z_on_h rfl (by omega) (by omega)) | exact z_on_t (z_on_t (z_on_h rfl (by omega) (by omega))) | exact z_on_t (z_on_t (z_on_t (z_on_h rfl (by omega) (by omega)))) | exact z_on_t (z_on_t (z_on_t (z_on_t (z_on_h rfl (by omega) (by omega))))) | exact z_on_t (z_on_t (z_on_t (z_on_t (z_on_t (z_on_h rfl (by omega) (by omega)))))) | exact z_on_t (z_on_t (z_on_t (z_on_t (z_on_t (z_on_t (z_on_h rfl (by omega) (by omega))))))) | exact z_on_t (z_on_t (z_on_t (z_on_t (z_on_t (z_on_t (z_on_t (z_on_h rfl (by omega) (by omega)))))))) | exact z_on_t (z_on_t (z_on_t (z_on_t (z_on_t (z_on_t (z_on_t (z_on_t (z_on_h rfl (by omega) (by omega))))))))) | exact z_on_t (z_on_t (z_on_t (z_on_t (z_on_t (z_on_t (z_on_t (z_on_t (z_on_t (z_on_h rfl (by omega) (by omega)))))))))) | exact z_on_t (z_on_t (z_on_t (z_on_t (z_on_t (z_on_t (z_on_t (z_on_t (z_on_t (z_on_t (z_on_h rfl (by omega) (by omega))))))))))) | exact z_on_t (z_on_t (z_on_t (z_on_t (z_on_t (z_on_t (z_on_t (z_on_t (z_on_t (z_on_t (z_on_t (z_on_h rfl (by omega) (by omega)))))))))))) | exact z_on_t (z_on_t (z_on_t (z_on_t (z_on_t (z_on_t (z_on_t (z_on_t (z_on_t (z_on_t (z_on_t (z_on_t (z_on_h rfl (by omega) (by omega))))))))))))))).upo (by (try unfold c_RL); first | exact z_on_h rfl (by omega) (by omega) | exact z_on_t (z_on_h rfl (by omega) (by omega)) | exact z_on_t (z_on_t (z_on_h rfl (by omega) (by omega))) | exact z_on_t (z_on_t (z_on_t (z_on_h rfl (by omega) (by omega)))) | exact z_on_t (z_on_t (z_on_t (z_on_t (z_on_h rfl (by omega) (by omega))))) | exact z_on_t (z_on_t (z_on_t (z_on_t (z_on_t (z_on_h rfl (by omega) (by omega)))))) | exact z_on_t (z_on_t (z_on_t (z_on_t (z_on_t (z_on_t (z_on_h rfl (by omega) (by omega))))))) | exact z_on_t (z_on_t (z_on_t (z_on_t (z_on_t (z_on_t (z_on_t (z_on_h rfl (by omega) (by omega)))))))) | exact z_on_t (z_on_t (z_on_t (z_on_t (z_on_t (z_on_t (z_on_t (z_on_t (z_on_h rfl (by omega) (by omega))))))))) | exact z_on_t (z_on_t (z_on_t (z_on_t (z_on_t (z_on_t (z_on_t (z_on_t (z_on_t (z_on_h rfl (by omega) (by omega)))))))))) | exact z_on_t (z_on_t (z_on_t (z_on_t (z_on_t (z_on_t (z_on_t (z_on_t (z_on_t (z_on_t (z_on_h rfl (by omega) (by omega))))))))))) | exact z_on_t (z_on_t (z_on_t (z_on_t (z_on_t (z_on_t (z_on_t (z_on_t (z_on_t (z_on_t (z_on_t (z_on_h rfl (by omega) (by omega)))))))))))) | exact z_on_t (z_on_t (z_on_t (z_on_t (z_on_t (z_on_t (z_on_t (z_on_t (z_on_t (z_on_t (z_on_t (z_on_t (z_on_h rfl (by omega) (by omega)))))))))))))), ?_, ?_, fun _ => ⟨?_, ?_⟩⟩
    · rw [zu_p (by decide), zu_p (by decide)]
    · rw [zu_self]; omega
    · rw [zu_self]
    · rw [zu_rowne (by decide), zu_row]
def q_bnd : Nat → Int
  | 0 => 999
  | 1 => 99
  | 2 => 9
  | _ => 0
theorem c_num1 {g : Int → Int} : ∀ (k : Nat) (x3 v : Int) (m : z_M), 0 ≤ x3 → x3 + (k : Int) = 3 → u_g m = g → m 1 1 ≤ 80 → 0 ≤ m 1 2 → m 1 2 ≤ 40 + x3 → 0 ≤ v → v ≤ q_bnd k → 0 ≤ m 116 2 → m 116 2 ≤ 40 → ∃ m', z_R 47 (m, 12, [(2, 116), (0, v), (0, u_dg (g (m 1 2))), (0, x3)], []) = some (m', none) ∧ z_same c_RL m m' ∧ m' 1 2 = (q_nm g k (m 1 2) v).1 ∧ (0 ≤ m' 116 2 ∧ m' 116 2 ≤ 40) ∧ (m 116 2 < 40 → m' 116 2 = m 116 2 + 1 ∧ m' 117 = u_up (m 117) (m 116 2).toNat (q_nm g k (m 1 2) v).2) := by
  intro k
  induction k with
  | zero =>
    intro x3 v m hx0 hx hg h1 h0 h0' hv0 hv hs0 hs1
    obtain ⟨m', a1, a2, a3, a4, a5⟩ := c_emit m v hs0 hs1
    rw [s_rnu_12, if_pos (by omega), a1, zb_n, s_rnu_63]
    exact ⟨m', rfl, a2, a3, a4, a5⟩
  | succ k ih =>
    intro x3 v m hx0 hx hg h1 h0 h0' hv0 hv hs0 hs1
    rw [s_rnu_12, if_neg (by omega)]
    unfold q_nm
    by_cases c : u_dg (g (m 1 2)) = -1
    · obtain ⟨m', a1, a2, a3, a4, a5⟩ := c_emit m v hs0 hs1
      rw [if_pos c, if_pos c, c_step0, zb_v, s_rnu_34, if_pos rfl, a1, zb_n, s_rnu_63]
      exact ⟨m', rfl, a2, a3, a4, a5⟩
    · have r := u_dg_rng (g (m 1 2))
      have hv9 : v ≤ 99 := by
        rcases (show k = 0 ∨ k = 1 ∨ k = 2 by omega) with rfl | rfl | rfl
        · exact hv
        · have hv : v ≤ 9 := hv
          omega
        · have hv : v ≤ 0 := hv
          omega
      have hg' : u_g (z_up m 1 2 (m 1 2 + 1)) = g := u_g_at.trans hg
      have e12 : (z_up m 1 2 (m 1 2 + 1)) 1 2 = m 1 2 + 1 := zu_self
      rw [if_neg c, if_neg c, c_step1 m h0 (by omega), zb_v, s_rnu_34, if_neg (by decide), c_nd _ (by omega) (by rw [zu_k (by decide)]; exact h1), zb_v, s_rnu_51, hg', e12, z_mul_eq (by omega) (by omega), z_add_eq (x := 10 * v) (by omega) (by omega), z_add_eq (x := x3) (by omega) (by omega)]
      obtain ⟨m', a1, a2, a3, a4, a5⟩ := ih (x3 + 1) (10 * v + u_dg (g (m 1 2))) (z_up m 1 2 (m 1 2 + 1)) (by omega) (by omega) hg' (by rw [zu_k (by decide)]; exact h1) (by omega) (by omega) (by omega) (by
        rcases (show k = 0 ∨ k = 1 ∨ k = 2 by omega) with rfl | rfl | rfl
        · have hv : v ≤ 99 := hv
          show 10 * v + u_dg (g (m 1 2)) ≤ 999
          omega
        · have hv : v ≤ 9 := hv
          show 10 * v + u_dg (g (m 1 2)) ≤ 99
          omega
        · have hv : v ≤ 0 := hv
          show 10 * v + u_dg (g (m 1 2)) ≤ 9
          omega) (by rw [zu_p (by decide)]; exact hs0) (by rw [zu_p (by decide)]; exact hs1)
      rw [e12] at a1 a3 a5
      rw [zu_p (by decide), zu_rowne (by decide)] at a5
      exact ⟨m', a1, (z_same.rf.upo (by (try unfold c_RL); first | exact z_on_h rfl (by omega) (by omega) | exact z_on_t (z_on_h rfl (by omega) (by omega)) | exact z_on_t (z_on_t (z_on_h rfl (by omega) (by omega))) | exact z_on_t (z_on_t (z_on_t (z_on_h rfl (by omega) (by omega)))) | exact z_on_t (z_on_t (z_on_t (z_on_t (z_on_h rfl (by omega) (by omega))))) | exact z_on_t (z_on_t (z_on_t (z_on_t (z_on_t (z_on_h rfl (by omega) (by omega)))))) | exact z_on_t (z_on_t (z_on_t (z_on_t (z_on_t (z_on_t (z_on_h rfl (by omega) (by omega))))))) | exact z_on_t (z_on_t (z_on_t (z_on_t (z_on_t (z_on_t (z_on_t (z_on_h rfl (by omega) (by omega)))))))) | exact z_on_t (z_on_t (z_on_t (z_on_t (z_on_t (z_on_t (z_on_t (z_on_t (z_on_h rfl (by omega) (by omega))))))))) | exact z_on_t (z_on_t (z_on_t (z_on_t (z_on_t (z_on_t (z_on_t (z_on_t (z_on_t (z_on_h rfl (by omega) (by omega)))))))))) | exact z_on_t (z_on_t (z_on_t (z_on_t (z_on_t (z_on_t (z_on_t (z_on_t (z_on_t (z_on_t (z_on_h rfl (by omega) (by omega))))))))))) | exact z_on_t (z_on_t (z_on_t (z_on_t (z_on_t (z_on_t (z_on_t (z_on_t (z_on_t (z_on_t (z_on_t (z_on_h rfl (by omega) (by omega)))))))))))) | exact z_on_t (z_on_t (z_on_t (z_on_t (z_on_t (z_on_t (z_on_t (z_on_t (z_on_t (z_on_t (z_on_t (z_on_t (z_on_h rfl (by omega) (by omega))))))))))))))).tr a2, a3, a4, a5⟩
theorem c_num {g : Int → Int} (m : z_M) (hB : c_RB g m) : ∃ m', z_R 47 (m, 0, [(2, 116), (9, 0), (9, 0), (9, 0)], []) = some (m', none) ∧ z_same c_RL m m' ∧ m' 1 2 = (q_nm g 3 (m 1 2) 0).1 ∧ (0 ≤ m' 116 2 ∧ m' 116 2 ≤ 40) ∧ (m 116 2 < 40 → m' 116 2 = m 116 2 + 1 ∧ m' 117 = u_up (m 117) (m 116 2).toNat (q_nm g 3 (m 1 2) 0).2) := by
  obtain ⟨b1, b2, b3, b4, b5⟩ := hB
  rw [s_rnu_0, c_nd m b3.1 b2, zb_v, s_rnu_9, b1]
  exact c_num1 3 0 0 m (by decide) (by decide) b1 b2 b3.1 (by omega) (Int.le_refl _) (by decide) b4 (by omega)
theorem z_i2c_sm {x : Int} (h0 : 0 ≤ x) (h1 : x ≤ 255) : z_i2c x = x := by
  have e3 : (Int32.ofInt x).toInt = x := zr_of (by omega) (by omega)
  unfold z_i2c
  rw [(nar_c _).2 (by omega) (by omega), e3]
/-- that an expression at depth d is read so -/
noncomputable def c_PE (g : Int → Int) (d : Nat) : Prop := ∀ m : z_M, c_RB g m → ∃ m', z_R 41 (m, 0, [(2, 116), (0, (d : Int)), (9, 0), (9, 0)], []) = some (m', some (0, okf (q_ex g (4 - d) (m 1 2)).1)) ∧ c_RP m m' (q_ex g (4 - d) (m 1 2))
theorem c_RP_fail {m m' : z_M} {i : Int} {c : List Int} (h : z_same c_RL m m') (hp : m' 1 2 = i) (hs : 0 ≤ m' 116 2 ∧ m' 116 2 ≤ 40) : c_RP m m' (false, i, c) := ⟨h, hp, hs, fun z => by cases z⟩
theorem c_thing {g : Int → Int} (hg : q_gb g) (hr : ∀ i, -1 ≤ g i ∧ g i ≤ 255) {d : Nat} (hd : d ≤ 4) (hE : d < 4 → c_PE g (d + 1)) (m : z_M) (hB : c_RB g m) : ∃ m', z_R 45 (m, 0, [(2, 116), (0, (d : Int)), (9, 0), (9, 0)], []) = some (m', some (0, okf (q_th g (q_E g d) (m 1 2)).1)) ∧ c_RP m m' (q_th g (q_E g d) (m 1 2)) := by
  obtain ⟨b1, b2, b3, b4, b5⟩ := id hB
  have rr := hr (m 1 2)
  rw [s_rth_0, c_next m b3.1 b2, zb_v, s_rth_7, b1]
  unfold q_th
  by_cases c1 : g (m 1 2) = 40
  · have bb := hg (m 1 2) (by omega)
    rw [if_pos c1, if_pos c1, s_rbr_0 m d ⟨by omega, by omega⟩]
    by_cases c2 : 4 ≤ d
    · have e : q_E g d = none := by unfold q_E; rw [if_pos c2]
      rw [if_pos (by omega), c_step0, zb_v, s_rbr_17, if_pos rfl, zb_v, s_rth_19, e]
      exact ⟨m, rfl, c_RP_fail z_same.rf rfl ⟨b4, by omega⟩⟩
    · have e : q_E g d = some (q_ex g (4 - (d + 1))) := by unfold q_E; rw [if_neg c2, show 3 - d = 4 - (d + 1) by omega]
      have e12 : (z_up m 1 2 (m 1 2 + 1)) 1 2 = m 1 2 + 1 := zu_self
      have s1 : z_same c_RL m (z_up m 1 2 (m 1 2 + 1)) := z_same.rf.upo (by (try unfold c_RL); first | exact z_on_h rfl (by omega) (by omega) | exact z_on_t (z_on_h rfl (by omega) (by omega)) | exact z_on_t (z_on_t (z_on_h rfl (by omega) (by omega))) | exact z_on_t (z_on_t (z_on_t (z_on_h rfl (by omega) (by omega)))) | exact z_on_t (z_on_t (z_on_t (z_on_t (z_on_h rfl (by omega) (by omega))))) | exact z_on_t (z_on_t (z_on_t (z_on_t (z_on_t (z_on_h rfl (by omega) (by omega)))))) | exact z_on_t (z_on_t (z_on_t (z_on_t (z_on_t (z_on_t (z_on_h rfl (by omega) (by omega))))))) | exact z_on_t (z_on_t (z_on_t (z_on_t (z_on_t (z_on_t (z_on_t (z_on_h rfl (by omega) (by omega)))))))) | exact z_on_t (z_on_t (z_on_t (z_on_t (z_on_t (z_on_t (z_on_t (z_on_t (z_on_h rfl (by omega) (by omega))))))))) | exact z_on_t (z_on_t (z_on_t (z_on_t (z_on_t (z_on_t (z_on_t (z_on_t (z_on_t (z_on_h rfl (by omega) (by omega)))))))))) | exact z_on_t (z_on_t (z_on_t (z_on_t (z_on_t (z_on_t (z_on_t (z_on_t (z_on_t (z_on_t (z_on_h rfl (by omega) (by omega))))))))))) | exact z_on_t (z_on_t (z_on_t (z_on_t (z_on_t (z_on_t (z_on_t (z_on_t (z_on_t (z_on_t (z_on_t (z_on_h rfl (by omega) (by omega)))))))))))) | exact z_on_t (z_on_t (z_on_t (z_on_t (z_on_t (z_on_t (z_on_t (z_on_t (z_on_t (z_on_t (z_on_t (z_on_t (z_on_h rfl (by omega) (by omega))))))))))))))
      have sz : (z_up m 1 2 (m 1 2 + 1)) 116 2 = m 116 2 := zu_p (by decide)
      have srow : (z_up m 1 2 (m 1 2 + 1)) 117 = m 117 := zu_rowne (by decide)
      obtain ⟨m1, a1, a2, a3, a4, a5⟩ := hE (by omega) (z_up m 1 2 (m 1 2 + 1)) ⟨u_g_at.trans b1, by rw [zu_k (by decide)]; exact b2, by omega, by omega, by omega⟩
      rw [e12] at a1 a3 a5
      rw [sz, srow] at a5
      have gd := q_ex_good hg (4 - (d + 1)) (m 1 2 + 1) (by omega) (by omega)
      rw [if_neg (by omega), c_step1 m b3.1 (by omega), zb_v, s_rbr_17, if_neg (by decide), z_add_eq (by omega) (by omega), tc1, a1, zb_v, s_rbr_27, e]
      simp only
      generalize q_ex g (4 - (d + 1)) (m 1 2 + 1) = R at a1 a3 a5 gd ⊢
      obtain ⟨ok, pos, code⟩ := R
      simp only at a3 a5 gd ⊢
      cases ok with
      | false =>
        rw [show okf false = 0 from rfl, if_pos rfl, zb_v, s_rth_19, if_neg (fun z => by cases z.1)]
        exact ⟨m1, rfl, c_RP_fail (s1.tr a2) a3 a4⟩
      | true =>
        have g1 : u_g m1 = g := (u_g_RL (s1.tr a2)).trans b1
        rw [show okf true = 1 from rfl, if_neg (by decide), c_over m1 41 (by omega) (by rw [(s1.tr a2).of (by (try unfold c_RL); (repeat' (first | exact trivial | refine z_of_c ?_ ?_)) <;> omega)]; exact b2) (by omega), g1, a3]
        by_cases c3 : g pos = 41
        · rw [if_pos c3, if_pos ⟨rfl, c3⟩, zb_v, s_rbr_39, if_neg (by decide), zb_v, s_rth_19]
          refine ⟨_, rfl, (s1.tr a2).upo (by (try unfold c_RL); first | exact z_on_h rfl (by omega) (by omega) | exact z_on_t (z_on_h rfl (by omega) (by omega)) | exact z_on_t (z_on_t (z_on_h rfl (by omega) (by omega))) | exact z_on_t (z_on_t (z_on_t (z_on_h rfl (by omega) (by omega)))) | exact z_on_t (z_on_t (z_on_t (z_on_t (z_on_h rfl (by omega) (by omega))))) | exact z_on_t (z_on_t (z_on_t (z_on_t (z_on_t (z_on_h rfl (by omega) (by omega)))))) | exact z_on_t (z_on_t (z_on_t (z_on_t (z_on_t (z_on_t (z_on_h rfl (by omega) (by omega))))))) | exact z_on_t (z_on_t (z_on_t (z_on_t (z_on_t (z_on_t (z_on_t (z_on_h rfl (by omega) (by omega)))))))) | exact z_on_t (z_on_t (z_on_t (z_on_t (z_on_t (z_on_t (z_on_t (z_on_t (z_on_h rfl (by omega) (by omega))))))))) | exact z_on_t (z_on_t (z_on_t (z_on_t (z_on_t (z_on_t (z_on_t (z_on_t (z_on_t (z_on_h rfl (by omega) (by omega)))))))))) | exact z_on_t (z_on_t (z_on_t (z_on_t (z_on_t (z_on_t (z_on_t (z_on_t (z_on_t (z_on_t (z_on_h rfl (by omega) (by omega))))))))))) | exact z_on_t (z_on_t (z_on_t (z_on_t (z_on_t (z_on_t (z_on_t (z_on_t (z_on_t (z_on_t (z_on_t (z_on_h rfl (by omega) (by omega)))))))))))) | exact z_on_t (z_on_t (z_on_t (z_on_t (z_on_t (z_on_t (z_on_t (z_on_t (z_on_t (z_on_t (z_on_t (z_on_t (z_on_h rfl (by omega) (by omega)))))))))))))), zu_self, ?_, fun _ => ?_⟩
          · rw [zu_p (by decide)]; exact a4
          · rw [zu_p (by decide), zu_rowne (by decide)]; exact a5 rfl
        · rw [if_neg c3, if_neg (fun z => c3 z.2), zb_v, s_rbr_39, if_pos rfl, zb_v, s_rth_19]
          exact ⟨m1, rfl, c_RP_fail (s1.tr a2) a3 a4⟩
  rw [if_neg c1, if_neg c1, c_digit, zb_v, s_rth_24]
  by_cases c2 : u_dg (g (m 1 2)) = -1
  · rw [if_pos c2, if_pos c2]
    have fl : ∀ x3 : Int, z_idx (g (m 1 2)) = -1 → ∃ m', ((z_R 26 (m, 0, [(2, 1), (0, 0)], [])).bind fun qq => z_R 45 (qq.1, 67, [(2, 116), (0, (d : Int)), (0, g (m 1 2)), (0, x3)], qq.2.toList ++ [])) = some (m', some (0, okf (if z_idx (g (m 1 2)) = -1 then ((false, m 1 2, []) : q_Q) else (true, m 1 2 + 1, [1000 + z_idx (g (m 1 2))])).1)) ∧ c_RP m m' (if z_idx (g (m 1 2)) = -1 then (false, m 1 2, []) else (true, m 1 2 + 1, [1000 + z_idx (g (m 1 2))])) := by
      intro x3 hz
      rw [if_pos hz, c_step0, zb_v, s_rth_67, if_pos rfl]
      exact ⟨m, rfl, c_RP_fail z_same.rf rfl ⟨b4, by omega⟩⟩
    by_cases c3 : g (m 1 2) = -1
    · rw [if_pos c3]
      exact fl (-1) (by rw [c3]; decide)
    rw [if_neg c3, z_i2c_sm (by omega) rr.2]
    have bi := z_idx_b (g (m 1 2))
    by_cases c4 : z_idx (g (m 1 2)) < 0
    · rw [if_pos c4]
      exact fl _ (by omega)
    · have bb := hg (m 1 2) c3
      rw [if_neg c4, if_neg (by omega), c_step1 m b3.1 (by omega), zb_v, s_rth_67, if_neg (by decide), z_add_eq (by omega) (by omega)]
      have sz : (z_up m 1 2 (m 1 2 + 1)) 116 2 = m 116 2 := zu_p (by decide)
      have srow : (z_up m 1 2 (m 1 2 + 1)) 117 = m 117 := zu_rowne (by decide)
      obtain ⟨m1, a1, a2, a3, a4, a5⟩ := c_emit (z_up m 1 2 (m 1 2 + 1)) (1000 + z_idx (g (m 1 2))) (by omega) (by omega)
      rw [sz, srow] at a5
      rw [a1, zb_n, s_rth_81]
      refine ⟨m1, rfl, (z_same.rf.upo (by (try unfold c_RL); first | exact z_on_h rfl (by omega) (by omega) | exact z_on_t (z_on_h rfl (by omega) (by omega)) | exact z_on_t (z_on_t (z_on_h rfl (by omega) (by omega))) | exact z_on_t (z_on_t (z_on_t (z_on_h rfl (by omega) (by omega)))) | exact z_on_t (z_on_t (z_on_t (z_on_t (z_on_h rfl (by omega) (by omega))))) | exact z_on_t (z_on_t (z_on_t (z_on_t (z_on_t (z_on_h rfl (by omega) (by omega)))))) | exact z_on_t (z_on_t (z_on_t (z_on_t (z_on_t (z_on_t (z_on_h rfl (by omega) (by omega))))))) | exact z_on_t (z_on_t (z_on_t (z_on_t (z_on_t (z_on_t (z_on_t (z_on_h rfl (by omega) (by omega)))))))) | exact z_on_t (z_on_t (z_on_t (z_on_t (z_on_t (z_on_t (z_on_t (z_on_t (z_on_h rfl (by omega) (by omega))))))))) | exact z_on_t (z_on_t (z_on_t (z_on_t (z_on_t (z_on_t (z_on_t (z_on_t (z_on_t (z_on_h rfl (by omega) (by omega)))))))))) | exact z_on_t (z_on_t (z_on_t (z_on_t (z_on_t (z_on_t (z_on_t (z_on_t (z_on_t (z_on_t (z_on_h rfl (by omega) (by omega))))))))))) | exact z_on_t (z_on_t (z_on_t (z_on_t (z_on_t (z_on_t (z_on_t (z_on_t (z_on_t (z_on_t (z_on_t (z_on_h rfl (by omega) (by omega)))))))))))) | exact z_on_t (z_on_t (z_on_t (z_on_t (z_on_t (z_on_t (z_on_t (z_on_t (z_on_t (z_on_t (z_on_t (z_on_t (z_on_h rfl (by omega) (by omega))))))))))))))).tr a2, a3.trans zu_self, a4, fun _ => ?_⟩
      exact a5 (by omega)
  · rw [if_neg c2, if_neg c2]
    obtain ⟨m1, a1, a2, a3, a4, a5⟩ := c_num m hB
    have bb := hg (m 1 2) (by have := u_dg_ne c2; omega)
    rw [a1, zb_n, s_rth_32]
    exact ⟨m1, rfl, a2, a3, a4, fun _ => a5 (by omega)⟩
theorem c_minus {g : Int → Int} (hg : q_gb g) {d : Int} : ∀ (f k : Nat) (m : z_M), k + f = 40 → u_g m = g → m 1 1 ≤ 80 → 0 ≤ m 1 2 → m 1 2 ≤ 40 → ∃ m1 k', z_R 44 (m, 4, [(2, 116), (0, d), (0, ((k % 2 : Nat) : Int)), (0, (k : Int))], []) = ((z_R 45 (m1, 0, [(2, 116), (0, d), (9, 0), (9, 0)], [])).bind fun qq => z_R 44 (qq.1, 43, [(2, 116), (0, d), (0, (((k + q_mn g f (m 1 2)) % 2 : Nat) : Int)), (0, k')], qq.2.toList ++ [])) ∧ m1 1 2 = m 1 2 + (q_mn g f (m 1 2) : Int) ∧ z_same [(1, 2, 2)] m m1 := by
  intro f
  induction f with
  | zero =>
    intro k m hk h1 h2 h3 h4
    rw [s_rsg_4, if_pos (by omega)]
    exact ⟨m, (k : Int), rfl, by show m 1 2 = m 1 2 + ((0 : Nat) : Int); omega, z_same.rf⟩
  | succ f ih =>
    intro k m hk h1 h2 h3 h4
    rw [s_rsg_4, if_neg (by omega), c_over m 45 h3 h2 (by omega), h1]
    unfold q_mn
    by_cases c : g (m 1 2) = 45
    · have bb := hg (m 1 2) (by omega)
      have e12 : (z_up m 1 2 (m 1 2 + 1)) 1 2 = m 1 2 + 1 := zu_self
      obtain ⟨m1, k', a1, a2, a3⟩ := ih (k + 1) (z_up m 1 2 (m 1 2 + 1)) (by omega) (u_g_at.trans h1) (by rw [zu_k (by decide)]; exact h2) (by omega) (by omega)
      rw [e12] at a1 a2
      have a1 : z_R 44 (z_up m 1 2 (m 1 2 + 1), 4, [(2, 116), (0, d), (0, (((k + 1) % 2 : Nat) : Int)), (0, ((k + 1 : Nat) : Int))], []) = ((z_R 45 (m1, 0, [(2, 116), (0, d), (9, 0), (9, 0)], [])).bind fun qq => z_R 44 (qq.1, 43, [(2, 116), (0, d), (0, (((k + 1 + q_mn g f (m 1 2 + 1)) % 2 : Nat) : Int)), (0, k')], qq.2.toList ++ [])) := a1
      rw [if_pos c, if_pos c, zb_v, s_rsg_19, if_neg (by decide), z_add_eq (by omega) (by omega), tc1]
      refine ⟨m1, k', ?_, by rw [a2]; omega, (z_same.rf.upo (by (try unfold c_RL); first | exact z_on_h rfl (by omega) (by omega) | exact z_on_t (z_on_h rfl (by omega) (by omega)) | exact z_on_t (z_on_t (z_on_h rfl (by omega) (by omega))) | exact z_on_t (z_on_t (z_on_t (z_on_h rfl (by omega) (by omega)))) | exact z_on_t (z_on_t (z_on_t (z_on_t (z_on_h rfl (by omega) (by omega))))) | exact z_on_t (z_on_t (z_on_t (z_on_t (z_on_t (z_on_h rfl (by omega) (by omega)))))) | exact z_on_t (z_on_t (z_on_t (z_on_t (z_on_t (z_on_t (z_on_h rfl (by omega) (by omega))))))) | exact z_on_t (z_on_t (z_on_t (z_on_t (z_on_t (z_on_t (z_on_t (z_on_h rfl (by omega) (by omega)))))))) | exact z_on_t (z_on_t (z_on_t (z_on_t (z_on_t (z_on_t (z_on_t (z_on_t (z_on_h rfl (by omega) (by omega))))))))) | exact z_on_t (z_on_t (z_on_t (z_on_t (z_on_t (z_on_t (z_on_t (z_on_t (z_on_t (z_on_h rfl (by omega) (by omega)))))))))) | exact z_on_t (z_on_t (z_on_t (z_on_t (z_on_t (z_on_t (z_on_t (z_on_t (z_on_t (z_on_t (z_on_h rfl (by omega) (by omega))))))))))) | exact z_on_t (z_on_t (z_on_t (z_on_t (z_on_t (z_on_t (z_on_t (z_on_t (z_on_t (z_on_t (z_on_t (z_on_h rfl (by omega) (by omega)))))))))))) | exact z_on_t (z_on_t (z_on_t (z_on_t (z_on_t (z_on_t (z_on_t (z_on_t (z_on_t (z_on_t (z_on_t (z_on_t (z_on_h rfl (by omega) (by omega))))))))))))))).tr a3⟩
      rw [show k + (q_mn g f (m 1 2 + 1) + 1) = k + 1 + q_mn g f (m 1 2 + 1) by omega, ← a1]
      by_cases c2 : ((k % 2 : Nat) : Int) = 0
      · rw [if_pos c2, show (((k + 1) % 2 : Nat) : Int) = 1 by omega]
      · rw [if_neg c2, show (((k + 1) % 2 : Nat) : Int) = 0 by omega]
    · rw [if_neg c, if_neg c, zb_v, s_rsg_19, if_pos rfl]
      exact ⟨m, (k : Int), rfl, by show m 1 2 = m 1 2 + ((0 : Nat) : Int); omega, z_same.rf⟩
theorem c_signed {g : Int → Int} (hg : q_gb g) (hr : ∀ i, -1 ≤ g i ∧ g i ≤ 255) {d : Nat} (hd : d ≤ 4) (hE : d < 4 → c_PE g (d + 1)) (m : z_M) (hB : c_RB g m) : ∃ m', z_R 44 (m, 0, [(2, 116), (0, (d : Int)), (9, 0), (9, 0)], []) = some (m', some (0, okf (q_sg g (q_E g d) (m 1 2)).1)) ∧ c_RP m m' (q_sg g (q_E g d) (m 1 2)) := by
  obtain ⟨b1, b2, b3, b4, b5⟩ := id hB
  obtain ⟨m1, k', a1, a2, a3⟩ := c_minus hg (d := (d : Int)) 40 0 m (by decide) b1 b2 b3.1 b3.2
  have bn := q_mn_b hg 40 (m 1 2) b3.1 b3.2
  have a1 : z_R 44 (m, 4, [(2, 116), (0, (d : Int)), (0, 0), (0, 0)], []) = ((z_R 45 (m1, 0, [(2, 116), (0, (d : Int)), (9, 0), (9, 0)], [])).bind fun qq => z_R 44 (qq.1, 43, [(2, 116), (0, (d : Int)), (0, (((0 + q_mn g 40 (m 1 2)) % 2 : Nat) : Int)), (0, k')], qq.2.toList ++ [])) := a1
  rw [Nat.zero_add] at a1
  rw [s_rsg_0, a1]
  unfold q_sg
  generalize q_mn g 40 (m 1 2) = n at a2 bn ⊢
  have s1 : z_same c_RL m m1 := a3.subo (by (try unfold c_RL); (repeat' (first | exact trivial | refine z_sbo_c ?_ ?_)) <;> (intro k h1 h2; first | exact z_on_h rfl (by omega) (by omega) | exact z_on_t (z_on_h rfl (by omega) (by omega)) | exact z_on_t (z_on_t (z_on_h rfl (by omega) (by omega))) | exact z_on_t (z_on_t (z_on_t (z_on_h rfl (by omega) (by omega)))) | exact z_on_t (z_on_t (z_on_t (z_on_t (z_on_h rfl (by omega) (by omega))))) | exact z_on_t (z_on_t (z_on_t (z_on_t (z_on_t (z_on_h rfl (by omega) (by omega)))))) | exact z_on_t (z_on_t (z_on_t (z_on_t (z_on_t (z_on_t (z_on_h rfl (by omega) (by omega))))))) | exact z_on_t (z_on_t (z_on_t (z_on_t (z_on_t (z_on_t (z_on_t (z_on_h rfl (by omega) (by omega)))))))) | exact z_on_t (z_on_t (z_on_t (z_on_t (z_on_t (z_on_t (z_on_t (z_on_t (z_on_h rfl (by omega) (by omega))))))))) | exact z_on_t (z_on_t (z_on_t (z_on_t (z_on_t (z_on_t (z_on_t (z_on_t (z_on_t (z_on_h rfl (by omega) (by omega)))))))))) | exact z_on_t (z_on_t (z_on_t (z_on_t (z_on_t (z_on_t (z_on_t (z_on_t (z_on_t (z_on_t (z_on_h rfl (by omega) (by omega))))))))))) | exact z_on_t (z_on_t (z_on_t (z_on_t (z_on_t (z_on_t (z_on_t (z_on_t (z_on_t (z_on_t (z_on_t (z_on_h rfl (by omega) (by omega)))))))))))) | exact z_on_t (z_on_t (z_on_t (z_on_t (z_on_t (z_on_t (z_on_t (z_on_t (z_on_t (z_on_t (z_on_t (z_on_t (z_on_h rfl (by omega) (by omega)))))))))))))))
  have sz : m1 116 2 = m 116 2 := a3.of (by (try unfold c_RL); (repeat' (first | exact trivial | refine z_of_c ?_ ?_)) <;> omega)
  have srow : m1 117 = m 117 := a3.ofr (by (try unfold c_RL); (repeat' (first | exact trivial | refine z_ofr_c ?_ ?_)) <;> omega)
  have B1 : c_RB g m1 := ⟨(u_g_RL s1).trans b1, by rw [a3.of (by (try unfold c_RL); (repeat' (first | exact trivial | refine z_of_c ?_ ?_)) <;> omega)]; exact b2, by omega, by omega, by omega⟩
  obtain ⟨m2, d1, d2, d3, d4, d5⟩ := c_thing hg hr hd hE m1 B1
  have gd := q_th_good hg (q_E_good hg d) (m1 1 2) B1.2.2.1.1 B1.2.2.1.2
  rw [a2] at d1 d3 d5 gd
  rw [sz, srow] at d5
  generalize q_th g (q_E g d) (m 1 2 + (n : Int)) = R at d1 d3 d5 gd ⊢
  obtain ⟨ok, pos, code⟩ := R
  simp only at d1 d3 d5 gd ⊢
  rw [d1, zb_v, s_rsg_43]
  by_cases c : n % 2 = 1
  · rw [if_neg (by omega), if_pos c]
    obtain ⟨m3, e1, e2, e3, e4, e5⟩ := c_emit m2 2126 d4.1 d4.2
    rw [e1, zb_n, s_rsg_55]
    refine ⟨m3, rfl, (s1.tr d2).tr e2, e3.trans d3, e4, fun z => ?_⟩
    obtain ⟨f1, f2⟩ := d5 z
    have gz := gd.2.2 z
    have ee := e5 (by omega)
    rw [f1, f2] at ee
    refine ⟨?_, ?_⟩
    · rw [ee.1]
      show _ = m 116 2 + (((code ++ [2126]).length : Nat) : Int)
      rw [List.length_append]
      show _ = m 116 2 + ((code.length + 1 : Nat) : Int)
      omega
    · rw [ee.2]
      show _ = wr (m 117) (m 116 2).toNat (code ++ [2126])
      rw [wr_app, show (m 116 2 + (code.length : Int)).toNat = (m 116 2).toNat + code.length by omega]
      rfl
  · rw [if_pos (by omega), if_neg c, List.append_nil]
    exact ⟨m2, rfl, s1.tr d2, d3, d4, d5⟩
/-- parts joined from the left -/
theorem c_chain1 {g : Int → Int} (hg : q_gb g) {d : Nat} {b a1 a2 : Int} {part : Int → q_Q} (hgood : q_good part) (ha1 : ¬ a1 = -1) (ha2 : ¬ a2 = -1) (hj : ∀ (m : z_M) (s : Int), z_R 51 (m, 0, [(0, s), (0, b)], []) = some (m, some (0, okf (decide (s = a1 ∨ s = a2))))) (hp : ∀ m : z_M, c_RB g m → ∃ m', z_R 43 (m, 0, [(2, 116), (0, (d : Int)), (0, b)], []) = some (m', some (0, okf (part (m 1 2)).1)) ∧ c_RP m m' (part (m 1 2))) {m0 : z_M} (hB : c_RB g m0) (hr : ∀ i, -1 ≤ g i ∧ g i ≤ 255) : ∀ (k : Nat) (x5 : Int) (r : q_Q) (m : z_M), x5 + (k : Int) = 40 → 0 ≤ x5 → c_RP m0 m r → m0 1 2 ≤ r.2.1 → r.2.1 ≤ 40 → (r.1 = true → m0 1 2 < r.2.1 ∧ ((r.2.2).length : Int) ≤ r.2.1 - m0 1 2) → ∃ m', z_R 42 (m, 19, [(2, 116), (0, (d : Int)), (0, b), (0, okf r.1), (0, g r.2.1), (0, x5)], []) = some (m', some (0, okf (q_lp g part a1 a2 k r).1)) ∧ c_RP m0 m' (q_lp g part a1 a2 k r) := by
  obtain ⟨b1, b2, b3, b4, b5⟩ := hB
  intro k
  induction k with
  | zero =>
    intro x5 r m hx h0 hP h1 h2 h3
    rw [s_rch_19, if_pos (by omega)]
    exact ⟨m, rfl, hP⟩
  | succ k ih =>
    intro x5 r m hx h0 hP h1 h2 h3
    obtain ⟨p1, p2, p3, p4⟩ := hP
    rw [s_rch_19, if_neg (by omega)]
    unfold q_lp
    by_cases c0 : r.1 = false
    · rw [if_neg (show ¬ (r.1 = true ∧ (g r.2.1 = a1 ∨ g r.2.1 = a2)) from fun z => by rw [c0] at z; cases z.1), c0, show okf false = 0 from rfl, if_pos rfl]
      exact ⟨m, rfl, p1, p2, p3, p4⟩
    have c1 : r.1 = true := by cases hq : r.1 <;> simp_all
    have c1' : ¬ okf r.1 = 0 := by rw [c1]; decide
    rw [if_neg c1', hj, zb_v, s_rch_40]
    have g1 : u_g m = g := (u_g_RL p1).trans b1
    have rr := hr r.2.1
    obtain ⟨q1, q2⟩ := h3 c1
    obtain ⟨p5, p6⟩ := p4 c1
    by_cases c2 : g r.2.1 = a1 ∨ g r.2.1 = a2
    · have bb := hg r.2.1 (by rcases c2 with z | z <;> rw [z] <;> assumption)
      have e12 : (z_up m 1 2 (m 1 2 + 1)) 1 2 = m 1 2 + 1 := zu_self
      have sz : (z_up m 1 2 (m 1 2 + 1)) 116 2 = m 116 2 := zu_p (by decide)
      have srow : (z_up m 1 2 (m 1 2 + 1)) 117 = m 117 := zu_rowne (by decide)
      obtain ⟨m1, d1, d2, d3, d4, d5⟩ := hp (z_up m 1 2 (m 1 2 + 1)) ⟨u_g_at.trans g1, by rw [zu_k (by decide), p1.of (by (try unfold c_RL); (repeat' (first | exact trivial | refine z_of_c ?_ ?_)) <;> omega)]; exact b2, by omega, by omega, by omega⟩
      have gd := hgood (m 1 2 + 1) (by omega) (by omega)
      rw [e12] at d1 d3 d5
      rw [sz, srow] at d5
      rw [p2] at d1 d3 d5 gd
      rw [decide_eq_true c2, show okf true = 1 from rfl, c_step1 m (by omega) (by omega), zb_v, s_rch_43, if_neg (by decide), p2, d1, zb_v, s_rch_52, if_pos ⟨c1, c2⟩, z_add_eq (by omega) (by omega)]
      obtain ⟨m2, f1, f2, f3, f4, f5⟩ := c_emit m1 (2000 + g r.2.1) d4.1 d4.2
      have s2 : z_same c_RL m0 m2 := (p1.tr ((z_same.rf.upo (L := c_RL) (p := 1) (k := 2) (v := r.2.1 + 1) (by (try unfold c_RL); first | exact z_on_h rfl (by omega) (by omega) | exact z_on_t (z_on_h rfl (by omega) (by omega)) | exact z_on_t (z_on_t (z_on_h rfl (by omega) (by omega))) | exact z_on_t (z_on_t (z_on_t (z_on_h rfl (by omega) (by omega)))) | exact z_on_t (z_on_t (z_on_t (z_on_t (z_on_h rfl (by omega) (by omega))))) | exact z_on_t (z_on_t (z_on_t (z_on_t (z_on_t (z_on_h rfl (by omega) (by omega)))))) | exact z_on_t (z_on_t (z_on_t (z_on_t (z_on_t (z_on_t (z_on_h rfl (by omega) (by omega))))))) | exact z_on_t (z_on_t (z_on_t (z_on_t (z_on_t (z_on_t (z_on_t (z_on_h rfl (by omega) (by omega)))))))) | exact z_on_t (z_on_t (z_on_t (z_on_t (z_on_t (z_on_t (z_on_t (z_on_t (z_on_h rfl (by omega) (by omega))))))))) | exact z_on_t (z_on_t (z_on_t (z_on_t (z_on_t (z_on_t (z_on_t (z_on_t (z_on_t (z_on_h rfl (by omega) (by omega)))))))))) | exact z_on_t (z_on_t (z_on_t (z_on_t (z_on_t (z_on_t (z_on_t (z_on_t (z_on_t (z_on_t (z_on_h rfl (by omega) (by omega))))))))))) | exact z_on_t (z_on_t (z_on_t (z_on_t (z_on_t (z_on_t (z_on_t (z_on_t (z_on_t (z_on_t (z_on_t (z_on_h rfl (by omega) (by omega)))))))))))) | exact z_on_t (z_on_t (z_on_t (z_on_t (z_on_t (z_on_t (z_on_t (z_on_t (z_on_t (z_on_t (z_on_t (z_on_t (z_on_h rfl (by omega) (by omega))))))))))))))).tr (by rw [p2] at d2; exact d2))).tr f2
      have g2 : u_g m2 = g := (u_g_RL s2).trans b1
      rw [f1, zb_n, s_rch_63, c_next m2 (by omega) (by rw [s2.of (by (try unfold c_RL); (repeat' (first | exact trivial | refine z_of_c ?_ ?_)) <;> omega)]; exact b2), zb_v, s_rch_70, g2, f3, d3, z_add_eq (by omega) (by omega)]
      generalize part (r.2.1 + 1) = S at d1 d3 d5 gd ⊢
      obtain ⟨ok, pos, code⟩ := S
      simp only at d1 d3 d5 gd ⊢
      have R := ih (x5 + 1) (ok, pos, r.2.2 ++ code ++ [2000 + g r.2.1]) m2 (by omega) (by omega) ⟨s2, f3.trans d3, f4, fun z => by
        obtain ⟨t1, t2⟩ := d5 z
        have gz := gd.2.2 z
        have t3 := f5 (by omega)
        rw [t1, t2, p5, p6] at t3
        refine ⟨?_, ?_⟩
        · rw [t3.1]
          show _ = m0 116 2 + (((r.2.2 ++ code ++ [2000 + g r.2.1]).length : Nat) : Int)
          rw [List.length_append, List.length_append]
          show _ = m0 116 2 + (((r.2.2).length + code.length + 1 : Nat) : Int)
          omega
        · rw [t3.2]
          show _ = wr (m0 117) (m0 116 2).toNat (r.2.2 ++ code ++ [2000 + g r.2.1])
          rw [wr_app, wr_app, List.length_append, show (m0 116 2 + ((r.2.2).length : Int)).toNat = (m0 116 2).toNat + (r.2.2).length by omega, show (m0 116 2 + ((r.2.2).length : Int) + (code.length : Int)).toNat = (m0 116 2).toNat + ((r.2.2).length + code.length) by omega]
          rfl⟩ (by simp only; omega) (by simp only; exact gd.2.1) (fun z => by
        have gz := gd.2.2 z
        refine ⟨by simp only; omega, ?_⟩
        show (((r.2.2 ++ code ++ [2000 + g r.2.1]).length : Nat) : Int) ≤ pos - m0 1 2
        rw [List.length_append, List.length_append]
        show (((r.2.2).length + code.length + 1 : Nat) : Int) ≤ _
        omega)
      exact R
    · rw [decide_eq_false c2, show okf false = 0 from rfl, c_step0, zb_v, s_rch_43, if_pos rfl, if_neg (fun z => c2 z.2)]
      exact ⟨m, rfl, p1, p2, p3, p4⟩
theorem c_chain {g : Int → Int} (hg : q_gb g) {d : Nat} (hd : d ≤ 4) {b a1 a2 : Int} {part : Int → q_Q} (hgood : q_good part) (ha1 : ¬ a1 = -1) (ha2 : ¬ a2 = -1) (hj : ∀ (m : z_M) (s : Int), z_R 51 (m, 0, [(0, s), (0, b)], []) = some (m, some (0, okf (decide (s = a1 ∨ s = a2))))) (hp : ∀ m : z_M, c_RB g m → ∃ m', z_R 43 (m, 0, [(2, 116), (0, (d : Int)), (0, b)], []) = some (m', some (0, okf (part (m 1 2)).1)) ∧ c_RP m m' (part (m 1 2))) (hr : ∀ i, -1 ≤ g i ∧ g i ≤ 255) (m : z_M) (hB : c_RB g m) : ∃ m', z_R 42 (m, 0, [(2, 116), (0, (d : Int)), (0, b), (9, 0), (9, 0), (9, 0)], []) = some (m', some (0, okf (q_lp g part a1 a2 40 (part (m 1 2))).1)) ∧ c_RP m m' (q_lp g part a1 a2 40 (part (m 1 2))) := by
  obtain ⟨b1, b2, b3, b4, b5⟩ := id hB
  obtain ⟨m1, d1, d2⟩ := hp m hB
  have gd := hgood (m 1 2) b3.1 b3.2
  obtain ⟨p1, p2, p3, p4⟩ := id d2
  have g1 : u_g m1 = g := (u_g_RL p1).trans b1
  rw [s_rch_0 m d b ⟨by omega, by omega⟩, d1, zb_v, s_rch_6, c_next m1 (by omega) (by rw [p1.of (by (try unfold c_RL); (repeat' (first | exact trivial | refine z_of_c ?_ ?_)) <;> omega)]; exact b2), zb_v, s_rch_14, g1, p2]
  exact c_chain1 hg hgood ha1 ha2 hj hp hB hr 40 0 _ m1 (by decide) (Int.le_refl _) d2 gd.1 gd.2.1 gd.2.2
theorem c_join1 (m : z_M) (s : Int) : z_R 51 (m, 0, [(0, s), (0, 1)], []) = some (m, some (0, okf (decide (s = 42 ∨ s = 47)))) := by
  rw [s_rjo_0, if_neg (by decide)]
  by_cases h1 : s = 42
  · rw [if_pos h1, decide_eq_true (Or.inl h1)]; rfl
  rw [if_neg h1]
  by_cases h2 : s = 47
  · rw [if_pos h2, decide_eq_true (Or.inr h2)]; rfl
  · rw [if_neg h2, decide_eq_false (fun z => z.elim h1 h2)]; rfl
theorem c_join0 (m : z_M) (s : Int) : z_R 51 (m, 0, [(0, s), (0, 0)], []) = some (m, some (0, okf (decide (s = 43 ∨ s = 45)))) := by
  rw [s_rjo_0, if_pos rfl]
  by_cases h1 : s = 43
  · rw [if_pos h1, decide_eq_true (Or.inl h1)]; rfl
  rw [if_neg h1]
  by_cases h2 : s = 45
  · rw [if_pos h2, decide_eq_true (Or.inr h2)]; rfl
  · rw [if_neg h2, decide_eq_false (fun z => z.elim h1 h2)]; rfl
theorem c_product {g : Int → Int} (hg : q_gb g) (hr : ∀ i, -1 ≤ g i ∧ g i ≤ 255) {d : Nat} (hd : d ≤ 4) (hE : d < 4 → c_PE g (d + 1)) (m : z_M) (hB : c_RB g m) : ∃ m', z_R 42 (m, 0, [(2, 116), (0, (d : Int)), (0, 1), (9, 0), (9, 0), (9, 0)], []) = some (m', some (0, okf (q_pr g (q_E g d) (m 1 2)).1)) ∧ c_RP m m' (q_pr g (q_E g d) (m 1 2)) := by
  refine c_chain hg hd (q_sg_good hg (q_E_good hg d)) (by decide) (by decide) c_join1 (fun m hB => ?_) hr m hB
  obtain ⟨m', a1, a2⟩ := c_signed hg hr hd hE m hB
  refine ⟨m', ?_, a2⟩
  rw [s_rpt_0, if_neg (by decide), a1, zb_v, s_rpt_9]
theorem c_sum {g : Int → Int} (hg : q_gb g) (hr : ∀ i, -1 ≤ g i ∧ g i ≤ 255) {d : Nat} (hd : d ≤ 4) (hE : d < 4 → c_PE g (d + 1)) (m : z_M) (hB : c_RB g m) : ∃ m', z_R 42 (m, 0, [(2, 116), (0, (d : Int)), (0, 0), (9, 0), (9, 0), (9, 0)], []) = some (m', some (0, okf (q_su g (q_E g d) (m 1 2)).1)) ∧ c_RP m m' (q_su g (q_E g d) (m 1 2)) := by
  refine c_chain hg hd (q_pr_good hg (q_E_good hg d)) (by decide) (by decide) c_join0 (fun m hB => ?_) hr m hB
  obtain ⟨m', a1, a2⟩ := c_product hg hr hd hE m hB
  refine ⟨m', ?_, a2⟩
  rw [s_rpt_0, if_pos rfl, a1, zb_v, s_rpt_18]
theorem c_expr {g : Int → Int} (hg : q_gb g) (hr : ∀ i, -1 ≤ g i ∧ g i ≤ 255) {d : Nat} (hd : d ≤ 4) (hE : d < 4 → c_PE g (d + 1)) : c_PE g d := by
  intro m hB
  obtain ⟨b1, b2, b3, b4, b5⟩ := id hB
  rw [q_ex_he g hd]
  obtain ⟨m1, a1, p1, p2, p3, p4⟩ := c_sum hg hr hd hE m hB
  have gd := q_su_good hg (q_E_good hg d) (m 1 2) b3.1 b3.2
  have g1 : u_g m1 = g := (u_g_RL p1).trans b1
  rw [s_rex_0 m d ⟨by omega, by omega⟩, a1, zb_v, s_rex_6 m1 d _ ⟨by omega, by omega⟩, c_next m1 (by omega) (by rw [p1.of (by (try unfold c_RL); (repeat' (first | exact trivial | refine z_of_c ?_ ?_)) <;> omega)]; exact b2), zb_v, s_rex_14 m1 d _ _ ⟨by omega, by omega⟩, g1, p2]
  unfold q_he
  generalize hR : q_su g (q_E g d) (m 1 2) = R at a1 p2 p4 gd ⊢
  obtain ⟨ok, pos, code⟩ := R
  simp only at a1 p2 p4 gd ⊢
  have no : ¬ (ok = true ∧ (g pos = 60 ∨ g pos = 62 ∨ g pos = 61)) → c_RP m m1 (if ok = true ∧ (g pos = 60 ∨ g pos = 62 ∨ g pos = 61) then ((q_su g (q_E g d) (pos + 1)).1, (q_su g (q_E g d) (pos + 1)).2.1, code ++ (q_su g (q_E g d) (pos + 1)).2.2 ++ [2000 + g pos]) else (ok, pos, code)) := fun z => by
    rw [if_neg z]
    exact ⟨p1, p2, p3, p4⟩
  cases ok with
  | false =>
    rw [show okf false = 0 from rfl, if_pos rfl]
    have z := no (fun z => by cases z.1)
    rw [if_neg (show ¬ (false = true ∧ (g pos = 60 ∨ g pos = 62 ∨ g pos = 61)) from fun z => by cases z.1)] at z ⊢
    exact ⟨m1, rfl, z⟩
  | true =>
    rw [show okf true = 1 from rfl, if_neg (by decide)]
    by_cases c : g pos = 60 ∨ g pos = 62 ∨ g pos = 61
    · rw [if_pos (show true = true ∧ (g pos = 60 ∨ g pos = 62 ∨ g pos = 61) from ⟨rfl, c⟩)]
      have bb := hg pos (by rcases c with z | z | z <;> rw [z] <;> decide)
      obtain ⟨p5, p6⟩ := p4 rfl
      have gz := gd.2.2 rfl
      have e12 : (z_up m1 1 2 (m1 1 2 + 1)) 1 2 = m1 1 2 + 1 := zu_self
      have sz : (z_up m1 1 2 (m1 1 2 + 1)) 116 2 = m1 116 2 := zu_p (by decide)
      have srow : (z_up m1 1 2 (m1 1 2 + 1)) 117 = m1 117 := zu_rowne (by decide)
      obtain ⟨m2, d1, d2, d3, d4, d5⟩ := c_sum hg hr hd hE (z_up m1 1 2 (m1 1 2 + 1)) ⟨u_g_at.trans g1, by rw [zu_k (by decide), p1.of (by (try unfold c_RL); (repeat' (first | exact trivial | refine z_of_c ?_ ?_)) <;> omega)]; exact b2, by omega, by omega, by omega⟩
      rw [e12] at d1 d3 d5
      rw [sz, srow, p5, p6] at d5
      rw [p2] at d1 d2 d3 d5
      have gd2 := q_su_good hg (q_E_good hg d) (pos + 1) (by omega) (by omega)
      have rp := hr pos
      obtain ⟨m3, f1, f2, f3, f4, f5⟩ := c_emit m2 (2000 + g pos) d4.1 d4.2
      have go : ((z_R 26 (m1, 0, [(2, 1), (0, 1)], [])).bind fun qq => z_R 41 (qq.1, 49, [(2, 116), (0, (d : Int)), (0, 1), (0, g pos)], qq.2.toList ++ [])) = some (m3, some (0, okf (q_su g (q_E g d) (pos + 1)).1)) := by
        rw [c_step1 m1 (by omega) (by omega), zb_v, s_rex_49, if_neg (by decide), p2, d1, zb_v, s_rex_58, z_add_eq (by omega) (by omega), f1, zb_n, s_rex_68]
      have fin : c_RP m m3 ((q_su g (q_E g d) (pos + 1)).1, (q_su g (q_E g d) (pos + 1)).2.1, code ++ (q_su g (q_E g d) (pos + 1)).2.2 ++ [2000 + g pos]) := by
        refine ⟨(p1.tr ((z_same.rf.upo (L := c_RL) (p := 1) (k := 2) (v := pos + 1) (by (try unfold c_RL); first | exact z_on_h rfl (by omega) (by omega) | exact z_on_t (z_on_h rfl (by omega) (by omega)) | exact z_on_t (z_on_t (z_on_h rfl (by omega) (by omega))) | exact z_on_t (z_on_t (z_on_t (z_on_h rfl (by omega) (by omega)))) | exact z_on_t (z_on_t (z_on_t (z_on_t (z_on_h rfl (by omega) (by omega))))) | exact z_on_t (z_on_t (z_on_t (z_on_t (z_on_t (z_on_h rfl (by omega) (by omega)))))) | exact z_on_t (z_on_t (z_on_t (z_on_t (z_on_t (z_on_t (z_on_h rfl (by omega) (by omega))))))) | exact z_on_t (z_on_t (z_on_t (z_on_t (z_on_t (z_on_t (z_on_t (z_on_h rfl (by omega) (by omega)))))))) | exact z_on_t (z_on_t (z_on_t (z_on_t (z_on_t (z_on_t (z_on_t (z_on_t (z_on_h rfl (by omega) (by omega))))))))) | exact z_on_t (z_on_t (z_on_t (z_on_t (z_on_t (z_on_t (z_on_t (z_on_t (z_on_t (z_on_h rfl (by omega) (by omega)))))))))) | exact z_on_t (z_on_t (z_on_t (z_on_t (z_on_t (z_on_t (z_on_t (z_on_t (z_on_t (z_on_t (z_on_h rfl (by omega) (by omega))))))))))) | exact z_on_t (z_on_t (z_on_t (z_on_t (z_on_t (z_on_t (z_on_t (z_on_t (z_on_t (z_on_t (z_on_t (z_on_h rfl (by omega) (by omega)))))))))))) | exact z_on_t (z_on_t (z_on_t (z_on_t (z_on_t (z_on_t (z_on_t (z_on_t (z_on_t (z_on_t (z_on_t (z_on_t (z_on_h rfl (by omega) (by omega))))))))))))))).tr d2)).tr f2, f3.trans d3, f4, fun z => ?_⟩
        obtain ⟨t1, t2⟩ := d5 z
        have gz2 := gd2.2.2 z
        have t3 := f5 (by omega)
        rw [t1, t2] at t3
        refine ⟨?_, ?_⟩
        · rw [t3.1]
          show _ = m 116 2 + (((code ++ (q_su g (q_E g d) (pos + 1)).2.2 ++ [2000 + g pos]).length : Nat) : Int)
          rw [List.length_append, List.length_append]
          show _ = m 116 2 + ((code.length + ((q_su g (q_E g d) (pos + 1)).2.2).length + 1 : Nat) : Int)
          omega
        · rw [t3.2]
          show _ = wr (m 117) (m 116 2).toNat (code ++ (q_su g (q_E g d) (pos + 1)).2.2 ++ [2000 + g pos])
          rw [wr_app, wr_app, List.length_append, show (m 116 2 + (code.length : Int)).toNat = (m 116 2).toNat + code.length by omega, show (m 116 2 + (code.length : Int) + (((q_su g (q_E g d) (pos + 1)).2.2).length : Int)).toNat = (m 116 2).toNat + (code.length + ((q_su g (q_E g d) (pos + 1)).2.2).length) by omega]
          rfl
      refine ⟨m3, ?_, fin⟩
      by_cases c1 : g pos = 60
      · rw [if_pos c1]; exact go
      rw [if_neg c1]
      by_cases c2 : g pos = 62
      · rw [if_pos c2]; exact go
      rw [if_neg c2, if_pos (by omega)]
      exact go
    · have z := no (fun z => c z.2)
      rw [if_neg (show ¬ (true = true ∧ (g pos = 60 ∨ g pos = 62 ∨ g pos = 61)) from fun z => c z.2)] at z ⊢
      rw [if_neg (fun z => c (Or.inl z)), if_neg (fun z => c (Or.inr (Or.inl z))), if_neg (fun z => c (Or.inr (Or.inr z))), c_step0, zb_v, s_rex_49, if_pos rfl]
      exact ⟨m1, rfl, z⟩
theorem c_exprs {g : Int → Int} (hg : q_gb g) (hr : ∀ i, -1 ≤ g i ∧ g i ≤ 255) : ∀ D, D ≤ 4 → c_PE g (4 - D)
  | 0, _ => c_expr hg hr (by decide) (fun z => by omega)
  | D + 1, h => c_expr hg hr (by omega) (fun _ => by
    rw [show 4 - (D + 1) + 1 = 4 - D by omega]
    exact c_exprs hg hr D (by omega))
end
section
/-! THE REFERENCE READS A RULE, and what it makes of it -/
def r_W (P : Nat) (g : Int → Int) (m : z_M) : Prop := m 251 12 = (P : Int) ∧ (P = 254 ∨ P = 258) ∧ m 251 14 = 40 ∧ m 251 13 ≤ 80 ∧ (0 ≤ m 251 15 ∧ m 251 15 ≤ 80) ∧ u_nx (fun k => z_and (m P k) 255) (m 251 13) 40 = g ∧ ∀ k, k < 40 → -128 ≤ m P k ∧ m P k ≤ 127
theorem r_W_gb {P : Nat} {g : Int → Int} {m : z_M} (h : r_W P g m) : q_gb g := by
  obtain ⟨-, -, -, -, -, h6, -⟩ := h
  rw [← h6]
  intro i hi
  unfold u_nx at hi
  by_cases hc : 0 ≤ i ∧ i < m 251 13 ∧ i < 40
  · omega
  · rw [if_neg hc] at hi; exact absurd rfl hi
theorem r_W_sm {P : Nat} {g : Int → Int} {m m' : z_M} (h : r_W P g m) (hs : z_same [(251, 15, 16)] m m') (h0 : 0 ≤ m' 251 15) (h1 : m' 251 15 ≤ 80) : r_W P g m' := by
  obtain ⟨a1, a2, a3, a4, a5, a6, a7⟩ := h
  have eP : m' P = m P := hs.ofr (by
    refine z_ofr_c ?_ trivial
    omega)
  exact ⟨(hs.of (by (try unfold r_LR); (repeat' (first | exact trivial | refine z_of_c ?_ ?_)) <;> omega)).trans a1, a2, (hs.of (by (try unfold r_LR); (repeat' (first | exact trivial | refine z_of_c ?_ ?_)) <;> omega)).trans a3, by rw [hs.of (by (try unfold r_LR); (repeat' (first | exact trivial | refine z_of_c ?_ ?_)) <;> omega)]; exact a4, ⟨h0, h1⟩, by rw [eP, hs.of (by (try unfold r_LR); (repeat' (first | exact trivial | refine z_of_c ?_ ?_)) <;> omega)]; exact a6, by rw [eP]; exact a7⟩
theorem r_here {P : Nat} {g : Int → Int} (m : z_M) (h : r_W P g m) : z_R 168 (m, 0, [(2, 251)], []) = some (m, some (0, g (m 251 15))) := by
  obtain ⟨e, hP, h14, h13, h15, hg, -⟩ := h
  have hl : ((h_ln (m 251 12).toNat : Nat) : Int) = 80 ∨ ((h_ln (m 251 12).toNat : Nat) : Int) = 40 := by
    rw [e, Int.toNat_natCast]
    rcases hP with rfl | rfl
    · exact Or.inl (by decide +kernel)
    · exact Or.inr (by decide +kernel)
  rw [t_here_0, ← hg]
  unfold u_nx
  by_cases c : m 251 15 < m 251 13
  · rw [if_neg (by omega)]
    by_cases c' : m 251 15 < m 251 14
    · rw [if_neg (by omega), if_pos ⟨h15.1, by omega⟩, if_pos ⟨h15.1, c, by omega⟩, e, Int.toNat_natCast]
    · rw [if_pos (by omega), if_neg (fun z => by omega)]
  · rw [if_pos (by omega), if_neg (fun z => c z.2.1)]
theorem r_pass {P : Nat} {g : Int → Int} (m : z_M) (c : Int) (h : m 251 16 = -1) (hw : r_W P g m) : z_R 170 (m, 0, [(2, 251), (0, c)], []) = if g (m 251 15) = c then some (z_up m 251 15 (m 251 15 + 1), some (0, 1)) else some (m, some (0, 0)) := by
  rw [t_pass_0, t_fine1 m h, zb_v, t_pass_4, if_neg (by decide), r_here m hw, zb_v, t_pass_11, z_add_eq (by have := hw.2.2.2.2.1; omega) (by have := hw.2.2.2.2.1; omega)]
theorem r_one {P : Nat} {g : Int → Int} (m : z_M) (h : m 251 16 = -1) (hw : r_W P g m) (hd : ¬ u_dg (g (m 251 15)) = -1) : z_R 167 (m, 0, [(2, 251), (0, 48), (0, 10)], []) = some (z_up m 251 15 (m 251 15 + 1), some (0, u_dg (g (m 251 15)))) := by
  have d := u_dg_ne hd
  have hb := r_W_gb hw (m 251 15) (by omega)
  obtain ⟨e, hP, h14, h13, h15, hg, hr⟩ := id hw
  have hl : ((h_ln (m 251 12).toNat : Nat) : Int) = 80 ∨ ((h_ln (m 251 12).toNat : Nat) : Int) = 40 := by
    rw [e, Int.toNat_natCast]
    rcases hP with rfl | rfl
    · exact Or.inl (by decide +kernel)
    · exact Or.inr (by decide +kernel)
  have hq : 0 ≤ m 251 15 ∧ m 251 15 < m 251 13 ∧ m 251 15 < 40 := by
    have hd' := d.1
    rw [← hg] at hd'
    unfold u_nx at hd'
    by_cases z : 0 ≤ m 251 15 ∧ m 251 15 < m 251 13 ∧ m 251 15 < 40
    · exact z
    · rw [if_neg z] at hd'; omega
  have eq : g (m 251 15) = z_and (m P (m 251 15).toNat) 255 := by
    rw [← hg]
    unfold u_nx
    rw [if_pos hq]
  have hr' := hr (m 251 15).toNat (by omega)
  have ea : z_and (m P (m 251 15).toNat) 255 = m P (m 251 15).toNat := z_and_small hr'.1 hr'.2 (by rw [← eq]; omega)
  have e2 : z_sub (z_add (m 251 15) 1) 1 = m 251 15 := by rw [z_add_eq (by omega) (by omega), z_sub_eq (by omega) (by omega)]; omega
  rw [t_one_0, t_fine1 m h, zb_v, t_one_4, if_neg (by decide), r_here m hw, zb_v, t_one_13, t_in, show z_sub (z_add 48 10) 1 = 57 by decide +kernel, if_pos ⟨d.1, d.2.1⟩, zb_v, t_one_22, if_neg (by decide), e2, if_pos ⟨by omega, by omega⟩, z_add_eq (by omega) (by omega), e, Int.toNat_natCast, zu_p (by omega), ← ea, ← eq, d.2.2, z_sub_eq (by omega) (by omega)]
abbrev r_LR : List (Nat × Nat × Nat) := [(251, 15, 16)]
/-- what a part of it leaves, and its number -/
def r_RP (m m' : z_M) (r : q_Q) (v : Int) : Prop := z_same r_LR m m' ∧ (r.1 = true → m' 251 16 = -1 ∧ m' 251 15 = r.2.1 ∧ (-2147483648 ≤ v ∧ v ≤ 2147483647) ∧ (m 251 21 = 1 → evs (m 259) r.2.2 v)) ∧ (r.1 = false → m' 251 16 = r.2.1)
def r_RB (P : Nat) (g : Int → Int) (m : z_M) : Prop := r_W P g m ∧ m 251 16 = -1 ∧ m 251 15 ≤ 40 ∧ (m 251 21 = 0 ∨ m 251 21 = 1) ∧ ∀ k, k < 7 → -2147483648 ≤ m 259 k ∧ m 259 k ≤ 2147483647
theorem r_RB_sm {P : Nat} {g : Int → Int} {m m' : z_M} (h : r_RB P g m) (hs : z_same r_LR m m') (hf : m' 251 16 = -1) (h0 : 0 ≤ m' 251 15) (h1 : m' 251 15 ≤ 40) : r_RB P g m' := by
  obtain ⟨a1, a2, a3, a4, a5⟩ := h
  refine ⟨r_W_sm a1 hs h0 (by omega), hf, h1, ?_, ?_⟩
  · rw [hs.of (by (try unfold r_LR); (repeat' (first | exact trivial | refine z_of_c ?_ ?_)) <;> omega)]; exact a4
  · rw [hs.ofr (by (try unfold r_LR); (repeat' (first | exact trivial | refine z_ofr_c ?_ ?_)) <;> omega)]; exact a5
theorem r_letter (m : z_M) (c : Int) : z_R 180 (m, 0, [(0, c)], []) = some (m, some (0, z_idx c)) := by
  rw [t_letter_0]
  unfold z_idx
  by_cases h1 : c = 119
  · rw [if_pos h1, if_pos h1]
  rw [if_neg h1, if_neg h1]
  by_cases h2 : c = 105
  · rw [if_pos h2, if_pos h2]
  rw [if_neg h2, if_neg h2]
  by_cases h3 : c = 97
  · rw [if_pos h3, if_pos h3]
  rw [if_neg h3, if_neg h3]
  by_cases h4 : c = 102
  · rw [if_pos h4, if_pos h4]
  rw [if_neg h4, if_neg h4]
  by_cases h5 : c = 121
  · rw [if_pos h5, if_pos h5]
  rw [if_neg h5, if_neg h5]
  by_cases h6 : c = 110
  · rw [if_pos h6, if_pos h6]
  rw [if_neg h6, if_neg h6]
  by_cases h7 : c = 104
  · rw [if_pos h7, if_pos h7]
  · rw [if_neg h7, if_neg h7]
theorem r_num1 {P : Nat} {g : Int → Int} : ∀ (k : Nat) (x3 v : Int) (m : z_M), x3 + (k : Int) = 3 → 1 ≤ x3 → r_W P g m → m 251 16 = -1 → 0 ≤ v → v ≤ q_bnd k → ∃ m', z_R 166 (m, 11, [(2, 251), (0, 3), (0, v), (0, x3)], []) = some (m', some (0, (q_nm g k (m 251 15) v).2)) ∧ m' 251 15 = (q_nm g k (m 251 15) v).1 ∧ z_same [(251, 15, 15)] m m' := by
  intro k
  induction k with
  | zero =>
    intro x3 v m hx h1 hw hf hv0 hv
    rw [t_num_11, if_pos (by omega)]
    exact ⟨m, rfl, rfl, z_same.rf⟩
  | succ k ih =>
    intro x3 v m hx h1 hw hf hv0 hv
    have b15 := hw.2.2.2.2.1
    have r := u_dg_rng (g (m 251 15))
    rw [t_num_11, if_neg (by omega), t_fine1 m hf, zb_v, t_num_20, if_neg (by decide), r_here m hw, zb_v, t_num_27, t_in]
    unfold q_nm
    by_cases c : u_dg (g (m 251 15)) = -1
    · have hn : ¬ (48 ≤ g (m 251 15) ∧ g (m 251 15) ≤ 57) := fun z => by
        unfold u_dg at c
        rw [if_pos z] at c
        omega
      rw [if_pos c, if_neg hn, zb_v, t_num_34, if_pos rfl]
      exact ⟨m, rfl, rfl, z_same.rf⟩
    · have d := u_dg_ne c
      have hb := r_W_gb hw (m 251 15) (by omega)
      have hv9 : v ≤ 99 := by
        rcases (show k = 0 ∨ k = 1 by omega) with rfl | rfl
        · exact hv
        · have hv : v ≤ 9 := hv
          omega
      have s1 : z_same [(251, 15, 15)] m (z_up m 251 15 (m 251 15 + 1)) := z_same.rf.upo (by (try unfold r_LR); first | exact z_on_h rfl (by omega) (by omega) | exact z_on_t (z_on_h rfl (by omega) (by omega)) | exact z_on_t (z_on_t (z_on_h rfl (by omega) (by omega))) | exact z_on_t (z_on_t (z_on_t (z_on_h rfl (by omega) (by omega)))) | exact z_on_t (z_on_t (z_on_t (z_on_t (z_on_h rfl (by omega) (by omega))))) | exact z_on_t (z_on_t (z_on_t (z_on_t (z_on_t (z_on_h rfl (by omega) (by omega)))))) | exact z_on_t (z_on_t (z_on_t (z_on_t (z_on_t (z_on_t (z_on_h rfl (by omega) (by omega))))))) | exact z_on_t (z_on_t (z_on_t (z_on_t (z_on_t (z_on_t (z_on_t (z_on_h rfl (by omega) (by omega)))))))) | exact z_on_t (z_on_t (z_on_t (z_on_t (z_on_t (z_on_t (z_on_t (z_on_t (z_on_h rfl (by omega) (by omega))))))))) | exact z_on_t (z_on_t (z_on_t (z_on_t (z_on_t (z_on_t (z_on_t (z_on_t (z_on_t (z_on_h rfl (by omega) (by omega)))))))))) | exact z_on_t (z_on_t (z_on_t (z_on_t (z_on_t (z_on_t (z_on_t (z_on_t (z_on_t (z_on_t (z_on_h rfl (by omega) (by omega))))))))))) | exact z_on_t (z_on_t (z_on_t (z_on_t (z_on_t (z_on_t (z_on_t (z_on_t (z_on_t (z_on_t (z_on_t (z_on_h rfl (by omega) (by omega)))))))))))) | exact z_on_t (z_on_t (z_on_t (z_on_t (z_on_t (z_on_t (z_on_t (z_on_t (z_on_t (z_on_t (z_on_t (z_on_t (z_on_h rfl (by omega) (by omega))))))))))))))
      have e15 : (z_up m 251 15 (m 251 15 + 1)) 251 15 = m 251 15 + 1 := zu_self
      rw [if_neg c, if_pos ⟨d.1, d.2.1⟩, zb_v, t_num_34, if_neg (by decide), r_one m hf hw c, zb_v, t_num_49, z_mul_eq (by omega) (by omega), z_add_eq (x := 10 * v) (by omega) (by omega), z_add_eq (x := x3) (by omega) (by omega)]
      obtain ⟨m', a1, a2, a3⟩ := ih (x3 + 1) (10 * v + u_dg (g (m 251 15))) (z_up m 251 15 (m 251 15 + 1)) (by omega) (by omega) (r_W_sm hw (s1.subo (by (try unfold r_LR); (repeat' (first | exact trivial | refine z_sbo_c ?_ ?_)) <;> (intro k h1 h2; first | exact z_on_h rfl (by omega) (by omega) | exact z_on_t (z_on_h rfl (by omega) (by omega)) | exact z_on_t (z_on_t (z_on_h rfl (by omega) (by omega))) | exact z_on_t (z_on_t (z_on_t (z_on_h rfl (by omega) (by omega)))) | exact z_on_t (z_on_t (z_on_t (z_on_t (z_on_h rfl (by omega) (by omega))))) | exact z_on_t (z_on_t (z_on_t (z_on_t (z_on_t (z_on_h rfl (by omega) (by omega)))))) | exact z_on_t (z_on_t (z_on_t (z_on_t (z_on_t (z_on_t (z_on_h rfl (by omega) (by omega))))))) | exact z_on_t (z_on_t (z_on_t (z_on_t (z_on_t (z_on_t (z_on_t (z_on_h rfl (by omega) (by omega)))))))) | exact z_on_t (z_on_t (z_on_t (z_on_t (z_on_t (z_on_t (z_on_t (z_on_t (z_on_h rfl (by omega) (by omega))))))))) | exact z_on_t (z_on_t (z_on_t (z_on_t (z_on_t (z_on_t (z_on_t (z_on_t (z_on_t (z_on_h rfl (by omega) (by omega)))))))))) | exact z_on_t (z_on_t (z_on_t (z_on_t (z_on_t (z_on_t (z_on_t (z_on_t (z_on_t (z_on_t (z_on_h rfl (by omega) (by omega))))))))))) | exact z_on_t (z_on_t (z_on_t (z_on_t (z_on_t (z_on_t (z_on_t (z_on_t (z_on_t (z_on_t (z_on_t (z_on_h rfl (by omega) (by omega)))))))))))) | exact z_on_t (z_on_t (z_on_t (z_on_t (z_on_t (z_on_t (z_on_t (z_on_t (z_on_t (z_on_t (z_on_t (z_on_t (z_on_h rfl (by omega) (by omega)))))))))))))))) (by omega) (by omega)) (by rw [zu_k (by decide)]; exact hf) (by omega) (by
        rcases (show k = 0 ∨ k = 1 by omega) with rfl | rfl
        · have hv : v ≤ 99 := hv
          show 10 * v + u_dg (g (m 251 15)) ≤ 999
          omega
        · have hv : v ≤ 9 := hv
          show 10 * v + u_dg (g (m 251 15)) ≤ 99
          omega)
      rw [e15] at a1 a2
      exact ⟨m', a1, a2, s1.tr a3⟩
theorem r_num {P : Nat} {g : Int → Int} (m : z_M) (hw : r_W P g m) (hf : m 251 16 = -1) (hd : ¬ u_dg (g (m 251 15)) = -1) : ∃ m', z_R 166 (m, 0, [(2, 251), (0, 3), (9, 0), (9, 0)], []) = some (m', some (0, (q_nm g 3 (m 251 15) 0).2)) ∧ m' 251 15 = (q_nm g 3 (m 251 15) 0).1 ∧ z_same [(251, 15, 15)] m m' := by
  have d := u_dg_ne hd
  have hb := r_W_gb hw (m 251 15) (by omega)
  have b15 := hw.2.2.2.2.1
  have r := u_dg_rng (g (m 251 15))
  have s1 : z_same [(251, 15, 15)] m (z_up m 251 15 (m 251 15 + 1)) := z_same.rf.upo (by (try unfold r_LR); first | exact z_on_h rfl (by omega) (by omega) | exact z_on_t (z_on_h rfl (by omega) (by omega)) | exact z_on_t (z_on_t (z_on_h rfl (by omega) (by omega))) | exact z_on_t (z_on_t (z_on_t (z_on_h rfl (by omega) (by omega)))) | exact z_on_t (z_on_t (z_on_t (z_on_t (z_on_h rfl (by omega) (by omega))))) | exact z_on_t (z_on_t (z_on_t (z_on_t (z_on_t (z_on_h rfl (by omega) (by omega)))))) | exact z_on_t (z_on_t (z_on_t (z_on_t (z_on_t (z_on_t (z_on_h rfl (by omega) (by omega))))))) | exact z_on_t (z_on_t (z_on_t (z_on_t (z_on_t (z_on_t (z_on_t (z_on_h rfl (by omega) (by omega)))))))) | exact z_on_t (z_on_t (z_on_t (z_on_t (z_on_t (z_on_t (z_on_t (z_on_t (z_on_h rfl (by omega) (by omega))))))))) | exact z_on_t (z_on_t (z_on_t (z_on_t (z_on_t (z_on_t (z_on_t (z_on_t (z_on_t (z_on_h rfl (by omega) (by omega)))))))))) | exact z_on_t (z_on_t (z_on_t (z_on_t (z_on_t (z_on_t (z_on_t (z_on_t (z_on_t (z_on_t (z_on_h rfl (by omega) (by omega))))))))))) | exact z_on_t (z_on_t (z_on_t (z_on_t (z_on_t (z_on_t (z_on_t (z_on_t (z_on_t (z_on_t (z_on_t (z_on_h rfl (by omega) (by omega)))))))))))) | exact z_on_t (z_on_t (z_on_t (z_on_t (z_on_t (z_on_t (z_on_t (z_on_t (z_on_t (z_on_t (z_on_t (z_on_t (z_on_h rfl (by omega) (by omega))))))))))))))
  have e15 : (z_up m 251 15 (m 251 15 + 1)) 251 15 = m 251 15 + 1 := zu_self
  obtain ⟨m', a1, a2, a3⟩ := r_num1 (P := P) (g := g) 2 1 (u_dg (g (m 251 15))) (z_up m 251 15 (m 251 15 + 1)) (by decide) (by decide) (r_W_sm hw (s1.subo (by (try unfold r_LR); (repeat' (first | exact trivial | refine z_sbo_c ?_ ?_)) <;> (intro k h1 h2; first | exact z_on_h rfl (by omega) (by omega) | exact z_on_t (z_on_h rfl (by omega) (by omega)) | exact z_on_t (z_on_t (z_on_h rfl (by omega) (by omega))) | exact z_on_t (z_on_t (z_on_t (z_on_h rfl (by omega) (by omega)))) | exact z_on_t (z_on_t (z_on_t (z_on_t (z_on_h rfl (by omega) (by omega))))) | exact z_on_t (z_on_t (z_on_t (z_on_t (z_on_t (z_on_h rfl (by omega) (by omega)))))) | exact z_on_t (z_on_t (z_on_t (z_on_t (z_on_t (z_on_t (z_on_h rfl (by omega) (by omega))))))) | exact z_on_t (z_on_t (z_on_t (z_on_t (z_on_t (z_on_t (z_on_t (z_on_h rfl (by omega) (by omega)))))))) | exact z_on_t (z_on_t (z_on_t (z_on_t (z_on_t (z_on_t (z_on_t (z_on_t (z_on_h rfl (by omega) (by omega))))))))) | exact z_on_t (z_on_t (z_on_t (z_on_t (z_on_t (z_on_t (z_on_t (z_on_t (z_on_t (z_on_h rfl (by omega) (by omega)))))))))) | exact z_on_t (z_on_t (z_on_t (z_on_t (z_on_t (z_on_t (z_on_t (z_on_t (z_on_t (z_on_t (z_on_h rfl (by omega) (by omega))))))))))) | exact z_on_t (z_on_t (z_on_t (z_on_t (z_on_t (z_on_t (z_on_t (z_on_t (z_on_t (z_on_t (z_on_t (z_on_h rfl (by omega) (by omega)))))))))))) | exact z_on_t (z_on_t (z_on_t (z_on_t (z_on_t (z_on_t (z_on_t (z_on_t (z_on_t (z_on_t (z_on_t (z_on_t (z_on_h rfl (by omega) (by omega)))))))))))))))) (by omega) (by omega)) (by rw [zu_k (by decide)]; exact hf) (by omega) (by show u_dg (g (m 251 15)) ≤ 9; omega)
  have e : q_nm g 3 (m 251 15) 0 = q_nm g 2 (m 251 15 + 1) (u_dg (g (m 251 15))) := by
    show (if u_dg (g (m 251 15)) = -1 then (m 251 15, 0) else q_nm g 2 (m 251 15 + 1) (10 * 0 + u_dg (g (m 251 15)))) = _
    rw [if_neg hd, show 10 * 0 + u_dg (g (m 251 15)) = u_dg (g (m 251 15)) by omega]
  rw [e15] at a1 a2
  rw [t_num_0, r_one m hf hw hd, zb_v, t_num_8, a1, e]
  exact ⟨m', rfl, a2, s1.tr a3⟩
noncomputable def r_PE (P : Nat) (g : Int → Int) (d : Nat) : Prop := ∀ m : z_M, r_RB P g m → ∃ m' v, z_R 176 (m, 0, [(2, 251), (0, (d : Int)), (9, 0)], []) = some (m', some (0, v)) ∧ r_RP m m' (q_ex g (4 - d) (m 251 15)) v
theorem r_fail {m m' : z_M} {i v : Int} {c : List Int} (h : z_same r_LR m m') (hp : m' 251 16 = i) : r_RP m m' (false, i, c) v := ⟨h, (fun z => by cases z), fun _ => hp⟩
/-- a thing without - ahead of it -/
theorem r_base {P : Nat} {g : Int → Int} {d : Nat} (hd : d ≤ 4) (hE : d < 4 → r_PE P g (d + 1)) (m : z_M) (hB : r_RB P g m) (h45 : ¬ g (m 251 15) = 45) : ∃ m' v, z_R 179 (m, 0, [(2, 251), (0, (d : Int)), (9, 0), (9, 0)], []) = some (m', some (0, v)) ∧ r_RP m m' (q_th g (q_E g d) (m 251 15)) v := by
  obtain ⟨hw, hf, h40, h21, henv⟩ := id hB
  have hgb := r_W_gb hw
  have b15 := hw.2.2.2.2.1
  rw [t_thing_0, r_pass m 45 hf hw, if_neg h45, zb_v, t_thing_6, if_pos rfl, t_fine1 m hf, zb_v, t_thing_20, if_neg (by decide), r_here m hw, zb_v, t_thing_29]
  have nodig : u_dg (g (m 251 15)) = -1 → z_idx (g (m 251 15)) = -1 → ∃ m' v, ((z_R 162 (m, 0, [(0, g (m 251 15)), (0, 48), (0, 57)], [])).bind fun qq => z_R 179 (qq.1, 75, [(2, 251), (0, (d : Int)), (0, g (m 251 15)), (9, 0)], qq.2.toList ++ [])) = some (m', some (0, v)) ∧ r_RP m m' (false, m 251 15, []) v := by
    intro z1 z2
    have hn : ¬ (48 ≤ g (m 251 15) ∧ g (m 251 15) ≤ 57) := fun z => by
      unfold u_dg at z1
      rw [if_pos z] at z1
      omega
    rw [t_in, if_neg hn, zb_v, t_thing_75, if_pos rfl, r_letter, zb_v, t_thing_88, if_pos z2, t_fault1 m _ hf, zb_n, t_thing_100]
    exact ⟨_, 0, rfl, r_fail (z_same.rf.upo (by (try unfold r_LR); first | exact z_on_h rfl (by omega) (by omega) | exact z_on_t (z_on_h rfl (by omega) (by omega)) | exact z_on_t (z_on_t (z_on_h rfl (by omega) (by omega))) | exact z_on_t (z_on_t (z_on_t (z_on_h rfl (by omega) (by omega)))) | exact z_on_t (z_on_t (z_on_t (z_on_t (z_on_h rfl (by omega) (by omega))))) | exact z_on_t (z_on_t (z_on_t (z_on_t (z_on_t (z_on_h rfl (by omega) (by omega)))))) | exact z_on_t (z_on_t (z_on_t (z_on_t (z_on_t (z_on_t (z_on_h rfl (by omega) (by omega))))))) | exact z_on_t (z_on_t (z_on_t (z_on_t (z_on_t (z_on_t (z_on_t (z_on_h rfl (by omega) (by omega)))))))) | exact z_on_t (z_on_t (z_on_t (z_on_t (z_on_t (z_on_t (z_on_t (z_on_t (z_on_h rfl (by omega) (by omega))))))))) | exact z_on_t (z_on_t (z_on_t (z_on_t (z_on_t (z_on_t (z_on_t (z_on_t (z_on_t (z_on_h rfl (by omega) (by omega)))))))))) | exact z_on_t (z_on_t (z_on_t (z_on_t (z_on_t (z_on_t (z_on_t (z_on_t (z_on_t (z_on_t (z_on_h rfl (by omega) (by omega))))))))))) | exact z_on_t (z_on_t (z_on_t (z_on_t (z_on_t (z_on_t (z_on_t (z_on_t (z_on_t (z_on_t (z_on_t (z_on_h rfl (by omega) (by omega)))))))))))) | exact z_on_t (z_on_t (z_on_t (z_on_t (z_on_t (z_on_t (z_on_t (z_on_t (z_on_t (z_on_t (z_on_t (z_on_t (z_on_h rfl (by omega) (by omega))))))))))))))) zu_self⟩
  unfold q_th
  by_cases c1 : g (m 251 15) = 40
  · have bb := hgb (m 251 15) (by omega)
    rw [if_pos c1, if_pos c1]
    by_cases c2 : 4 ≤ d
    · have e : q_E g d = none := by unfold q_E; rw [if_pos c2]
      rw [if_pos (by omega), e]
      exact nodig (by rw [c1]; decide) (by rw [c1]; decide)
    · have e : q_E g d = some (q_ex g (4 - (d + 1))) := by unfold q_E; rw [if_neg c2, show 3 - d = 4 - (d + 1) by omega]
      have s1 : z_same r_LR m (z_up m 251 15 (m 251 15 + 1)) := z_same.rf.upo (by (try unfold r_LR); first | exact z_on_h rfl (by omega) (by omega) | exact z_on_t (z_on_h rfl (by omega) (by omega)) | exact z_on_t (z_on_t (z_on_h rfl (by omega) (by omega))) | exact z_on_t (z_on_t (z_on_t (z_on_h rfl (by omega) (by omega)))) | exact z_on_t (z_on_t (z_on_t (z_on_t (z_on_h rfl (by omega) (by omega))))) | exact z_on_t (z_on_t (z_on_t (z_on_t (z_on_t (z_on_h rfl (by omega) (by omega)))))) | exact z_on_t (z_on_t (z_on_t (z_on_t (z_on_t (z_on_t (z_on_h rfl (by omega) (by omega))))))) | exact z_on_t (z_on_t (z_on_t (z_on_t (z_on_t (z_on_t (z_on_t (z_on_h rfl (by omega) (by omega)))))))) | exact z_on_t (z_on_t (z_on_t (z_on_t (z_on_t (z_on_t (z_on_t (z_on_t (z_on_h rfl (by omega) (by omega))))))))) | exact z_on_t (z_on_t (z_on_t (z_on_t (z_on_t (z_on_t (z_on_t (z_on_t (z_on_t (z_on_h rfl (by omega) (by omega)))))))))) | exact z_on_t (z_on_t (z_on_t (z_on_t (z_on_t (z_on_t (z_on_t (z_on_t (z_on_t (z_on_t (z_on_h rfl (by omega) (by omega))))))))))) | exact z_on_t (z_on_t (z_on_t (z_on_t (z_on_t (z_on_t (z_on_t (z_on_t (z_on_t (z_on_t (z_on_t (z_on_h rfl (by omega) (by omega)))))))))))) | exact z_on_t (z_on_t (z_on_t (z_on_t (z_on_t (z_on_t (z_on_t (z_on_t (z_on_t (z_on_t (z_on_t (z_on_t (z_on_h rfl (by omega) (by omega))))))))))))))
      have e15 : (z_up m 251 15 (m 251 15 + 1)) 251 15 = m 251 15 + 1 := zu_self
      have e21 : (z_up m 251 15 (m 251 15 + 1)) 251 21 = m 251 21 := zu_k (by decide)
      have e259 : (z_up m 251 15 (m 251 15 + 1)) 259 = m 259 := zu_rowne (by decide)
      obtain ⟨m1, v, a1, a2, a3, a4⟩ := hE (by omega) (z_up m 251 15 (m 251 15 + 1)) (r_RB_sm hB s1 (by rw [zu_k (by decide)]; exact hf) (by omega) (by omega))
      rw [e15] at a3 a4
      rw [e21, e259] at a3
      have gd := q_ex_good hgb (4 - (d + 1)) (m 251 15 + 1) (by omega) (by omega)
      rw [if_neg (by omega), z_add_eq (x := m 251 15) (by omega) (by omega), z_add_eq (x := (d : Int)) (by omega) (by omega), tc1, a1, zb_v, t_thing_58, t_need_0, e]
      simp only
      generalize q_ex g (4 - (d + 1)) (m 251 15 + 1) = R at a3 a4 gd ⊢
      obtain ⟨ok, pos, code⟩ := R
      simp only at a3 a4 gd ⊢
      cases ok with
      | false =>
        have hf1 : ¬ m1 251 16 = -1 := by rw [a4 rfl]; omega
        rw [t_pass0 m1 41 hf1, zb_v, t_need_5, if_pos rfl, t_fault0 m1 _ hf1, zb_n, t_need_16, zb_n, t_thing_65, if_neg (fun z => by cases z.1)]
        exact ⟨m1, v, rfl, r_fail (s1.tr a2) (a4 rfl)⟩
      | true =>
        obtain ⟨p1, p2, p3, p4⟩ := a3 rfl
        have w1 : r_W P g m1 := r_W_sm hw (s1.tr a2) (by omega) (by omega)
        rw [r_pass m1 41 p1 w1, p2]
        by_cases c3 : g pos = 41
        · rw [if_pos c3, if_pos ⟨rfl, c3⟩, zb_v, t_need_5, if_neg (by decide), zb_n, t_thing_65]
          exact ⟨_, v, rfl, (s1.tr a2).upo (by (try unfold r_LR); first | exact z_on_h rfl (by omega) (by omega) | exact z_on_t (z_on_h rfl (by omega) (by omega)) | exact z_on_t (z_on_t (z_on_h rfl (by omega) (by omega))) | exact z_on_t (z_on_t (z_on_t (z_on_h rfl (by omega) (by omega)))) | exact z_on_t (z_on_t (z_on_t (z_on_t (z_on_h rfl (by omega) (by omega))))) | exact z_on_t (z_on_t (z_on_t (z_on_t (z_on_t (z_on_h rfl (by omega) (by omega)))))) | exact z_on_t (z_on_t (z_on_t (z_on_t (z_on_t (z_on_t (z_on_h rfl (by omega) (by omega))))))) | exact z_on_t (z_on_t (z_on_t (z_on_t (z_on_t (z_on_t (z_on_t (z_on_h rfl (by omega) (by omega)))))))) | exact z_on_t (z_on_t (z_on_t (z_on_t (z_on_t (z_on_t (z_on_t (z_on_t (z_on_h rfl (by omega) (by omega))))))))) | exact z_on_t (z_on_t (z_on_t (z_on_t (z_on_t (z_on_t (z_on_t (z_on_t (z_on_t (z_on_h rfl (by omega) (by omega)))))))))) | exact z_on_t (z_on_t (z_on_t (z_on_t (z_on_t (z_on_t (z_on_t (z_on_t (z_on_t (z_on_t (z_on_h rfl (by omega) (by omega))))))))))) | exact z_on_t (z_on_t (z_on_t (z_on_t (z_on_t (z_on_t (z_on_t (z_on_t (z_on_t (z_on_t (z_on_t (z_on_h rfl (by omega) (by omega)))))))))))) | exact z_on_t (z_on_t (z_on_t (z_on_t (z_on_t (z_on_t (z_on_t (z_on_t (z_on_t (z_on_t (z_on_t (z_on_t (z_on_h rfl (by omega) (by omega)))))))))))))), fun _ => ⟨by rw [zu_k (by decide)]; exact p1, zu_self, p3, p4⟩, fun z => by cases z⟩
        · rw [if_neg c3, if_neg (fun z => c3 z.2), zb_v, t_need_5, if_pos rfl, t_fault1 m1 _ p1, zb_n, t_need_16, zb_n, t_thing_65, p2]
          exact ⟨_, v, rfl, r_fail ((s1.tr a2).upo (by (try unfold r_LR); first | exact z_on_h rfl (by omega) (by omega) | exact z_on_t (z_on_h rfl (by omega) (by omega)) | exact z_on_t (z_on_t (z_on_h rfl (by omega) (by omega))) | exact z_on_t (z_on_t (z_on_t (z_on_h rfl (by omega) (by omega)))) | exact z_on_t (z_on_t (z_on_t (z_on_t (z_on_h rfl (by omega) (by omega))))) | exact z_on_t (z_on_t (z_on_t (z_on_t (z_on_t (z_on_h rfl (by omega) (by omega)))))) | exact z_on_t (z_on_t (z_on_t (z_on_t (z_on_t (z_on_t (z_on_h rfl (by omega) (by omega))))))) | exact z_on_t (z_on_t (z_on_t (z_on_t (z_on_t (z_on_t (z_on_t (z_on_h rfl (by omega) (by omega)))))))) | exact z_on_t (z_on_t (z_on_t (z_on_t (z_on_t (z_on_t (z_on_t (z_on_t (z_on_h rfl (by omega) (by omega))))))))) | exact z_on_t (z_on_t (z_on_t (z_on_t (z_on_t (z_on_t (z_on_t (z_on_t (z_on_t (z_on_h rfl (by omega) (by omega)))))))))) | exact z_on_t (z_on_t (z_on_t (z_on_t (z_on_t (z_on_t (z_on_t (z_on_t (z_on_t (z_on_t (z_on_h rfl (by omega) (by omega))))))))))) | exact z_on_t (z_on_t (z_on_t (z_on_t (z_on_t (z_on_t (z_on_t (z_on_t (z_on_t (z_on_t (z_on_t (z_on_h rfl (by omega) (by omega)))))))))))) | exact z_on_t (z_on_t (z_on_t (z_on_t (z_on_t (z_on_t (z_on_t (z_on_t (z_on_t (z_on_t (z_on_t (z_on_t (z_on_h rfl (by omega) (by omega))))))))))))))) zu_self⟩
  rw [if_neg c1, if_neg c1]
  by_cases c2 : u_dg (g (m 251 15)) = -1
  · rw [if_pos c2]
    by_cases c3 : z_idx (g (m 251 15)) = -1
    · rw [if_pos c3]
      exact nodig c2 c3
    · have hn : ¬ (48 ≤ g (m 251 15) ∧ g (m 251 15) ≤ 57) := fun z => by
        unfold u_dg at c2
        rw [if_pos z] at c2
        omega
      have bb := hgb (m 251 15) (fun z => c3 (by rw [z]; decide))
      have bi := z_idx_b (g (m 251 15))
      have s1 : z_same r_LR m (z_up m 251 15 (m 251 15 + 1)) := z_same.rf.upo (by (try unfold r_LR); first | exact z_on_h rfl (by omega) (by omega) | exact z_on_t (z_on_h rfl (by omega) (by omega)) | exact z_on_t (z_on_t (z_on_h rfl (by omega) (by omega))) | exact z_on_t (z_on_t (z_on_t (z_on_h rfl (by omega) (by omega)))) | exact z_on_t (z_on_t (z_on_t (z_on_t (z_on_h rfl (by omega) (by omega))))) | exact z_on_t (z_on_t (z_on_t (z_on_t (z_on_t (z_on_h rfl (by omega) (by omega)))))) | exact z_on_t (z_on_t (z_on_t (z_on_t (z_on_t (z_on_t (z_on_h rfl (by omega) (by omega))))))) | exact z_on_t (z_on_t (z_on_t (z_on_t (z_on_t (z_on_t (z_on_t (z_on_h rfl (by omega) (by omega)))))))) | exact z_on_t (z_on_t (z_on_t (z_on_t (z_on_t (z_on_t (z_on_t (z_on_t (z_on_h rfl (by omega) (by omega))))))))) | exact z_on_t (z_on_t (z_on_t (z_on_t (z_on_t (z_on_t (z_on_t (z_on_t (z_on_t (z_on_h rfl (by omega) (by omega)))))))))) | exact z_on_t (z_on_t (z_on_t (z_on_t (z_on_t (z_on_t (z_on_t (z_on_t (z_on_t (z_on_t (z_on_h rfl (by omega) (by omega))))))))))) | exact z_on_t (z_on_t (z_on_t (z_on_t (z_on_t (z_on_t (z_on_t (z_on_t (z_on_t (z_on_t (z_on_t (z_on_h rfl (by omega) (by omega)))))))))))) | exact z_on_t (z_on_t (z_on_t (z_on_t (z_on_t (z_on_t (z_on_t (z_on_t (z_on_t (z_on_t (z_on_t (z_on_t (z_on_h rfl (by omega) (by omega))))))))))))))
      rw [if_neg c3, t_in, if_neg hn, zb_v, t_thing_75, if_pos rfl, r_letter, zb_v, t_thing_88, if_neg c3, z_add_eq (by omega) (by omega)]
      by_cases c4 : m 251 21 = 0
      · rw [if_pos c4]
        exact ⟨_, 0, rfl, s1, fun _ => ⟨by rw [zu_k (by decide)]; exact hf, zu_self, by omega, fun z => by omega⟩, fun z => by cases z⟩
      · rw [if_neg c4, r_letter, zb_v, t_thing_127, if_pos ⟨by omega, by omega⟩]
        refine ⟨_, _, rfl, s1, fun _ => ⟨by rw [zu_k (by decide)]; exact hf, zu_self, ?_, fun _ => ?_⟩, fun z => by cases z⟩
        · rw [zu_p (by decide)]; exact henv _ (by omega)
        · intro S
          rw [zu_p (by decide)]
          show ev1 (m 259) (1000 + z_idx (g (m 251 15))) S = _
          unfold ev1
          rw [if_neg (by omega), if_neg (by omega), if_neg (by omega), if_pos (by omega), show 1000 + z_idx (g (m 251 15)) - 1000 = z_idx (g (m 251 15)) by omega]
  · have d2 := u_dg_ne c2
    rw [if_neg c2, t_in, if_pos ⟨d2.1, d2.2.1⟩, zb_v, t_thing_75, if_neg (by decide)]
    obtain ⟨m1, a1, a2, a3⟩ := r_num m hw hf c2
    have nv := q_nm_v (g := g) 3 (m 251 15) 0 1 (by decide) (by decide)
    have nv2 : (q_nm g 3 (m 251 15) 0).2 ≤ 999 := nv.2
    rw [a1, zb_v, t_thing_83]
    refine ⟨m1, _, rfl, a3.subo (by (try unfold r_LR); (repeat' (first | exact trivial | refine z_sbo_c ?_ ?_)) <;> (intro k h1 h2; first | exact z_on_h rfl (by omega) (by omega) | exact z_on_t (z_on_h rfl (by omega) (by omega)) | exact z_on_t (z_on_t (z_on_h rfl (by omega) (by omega))) | exact z_on_t (z_on_t (z_on_t (z_on_h rfl (by omega) (by omega)))) | exact z_on_t (z_on_t (z_on_t (z_on_t (z_on_h rfl (by omega) (by omega))))) | exact z_on_t (z_on_t (z_on_t (z_on_t (z_on_t (z_on_h rfl (by omega) (by omega)))))) | exact z_on_t (z_on_t (z_on_t (z_on_t (z_on_t (z_on_t (z_on_h rfl (by omega) (by omega))))))) | exact z_on_t (z_on_t (z_on_t (z_on_t (z_on_t (z_on_t (z_on_t (z_on_h rfl (by omega) (by omega)))))))) | exact z_on_t (z_on_t (z_on_t (z_on_t (z_on_t (z_on_t (z_on_t (z_on_t (z_on_h rfl (by omega) (by omega))))))))) | exact z_on_t (z_on_t (z_on_t (z_on_t (z_on_t (z_on_t (z_on_t (z_on_t (z_on_t (z_on_h rfl (by omega) (by omega)))))))))) | exact z_on_t (z_on_t (z_on_t (z_on_t (z_on_t (z_on_t (z_on_t (z_on_t (z_on_t (z_on_t (z_on_h rfl (by omega) (by omega))))))))))) | exact z_on_t (z_on_t (z_on_t (z_on_t (z_on_t (z_on_t (z_on_t (z_on_t (z_on_t (z_on_t (z_on_t (z_on_h rfl (by omega) (by omega)))))))))))) | exact z_on_t (z_on_t (z_on_t (z_on_t (z_on_t (z_on_t (z_on_t (z_on_t (z_on_t (z_on_t (z_on_t (z_on_t (z_on_h rfl (by omega) (by omega))))))))))))))), fun _ => ⟨(a3.of (by (try unfold r_LR); (repeat' (first | exact trivial | refine z_of_c ?_ ?_)) <;> omega)).trans hf, a2, by omega, fun _ S => ?_⟩, fun z => by cases z⟩
    show ev1 (m 259) (q_nm g 3 (m 251 15) 0).2 S = _
    unfold ev1
    rw [if_neg (by omega), if_neg (by omega), if_pos (by omega)]
/-- with so many - ahead -/
theorem r_minus {P : Nat} {g : Int → Int} {d : Nat} (hd : d ≤ 4) (hE : d < 4 → r_PE P g (d + 1)) : ∀ (f : Nat) (m : z_M), r_RB P g m → 40 - m 251 15 ≤ (f : Int) → ∃ m' v, z_R 179 (m, 0, [(2, 251), (0, (d : Int)), (9, 0), (9, 0)], []) = some (m', some (0, q_ng (q_mn g f (m 251 15)) v)) ∧ r_RP m m' (q_th g (q_E g d) (m 251 15 + (q_mn g f (m 251 15) : Int))) v := by
  intro f
  induction f with
  | zero =>
    intro m hB hf40
    have hgb := r_W_gb hB.1
    have h45 : ¬ g (m 251 15) = 45 := fun z => by have := hgb (m 251 15) (by omega); omega
    show ∃ m' v, _ = some (m', some (0, v)) ∧ r_RP m m' (q_th g (q_E g d) (m 251 15 + ((0 : Nat) : Int))) v
    rw [show m 251 15 + ((0 : Nat) : Int) = m 251 15 by omega]
    exact r_base hd hE m hB h45
  | succ f ih =>
    intro m hB hf40
    obtain ⟨hw, hf, h40, h21, henv⟩ := id hB
    have hgb := r_W_gb hw
    have b15 := hw.2.2.2.2.1
    unfold q_mn
    by_cases c : g (m 251 15) = 45
    · have bb := hgb (m 251 15) (by omega)
      have s1 : z_same r_LR m (z_up m 251 15 (m 251 15 + 1)) := z_same.rf.upo (by (try unfold r_LR); first | exact z_on_h rfl (by omega) (by omega) | exact z_on_t (z_on_h rfl (by omega) (by omega)) | exact z_on_t (z_on_t (z_on_h rfl (by omega) (by omega))) | exact z_on_t (z_on_t (z_on_t (z_on_h rfl (by omega) (by omega)))) | exact z_on_t (z_on_t (z_on_t (z_on_t (z_on_h rfl (by omega) (by omega))))) | exact z_on_t (z_on_t (z_on_t (z_on_t (z_on_t (z_on_h rfl (by omega) (by omega)))))) | exact z_on_t (z_on_t (z_on_t (z_on_t (z_on_t (z_on_t (z_on_h rfl (by omega) (by omega))))))) | exact z_on_t (z_on_t (z_on_t (z_on_t (z_on_t (z_on_t (z_on_t (z_on_h rfl (by omega) (by omega)))))))) | exact z_on_t (z_on_t (z_on_t (z_on_t (z_on_t (z_on_t (z_on_t (z_on_t (z_on_h rfl (by omega) (by omega))))))))) | exact z_on_t (z_on_t (z_on_t (z_on_t (z_on_t (z_on_t (z_on_t (z_on_t (z_on_t (z_on_h rfl (by omega) (by omega)))))))))) | exact z_on_t (z_on_t (z_on_t (z_on_t (z_on_t (z_on_t (z_on_t (z_on_t (z_on_t (z_on_t (z_on_h rfl (by omega) (by omega))))))))))) | exact z_on_t (z_on_t (z_on_t (z_on_t (z_on_t (z_on_t (z_on_t (z_on_t (z_on_t (z_on_t (z_on_t (z_on_h rfl (by omega) (by omega)))))))))))) | exact z_on_t (z_on_t (z_on_t (z_on_t (z_on_t (z_on_t (z_on_t (z_on_t (z_on_t (z_on_t (z_on_t (z_on_t (z_on_h rfl (by omega) (by omega))))))))))))))
      have e15 : (z_up m 251 15 (m 251 15 + 1)) 251 15 = m 251 15 + 1 := zu_self
      have e21 : (z_up m 251 15 (m 251 15 + 1)) 251 21 = m 251 21 := zu_k (by decide)
      have e259 : (z_up m 251 15 (m 251 15 + 1)) 259 = m 259 := zu_rowne (by decide)
      obtain ⟨m1, v, a1, a2, a3, a4⟩ := ih (z_up m 251 15 (m 251 15 + 1)) (r_RB_sm hB s1 (by rw [zu_k (by decide)]; exact hf) (by omega) (by omega)) (by omega)
      rw [e15] at a3 a4
      rw [e21, e259] at a3
      rw [if_pos c, t_thing_0, r_pass m 45 hf hw, if_pos c, zb_v, t_thing_6, if_neg (by decide), a1, zb_v, t_thing_14, show m 251 15 + ((q_mn g f (m 251 15 + 1) + 1 : Nat) : Int) = m 251 15 + 1 + (q_mn g f (m 251 15 + 1) : Int) by omega]
      exact ⟨m1, v, rfl, s1.tr a2, a3, a4⟩
    · rw [if_neg c]
      show ∃ m' v, _ = some (m', some (0, v)) ∧ r_RP m m' (q_th g (q_E g d) (m 251 15 + ((0 : Nat) : Int))) v
      rw [show m 251 15 + ((0 : Nat) : Int) = m 251 15 by omega]
      exact r_base hd hE m hB c
theorem r_signed {P : Nat} {g : Int → Int} {d : Nat} (hd : d ≤ 4) (hE : d < 4 → r_PE P g (d + 1)) (m : z_M) (hB : r_RB P g m) : ∃ m' v, z_R 179 (m, 0, [(2, 251), (0, (d : Int)), (9, 0), (9, 0)], []) = some (m', some (0, v)) ∧ r_RP m m' (q_sg g (q_E g d) (m 251 15)) v := by
  obtain ⟨m', v, a1, a2, a3, a4⟩ := r_minus hd hE 40 m hB (by have := hB.1.2.2.2.2.1; omega)
  refine ⟨m', _, a1, a2, fun z => ?_, a4⟩
  obtain ⟨p1, p2, p3, p4⟩ := a3 z
  exact ⟨p1, p2, q_ng_b p3.1 p3.2 _, fun y => evs_ng (p4 y) p3.1 p3.2 _⟩
theorem q_op_b (c l r : Int) (hl : -2147483648 ≤ l ∧ l ≤ 2147483647) : -2147483648 ≤ q_op c l r ∧ q_op c l r ≤ 2147483647 := by
  unfold q_op
  split
  · exact i32_rng _
  split
  · exact i32_rng _
  split
  · exact i32_rng _
  split
  · split
    · omega
    · exact i32_rng _
  split
  · split <;> omega
  split
  · split <;> omega
  · split <;> omega
theorem r_prod1 {P : Nat} {g : Int → Int} {d : Nat} (hp : ∀ m : z_M, r_RB P g m → ∃ m' v, z_R 179 (m, 0, [(2, 251), (0, (d : Int)), (9, 0), (9, 0)], []) = some (m', some (0, v)) ∧ r_RP m m' (q_sg g (q_E g d) (m 251 15)) v) (hgood : q_good (q_sg g (q_E g d))) {m0 : z_M} (hB : r_RB P g m0) : ∀ (k : Nat) (r : q_Q) (v : Int) (v3 v4 : z_V) (m : z_M), r_RP m0 m r v → 0 ≤ r.2.1 → r.2.1 ≤ 40 → 40 - r.2.1 ≤ (k : Int) → ∃ m' w, z_R 178 (m, 6, [(2, 251), (0, (d : Int)), (0, v), v3, v4], []) = some (m', some (0, w)) ∧ r_RP m0 m' (q_lp g (q_sg g (q_E g d)) 42 47 k r) w := by
  obtain ⟨hw0, hf0, h400, h210, henv0⟩ := id hB
  have hgb := r_W_gb hw0
  have hb15 := hw0.2.2.2.2.1
  have stop : ∀ (r : q_Q) (v : Int) (v3 v4 : z_V) (m : z_M), r_RP m0 m r v → 0 ≤ r.2.1 → r.2.1 ≤ 40 → ¬ (r.1 = true ∧ (g r.2.1 = 42 ∨ g r.2.1 = 47)) → ∃ m' w, z_R 178 (m, 6, [(2, 251), (0, (d : Int)), (0, v), v3, v4], []) = some (m', some (0, w)) ∧ r_RP m0 m' r w := by
    intro r v v3 v4 m hP h0 h1 hn
    obtain ⟨p1, p2, p3⟩ := id hP
    rw [t_prod_6]
    cases hr : r.1 with
    | false =>
      rw [t_fine0 m (by rw [p3 hr]; omega), zb_v, t_prod_10, if_pos rfl]
      exact ⟨m, v, rfl, hP⟩
    | true =>
      obtain ⟨q1, q2, q3, q4⟩ := p2 hr
      have w1 : r_W P g m := r_W_sm hw0 p1 (by omega) (by omega)
      have hg1 : ¬ g r.2.1 = 42 := fun z => hn ⟨hr, Or.inl z⟩
      have hg2 : ¬ g r.2.1 = 47 := fun z => hn ⟨hr, Or.inr z⟩
      rw [t_fine1 m q1, zb_v, t_prod_10, if_neg (by decide), r_here m w1, zb_v, t_prod_17, q2, if_neg hg1, r_here m w1, zb_v, t_prod_26, q2, if_neg hg2]
      exact ⟨m, v, rfl, hP⟩
  intro k
  induction k with
  | zero =>
    intro r v v3 v4 m hP h0 h1 h2
    refine stop r v v3 v4 m hP h0 h1 (fun z => ?_)
    have := hgb r.2.1 (by rcases z.2 with y | y <;> rw [y] <;> decide)
    omega
  | succ k ih =>
    intro r v v3 v4 m hP h0 h1 h2
    unfold q_lp
    by_cases c' : ¬ (r.1 = true ∧ (g r.2.1 = 42 ∨ g r.2.1 = 47))
    · rw [if_neg c']
      exact stop r v v3 v4 m hP h0 h1 c'
    have c : r.1 = true ∧ (g r.2.1 = 42 ∨ g r.2.1 = 47) := Decidable.not_not.mp c'
    rw [if_pos c]
    obtain ⟨p1, p2, p3⟩ := id hP
    obtain ⟨q1, q2, q3, q4⟩ := p2 c.1
    have w1 : r_W P g m := r_W_sm hw0 p1 (by omega) (by omega)
    have bb := hgb r.2.1 (by rcases c.2 with y | y <;> rw [y] <;> decide)
    have s1 : z_same r_LR m (z_up m 251 15 (r.2.1 + 1)) := z_same.rf.upo (by (try unfold r_LR); first | exact z_on_h rfl (by omega) (by omega) | exact z_on_t (z_on_h rfl (by omega) (by omega)) | exact z_on_t (z_on_t (z_on_h rfl (by omega) (by omega))) | exact z_on_t (z_on_t (z_on_t (z_on_h rfl (by omega) (by omega)))) | exact z_on_t (z_on_t (z_on_t (z_on_t (z_on_h rfl (by omega) (by omega))))) | exact z_on_t (z_on_t (z_on_t (z_on_t (z_on_t (z_on_h rfl (by omega) (by omega)))))) | exact z_on_t (z_on_t (z_on_t (z_on_t (z_on_t (z_on_t (z_on_h rfl (by omega) (by omega))))))) | exact z_on_t (z_on_t (z_on_t (z_on_t (z_on_t (z_on_t (z_on_t (z_on_h rfl (by omega) (by omega)))))))) | exact z_on_t (z_on_t (z_on_t (z_on_t (z_on_t (z_on_t (z_on_t (z_on_t (z_on_h rfl (by omega) (by omega))))))))) | exact z_on_t (z_on_t (z_on_t (z_on_t (z_on_t (z_on_t (z_on_t (z_on_t (z_on_t (z_on_h rfl (by omega) (by omega)))))))))) | exact z_on_t (z_on_t (z_on_t (z_on_t (z_on_t (z_on_t (z_on_t (z_on_t (z_on_t (z_on_t (z_on_h rfl (by omega) (by omega))))))))))) | exact z_on_t (z_on_t (z_on_t (z_on_t (z_on_t (z_on_t (z_on_t (z_on_t (z_on_t (z_on_t (z_on_t (z_on_h rfl (by omega) (by omega)))))))))))) | exact z_on_t (z_on_t (z_on_t (z_on_t (z_on_t (z_on_t (z_on_t (z_on_t (z_on_t (z_on_t (z_on_t (z_on_t (z_on_h rfl (by omega) (by omega))))))))))))))
    have e15 : (z_up m 251 15 (r.2.1 + 1)) 251 15 = r.2.1 + 1 := zu_self
    have e21 : (z_up m 251 15 (r.2.1 + 1)) 251 21 = m0 251 21 := (zu_k (by decide)).trans (p1.of (by (try unfold r_LR); (repeat' (first | exact trivial | refine z_of_c ?_ ?_)) <;> omega))
    have e259 : (z_up m 251 15 (r.2.1 + 1)) 259 = m0 259 := (zu_rowne (by decide)).trans (p1.ofr (by (try unfold r_LR); (repeat' (first | exact trivial | refine z_ofr_c ?_ ?_)) <;> omega))
    obtain ⟨m2, w, a1, a2, a3, a4⟩ := hp (z_up m 251 15 (r.2.1 + 1)) (r_RB_sm hB (p1.tr s1) (by rw [zu_k (by decide)]; exact q1) (by omega) (by omega))
    have gd := hgood (r.2.1 + 1) (by omega) (by omega)
    rw [e15] at a3 a4
    rw [e21, e259] at a3
    have key : ∀ (op u : Int) (v3 v4 : z_V), g r.2.1 = op → u = q_op op v w → 0 ≤ op → ¬ op = 126 → ∃ m' w', z_R 178 (m2, 6, [(2, 251), (0, (d : Int)), (0, u), v3, v4], []) = some (m', some (0, w')) ∧ r_RP m0 m' (q_lp g (q_sg g (q_E g d)) 42 47 k ((q_sg g (q_E g d) (r.2.1 + 1)).1, (q_sg g (q_E g d) (r.2.1 + 1)).2.1, r.2.2 ++ (q_sg g (q_E g d) (r.2.1 + 1)).2.2 ++ [2000 + g r.2.1])) w' := by
      intro op u v3 v4 ho hu ho0 ho1
      refine ih _ u v3 v4 m2 ⟨(p1.tr s1).tr a2, fun z => ?_, fun z => a4 z⟩ (by simp only; omega) (by simp only; exact gd.2.1) (by simp only; omega)
      obtain ⟨t1, t2, t3, t4⟩ := a3 z
      refine ⟨t1, t2, by rw [hu]; exact q_op_b _ _ _ q3, fun y => ?_⟩
      rw [ho, hu]
      exact evs_op (q4 y) (t4 y) ho0 ho1
    rw [t_prod_6, t_fine1 m q1, zb_v, t_prod_10, if_neg (by decide), r_here m w1, zb_v, t_prod_17, q2]
    by_cases c1 : g r.2.1 = 42
    · rw [if_pos c1, r_here m w1, zb_v, t_prod_35, q2, if_pos c1, z_add_eq (by omega) (by omega), a1, zb_v, t_prod_61, if_neg (by decide)]
      exact key 42 _ _ _ c1 (by unfold q_op; rw [if_neg (by decide), if_neg (by decide), if_pos rfl]) (by decide) (by decide)
    · have c2 : g r.2.1 = 47 := c.2.resolve_left c1
      rw [if_neg c1, r_here m w1, zb_v, t_prod_26, q2, if_pos c2, r_here m w1, zb_v, t_prod_35, q2, if_neg c1, z_add_eq (by omega) (by omega), a1, zb_v, t_prod_61, if_pos rfl]
      by_cases c3 : w = 0
      · rw [if_pos c3]
        exact key 47 _ _ _ c2 (by unfold q_op; rw [if_neg (by decide), if_neg (by decide), if_neg (by decide), if_pos rfl, if_pos c3]) (by decide) (by decide)
      · rw [if_neg c3, if_neg c3]
        exact key 47 _ _ _ c2 (by unfold q_op; rw [if_neg (by decide), if_neg (by decide), if_neg (by decide), if_pos rfl, if_neg c3]) (by decide) (by decide)
theorem r_product {P : Nat} {g : Int → Int} {d : Nat} (hd : d ≤ 4) (hE : d < 4 → r_PE P g (d + 1)) (m : z_M) (hB : r_RB P g m) : ∃ m' v, z_R 178 (m, 0, [(2, 251), (0, (d : Int)), (9, 0), (9, 0), (9, 0)], []) = some (m', some (0, v)) ∧ r_RP m m' (q_pr g (q_E g d) (m 251 15)) v := by
  have hgb := r_W_gb hB.1
  have hb15 := hB.1.2.2.2.2.1
  have hgood := q_sg_good hgb (q_E_good hgb d)
  obtain ⟨m1, v, a1, a2⟩ := r_signed hd hE m hB
  have gd := hgood (m 251 15) hb15.1 hB.2.2.1
  rw [t_prod_0, a1, zb_v, t_prod_5]
  exact r_prod1 (r_signed hd hE) hgood hB 40 _ v _ _ m1 a2 (by omega) gd.2.1 (by omega)
theorem r_sum1 {P : Nat} {g : Int → Int} {d : Nat} (hp : ∀ m : z_M, r_RB P g m → ∃ m' v, z_R 178 (m, 0, [(2, 251), (0, (d : Int)), (9, 0), (9, 0), (9, 0)], []) = some (m', some (0, v)) ∧ r_RP m m' (q_pr g (q_E g d) (m 251 15)) v) (hgood : q_good (q_pr g (q_E g d))) {m0 : z_M} (hB : r_RB P g m0) : ∀ (k : Nat) (r : q_Q) (v : Int) (v3 v4 : z_V) (m : z_M), r_RP m0 m r v → 0 ≤ r.2.1 → r.2.1 ≤ 40 → 40 - r.2.1 ≤ (k : Int) → ∃ m' w, z_R 177 (m, 6, [(2, 251), (0, (d : Int)), (0, v), v3, v4], []) = some (m', some (0, w)) ∧ r_RP m0 m' (q_lp g (q_pr g (q_E g d)) 43 45 k r) w := by
  obtain ⟨hw0, hf0, h400, h210, henv0⟩ := id hB
  have hgb := r_W_gb hw0
  have hb15 := hw0.2.2.2.2.1
  have stop : ∀ (r : q_Q) (v : Int) (v3 v4 : z_V) (m : z_M), r_RP m0 m r v → 0 ≤ r.2.1 → r.2.1 ≤ 40 → ¬ (r.1 = true ∧ (g r.2.1 = 43 ∨ g r.2.1 = 45)) → ∃ m' w, z_R 177 (m, 6, [(2, 251), (0, (d : Int)), (0, v), v3, v4], []) = some (m', some (0, w)) ∧ r_RP m0 m' r w := by
    intro r v v3 v4 m hP h0 h1 hn
    obtain ⟨p1, p2, p3⟩ := id hP
    rw [t_sum_6]
    cases hr : r.1 with
    | false =>
      rw [t_fine0 m (by rw [p3 hr]; omega), zb_v, t_sum_10, if_pos rfl]
      exact ⟨m, v, rfl, hP⟩
    | true =>
      obtain ⟨q1, q2, q3, q4⟩ := p2 hr
      have w1 : r_W P g m := r_W_sm hw0 p1 (by omega) (by omega)
      have hg1 : ¬ g r.2.1 = 43 := fun z => hn ⟨hr, Or.inl z⟩
      have hg2 : ¬ g r.2.1 = 45 := fun z => hn ⟨hr, Or.inr z⟩
      rw [t_fine1 m q1, zb_v, t_sum_10, if_neg (by decide), r_here m w1, zb_v, t_sum_17, q2, if_neg hg1, r_here m w1, zb_v, t_sum_26, q2, if_neg hg2]
      exact ⟨m, v, rfl, hP⟩
  intro k
  induction k with
  | zero =>
    intro r v v3 v4 m hP h0 h1 h2
    refine stop r v v3 v4 m hP h0 h1 (fun z => ?_)
    have := hgb r.2.1 (by rcases z.2 with y | y <;> rw [y] <;> decide)
    omega
  | succ k ih =>
    intro r v v3 v4 m hP h0 h1 h2
    unfold q_lp
    by_cases c' : ¬ (r.1 = true ∧ (g r.2.1 = 43 ∨ g r.2.1 = 45))
    · rw [if_neg c']
      exact stop r v v3 v4 m hP h0 h1 c'
    have c : r.1 = true ∧ (g r.2.1 = 43 ∨ g r.2.1 = 45) := Decidable.not_not.mp c'
    rw [if_pos c]
    obtain ⟨p1, p2, p3⟩ := id hP
    obtain ⟨q1, q2, q3, q4⟩ := p2 c.1
    have w1 : r_W P g m := r_W_sm hw0 p1 (by omega) (by omega)
    have bb := hgb r.2.1 (by rcases c.2 with y | y <;> rw [y] <;> decide)
    have s1 : z_same r_LR m (z_up m 251 15 (r.2.1 + 1)) := z_same.rf.upo (by (try unfold r_LR); first | exact z_on_h rfl (by omega) (by omega) | exact z_on_t (z_on_h rfl (by omega) (by omega)) | exact z_on_t (z_on_t (z_on_h rfl (by omega) (by omega))) | exact z_on_t (z_on_t (z_on_t (z_on_h rfl (by omega) (by omega)))) | exact z_on_t (z_on_t (z_on_t (z_on_t (z_on_h rfl (by omega) (by omega))))) | exact z_on_t (z_on_t (z_on_t (z_on_t (z_on_t (z_on_h rfl (by omega) (by omega)))))) | exact z_on_t (z_on_t (z_on_t (z_on_t (z_on_t (z_on_t (z_on_h rfl (by omega) (by omega))))))) | exact z_on_t (z_on_t (z_on_t (z_on_t (z_on_t (z_on_t (z_on_t (z_on_h rfl (by omega) (by omega)))))))) | exact z_on_t (z_on_t (z_on_t (z_on_t (z_on_t (z_on_t (z_on_t (z_on_t (z_on_h rfl (by omega) (by omega))))))))) | exact z_on_t (z_on_t (z_on_t (z_on_t (z_on_t (z_on_t (z_on_t (z_on_t (z_on_t (z_on_h rfl (by omega) (by omega)))))))))) | exact z_on_t (z_on_t (z_on_t (z_on_t (z_on_t (z_on_t (z_on_t (z_on_t (z_on_t (z_on_t (z_on_h rfl (by omega) (by omega))))))))))) | exact z_on_t (z_on_t (z_on_t (z_on_t (z_on_t (z_on_t (z_on_t (z_on_t (z_on_t (z_on_t (z_on_t (z_on_h rfl (by omega) (by omega)))))))))))) | exact z_on_t (z_on_t (z_on_t (z_on_t (z_on_t (z_on_t (z_on_t (z_on_t (z_on_t (z_on_t (z_on_t (z_on_t (z_on_h rfl (by omega) (by omega))))))))))))))
    have e15 : (z_up m 251 15 (r.2.1 + 1)) 251 15 = r.2.1 + 1 := zu_self
    have e21 : (z_up m 251 15 (r.2.1 + 1)) 251 21 = m0 251 21 := (zu_k (by decide)).trans (p1.of (by (try unfold r_LR); (repeat' (first | exact trivial | refine z_of_c ?_ ?_)) <;> omega))
    have e259 : (z_up m 251 15 (r.2.1 + 1)) 259 = m0 259 := (zu_rowne (by decide)).trans (p1.ofr (by (try unfold r_LR); (repeat' (first | exact trivial | refine z_ofr_c ?_ ?_)) <;> omega))
    obtain ⟨m2, w, a1, a2, a3, a4⟩ := hp (z_up m 251 15 (r.2.1 + 1)) (r_RB_sm hB (p1.tr s1) (by rw [zu_k (by decide)]; exact q1) (by omega) (by omega))
    have gd := hgood (r.2.1 + 1) (by omega) (by omega)
    rw [e15] at a3 a4
    rw [e21, e259] at a3
    have key : ∀ (op u : Int) (v3 v4 : z_V), g r.2.1 = op → u = q_op op v w → 0 ≤ op → ¬ op = 126 → ∃ m' w', z_R 177 (m2, 6, [(2, 251), (0, (d : Int)), (0, u), v3, v4], []) = some (m', some (0, w')) ∧ r_RP m0 m' (q_lp g (q_pr g (q_E g d)) 43 45 k ((q_pr g (q_E g d) (r.2.1 + 1)).1, (q_pr g (q_E g d) (r.2.1 + 1)).2.1, r.2.2 ++ (q_pr g (q_E g d) (r.2.1 + 1)).2.2 ++ [2000 + g r.2.1])) w' := by
      intro op u v3 v4 ho hu ho0 ho1
      refine ih _ u v3 v4 m2 ⟨(p1.tr s1).tr a2, fun z => ?_, fun z => a4 z⟩ (by simp only; omega) (by simp only; exact gd.2.1) (by simp only; omega)
      obtain ⟨t1, t2, t3, t4⟩ := a3 z
      refine ⟨t1, t2, by rw [hu]; exact q_op_b _ _ _ q3, fun y => ?_⟩
      rw [ho, hu]
      exact evs_op (q4 y) (t4 y) ho0 ho1
    rw [t_sum_6, t_fine1 m q1, zb_v, t_sum_10, if_neg (by decide), r_here m w1, zb_v, t_sum_17, q2]
    by_cases c1 : g r.2.1 = 43
    · rw [if_pos c1, r_here m w1, zb_v, t_sum_35, q2, if_pos c1, z_add_eq (by omega) (by omega), a1, zb_v, t_sum_61, if_neg (by decide)]
      exact key 43 _ _ _ c1 (by unfold q_op; rw [if_pos rfl]) (by decide) (by decide)
    · have c2 : g r.2.1 = 45 := c.2.resolve_left c1
      rw [if_neg c1, r_here m w1, zb_v, t_sum_26, q2, if_pos c2, r_here m w1, zb_v, t_sum_35, q2, if_neg c1, z_add_eq (by omega) (by omega), a1, zb_v, t_sum_61, if_pos rfl]
      exact key 45 _ _ _ c2 (by unfold q_op; rw [if_neg (by decide), if_pos rfl]) (by decide) (by decide)
theorem r_sum {P : Nat} {g : Int → Int} {d : Nat} (hd : d ≤ 4) (hE : d < 4 → r_PE P g (d + 1)) (m : z_M) (hB : r_RB P g m) : ∃ m' v, z_R 177 (m, 0, [(2, 251), (0, (d : Int)), (9, 0), (9, 0), (9, 0)], []) = some (m', some (0, v)) ∧ r_RP m m' (q_su g (q_E g d) (m 251 15)) v := by
  have hgb := r_W_gb hB.1
  have hb15 := hB.1.2.2.2.2.1
  have hgood := q_pr_good hgb (q_E_good hgb d)
  obtain ⟨m1, v, a1, a2⟩ := r_product hd hE m hB
  have gd := hgood (m 251 15) hb15.1 hB.2.2.1
  rw [t_sum_0, a1, zb_v, t_sum_5]
  exact r_sum1 (r_product hd hE) hgood hB 40 _ v _ _ m1 a2 (by omega) gd.2.1 (by omega)
theorem r_expr {P : Nat} {g : Int → Int} {d : Nat} (hd : d ≤ 4) (hE : d < 4 → r_PE P g (d + 1)) : r_PE P g d := by
  intro m hB
  obtain ⟨hw0, hf0, h400, h210, henv0⟩ := id hB
  have hgb := r_W_gb hw0
  have hb15 := hw0.2.2.2.2.1
  have hgood := q_su_good hgb (q_E_good hgb d)
  obtain ⟨m1, v, a1, a2⟩ := r_sum hd hE m hB
  have gd := hgood (m 251 15) hb15.1 h400
  rw [q_ex_he g hd, t_held_0, a1, zb_v, t_held_5]
  unfold q_he
  generalize hR : q_su g (q_E g d) (m 251 15) = R at a2 gd ⊢
  obtain ⟨ok, pos, code⟩ := R
  simp only at gd ⊢
  obtain ⟨p1, p2, p3⟩ := id a2
  cases ok with
  | false =>
    have hf1 : ¬ m1 251 16 = -1 := by rw [p3 rfl]; simp only; omega
    rw [if_neg (fun z => by cases z.1), t_pass0 m1 60 hf1, zb_v, t_held_12, if_pos rfl, t_pass0 m1 62 hf1, zb_v, t_held_36, if_pos rfl, t_pass0 m1 61 hf1, zb_v, t_held_60, if_pos rfl]
    exact ⟨m1, v, rfl, a2⟩
  | true =>
    obtain ⟨q1, q2, q3, q4⟩ := p2 rfl
    simp only at q2 q4
    have w1 : r_W P g m1 := r_W_sm hw0 p1 (by omega) (by omega)
    have second : g pos = 60 ∨ g pos = 62 ∨ g pos = 61 → ∃ m2 w, z_R 177 (z_up m1 251 15 (pos + 1), 0, [(2, 251), (0, (d : Int)), (9, 0), (9, 0), (9, 0)], []) = some (m2, some (0, w)) ∧ ∀ u, u = q_op (g pos) v w → r_RP m m2 ((q_su g (q_E g d) (pos + 1)).1, (q_su g (q_E g d) (pos + 1)).2.1, code ++ (q_su g (q_E g d) (pos + 1)).2.2 ++ [2000 + g pos]) u := by
      intro hc
      have bb := hgb pos (by rcases hc with y | y | y <;> rw [y] <;> decide)
      have s1 : z_same r_LR m1 (z_up m1 251 15 (pos + 1)) := z_same.rf.upo (by (try unfold r_LR); first | exact z_on_h rfl (by omega) (by omega) | exact z_on_t (z_on_h rfl (by omega) (by omega)) | exact z_on_t (z_on_t (z_on_h rfl (by omega) (by omega))) | exact z_on_t (z_on_t (z_on_t (z_on_h rfl (by omega) (by omega)))) | exact z_on_t (z_on_t (z_on_t (z_on_t (z_on_h rfl (by omega) (by omega))))) | exact z_on_t (z_on_t (z_on_t (z_on_t (z_on_t (z_on_h rfl (by omega) (by omega)))))) | exact z_on_t (z_on_t (z_on_t (z_on_t (z_on_t (z_on_t (z_on_h rfl (by omega) (by omega))))))) | exact z_on_t (z_on_t (z_on_t (z_on_t (z_on_t (z_on_t (z_on_t (z_on_h rfl (by omega) (by omega)))))))) | exact z_on_t (z_on_t (z_on_t (z_on_t (z_on_t (z_on_t (z_on_t (z_on_t (z_on_h rfl (by omega) (by omega))))))))) | exact z_on_t (z_on_t (z_on_t (z_on_t (z_on_t (z_on_t (z_on_t (z_on_t (z_on_t (z_on_h rfl (by omega) (by omega)))))))))) | exact z_on_t (z_on_t (z_on_t (z_on_t (z_on_t (z_on_t (z_on_t (z_on_t (z_on_t (z_on_t (z_on_h rfl (by omega) (by omega))))))))))) | exact z_on_t (z_on_t (z_on_t (z_on_t (z_on_t (z_on_t (z_on_t (z_on_t (z_on_t (z_on_t (z_on_t (z_on_h rfl (by omega) (by omega)))))))))))) | exact z_on_t (z_on_t (z_on_t (z_on_t (z_on_t (z_on_t (z_on_t (z_on_t (z_on_t (z_on_t (z_on_t (z_on_t (z_on_h rfl (by omega) (by omega))))))))))))))
      have e15 : (z_up m1 251 15 (pos + 1)) 251 15 = pos + 1 := zu_self
      have e21 : (z_up m1 251 15 (pos + 1)) 251 21 = m 251 21 := (zu_k (by decide)).trans (p1.of (by (try unfold r_LR); (repeat' (first | exact trivial | refine z_of_c ?_ ?_)) <;> omega))
      have e259 : (z_up m1 251 15 (pos + 1)) 259 = m 259 := (zu_rowne (by decide)).trans (p1.ofr (by (try unfold r_LR); (repeat' (first | exact trivial | refine z_ofr_c ?_ ?_)) <;> omega))
      obtain ⟨m2, w, b1, b2, b3, b4⟩ := r_sum hd hE (z_up m1 251 15 (pos + 1)) (r_RB_sm hB (p1.tr s1) (by rw [zu_k (by decide)]; exact q1) (by omega) (by omega))
      rw [e15] at b3 b4
      rw [e21, e259] at b3
      refine ⟨m2, w, b1, fun u hu => ⟨(p1.tr s1).tr b2, fun z => ?_, fun z => b4 z⟩⟩
      obtain ⟨t1, t2, t3, t4⟩ := b3 z
      refine ⟨t1, t2, by rw [hu]; exact q_op_b _ _ _ q3, fun y => ?_⟩
      rw [hu]
      exact evs_op (q4 y) (t4 y) (by omega) (by omega)
    rw [r_pass m1 60 q1 w1, q2]
    by_cases c1 : g pos = 60
    · obtain ⟨m2, w, b1, b2⟩ := second (Or.inl c1)
      rw [if_pos c1, if_pos ⟨rfl, Or.inl c1⟩, zb_v, t_held_12, if_neg (by decide), b1, zb_v, t_held_21]
      by_cases c : w ≤ v
      · rw [if_pos c]
        exact ⟨m2, 0, rfl, b2 0 (by rw [c1]; show 0 = if v < w then 1 else 0; rw [if_neg (by omega)])⟩
      · rw [if_neg c]
        exact ⟨m2, 1, rfl, b2 1 (by rw [c1]; show 1 = if v < w then 1 else 0; rw [if_pos (by omega)])⟩
    rw [if_neg c1, zb_v, t_held_12, if_pos rfl, r_pass m1 62 q1 w1, q2]
    by_cases c2 : g pos = 62
    · obtain ⟨m2, w, b1, b2⟩ := second (Or.inr (Or.inl c2))
      rw [if_pos c2, if_pos ⟨rfl, Or.inr (Or.inl c2)⟩, zb_v, t_held_36, if_neg (by decide), b1, zb_v, t_held_45]
      by_cases c : v ≤ w
      · rw [if_pos c]
        exact ⟨m2, 0, rfl, b2 0 (by rw [c2]; show 0 = if w < v then 1 else 0; rw [if_neg (by omega)])⟩
      · rw [if_neg c]
        exact ⟨m2, 1, rfl, b2 1 (by rw [c2]; show 1 = if w < v then 1 else 0; rw [if_pos (by omega)])⟩
    rw [if_neg c2, zb_v, t_held_36, if_pos rfl, r_pass m1 61 q1 w1, q2]
    by_cases c3 : g pos = 61
    · obtain ⟨m2, w, b1, b2⟩ := second (Or.inr (Or.inr c3))
      rw [if_pos c3, if_pos ⟨rfl, Or.inr (Or.inr c3)⟩, zb_v, t_held_60, if_neg (by decide), b1, zb_v, t_held_69]
      by_cases c : v = w
      · rw [if_pos c]
        exact ⟨m2, 1, rfl, b2 1 (by rw [c3]; show 1 = if v = w then 1 else 0; rw [if_pos c])⟩
      · rw [if_neg c]
        exact ⟨m2, 0, rfl, b2 0 (by rw [c3]; show 0 = if v = w then 1 else 0; rw [if_neg c])⟩
    · rw [if_neg c3, if_neg (fun z => by omega), zb_v, t_held_60, if_pos rfl]
      exact ⟨m1, v, rfl, a2⟩
theorem r_exprs {P : Nat} {g : Int → Int} : ∀ D, D ≤ 4 → r_PE P g (4 - D)
  | 0, _ => r_expr (by decide) (fun z => by omega)
  | D + 1, h => r_expr (by omega) (fun _ => by
    rw [show 4 - (D + 1) + 1 = 4 - D by omega]
    exact r_exprs D (by omega))
end
section
/-! rule, of both: what it answers, what stands then -/
theorem z_by_sm {x : Int} (h1 : -128 ≤ x) (h2 : x ≤ 127) : z_by x = x := by
  have e : (Int32.ofInt x).toInt = x := zr_of (by omega) (by omega)
  unfold z_by
  rw [vp_nar_byte, (nar_b _).2 (by rw [e]; exact h1) (by rw [e]; exact h2), e]
/-- codes of the row, from k on -/
def cds : (Nat → Int) → Nat → List Int → Prop
  | _, _, [] => True
  | row, k, c :: cs => row k = c ∧ cds row (k + 1) cs
theorem wr_lo : ∀ (cs : List Int) (row : Nat → Int) (n k : Nat), k < n → wr row n cs k = row k
  | [], row, n, k, h => rfl
  | c :: cs, row, n, k, h => by
    show wr (u_up row n c) (n + 1) cs k = row k
    rw [wr_lo cs _ (n + 1) k (by omega)]
    unfold u_up
    rw [if_neg (by omega)]
theorem cds_wr : ∀ (cs : List Int) (row : Nat → Int) (n : Nat), cds (wr row n cs) n cs
  | [], row, n => trivial
  | c :: cs, row, n => by
    refine ⟨?_, cds_wr cs (u_up row n c) (n + 1)⟩
    show wr (u_up row n c) (n + 1) cs n = c
    rw [wr_lo cs _ (n + 1) n (by omega)]
    unfold u_up
    rw [if_pos rfl]
theorem cds_cg {row row' : Nat → Int} : ∀ (cs : List Int) (n : Nat), (∀ k, n ≤ k → k < n + cs.length → row' k = row k) → cds row n cs → cds row' n cs
  | [], n, _, _ => trivial
  | c :: cs, n, h, hc => by
    have hl : (c :: cs).length = cs.length + 1 := rfl
    exact ⟨(h n (by omega) (by omega)).trans hc.1, cds_cg cs (n + 1) (fun k h1 h2 => h k (by omega) (by omega)) hc.2⟩
/-- what rule answers of a text of n signs -/
def q_ans (g : Int → Int) (n : Int) : Int := if n = 0 then 0 else if (q_ex g 4 0).1 = true ∧ n ≤ (q_ex g 4 0).2.1 then 0 else -1 - (q_ex g 4 0).2.1
theorem u_nx_qgb {t : Nat → Int} {n : Int} : q_gb (u_nx t n 40) := by
  intro i hi
  unfold u_nx at hi
  by_cases hc : 0 ≤ i ∧ i < n ∧ i < 40
  · omega
  · rw [if_neg hc] at hi; exact absurd rfl hi
theorem c_bec (m : z_M) {a : Int} (h0 : 0 ≤ a) (h1 : a ≤ 40) : z_R 52 (m, 0, [(2, 4), (2, 117), (0, a)], []) = some (z_cp (z_up m 4 3 a) 117 0 5 0 a.toNat, none) := by
  have e : (if 0 < (if 40 < a then 40 else a) then (if 40 < a then 40 else a) else 0) = a := by
    rw [if_neg (show ¬ 40 < a by omega)]
    by_cases c : 0 < a
    · rw [if_pos c]
    · rw [if_neg c]; omega
  rw [s_become_0, e, decide_eq_true h0, decide_eq_true (show (0 : Int) ≤ 0 by decide), decide_eq_true (show (0 : Int) + a ≤ ((40 : Nat) : Int) by omega)]
  rfl
theorem z_same.cpR {L : List (Nat × Nat × Nat)} {m m' : z_M} {a s b d n : Nat} (h : z_same L m m') (hq : ∀ k, d ≤ k → k < d + n → ∃ q ∈ L, q.1 = b ∧ q.2.1 ≤ k ∧ k ≤ q.2.2) : z_same L m (z_cp m' a s b d n) := fun p' k' hn => by
  have : ¬ (p' = b ∧ d ≤ k' ∧ k' < d + n) := fun ⟨e1, e2, e3⟩ => by
    obtain ⟨q, q1, q2, q3, q4⟩ := hq k' e2 e3
    exact hn q q1 ⟨q2.trans e1.symm, q3, q4⟩
  unfold z_cp
  rw [if_neg this]
  exact h p' k' hn
abbrev c_RU : List (Nat × Nat × Nat) := [(1, 1, 3), (116, 2, 2), (117, 0, 39), (4, 3, 3), (5, 0, 39)]
theorem c_rule (m : z_M) (h0 : 0 ≤ m 1 1) (h80 : m 1 1 ≤ 80) (hr : ∀ i, -1 ≤ u_nx (m 2) (m 1 1) 40 i ∧ u_nx (m 2) (m 1 1) 40 i ≤ 255) : ∃ m', z_R 39 (m, 0, [(2, 0), (9, 0)], []) = some (m', some (0, q_ans (u_nx (m 2) (m 1 1) 40) (m 1 1))) ∧ z_same c_RU m m' ∧ (m 1 1 = 0 → m' 4 3 = 3 ∧ m' 5 0 = 1000 ∧ m' 5 1 = 2 ∧ m' 5 2 = 2047) ∧ (¬ m 1 1 = 0 → ((q_ex (u_nx (m 2) (m 1 1) 40) 4 0).1 = true ∧ m 1 1 ≤ (q_ex (u_nx (m 2) (m 1 1) 40) 4 0).2.1) → m' 4 3 = (((q_ex (u_nx (m 2) (m 1 1) 40) 4 0).2.2).length : Int) ∧ cds (m' 5) 0 (q_ex (u_nx (m 2) (m 1 1) 40) 4 0).2.2) ∧ (¬ m 1 1 = 0 → ¬ ((q_ex (u_nx (m 2) (m 1 1) 40) 4 0).1 = true ∧ m 1 1 ≤ (q_ex (u_nx (m 2) (m 1 1) 40) 4 0).2.1) → m' 5 = m 5 ∧ m' 4 3 = m 4 3) := by
  have hg : q_gb (u_nx (m 2) (m 1 1) 40) := u_nx_qgb
  generalize hG : u_nx (m 2) (m 1 1) 40 = g at hr hg
  unfold q_ans
  rw [s_rule_0]
  by_cases c : m 1 1 = 0
  · rw [if_pos c, if_pos c, s_untold_0, zb_n, s_rule_20]
    refine ⟨_, rfl, (((z_same.rf.upo (by (try unfold c_RU); (try unfold r_RU); first | exact z_on_h rfl (by omega) (by omega) | exact z_on_t (z_on_h rfl (by omega) (by omega)) | exact z_on_t (z_on_t (z_on_h rfl (by omega) (by omega))) | exact z_on_t (z_on_t (z_on_t (z_on_h rfl (by omega) (by omega)))) | exact z_on_t (z_on_t (z_on_t (z_on_t (z_on_h rfl (by omega) (by omega))))) | exact z_on_t (z_on_t (z_on_t (z_on_t (z_on_t (z_on_h rfl (by omega) (by omega)))))) | exact z_on_t (z_on_t (z_on_t (z_on_t (z_on_t (z_on_t (z_on_h rfl (by omega) (by omega))))))) | exact z_on_t (z_on_t (z_on_t (z_on_t (z_on_t (z_on_t (z_on_t (z_on_h rfl (by omega) (by omega)))))))) | exact z_on_t (z_on_t (z_on_t (z_on_t (z_on_t (z_on_t (z_on_t (z_on_t (z_on_h rfl (by omega) (by omega))))))))) | exact z_on_t (z_on_t (z_on_t (z_on_t (z_on_t (z_on_t (z_on_t (z_on_t (z_on_t (z_on_h rfl (by omega) (by omega)))))))))) | exact z_on_t (z_on_t (z_on_t (z_on_t (z_on_t (z_on_t (z_on_t (z_on_t (z_on_t (z_on_t (z_on_h rfl (by omega) (by omega))))))))))) | exact z_on_t (z_on_t (z_on_t (z_on_t (z_on_t (z_on_t (z_on_t (z_on_t (z_on_t (z_on_t (z_on_t (z_on_h rfl (by omega) (by omega)))))))))))) | exact z_on_t (z_on_t (z_on_t (z_on_t (z_on_t (z_on_t (z_on_t (z_on_t (z_on_t (z_on_t (z_on_t (z_on_t (z_on_h rfl (by omega) (by omega))))))))))))))).upo (by (try unfold c_RU); (try unfold r_RU); first | exact z_on_h rfl (by omega) (by omega) | exact z_on_t (z_on_h rfl (by omega) (by omega)) | exact z_on_t (z_on_t (z_on_h rfl (by omega) (by omega))) | exact z_on_t (z_on_t (z_on_t (z_on_h rfl (by omega) (by omega)))) | exact z_on_t (z_on_t (z_on_t (z_on_t (z_on_h rfl (by omega) (by omega))))) | exact z_on_t (z_on_t (z_on_t (z_on_t (z_on_t (z_on_h rfl (by omega) (by omega)))))) | exact z_on_t (z_on_t (z_on_t (z_on_t (z_on_t (z_on_t (z_on_h rfl (by omega) (by omega))))))) | exact z_on_t (z_on_t (z_on_t (z_on_t (z_on_t (z_on_t (z_on_t (z_on_h rfl (by omega) (by omega)))))))) | exact z_on_t (z_on_t (z_on_t (z_on_t (z_on_t (z_on_t (z_on_t (z_on_t (z_on_h rfl (by omega) (by omega))))))))) | exact z_on_t (z_on_t (z_on_t (z_on_t (z_on_t (z_on_t (z_on_t (z_on_t (z_on_t (z_on_h rfl (by omega) (by omega)))))))))) | exact z_on_t (z_on_t (z_on_t (z_on_t (z_on_t (z_on_t (z_on_t (z_on_t (z_on_t (z_on_t (z_on_h rfl (by omega) (by omega))))))))))) | exact z_on_t (z_on_t (z_on_t (z_on_t (z_on_t (z_on_t (z_on_t (z_on_t (z_on_t (z_on_t (z_on_t (z_on_h rfl (by omega) (by omega)))))))))))) | exact z_on_t (z_on_t (z_on_t (z_on_t (z_on_t (z_on_t (z_on_t (z_on_t (z_on_t (z_on_t (z_on_t (z_on_t (z_on_h rfl (by omega) (by omega))))))))))))))).upo (by (try unfold c_RU); (try unfold r_RU); first | exact z_on_h rfl (by omega) (by omega) | exact z_on_t (z_on_h rfl (by omega) (by omega)) | exact z_on_t (z_on_t (z_on_h rfl (by omega) (by omega))) | exact z_on_t (z_on_t (z_on_t (z_on_h rfl (by omega) (by omega)))) | exact z_on_t (z_on_t (z_on_t (z_on_t (z_on_h rfl (by omega) (by omega))))) | exact z_on_t (z_on_t (z_on_t (z_on_t (z_on_t (z_on_h rfl (by omega) (by omega)))))) | exact z_on_t (z_on_t (z_on_t (z_on_t (z_on_t (z_on_t (z_on_h rfl (by omega) (by omega))))))) | exact z_on_t (z_on_t (z_on_t (z_on_t (z_on_t (z_on_t (z_on_t (z_on_h rfl (by omega) (by omega)))))))) | exact z_on_t (z_on_t (z_on_t (z_on_t (z_on_t (z_on_t (z_on_t (z_on_t (z_on_h rfl (by omega) (by omega))))))))) | exact z_on_t (z_on_t (z_on_t (z_on_t (z_on_t (z_on_t (z_on_t (z_on_t (z_on_t (z_on_h rfl (by omega) (by omega)))))))))) | exact z_on_t (z_on_t (z_on_t (z_on_t (z_on_t (z_on_t (z_on_t (z_on_t (z_on_t (z_on_t (z_on_h rfl (by omega) (by omega))))))))))) | exact z_on_t (z_on_t (z_on_t (z_on_t (z_on_t (z_on_t (z_on_t (z_on_t (z_on_t (z_on_t (z_on_t (z_on_h rfl (by omega) (by omega)))))))))))) | exact z_on_t (z_on_t (z_on_t (z_on_t (z_on_t (z_on_t (z_on_t (z_on_t (z_on_t (z_on_t (z_on_t (z_on_t (z_on_h rfl (by omega) (by omega))))))))))))))).upo (by (try unfold c_RU); (try unfold r_RU); first | exact z_on_h rfl (by omega) (by omega) | exact z_on_t (z_on_h rfl (by omega) (by omega)) | exact z_on_t (z_on_t (z_on_h rfl (by omega) (by omega))) | exact z_on_t (z_on_t (z_on_t (z_on_h rfl (by omega) (by omega)))) | exact z_on_t (z_on_t (z_on_t (z_on_t (z_on_h rfl (by omega) (by omega))))) | exact z_on_t (z_on_t (z_on_t (z_on_t (z_on_t (z_on_h rfl (by omega) (by omega)))))) | exact z_on_t (z_on_t (z_on_t (z_on_t (z_on_t (z_on_t (z_on_h rfl (by omega) (by omega))))))) | exact z_on_t (z_on_t (z_on_t (z_on_t (z_on_t (z_on_t (z_on_t (z_on_h rfl (by omega) (by omega)))))))) | exact z_on_t (z_on_t (z_on_t (z_on_t (z_on_t (z_on_t (z_on_t (z_on_t (z_on_h rfl (by omega) (by omega))))))))) | exact z_on_t (z_on_t (z_on_t (z_on_t (z_on_t (z_on_t (z_on_t (z_on_t (z_on_t (z_on_h rfl (by omega) (by omega)))))))))) | exact z_on_t (z_on_t (z_on_t (z_on_t (z_on_t (z_on_t (z_on_t (z_on_t (z_on_t (z_on_t (z_on_h rfl (by omega) (by omega))))))))))) | exact z_on_t (z_on_t (z_on_t (z_on_t (z_on_t (z_on_t (z_on_t (z_on_t (z_on_t (z_on_t (z_on_t (z_on_h rfl (by omega) (by omega)))))))))))) | exact z_on_t (z_on_t (z_on_t (z_on_t (z_on_t (z_on_t (z_on_t (z_on_t (z_on_t (z_on_t (z_on_t (z_on_t (z_on_h rfl (by omega) (by omega)))))))))))))), fun _ => ⟨zu_self, ?_, ?_, ?_⟩, fun z => absurd c z, fun z => absurd c z⟩
    · rw [zu_p (by decide), zu_k (by decide), zu_k (by decide), zu_self]
    · rw [zu_p (by decide), zu_k (by decide), zu_self]
    · rw [zu_p (by decide), zu_self]
  · rw [if_neg c, if_neg c, s_rrd_0, s_begin_0, zb_n, s_rrd_9]
    have s0 : z_same c_RU m (z_up (z_up (z_up m 1 2 0) 1 3 40) 116 2 0) := ((z_same.rf.upo (by (try unfold c_RU); (try unfold r_RU); first | exact z_on_h rfl (by omega) (by omega) | exact z_on_t (z_on_h rfl (by omega) (by omega)) | exact z_on_t (z_on_t (z_on_h rfl (by omega) (by omega))) | exact z_on_t (z_on_t (z_on_t (z_on_h rfl (by omega) (by omega)))) | exact z_on_t (z_on_t (z_on_t (z_on_t (z_on_h rfl (by omega) (by omega))))) | exact z_on_t (z_on_t (z_on_t (z_on_t (z_on_t (z_on_h rfl (by omega) (by omega)))))) | exact z_on_t (z_on_t (z_on_t (z_on_t (z_on_t (z_on_t (z_on_h rfl (by omega) (by omega))))))) | exact z_on_t (z_on_t (z_on_t (z_on_t (z_on_t (z_on_t (z_on_t (z_on_h rfl (by omega) (by omega)))))))) | exact z_on_t (z_on_t (z_on_t (z_on_t (z_on_t (z_on_t (z_on_t (z_on_t (z_on_h rfl (by omega) (by omega))))))))) | exact z_on_t (z_on_t (z_on_t (z_on_t (z_on_t (z_on_t (z_on_t (z_on_t (z_on_t (z_on_h rfl (by omega) (by omega)))))))))) | exact z_on_t (z_on_t (z_on_t (z_on_t (z_on_t (z_on_t (z_on_t (z_on_t (z_on_t (z_on_t (z_on_h rfl (by omega) (by omega))))))))))) | exact z_on_t (z_on_t (z_on_t (z_on_t (z_on_t (z_on_t (z_on_t (z_on_t (z_on_t (z_on_t (z_on_t (z_on_h rfl (by omega) (by omega)))))))))))) | exact z_on_t (z_on_t (z_on_t (z_on_t (z_on_t (z_on_t (z_on_t (z_on_t (z_on_t (z_on_t (z_on_t (z_on_t (z_on_h rfl (by omega) (by omega))))))))))))))).upo (by (try unfold c_RU); (try unfold r_RU); first | exact z_on_h rfl (by omega) (by omega) | exact z_on_t (z_on_h rfl (by omega) (by omega)) | exact z_on_t (z_on_t (z_on_h rfl (by omega) (by omega))) | exact z_on_t (z_on_t (z_on_t (z_on_h rfl (by omega) (by omega)))) | exact z_on_t (z_on_t (z_on_t (z_on_t (z_on_h rfl (by omega) (by omega))))) | exact z_on_t (z_on_t (z_on_t (z_on_t (z_on_t (z_on_h rfl (by omega) (by omega)))))) | exact z_on_t (z_on_t (z_on_t (z_on_t (z_on_t (z_on_t (z_on_h rfl (by omega) (by omega))))))) | exact z_on_t (z_on_t (z_on_t (z_on_t (z_on_t (z_on_t (z_on_t (z_on_h rfl (by omega) (by omega)))))))) | exact z_on_t (z_on_t (z_on_t (z_on_t (z_on_t (z_on_t (z_on_t (z_on_t (z_on_h rfl (by omega) (by omega))))))))) | exact z_on_t (z_on_t (z_on_t (z_on_t (z_on_t (z_on_t (z_on_t (z_on_t (z_on_t (z_on_h rfl (by omega) (by omega)))))))))) | exact z_on_t (z_on_t (z_on_t (z_on_t (z_on_t (z_on_t (z_on_t (z_on_t (z_on_t (z_on_t (z_on_h rfl (by omega) (by omega))))))))))) | exact z_on_t (z_on_t (z_on_t (z_on_t (z_on_t (z_on_t (z_on_t (z_on_t (z_on_t (z_on_t (z_on_t (z_on_h rfl (by omega) (by omega)))))))))))) | exact z_on_t (z_on_t (z_on_t (z_on_t (z_on_t (z_on_t (z_on_t (z_on_t (z_on_t (z_on_t (z_on_t (z_on_t (z_on_h rfl (by omega) (by omega))))))))))))))).upo (by (try unfold c_RU); (try unfold r_RU); first | exact z_on_h rfl (by omega) (by omega) | exact z_on_t (z_on_h rfl (by omega) (by omega)) | exact z_on_t (z_on_t (z_on_h rfl (by omega) (by omega))) | exact z_on_t (z_on_t (z_on_t (z_on_h rfl (by omega) (by omega)))) | exact z_on_t (z_on_t (z_on_t (z_on_t (z_on_h rfl (by omega) (by omega))))) | exact z_on_t (z_on_t (z_on_t (z_on_t (z_on_t (z_on_h rfl (by omega) (by omega)))))) | exact z_on_t (z_on_t (z_on_t (z_on_t (z_on_t (z_on_t (z_on_h rfl (by omega) (by omega))))))) | exact z_on_t (z_on_t (z_on_t (z_on_t (z_on_t (z_on_t (z_on_t (z_on_h rfl (by omega) (by omega)))))))) | exact z_on_t (z_on_t (z_on_t (z_on_t (z_on_t (z_on_t (z_on_t (z_on_t (z_on_h rfl (by omega) (by omega))))))))) | exact z_on_t (z_on_t (z_on_t (z_on_t (z_on_t (z_on_t (z_on_t (z_on_t (z_on_t (z_on_h rfl (by omega) (by omega)))))))))) | exact z_on_t (z_on_t (z_on_t (z_on_t (z_on_t (z_on_t (z_on_t (z_on_t (z_on_t (z_on_t (z_on_h rfl (by omega) (by omega))))))))))) | exact z_on_t (z_on_t (z_on_t (z_on_t (z_on_t (z_on_t (z_on_t (z_on_t (z_on_t (z_on_t (z_on_t (z_on_h rfl (by omega) (by omega)))))))))))) | exact z_on_t (z_on_t (z_on_t (z_on_t (z_on_t (z_on_t (z_on_t (z_on_t (z_on_t (z_on_t (z_on_t (z_on_t (z_on_h rfl (by omega) (by omega))))))))))))))
    have q0 : z_same [(1, 2, 3), (116, 2, 2)] m (z_up (z_up (z_up m 1 2 0) 1 3 40) 116 2 0) := ((z_same.rf.upo (by (try unfold c_RU); (try unfold r_RU); first | exact z_on_h rfl (by omega) (by omega) | exact z_on_t (z_on_h rfl (by omega) (by omega)) | exact z_on_t (z_on_t (z_on_h rfl (by omega) (by omega))) | exact z_on_t (z_on_t (z_on_t (z_on_h rfl (by omega) (by omega)))) | exact z_on_t (z_on_t (z_on_t (z_on_t (z_on_h rfl (by omega) (by omega))))) | exact z_on_t (z_on_t (z_on_t (z_on_t (z_on_t (z_on_h rfl (by omega) (by omega)))))) | exact z_on_t (z_on_t (z_on_t (z_on_t (z_on_t (z_on_t (z_on_h rfl (by omega) (by omega))))))) | exact z_on_t (z_on_t (z_on_t (z_on_t (z_on_t (z_on_t (z_on_t (z_on_h rfl (by omega) (by omega)))))))) | exact z_on_t (z_on_t (z_on_t (z_on_t (z_on_t (z_on_t (z_on_t (z_on_t (z_on_h rfl (by omega) (by omega))))))))) | exact z_on_t (z_on_t (z_on_t (z_on_t (z_on_t (z_on_t (z_on_t (z_on_t (z_on_t (z_on_h rfl (by omega) (by omega)))))))))) | exact z_on_t (z_on_t (z_on_t (z_on_t (z_on_t (z_on_t (z_on_t (z_on_t (z_on_t (z_on_t (z_on_h rfl (by omega) (by omega))))))))))) | exact z_on_t (z_on_t (z_on_t (z_on_t (z_on_t (z_on_t (z_on_t (z_on_t (z_on_t (z_on_t (z_on_t (z_on_h rfl (by omega) (by omega)))))))))))) | exact z_on_t (z_on_t (z_on_t (z_on_t (z_on_t (z_on_t (z_on_t (z_on_t (z_on_t (z_on_t (z_on_t (z_on_t (z_on_h rfl (by omega) (by omega))))))))))))))).upo (by (try unfold c_RU); (try unfold r_RU); first | exact z_on_h rfl (by omega) (by omega) | exact z_on_t (z_on_h rfl (by omega) (by omega)) | exact z_on_t (z_on_t (z_on_h rfl (by omega) (by omega))) | exact z_on_t (z_on_t (z_on_t (z_on_h rfl (by omega) (by omega)))) | exact z_on_t (z_on_t (z_on_t (z_on_t (z_on_h rfl (by omega) (by omega))))) | exact z_on_t (z_on_t (z_on_t (z_on_t (z_on_t (z_on_h rfl (by omega) (by omega)))))) | exact z_on_t (z_on_t (z_on_t (z_on_t (z_on_t (z_on_t (z_on_h rfl (by omega) (by omega))))))) | exact z_on_t (z_on_t (z_on_t (z_on_t (z_on_t (z_on_t (z_on_t (z_on_h rfl (by omega) (by omega)))))))) | exact z_on_t (z_on_t (z_on_t (z_on_t (z_on_t (z_on_t (z_on_t (z_on_t (z_on_h rfl (by omega) (by omega))))))))) | exact z_on_t (z_on_t (z_on_t (z_on_t (z_on_t (z_on_t (z_on_t (z_on_t (z_on_t (z_on_h rfl (by omega) (by omega)))))))))) | exact z_on_t (z_on_t (z_on_t (z_on_t (z_on_t (z_on_t (z_on_t (z_on_t (z_on_t (z_on_t (z_on_h rfl (by omega) (by omega))))))))))) | exact z_on_t (z_on_t (z_on_t (z_on_t (z_on_t (z_on_t (z_on_t (z_on_t (z_on_t (z_on_t (z_on_t (z_on_h rfl (by omega) (by omega)))))))))))) | exact z_on_t (z_on_t (z_on_t (z_on_t (z_on_t (z_on_t (z_on_t (z_on_t (z_on_t (z_on_t (z_on_t (z_on_t (z_on_h rfl (by omega) (by omega))))))))))))))).upo (by (try unfold c_RU); (try unfold r_RU); first | exact z_on_h rfl (by omega) (by omega) | exact z_on_t (z_on_h rfl (by omega) (by omega)) | exact z_on_t (z_on_t (z_on_h rfl (by omega) (by omega))) | exact z_on_t (z_on_t (z_on_t (z_on_h rfl (by omega) (by omega)))) | exact z_on_t (z_on_t (z_on_t (z_on_t (z_on_h rfl (by omega) (by omega))))) | exact z_on_t (z_on_t (z_on_t (z_on_t (z_on_t (z_on_h rfl (by omega) (by omega)))))) | exact z_on_t (z_on_t (z_on_t (z_on_t (z_on_t (z_on_t (z_on_h rfl (by omega) (by omega))))))) | exact z_on_t (z_on_t (z_on_t (z_on_t (z_on_t (z_on_t (z_on_t (z_on_h rfl (by omega) (by omega)))))))) | exact z_on_t (z_on_t (z_on_t (z_on_t (z_on_t (z_on_t (z_on_t (z_on_t (z_on_h rfl (by omega) (by omega))))))))) | exact z_on_t (z_on_t (z_on_t (z_on_t (z_on_t (z_on_t (z_on_t (z_on_t (z_on_t (z_on_h rfl (by omega) (by omega)))))))))) | exact z_on_t (z_on_t (z_on_t (z_on_t (z_on_t (z_on_t (z_on_t (z_on_t (z_on_t (z_on_t (z_on_h rfl (by omega) (by omega))))))))))) | exact z_on_t (z_on_t (z_on_t (z_on_t (z_on_t (z_on_t (z_on_t (z_on_t (z_on_t (z_on_t (z_on_t (z_on_h rfl (by omega) (by omega)))))))))))) | exact z_on_t (z_on_t (z_on_t (z_on_t (z_on_t (z_on_t (z_on_t (z_on_t (z_on_t (z_on_t (z_on_t (z_on_t (z_on_h rfl (by omega) (by omega))))))))))))))
    have k12 : z_up (z_up (z_up m 1 2 0) 1 3 40) 116 2 0 1 2 = 0 := by rw [zu_p (by decide), zu_k (by decide), zu_self]
    have k13 : z_up (z_up (z_up m 1 2 0) 1 3 40) 116 2 0 1 3 = 40 := by rw [zu_p (by decide), zu_self]
    have k116 : z_up (z_up (z_up m 1 2 0) 1 3 40) 116 2 0 116 2 = 0 := zu_self
    generalize z_up (z_up (z_up m 1 2 0) 1 3 40) 116 2 0 = m1 at s0 q0 k12 k13 k116 ⊢
    have k11 : m1 1 1 = m 1 1 := q0.of (by (try unfold c_RU); (try unfold r_RU); (repeat' (first | exact trivial | refine z_of_c ?_ ?_)) <;> omega)
    have hug : u_g m1 = g := by
      unfold u_g
      rw [q0.ofr (p := 2) (by (try unfold c_RU); (try unfold r_RU); (repeat' (first | exact trivial | refine z_ofr_c ?_ ?_)) <;> omega), k11, k13]
      exact hG
    obtain ⟨m2, a1, a2⟩ := c_exprs hg hr 4 (by decide) m1 ⟨hug, by omega, by omega, by omega⟩
    have a1 : z_R 41 (m1, 0, [(2, 116), (0, 0), (9, 0), (9, 0)], []) = some (m2, some (0, okf (q_ex g 4 (m1 1 2)).1)) := a1
    have a2 : c_RP m1 m2 (q_ex g 4 (m1 1 2)) := a2
    rw [k12] at a1 a2
    have go : 0 ≤ (q_ex g 4 0).2.1 ∧ (q_ex g 4 0).2.1 ≤ 40 ∧ ((q_ex g 4 0).1 = true → 0 < (q_ex g 4 0).2.1 ∧ (((q_ex g 4 0).2.2).length : Int) ≤ (q_ex g 4 0).2.1 - 0) := q_ex_good hg 4 0 (by decide) (by decide)
    obtain ⟨a3, a4, a5, a6⟩ := a2
    generalize (q_ex g 4 0).1 = b at a1 a6 go ⊢
    generalize (q_ex g 4 0).2.1 = p at a4 go ⊢
    generalize (q_ex g 4 0).2.2 = cs at a6 go ⊢
    have go1 : 0 ≤ p := go.1
    have go2 : p ≤ 40 := go.2.1
    have s2 : z_same c_RU m m2 := s0.tr (a3.subo (by (try unfold c_RU); (try unfold r_RU); (repeat' (first | exact trivial | refine z_sbo_c ?_ ?_)) <;> (intro k h1 h2; first | exact z_on_h rfl (by omega) (by omega) | exact z_on_t (z_on_h rfl (by omega) (by omega)) | exact z_on_t (z_on_t (z_on_h rfl (by omega) (by omega))) | exact z_on_t (z_on_t (z_on_t (z_on_h rfl (by omega) (by omega)))) | exact z_on_t (z_on_t (z_on_t (z_on_t (z_on_h rfl (by omega) (by omega))))) | exact z_on_t (z_on_t (z_on_t (z_on_t (z_on_t (z_on_h rfl (by omega) (by omega)))))) | exact z_on_t (z_on_t (z_on_t (z_on_t (z_on_t (z_on_t (z_on_h rfl (by omega) (by omega))))))) | exact z_on_t (z_on_t (z_on_t (z_on_t (z_on_t (z_on_t (z_on_t (z_on_h rfl (by omega) (by omega)))))))) | exact z_on_t (z_on_t (z_on_t (z_on_t (z_on_t (z_on_t (z_on_t (z_on_t (z_on_h rfl (by omega) (by omega))))))))) | exact z_on_t (z_on_t (z_on_t (z_on_t (z_on_t (z_on_t (z_on_t (z_on_t (z_on_t (z_on_h rfl (by omega) (by omega)))))))))) | exact z_on_t (z_on_t (z_on_t (z_on_t (z_on_t (z_on_t (z_on_t (z_on_t (z_on_t (z_on_t (z_on_h rfl (by omega) (by omega))))))))))) | exact z_on_t (z_on_t (z_on_t (z_on_t (z_on_t (z_on_t (z_on_t (z_on_t (z_on_t (z_on_t (z_on_t (z_on_h rfl (by omega) (by omega)))))))))))) | exact z_on_t (z_on_t (z_on_t (z_on_t (z_on_t (z_on_t (z_on_t (z_on_t (z_on_t (z_on_t (z_on_t (z_on_t (z_on_h rfl (by omega) (by omega))))))))))))))))
    have e11 : m2 1 1 = m 1 1 := (a3.of (by (try unfold c_RU); (try unfold r_RU); (repeat' (first | exact trivial | refine z_of_c ?_ ?_)) <;> omega)).trans k11
    have e5 : m2 5 = m 5 := (a3.ofr (by (try unfold c_RU); (try unfold r_RU); (repeat' (first | exact trivial | refine z_ofr_c ?_ ?_)) <;> omega)).trans (q0.ofr (by (try unfold c_RU); (try unfold r_RU); (repeat' (first | exact trivial | refine z_ofr_c ?_ ?_)) <;> omega))
    have e43 : m2 4 3 = m 4 3 := (a3.of (by (try unfold c_RU); (try unfold r_RU); (repeat' (first | exact trivial | refine z_of_c ?_ ?_)) <;> omega)).trans (q0.of (by (try unfold c_RU); (try unfold r_RU); (repeat' (first | exact trivial | refine z_of_c ?_ ?_)) <;> omega))
    have bad : ¬ (b = true ∧ m 1 1 ≤ p) → z_R 39 (z_up m2 1 1 0, 37, [(2, 0), (0, 0)], []) = some (z_up m2 1 1 0, some (0, -1 - p)) := fun _ => by
      rw [s_rule_37, if_pos rfl, zu_k (by decide), a4, z_sub_eq (by omega) (by omega)]
    have fin : ¬ (b = true ∧ m 1 1 ≤ p) → ∃ m', (some (z_up m2 1 1 0, some (0, -1 - p)) : Option z_Q) = some (m', some ((0 : Nat), if b = true ∧ m 1 1 ≤ p then 0 else -1 - p)) ∧ z_same c_RU m m' ∧ (m 1 1 = 0 → m' 4 3 = 3 ∧ m' 5 0 = 1000 ∧ m' 5 1 = 2 ∧ m' 5 2 = 2047) ∧ (¬ m 1 1 = 0 → (b = true ∧ m 1 1 ≤ p) → m' 4 3 = (cs.length : Int) ∧ cds (m' 5) 0 cs) ∧ (¬ m 1 1 = 0 → ¬ (b = true ∧ m 1 1 ≤ p) → m' 5 = m 5 ∧ m' 4 3 = m 4 3) := fun z => by
      rw [if_neg z]
      exact ⟨_, rfl, s2.upo (by (try unfold c_RU); (try unfold r_RU); first | exact z_on_h rfl (by omega) (by omega) | exact z_on_t (z_on_h rfl (by omega) (by omega)) | exact z_on_t (z_on_t (z_on_h rfl (by omega) (by omega))) | exact z_on_t (z_on_t (z_on_t (z_on_h rfl (by omega) (by omega)))) | exact z_on_t (z_on_t (z_on_t (z_on_t (z_on_h rfl (by omega) (by omega))))) | exact z_on_t (z_on_t (z_on_t (z_on_t (z_on_t (z_on_h rfl (by omega) (by omega)))))) | exact z_on_t (z_on_t (z_on_t (z_on_t (z_on_t (z_on_t (z_on_h rfl (by omega) (by omega))))))) | exact z_on_t (z_on_t (z_on_t (z_on_t (z_on_t (z_on_t (z_on_t (z_on_h rfl (by omega) (by omega)))))))) | exact z_on_t (z_on_t (z_on_t (z_on_t (z_on_t (z_on_t (z_on_t (z_on_t (z_on_h rfl (by omega) (by omega))))))))) | exact z_on_t (z_on_t (z_on_t (z_on_t (z_on_t (z_on_t (z_on_t (z_on_t (z_on_t (z_on_h rfl (by omega) (by omega)))))))))) | exact z_on_t (z_on_t (z_on_t (z_on_t (z_on_t (z_on_t (z_on_t (z_on_t (z_on_t (z_on_t (z_on_h rfl (by omega) (by omega))))))))))) | exact z_on_t (z_on_t (z_on_t (z_on_t (z_on_t (z_on_t (z_on_t (z_on_t (z_on_t (z_on_t (z_on_t (z_on_h rfl (by omega) (by omega)))))))))))) | exact z_on_t (z_on_t (z_on_t (z_on_t (z_on_t (z_on_t (z_on_t (z_on_t (z_on_t (z_on_t (z_on_t (z_on_t (z_on_h rfl (by omega) (by omega)))))))))))))), fun y => absurd y c, fun _ y => absurd y z, fun _ _ => ⟨(zu_rowne (by decide)).trans e5, (zu_p (by decide)).trans e43⟩⟩
    rw [a1, zb_v, s_rrd_19]
    cases b with
    | false =>
      have z : ¬ (false = true ∧ m 1 1 ≤ p) := fun z => by cases z.1
      rw [if_pos (show okf false = 0 from rfl), zb_v, s_rule_29, s_empty_0, zb_n, bad z]
      exact fin z
    | true =>
      rw [if_neg (show ¬ okf true = 0 by decide), s_ended_0, a4, e11]
      by_cases e : p < m 1 1
      · have z : ¬ (true = true ∧ m 1 1 ≤ p) := fun z => by omega
        rw [if_pos e, zb_v, s_rrd_29, if_pos rfl, zb_v, s_rule_29, s_empty_0, zb_n, bad z]
        exact fin z
      · have z : (true = true ∧ m 1 1 ≤ p) := ⟨rfl, by omega⟩
        obtain ⟨a7, a8⟩ := a6 rfl
        have e116 : (z_up m2 1 1 0) 116 2 = (cs.length : Int) := by rw [zu_p (by decide), a7, k116]; omega
        have hlen : (cs.length : Int) ≤ 40 := by have h1 := (go.2.2 rfl).2; omega
        rw [if_neg e, zb_v, s_rrd_29, if_neg (by decide), zb_v, s_rule_29, s_empty_0, zb_n, s_rule_37, if_neg (by decide), e116, c_bec _ (by omega) hlen, zb_n, s_rule_75, Int.toNat_natCast, if_pos z]
        refine ⟨_, rfl, ?_, fun y => absurd y c, fun _ _ => ⟨?_, ?_⟩, fun _ y => absurd z y⟩
        · exact ((s2.upo (by (try unfold c_RU); (try unfold r_RU); first | exact z_on_h rfl (by omega) (by omega) | exact z_on_t (z_on_h rfl (by omega) (by omega)) | exact z_on_t (z_on_t (z_on_h rfl (by omega) (by omega))) | exact z_on_t (z_on_t (z_on_t (z_on_h rfl (by omega) (by omega)))) | exact z_on_t (z_on_t (z_on_t (z_on_t (z_on_h rfl (by omega) (by omega))))) | exact z_on_t (z_on_t (z_on_t (z_on_t (z_on_t (z_on_h rfl (by omega) (by omega)))))) | exact z_on_t (z_on_t (z_on_t (z_on_t (z_on_t (z_on_t (z_on_h rfl (by omega) (by omega))))))) | exact z_on_t (z_on_t (z_on_t (z_on_t (z_on_t (z_on_t (z_on_t (z_on_h rfl (by omega) (by omega)))))))) | exact z_on_t (z_on_t (z_on_t (z_on_t (z_on_t (z_on_t (z_on_t (z_on_t (z_on_h rfl (by omega) (by omega))))))))) | exact z_on_t (z_on_t (z_on_t (z_on_t (z_on_t (z_on_t (z_on_t (z_on_t (z_on_t (z_on_h rfl (by omega) (by omega)))))))))) | exact z_on_t (z_on_t (z_on_t (z_on_t (z_on_t (z_on_t (z_on_t (z_on_t (z_on_t (z_on_t (z_on_h rfl (by omega) (by omega))))))))))) | exact z_on_t (z_on_t (z_on_t (z_on_t (z_on_t (z_on_t (z_on_t (z_on_t (z_on_t (z_on_t (z_on_t (z_on_h rfl (by omega) (by omega)))))))))))) | exact z_on_t (z_on_t (z_on_t (z_on_t (z_on_t (z_on_t (z_on_t (z_on_t (z_on_t (z_on_t (z_on_t (z_on_t (z_on_h rfl (by omega) (by omega))))))))))))))).upo (by (try unfold c_RU); (try unfold r_RU); first | exact z_on_h rfl (by omega) (by omega) | exact z_on_t (z_on_h rfl (by omega) (by omega)) | exact z_on_t (z_on_t (z_on_h rfl (by omega) (by omega))) | exact z_on_t (z_on_t (z_on_t (z_on_h rfl (by omega) (by omega)))) | exact z_on_t (z_on_t (z_on_t (z_on_t (z_on_h rfl (by omega) (by omega))))) | exact z_on_t (z_on_t (z_on_t (z_on_t (z_on_t (z_on_h rfl (by omega) (by omega)))))) | exact z_on_t (z_on_t (z_on_t (z_on_t (z_on_t (z_on_t (z_on_h rfl (by omega) (by omega))))))) | exact z_on_t (z_on_t (z_on_t (z_on_t (z_on_t (z_on_t (z_on_t (z_on_h rfl (by omega) (by omega)))))))) | exact z_on_t (z_on_t (z_on_t (z_on_t (z_on_t (z_on_t (z_on_t (z_on_t (z_on_h rfl (by omega) (by omega))))))))) | exact z_on_t (z_on_t (z_on_t (z_on_t (z_on_t (z_on_t (z_on_t (z_on_t (z_on_t (z_on_h rfl (by omega) (by omega)))))))))) | exact z_on_t (z_on_t (z_on_t (z_on_t (z_on_t (z_on_t (z_on_t (z_on_t (z_on_t (z_on_t (z_on_h rfl (by omega) (by omega))))))))))) | exact z_on_t (z_on_t (z_on_t (z_on_t (z_on_t (z_on_t (z_on_t (z_on_t (z_on_t (z_on_t (z_on_t (z_on_h rfl (by omega) (by omega)))))))))))) | exact z_on_t (z_on_t (z_on_t (z_on_t (z_on_t (z_on_t (z_on_t (z_on_t (z_on_t (z_on_t (z_on_t (z_on_t (z_on_h rfl (by omega) (by omega))))))))))))))).cpR (fun k h1 h2 => ⟨(5, 0, 39), by decide, rfl, Nat.zero_le _, by show k ≤ 39; omega⟩)
        · rw [zc_p (by decide), zu_self]
        · refine cds_cg (row := m2 117) cs 0 (fun k h1 h2 => ?_) (by
            rw [a8, k116]
            exact cds_wr cs _ _)
          unfold z_cp
          rw [if_pos ⟨rfl, Nat.zero_le _, h2⟩, zu_p (by decide), zu_p (by decide), Nat.zero_add, Nat.sub_zero]
abbrev r_RU : List (Nat × Nat × Nat) := [(251, 8, 8), (251, 11, 16), (251, 20, 21), (258, 0, 39)]
theorem t_rcp {n : Nat} (hn : n ≤ 40) : ∀ (f x : Nat) (m : z_M), x + f = n → ∃ m', z_R 175 (m, 73, [(2, 251), (0, (n : Int)), (0, (x : Int))], []) = some (z_up m' 251 20 (n : Int), some (0, 0)) ∧ (∀ k, x ≤ k → k < n → m' 258 k = z_by (m 254 k)) ∧ ∀ p k, ¬ (p = 258 ∧ x ≤ k ∧ k < n) → m' p k = m p k := by
  intro f
  induction f with
  | zero =>
    intro x m hx
    rw [t_rule_73, if_pos (by omega)]
    exact ⟨m, rfl, fun k h1 h2 => by omega, fun _ _ _ => rfl⟩
  | succ f ih =>
    intro x m hx
    obtain ⟨m', a1, a2, a3⟩ := ih (x + 1) (z_up m 258 x (z_by (m 254 x))) (by omega)
    rw [t_rule_73, if_neg (by omega), if_pos (by omega), if_pos (by omega), Int.toNat_natCast, tc1]
    refine ⟨m', a1, fun k h1 h2 => ?_, fun p k hn => ?_⟩
    · by_cases hk : k = x
      · rw [hk, a3 258 x (by omega), zu_self]
      · rw [a2 k (by omega) h2, zu_p (by decide)]
    · rw [a3 p k (by omega)]
      by_cases hp : p = 258
      · subst hp
        rw [zu_k (by omega)]
      · rw [zu_p hp]
theorem r_rule (m : z_M) (h0 : 0 ≤ m 251 8) (h80 : m 251 8 ≤ 80) (hb : ∀ k, k < 80 → -128 ≤ m 254 k ∧ m 254 k ≤ 127) (h259 : ∀ k, k < 7 → -2147483648 ≤ m 259 k ∧ m 259 k ≤ 2147483647) : ∃ m', z_R 175 (m, 0, [(2, 251), (9, 0), (9, 0)], []) = some (m', some (0, q_ans (u_nx (u_t m) (m 251 8) 40) (m 251 8))) ∧ z_same r_RU m m' ∧ (m 251 8 = 0 → m' 251 20 = 0) ∧ (¬ m 251 8 = 0 → ((q_ex (u_nx (u_t m) (m 251 8) 40) 4 0).1 = true ∧ m 251 8 ≤ (q_ex (u_nx (u_t m) (m 251 8) 40) 4 0).2.1) → m' 251 20 = m 251 8 ∧ m 251 8 ≤ 40 ∧ ∀ k : Nat, (k : Int) < m 251 8 → m' 258 k = m 254 k) ∧ (¬ m 251 8 = 0 → ¬ ((q_ex (u_nx (u_t m) (m 251 8) 40) 4 0).1 = true ∧ m 251 8 ≤ (q_ex (u_nx (u_t m) (m 251 8) 40) 4 0).2.1) → m' 251 20 = m 251 20 ∧ m' 258 = m 258) := by
  have hg : q_gb (u_nx (u_t m) (m 251 8) 40) := u_nx_qgb
  obtain ⟨n, hn⟩ : ∃ n : Nat, m 251 8 = (n : Int) := ⟨(m 251 8).toNat, by omega⟩
  generalize hG : u_nx (u_t m) (m 251 8) 40 = g at hg
  unfold q_ans
  rw [t_rule_0, t_begin_0, zb_n, t_rule_21, hn]
  have s0 : z_same r_RU m (z_up (z_up (z_up (z_up (z_up (z_up (z_up (z_up m 251 11 0) 251 12 254) 251 13 (n : Int)) 251 14 40) 251 15 0) 251 16 (-1)) 251 8 0) 251 21 0) := (((((((z_same.rf.upo (by (try unfold c_RU); (try unfold r_RU); first | exact z_on_h rfl (by omega) (by omega) | exact z_on_t (z_on_h rfl (by omega) (by omega)) | exact z_on_t (z_on_t (z_on_h rfl (by omega) (by omega))) | exact z_on_t (z_on_t (z_on_t (z_on_h rfl (by omega) (by omega)))) | exact z_on_t (z_on_t (z_on_t (z_on_t (z_on_h rfl (by omega) (by omega))))) | exact z_on_t (z_on_t (z_on_t (z_on_t (z_on_t (z_on_h rfl (by omega) (by omega)))))) | exact z_on_t (z_on_t (z_on_t (z_on_t (z_on_t (z_on_t (z_on_h rfl (by omega) (by omega))))))) | exact z_on_t (z_on_t (z_on_t (z_on_t (z_on_t (z_on_t (z_on_t (z_on_h rfl (by omega) (by omega)))))))) | exact z_on_t (z_on_t (z_on_t (z_on_t (z_on_t (z_on_t (z_on_t (z_on_t (z_on_h rfl (by omega) (by omega))))))))) | exact z_on_t (z_on_t (z_on_t (z_on_t (z_on_t (z_on_t (z_on_t (z_on_t (z_on_t (z_on_h rfl (by omega) (by omega)))))))))) | exact z_on_t (z_on_t (z_on_t (z_on_t (z_on_t (z_on_t (z_on_t (z_on_t (z_on_t (z_on_t (z_on_h rfl (by omega) (by omega))))))))))) | exact z_on_t (z_on_t (z_on_t (z_on_t (z_on_t (z_on_t (z_on_t (z_on_t (z_on_t (z_on_t (z_on_t (z_on_h rfl (by omega) (by omega)))))))))))) | exact z_on_t (z_on_t (z_on_t (z_on_t (z_on_t (z_on_t (z_on_t (z_on_t (z_on_t (z_on_t (z_on_t (z_on_t (z_on_h rfl (by omega) (by omega))))))))))))))).upo (by (try unfold c_RU); (try unfold r_RU); first | exact z_on_h rfl (by omega) (by omega) | exact z_on_t (z_on_h rfl (by omega) (by omega)) | exact z_on_t (z_on_t (z_on_h rfl (by omega) (by omega))) | exact z_on_t (z_on_t (z_on_t (z_on_h rfl (by omega) (by omega)))) | exact z_on_t (z_on_t (z_on_t (z_on_t (z_on_h rfl (by omega) (by omega))))) | exact z_on_t (z_on_t (z_on_t (z_on_t (z_on_t (z_on_h rfl (by omega) (by omega)))))) | exact z_on_t (z_on_t (z_on_t (z_on_t (z_on_t (z_on_t (z_on_h rfl (by omega) (by omega))))))) | exact z_on_t (z_on_t (z_on_t (z_on_t (z_on_t (z_on_t (z_on_t (z_on_h rfl (by omega) (by omega)))))))) | exact z_on_t (z_on_t (z_on_t (z_on_t (z_on_t (z_on_t (z_on_t (z_on_t (z_on_h rfl (by omega) (by omega))))))))) | exact z_on_t (z_on_t (z_on_t (z_on_t (z_on_t (z_on_t (z_on_t (z_on_t (z_on_t (z_on_h rfl (by omega) (by omega)))))))))) | exact z_on_t (z_on_t (z_on_t (z_on_t (z_on_t (z_on_t (z_on_t (z_on_t (z_on_t (z_on_t (z_on_h rfl (by omega) (by omega))))))))))) | exact z_on_t (z_on_t (z_on_t (z_on_t (z_on_t (z_on_t (z_on_t (z_on_t (z_on_t (z_on_t (z_on_t (z_on_h rfl (by omega) (by omega)))))))))))) | exact z_on_t (z_on_t (z_on_t (z_on_t (z_on_t (z_on_t (z_on_t (z_on_t (z_on_t (z_on_t (z_on_t (z_on_t (z_on_h rfl (by omega) (by omega))))))))))))))).upo (by (try unfold c_RU); (try unfold r_RU); first | exact z_on_h rfl (by omega) (by omega) | exact z_on_t (z_on_h rfl (by omega) (by omega)) | exact z_on_t (z_on_t (z_on_h rfl (by omega) (by omega))) | exact z_on_t (z_on_t (z_on_t (z_on_h rfl (by omega) (by omega)))) | exact z_on_t (z_on_t (z_on_t (z_on_t (z_on_h rfl (by omega) (by omega))))) | exact z_on_t (z_on_t (z_on_t (z_on_t (z_on_t (z_on_h rfl (by omega) (by omega)))))) | exact z_on_t (z_on_t (z_on_t (z_on_t (z_on_t (z_on_t (z_on_h rfl (by omega) (by omega))))))) | exact z_on_t (z_on_t (z_on_t (z_on_t (z_on_t (z_on_t (z_on_t (z_on_h rfl (by omega) (by omega)))))))) | exact z_on_t (z_on_t (z_on_t (z_on_t (z_on_t (z_on_t (z_on_t (z_on_t (z_on_h rfl (by omega) (by omega))))))))) | exact z_on_t (z_on_t (z_on_t (z_on_t (z_on_t (z_on_t (z_on_t (z_on_t (z_on_t (z_on_h rfl (by omega) (by omega)))))))))) | exact z_on_t (z_on_t (z_on_t (z_on_t (z_on_t (z_on_t (z_on_t (z_on_t (z_on_t (z_on_t (z_on_h rfl (by omega) (by omega))))))))))) | exact z_on_t (z_on_t (z_on_t (z_on_t (z_on_t (z_on_t (z_on_t (z_on_t (z_on_t (z_on_t (z_on_t (z_on_h rfl (by omega) (by omega)))))))))))) | exact z_on_t (z_on_t (z_on_t (z_on_t (z_on_t (z_on_t (z_on_t (z_on_t (z_on_t (z_on_t (z_on_t (z_on_t (z_on_h rfl (by omega) (by omega))))))))))))))).upo (by (try unfold c_RU); (try unfold r_RU); first | exact z_on_h rfl (by omega) (by omega) | exact z_on_t (z_on_h rfl (by omega) (by omega)) | exact z_on_t (z_on_t (z_on_h rfl (by omega) (by omega))) | exact z_on_t (z_on_t (z_on_t (z_on_h rfl (by omega) (by omega)))) | exact z_on_t (z_on_t (z_on_t (z_on_t (z_on_h rfl (by omega) (by omega))))) | exact z_on_t (z_on_t (z_on_t (z_on_t (z_on_t (z_on_h rfl (by omega) (by omega)))))) | exact z_on_t (z_on_t (z_on_t (z_on_t (z_on_t (z_on_t (z_on_h rfl (by omega) (by omega))))))) | exact z_on_t (z_on_t (z_on_t (z_on_t (z_on_t (z_on_t (z_on_t (z_on_h rfl (by omega) (by omega)))))))) | exact z_on_t (z_on_t (z_on_t (z_on_t (z_on_t (z_on_t (z_on_t (z_on_t (z_on_h rfl (by omega) (by omega))))))))) | exact z_on_t (z_on_t (z_on_t (z_on_t (z_on_t (z_on_t (z_on_t (z_on_t (z_on_t (z_on_h rfl (by omega) (by omega)))))))))) | exact z_on_t (z_on_t (z_on_t (z_on_t (z_on_t (z_on_t (z_on_t (z_on_t (z_on_t (z_on_t (z_on_h rfl (by omega) (by omega))))))))))) | exact z_on_t (z_on_t (z_on_t (z_on_t (z_on_t (z_on_t (z_on_t (z_on_t (z_on_t (z_on_t (z_on_t (z_on_h rfl (by omega) (by omega)))))))))))) | exact z_on_t (z_on_t (z_on_t (z_on_t (z_on_t (z_on_t (z_on_t (z_on_t (z_on_t (z_on_t (z_on_t (z_on_t (z_on_h rfl (by omega) (by omega))))))))))))))).upo (by (try unfold c_RU); (try unfold r_RU); first | exact z_on_h rfl (by omega) (by omega) | exact z_on_t (z_on_h rfl (by omega) (by omega)) | exact z_on_t (z_on_t (z_on_h rfl (by omega) (by omega))) | exact z_on_t (z_on_t (z_on_t (z_on_h rfl (by omega) (by omega)))) | exact z_on_t (z_on_t (z_on_t (z_on_t (z_on_h rfl (by omega) (by omega))))) | exact z_on_t (z_on_t (z_on_t (z_on_t (z_on_t (z_on_h rfl (by omega) (by omega)))))) | exact z_on_t (z_on_t (z_on_t (z_on_t (z_on_t (z_on_t (z_on_h rfl (by omega) (by omega))))))) | exact z_on_t (z_on_t (z_on_t (z_on_t (z_on_t (z_on_t (z_on_t (z_on_h rfl (by omega) (by omega)))))))) | exact z_on_t (z_on_t (z_on_t (z_on_t (z_on_t (z_on_t (z_on_t (z_on_t (z_on_h rfl (by omega) (by omega))))))))) | exact z_on_t (z_on_t (z_on_t (z_on_t (z_on_t (z_on_t (z_on_t (z_on_t (z_on_t (z_on_h rfl (by omega) (by omega)))))))))) | exact z_on_t (z_on_t (z_on_t (z_on_t (z_on_t (z_on_t (z_on_t (z_on_t (z_on_t (z_on_t (z_on_h rfl (by omega) (by omega))))))))))) | exact z_on_t (z_on_t (z_on_t (z_on_t (z_on_t (z_on_t (z_on_t (z_on_t (z_on_t (z_on_t (z_on_t (z_on_h rfl (by omega) (by omega)))))))))))) | exact z_on_t (z_on_t (z_on_t (z_on_t (z_on_t (z_on_t (z_on_t (z_on_t (z_on_t (z_on_t (z_on_t (z_on_t (z_on_h rfl (by omega) (by omega))))))))))))))).upo (by (try unfold c_RU); (try unfold r_RU); first | exact z_on_h rfl (by omega) (by omega) | exact z_on_t (z_on_h rfl (by omega) (by omega)) | exact z_on_t (z_on_t (z_on_h rfl (by omega) (by omega))) | exact z_on_t (z_on_t (z_on_t (z_on_h rfl (by omega) (by omega)))) | exact z_on_t (z_on_t (z_on_t (z_on_t (z_on_h rfl (by omega) (by omega))))) | exact z_on_t (z_on_t (z_on_t (z_on_t (z_on_t (z_on_h rfl (by omega) (by omega)))))) | exact z_on_t (z_on_t (z_on_t (z_on_t (z_on_t (z_on_t (z_on_h rfl (by omega) (by omega))))))) | exact z_on_t (z_on_t (z_on_t (z_on_t (z_on_t (z_on_t (z_on_t (z_on_h rfl (by omega) (by omega)))))))) | exact z_on_t (z_on_t (z_on_t (z_on_t (z_on_t (z_on_t (z_on_t (z_on_t (z_on_h rfl (by omega) (by omega))))))))) | exact z_on_t (z_on_t (z_on_t (z_on_t (z_on_t (z_on_t (z_on_t (z_on_t (z_on_t (z_on_h rfl (by omega) (by omega)))))))))) | exact z_on_t (z_on_t (z_on_t (z_on_t (z_on_t (z_on_t (z_on_t (z_on_t (z_on_t (z_on_t (z_on_h rfl (by omega) (by omega))))))))))) | exact z_on_t (z_on_t (z_on_t (z_on_t (z_on_t (z_on_t (z_on_t (z_on_t (z_on_t (z_on_t (z_on_t (z_on_h rfl (by omega) (by omega)))))))))))) | exact z_on_t (z_on_t (z_on_t (z_on_t (z_on_t (z_on_t (z_on_t (z_on_t (z_on_t (z_on_t (z_on_t (z_on_t (z_on_h rfl (by omega) (by omega))))))))))))))).upo (by (try unfold c_RU); (try unfold r_RU); first | exact z_on_h rfl (by omega) (by omega) | exact z_on_t (z_on_h rfl (by omega) (by omega)) | exact z_on_t (z_on_t (z_on_h rfl (by omega) (by omega))) | exact z_on_t (z_on_t (z_on_t (z_on_h rfl (by omega) (by omega)))) | exact z_on_t (z_on_t (z_on_t (z_on_t (z_on_h rfl (by omega) (by omega))))) | exact z_on_t (z_on_t (z_on_t (z_on_t (z_on_t (z_on_h rfl (by omega) (by omega)))))) | exact z_on_t (z_on_t (z_on_t (z_on_t (z_on_t (z_on_t (z_on_h rfl (by omega) (by omega))))))) | exact z_on_t (z_on_t (z_on_t (z_on_t (z_on_t (z_on_t (z_on_t (z_on_h rfl (by omega) (by omega)))))))) | exact z_on_t (z_on_t (z_on_t (z_on_t (z_on_t (z_on_t (z_on_t (z_on_t (z_on_h rfl (by omega) (by omega))))))))) | exact z_on_t (z_on_t (z_on_t (z_on_t (z_on_t (z_on_t (z_on_t (z_on_t (z_on_t (z_on_h rfl (by omega) (by omega)))))))))) | exact z_on_t (z_on_t (z_on_t (z_on_t (z_on_t (z_on_t (z_on_t (z_on_t (z_on_t (z_on_t (z_on_h rfl (by omega) (by omega))))))))))) | exact z_on_t (z_on_t (z_on_t (z_on_t (z_on_t (z_on_t (z_on_t (z_on_t (z_on_t (z_on_t (z_on_t (z_on_h rfl (by omega) (by omega)))))))))))) | exact z_on_t (z_on_t (z_on_t (z_on_t (z_on_t (z_on_t (z_on_t (z_on_t (z_on_t (z_on_t (z_on_t (z_on_t (z_on_h rfl (by omega) (by omega))))))))))))))).upo (by (try unfold c_RU); (try unfold r_RU); first | exact z_on_h rfl (by omega) (by omega) | exact z_on_t (z_on_h rfl (by omega) (by omega)) | exact z_on_t (z_on_t (z_on_h rfl (by omega) (by omega))) | exact z_on_t (z_on_t (z_on_t (z_on_h rfl (by omega) (by omega)))) | exact z_on_t (z_on_t (z_on_t (z_on_t (z_on_h rfl (by omega) (by omega))))) | exact z_on_t (z_on_t (z_on_t (z_on_t (z_on_t (z_on_h rfl (by omega) (by omega)))))) | exact z_on_t (z_on_t (z_on_t (z_on_t (z_on_t (z_on_t (z_on_h rfl (by omega) (by omega))))))) | exact z_on_t (z_on_t (z_on_t (z_on_t (z_on_t (z_on_t (z_on_t (z_on_h rfl (by omega) (by omega)))))))) | exact z_on_t (z_on_t (z_on_t (z_on_t (z_on_t (z_on_t (z_on_t (z_on_t (z_on_h rfl (by omega) (by omega))))))))) | exact z_on_t (z_on_t (z_on_t (z_on_t (z_on_t (z_on_t (z_on_t (z_on_t (z_on_t (z_on_h rfl (by omega) (by omega)))))))))) | exact z_on_t (z_on_t (z_on_t (z_on_t (z_on_t (z_on_t (z_on_t (z_on_t (z_on_t (z_on_t (z_on_h rfl (by omega) (by omega))))))))))) | exact z_on_t (z_on_t (z_on_t (z_on_t (z_on_t (z_on_t (z_on_t (z_on_t (z_on_t (z_on_t (z_on_t (z_on_h rfl (by omega) (by omega)))))))))))) | exact z_on_t (z_on_t (z_on_t (z_on_t (z_on_t (z_on_t (z_on_t (z_on_t (z_on_t (z_on_t (z_on_t (z_on_t (z_on_h rfl (by omega) (by omega))))))))))))))
  have q0 : z_same [(251, 8, 16), (251, 21, 21)] m (z_up (z_up (z_up (z_up (z_up (z_up (z_up (z_up m 251 11 0) 251 12 254) 251 13 (n : Int)) 251 14 40) 251 15 0) 251 16 (-1)) 251 8 0) 251 21 0) := (((((((z_same.rf.upo (by (try unfold c_RU); (try unfold r_RU); first | exact z_on_h rfl (by omega) (by omega) | exact z_on_t (z_on_h rfl (by omega) (by omega)) | exact z_on_t (z_on_t (z_on_h rfl (by omega) (by omega))) | exact z_on_t (z_on_t (z_on_t (z_on_h rfl (by omega) (by omega)))) | exact z_on_t (z_on_t (z_on_t (z_on_t (z_on_h rfl (by omega) (by omega))))) | exact z_on_t (z_on_t (z_on_t (z_on_t (z_on_t (z_on_h rfl (by omega) (by omega)))))) | exact z_on_t (z_on_t (z_on_t (z_on_t (z_on_t (z_on_t (z_on_h rfl (by omega) (by omega))))))) | exact z_on_t (z_on_t (z_on_t (z_on_t (z_on_t (z_on_t (z_on_t (z_on_h rfl (by omega) (by omega)))))))) | exact z_on_t (z_on_t (z_on_t (z_on_t (z_on_t (z_on_t (z_on_t (z_on_t (z_on_h rfl (by omega) (by omega))))))))) | exact z_on_t (z_on_t (z_on_t (z_on_t (z_on_t (z_on_t (z_on_t (z_on_t (z_on_t (z_on_h rfl (by omega) (by omega)))))))))) | exact z_on_t (z_on_t (z_on_t (z_on_t (z_on_t (z_on_t (z_on_t (z_on_t (z_on_t (z_on_t (z_on_h rfl (by omega) (by omega))))))))))) | exact z_on_t (z_on_t (z_on_t (z_on_t (z_on_t (z_on_t (z_on_t (z_on_t (z_on_t (z_on_t (z_on_t (z_on_h rfl (by omega) (by omega)))))))))))) | exact z_on_t (z_on_t (z_on_t (z_on_t (z_on_t (z_on_t (z_on_t (z_on_t (z_on_t (z_on_t (z_on_t (z_on_t (z_on_h rfl (by omega) (by omega))))))))))))))).upo (by (try unfold c_RU); (try unfold r_RU); first | exact z_on_h rfl (by omega) (by omega) | exact z_on_t (z_on_h rfl (by omega) (by omega)) | exact z_on_t (z_on_t (z_on_h rfl (by omega) (by omega))) | exact z_on_t (z_on_t (z_on_t (z_on_h rfl (by omega) (by omega)))) | exact z_on_t (z_on_t (z_on_t (z_on_t (z_on_h rfl (by omega) (by omega))))) | exact z_on_t (z_on_t (z_on_t (z_on_t (z_on_t (z_on_h rfl (by omega) (by omega)))))) | exact z_on_t (z_on_t (z_on_t (z_on_t (z_on_t (z_on_t (z_on_h rfl (by omega) (by omega))))))) | exact z_on_t (z_on_t (z_on_t (z_on_t (z_on_t (z_on_t (z_on_t (z_on_h rfl (by omega) (by omega)))))))) | exact z_on_t (z_on_t (z_on_t (z_on_t (z_on_t (z_on_t (z_on_t (z_on_t (z_on_h rfl (by omega) (by omega))))))))) | exact z_on_t (z_on_t (z_on_t (z_on_t (z_on_t (z_on_t (z_on_t (z_on_t (z_on_t (z_on_h rfl (by omega) (by omega)))))))))) | exact z_on_t (z_on_t (z_on_t (z_on_t (z_on_t (z_on_t (z_on_t (z_on_t (z_on_t (z_on_t (z_on_h rfl (by omega) (by omega))))))))))) | exact z_on_t (z_on_t (z_on_t (z_on_t (z_on_t (z_on_t (z_on_t (z_on_t (z_on_t (z_on_t (z_on_t (z_on_h rfl (by omega) (by omega)))))))))))) | exact z_on_t (z_on_t (z_on_t (z_on_t (z_on_t (z_on_t (z_on_t (z_on_t (z_on_t (z_on_t (z_on_t (z_on_t (z_on_h rfl (by omega) (by omega))))))))))))))).upo (by (try unfold c_RU); (try unfold r_RU); first | exact z_on_h rfl (by omega) (by omega) | exact z_on_t (z_on_h rfl (by omega) (by omega)) | exact z_on_t (z_on_t (z_on_h rfl (by omega) (by omega))) | exact z_on_t (z_on_t (z_on_t (z_on_h rfl (by omega) (by omega)))) | exact z_on_t (z_on_t (z_on_t (z_on_t (z_on_h rfl (by omega) (by omega))))) | exact z_on_t (z_on_t (z_on_t (z_on_t (z_on_t (z_on_h rfl (by omega) (by omega)))))) | exact z_on_t (z_on_t (z_on_t (z_on_t (z_on_t (z_on_t (z_on_h rfl (by omega) (by omega))))))) | exact z_on_t (z_on_t (z_on_t (z_on_t (z_on_t (z_on_t (z_on_t (z_on_h rfl (by omega) (by omega)))))))) | exact z_on_t (z_on_t (z_on_t (z_on_t (z_on_t (z_on_t (z_on_t (z_on_t (z_on_h rfl (by omega) (by omega))))))))) | exact z_on_t (z_on_t (z_on_t (z_on_t (z_on_t (z_on_t (z_on_t (z_on_t (z_on_t (z_on_h rfl (by omega) (by omega)))))))))) | exact z_on_t (z_on_t (z_on_t (z_on_t (z_on_t (z_on_t (z_on_t (z_on_t (z_on_t (z_on_t (z_on_h rfl (by omega) (by omega))))))))))) | exact z_on_t (z_on_t (z_on_t (z_on_t (z_on_t (z_on_t (z_on_t (z_on_t (z_on_t (z_on_t (z_on_t (z_on_h rfl (by omega) (by omega)))))))))))) | exact z_on_t (z_on_t (z_on_t (z_on_t (z_on_t (z_on_t (z_on_t (z_on_t (z_on_t (z_on_t (z_on_t (z_on_t (z_on_h rfl (by omega) (by omega))))))))))))))).upo (by (try unfold c_RU); (try unfold r_RU); first | exact z_on_h rfl (by omega) (by omega) | exact z_on_t (z_on_h rfl (by omega) (by omega)) | exact z_on_t (z_on_t (z_on_h rfl (by omega) (by omega))) | exact z_on_t (z_on_t (z_on_t (z_on_h rfl (by omega) (by omega)))) | exact z_on_t (z_on_t (z_on_t (z_on_t (z_on_h rfl (by omega) (by omega))))) | exact z_on_t (z_on_t (z_on_t (z_on_t (z_on_t (z_on_h rfl (by omega) (by omega)))))) | exact z_on_t (z_on_t (z_on_t (z_on_t (z_on_t (z_on_t (z_on_h rfl (by omega) (by omega))))))) | exact z_on_t (z_on_t (z_on_t (z_on_t (z_on_t (z_on_t (z_on_t (z_on_h rfl (by omega) (by omega)))))))) | exact z_on_t (z_on_t (z_on_t (z_on_t (z_on_t (z_on_t (z_on_t (z_on_t (z_on_h rfl (by omega) (by omega))))))))) | exact z_on_t (z_on_t (z_on_t (z_on_t (z_on_t (z_on_t (z_on_t (z_on_t (z_on_t (z_on_h rfl (by omega) (by omega)))))))))) | exact z_on_t (z_on_t (z_on_t (z_on_t (z_on_t (z_on_t (z_on_t (z_on_t (z_on_t (z_on_t (z_on_h rfl (by omega) (by omega))))))))))) | exact z_on_t (z_on_t (z_on_t (z_on_t (z_on_t (z_on_t (z_on_t (z_on_t (z_on_t (z_on_t (z_on_t (z_on_h rfl (by omega) (by omega)))))))))))) | exact z_on_t (z_on_t (z_on_t (z_on_t (z_on_t (z_on_t (z_on_t (z_on_t (z_on_t (z_on_t (z_on_t (z_on_t (z_on_h rfl (by omega) (by omega))))))))))))))).upo (by (try unfold c_RU); (try unfold r_RU); first | exact z_on_h rfl (by omega) (by omega) | exact z_on_t (z_on_h rfl (by omega) (by omega)) | exact z_on_t (z_on_t (z_on_h rfl (by omega) (by omega))) | exact z_on_t (z_on_t (z_on_t (z_on_h rfl (by omega) (by omega)))) | exact z_on_t (z_on_t (z_on_t (z_on_t (z_on_h rfl (by omega) (by omega))))) | exact z_on_t (z_on_t (z_on_t (z_on_t (z_on_t (z_on_h rfl (by omega) (by omega)))))) | exact z_on_t (z_on_t (z_on_t (z_on_t (z_on_t (z_on_t (z_on_h rfl (by omega) (by omega))))))) | exact z_on_t (z_on_t (z_on_t (z_on_t (z_on_t (z_on_t (z_on_t (z_on_h rfl (by omega) (by omega)))))))) | exact z_on_t (z_on_t (z_on_t (z_on_t (z_on_t (z_on_t (z_on_t (z_on_t (z_on_h rfl (by omega) (by omega))))))))) | exact z_on_t (z_on_t (z_on_t (z_on_t (z_on_t (z_on_t (z_on_t (z_on_t (z_on_t (z_on_h rfl (by omega) (by omega)))))))))) | exact z_on_t (z_on_t (z_on_t (z_on_t (z_on_t (z_on_t (z_on_t (z_on_t (z_on_t (z_on_t (z_on_h rfl (by omega) (by omega))))))))))) | exact z_on_t (z_on_t (z_on_t (z_on_t (z_on_t (z_on_t (z_on_t (z_on_t (z_on_t (z_on_t (z_on_t (z_on_h rfl (by omega) (by omega)))))))))))) | exact z_on_t (z_on_t (z_on_t (z_on_t (z_on_t (z_on_t (z_on_t (z_on_t (z_on_t (z_on_t (z_on_t (z_on_t (z_on_h rfl (by omega) (by omega))))))))))))))).upo (by (try unfold c_RU); (try unfold r_RU); first | exact z_on_h rfl (by omega) (by omega) | exact z_on_t (z_on_h rfl (by omega) (by omega)) | exact z_on_t (z_on_t (z_on_h rfl (by omega) (by omega))) | exact z_on_t (z_on_t (z_on_t (z_on_h rfl (by omega) (by omega)))) | exact z_on_t (z_on_t (z_on_t (z_on_t (z_on_h rfl (by omega) (by omega))))) | exact z_on_t (z_on_t (z_on_t (z_on_t (z_on_t (z_on_h rfl (by omega) (by omega)))))) | exact z_on_t (z_on_t (z_on_t (z_on_t (z_on_t (z_on_t (z_on_h rfl (by omega) (by omega))))))) | exact z_on_t (z_on_t (z_on_t (z_on_t (z_on_t (z_on_t (z_on_t (z_on_h rfl (by omega) (by omega)))))))) | exact z_on_t (z_on_t (z_on_t (z_on_t (z_on_t (z_on_t (z_on_t (z_on_t (z_on_h rfl (by omega) (by omega))))))))) | exact z_on_t (z_on_t (z_on_t (z_on_t (z_on_t (z_on_t (z_on_t (z_on_t (z_on_t (z_on_h rfl (by omega) (by omega)))))))))) | exact z_on_t (z_on_t (z_on_t (z_on_t (z_on_t (z_on_t (z_on_t (z_on_t (z_on_t (z_on_t (z_on_h rfl (by omega) (by omega))))))))))) | exact z_on_t (z_on_t (z_on_t (z_on_t (z_on_t (z_on_t (z_on_t (z_on_t (z_on_t (z_on_t (z_on_t (z_on_h rfl (by omega) (by omega)))))))))))) | exact z_on_t (z_on_t (z_on_t (z_on_t (z_on_t (z_on_t (z_on_t (z_on_t (z_on_t (z_on_t (z_on_t (z_on_t (z_on_h rfl (by omega) (by omega))))))))))))))).upo (by (try unfold c_RU); (try unfold r_RU); first | exact z_on_h rfl (by omega) (by omega) | exact z_on_t (z_on_h rfl (by omega) (by omega)) | exact z_on_t (z_on_t (z_on_h rfl (by omega) (by omega))) | exact z_on_t (z_on_t (z_on_t (z_on_h rfl (by omega) (by omega)))) | exact z_on_t (z_on_t (z_on_t (z_on_t (z_on_h rfl (by omega) (by omega))))) | exact z_on_t (z_on_t (z_on_t (z_on_t (z_on_t (z_on_h rfl (by omega) (by omega)))))) | exact z_on_t (z_on_t (z_on_t (z_on_t (z_on_t (z_on_t (z_on_h rfl (by omega) (by omega))))))) | exact z_on_t (z_on_t (z_on_t (z_on_t (z_on_t (z_on_t (z_on_t (z_on_h rfl (by omega) (by omega)))))))) | exact z_on_t (z_on_t (z_on_t (z_on_t (z_on_t (z_on_t (z_on_t (z_on_t (z_on_h rfl (by omega) (by omega))))))))) | exact z_on_t (z_on_t (z_on_t (z_on_t (z_on_t (z_on_t (z_on_t (z_on_t (z_on_t (z_on_h rfl (by omega) (by omega)))))))))) | exact z_on_t (z_on_t (z_on_t (z_on_t (z_on_t (z_on_t (z_on_t (z_on_t (z_on_t (z_on_t (z_on_h rfl (by omega) (by omega))))))))))) | exact z_on_t (z_on_t (z_on_t (z_on_t (z_on_t (z_on_t (z_on_t (z_on_t (z_on_t (z_on_t (z_on_t (z_on_h rfl (by omega) (by omega)))))))))))) | exact z_on_t (z_on_t (z_on_t (z_on_t (z_on_t (z_on_t (z_on_t (z_on_t (z_on_t (z_on_t (z_on_t (z_on_t (z_on_h rfl (by omega) (by omega))))))))))))))).upo (by (try unfold c_RU); (try unfold r_RU); first | exact z_on_h rfl (by omega) (by omega) | exact z_on_t (z_on_h rfl (by omega) (by omega)) | exact z_on_t (z_on_t (z_on_h rfl (by omega) (by omega))) | exact z_on_t (z_on_t (z_on_t (z_on_h rfl (by omega) (by omega)))) | exact z_on_t (z_on_t (z_on_t (z_on_t (z_on_h rfl (by omega) (by omega))))) | exact z_on_t (z_on_t (z_on_t (z_on_t (z_on_t (z_on_h rfl (by omega) (by omega)))))) | exact z_on_t (z_on_t (z_on_t (z_on_t (z_on_t (z_on_t (z_on_h rfl (by omega) (by omega))))))) | exact z_on_t (z_on_t (z_on_t (z_on_t (z_on_t (z_on_t (z_on_t (z_on_h rfl (by omega) (by omega)))))))) | exact z_on_t (z_on_t (z_on_t (z_on_t (z_on_t (z_on_t (z_on_t (z_on_t (z_on_h rfl (by omega) (by omega))))))))) | exact z_on_t (z_on_t (z_on_t (z_on_t (z_on_t (z_on_t (z_on_t (z_on_t (z_on_t (z_on_h rfl (by omega) (by omega)))))))))) | exact z_on_t (z_on_t (z_on_t (z_on_t (z_on_t (z_on_t (z_on_t (z_on_t (z_on_t (z_on_t (z_on_h rfl (by omega) (by omega))))))))))) | exact z_on_t (z_on_t (z_on_t (z_on_t (z_on_t (z_on_t (z_on_t (z_on_t (z_on_t (z_on_t (z_on_t (z_on_h rfl (by omega) (by omega)))))))))))) | exact z_on_t (z_on_t (z_on_t (z_on_t (z_on_t (z_on_t (z_on_t (z_on_t (z_on_t (z_on_t (z_on_t (z_on_t (z_on_h rfl (by omega) (by omega))))))))))))))
  have k12 : (z_up (z_up (z_up (z_up (z_up (z_up (z_up (z_up m 251 11 0) 251 12 254) 251 13 (n : Int)) 251 14 40) 251 15 0) 251 16 (-1)) 251 8 0) 251 21 0) 251 12 = 254 := by rw [zu_k (by decide), zu_k (by decide), zu_k (by decide), zu_k (by decide), zu_k (by decide), zu_k (by decide), zu_self]
  have k13 : (z_up (z_up (z_up (z_up (z_up (z_up (z_up (z_up m 251 11 0) 251 12 254) 251 13 (n : Int)) 251 14 40) 251 15 0) 251 16 (-1)) 251 8 0) 251 21 0) 251 13 = (n : Int) := by rw [zu_k (by decide), zu_k (by decide), zu_k (by decide), zu_k (by decide), zu_k (by decide), zu_self]
  have k14 : (z_up (z_up (z_up (z_up (z_up (z_up (z_up (z_up m 251 11 0) 251 12 254) 251 13 (n : Int)) 251 14 40) 251 15 0) 251 16 (-1)) 251 8 0) 251 21 0) 251 14 = 40 := by rw [zu_k (by decide), zu_k (by decide), zu_k (by decide), zu_k (by decide), zu_self]
  have k15 : (z_up (z_up (z_up (z_up (z_up (z_up (z_up (z_up m 251 11 0) 251 12 254) 251 13 (n : Int)) 251 14 40) 251 15 0) 251 16 (-1)) 251 8 0) 251 21 0) 251 15 = 0 := by rw [zu_k (by decide), zu_k (by decide), zu_k (by decide), zu_self]
  have k16 : (z_up (z_up (z_up (z_up (z_up (z_up (z_up (z_up m 251 11 0) 251 12 254) 251 13 (n : Int)) 251 14 40) 251 15 0) 251 16 (-1)) 251 8 0) 251 21 0) 251 16 = -1 := by rw [zu_k (by decide), zu_k (by decide), zu_self]
  have k21 : (z_up (z_up (z_up (z_up (z_up (z_up (z_up (z_up m 251 11 0) 251 12 254) 251 13 (n : Int)) 251 14 40) 251 15 0) 251 16 (-1)) 251 8 0) 251 21 0) 251 21 = 0 := zu_self
  show ∃ m', (if (n : Int) ≤ 0 then z_R 175 (z_up (z_up (z_up (z_up (z_up (z_up (z_up (z_up m 251 11 0) 251 12 254) 251 13 (n : Int)) 251 14 40) 251 15 0) 251 16 (-1)) 251 8 0) 251 21 0, 73, [(2, 251), (0, (n : Int)), (0, 0)], []) else (z_R 176 (z_up (z_up (z_up (z_up (z_up (z_up (z_up (z_up m 251 11 0) 251 12 254) 251 13 (n : Int)) 251 14 40) 251 15 0) 251 16 (-1)) 251 8 0) 251 21 0, 0, [(2, 251), (0, 0), (9, 0)], [])).bind fun qq => z_R 175 (qq.1, 40, [(2, 251), (0, (n : Int)), (9, 0)], qq.2.toList ++ [])) = _ ∧ _
  generalize z_up (z_up (z_up (z_up (z_up (z_up (z_up (z_up m 251 11 0) 251 12 254) 251 13 (n : Int)) 251 14 40) 251 15 0) 251 16 (-1)) 251 8 0) 251 21 0 = m1 at s0 q0 k12 k13 k14 k15 k16 k21 ⊢
  have e254 : m1 254 = m 254 := q0.ofr (by (try unfold c_RU); (try unfold r_RU); (repeat' (first | exact trivial | refine z_ofr_c ?_ ?_)) <;> omega)
  have e258 : m1 258 = m 258 := q0.ofr (by (try unfold c_RU); (try unfold r_RU); (repeat' (first | exact trivial | refine z_ofr_c ?_ ?_)) <;> omega)
  have e259 : m1 259 = m 259 := q0.ofr (by (try unfold c_RU); (try unfold r_RU); (repeat' (first | exact trivial | refine z_ofr_c ?_ ?_)) <;> omega)
  have e20 : m1 251 20 = m 251 20 := q0.of (by (try unfold c_RU); (try unfold r_RU); (repeat' (first | exact trivial | refine z_of_c ?_ ?_)) <;> omega)
  by_cases c : (n : Int) = 0
  · rw [if_pos (by omega), if_pos c]
    obtain ⟨m', a1, a2, a3⟩ := t_rcp (n := n) (by omega) n 0 m1 (Nat.zero_add _)
    have a1 : z_R 175 (m1, 73, [(2, 251), (0, (n : Int)), (0, 0)], []) = some (z_up m' 251 20 (n : Int), some (0, 0)) := a1
    rw [a1]
    have e : m' = m1 := funext fun p => funext fun k => a3 p k (by omega)
    subst e
    exact ⟨_, rfl, s0.upo (by (try unfold c_RU); (try unfold r_RU); first | exact z_on_h rfl (by omega) (by omega) | exact z_on_t (z_on_h rfl (by omega) (by omega)) | exact z_on_t (z_on_t (z_on_h rfl (by omega) (by omega))) | exact z_on_t (z_on_t (z_on_t (z_on_h rfl (by omega) (by omega)))) | exact z_on_t (z_on_t (z_on_t (z_on_t (z_on_h rfl (by omega) (by omega))))) | exact z_on_t (z_on_t (z_on_t (z_on_t (z_on_t (z_on_h rfl (by omega) (by omega)))))) | exact z_on_t (z_on_t (z_on_t (z_on_t (z_on_t (z_on_t (z_on_h rfl (by omega) (by omega))))))) | exact z_on_t (z_on_t (z_on_t (z_on_t (z_on_t (z_on_t (z_on_t (z_on_h rfl (by omega) (by omega)))))))) | exact z_on_t (z_on_t (z_on_t (z_on_t (z_on_t (z_on_t (z_on_t (z_on_t (z_on_h rfl (by omega) (by omega))))))))) | exact z_on_t (z_on_t (z_on_t (z_on_t (z_on_t (z_on_t (z_on_t (z_on_t (z_on_t (z_on_h rfl (by omega) (by omega)))))))))) | exact z_on_t (z_on_t (z_on_t (z_on_t (z_on_t (z_on_t (z_on_t (z_on_t (z_on_t (z_on_t (z_on_h rfl (by omega) (by omega))))))))))) | exact z_on_t (z_on_t (z_on_t (z_on_t (z_on_t (z_on_t (z_on_t (z_on_t (z_on_t (z_on_t (z_on_t (z_on_h rfl (by omega) (by omega)))))))))))) | exact z_on_t (z_on_t (z_on_t (z_on_t (z_on_t (z_on_t (z_on_t (z_on_t (z_on_t (z_on_t (z_on_t (z_on_t (z_on_h rfl (by omega) (by omega)))))))))))))), fun _ => by rw [zu_self]; exact c, fun z => absurd c z, fun z => absurd c z⟩
  · rw [if_neg (by omega), if_neg c]
    have hW : r_W 254 g m1 := ⟨k12, Or.inl rfl, k14, by omega, by omega, by
      rw [e254, k13, ← hn]
      exact hG, fun k hk => by rw [e254]; exact hb k (by omega)⟩
    obtain ⟨m2, v, a1, a2, a3, a4⟩ := r_exprs (P := 254) (g := g) 4 (by decide) m1 ⟨hW, k16, by omega, Or.inl k21, fun k hk => by rw [e259]; exact h259 k hk⟩
    have a1 : z_R 176 (m1, 0, [(2, 251), (0, 0), (9, 0)], []) = some (m2, some (0, v)) := a1
    have a3 : (q_ex g 4 (m1 251 15)).1 = true → m2 251 16 = -1 ∧ m2 251 15 = (q_ex g 4 (m1 251 15)).2.1 := fun z => ⟨(a3 z).1, (a3 z).2.1⟩
    have a4 : (q_ex g 4 (m1 251 15)).1 = false → m2 251 16 = (q_ex g 4 (m1 251 15)).2.1 := a4
    rw [k15] at a3 a4
    have go : 0 ≤ (q_ex g 4 0).2.1 ∧ (q_ex g 4 0).2.1 ≤ 40 ∧ ((q_ex g 4 0).1 = true → 0 < (q_ex g 4 0).2.1 ∧ (((q_ex g 4 0).2.2).length : Int) ≤ (q_ex g 4 0).2.1 - 0) := q_ex_good hg 4 0 (by decide) (by decide)
    generalize (q_ex g 4 0).1 = b at a3 a4 go ⊢
    generalize (q_ex g 4 0).2.1 = p at a3 a4 go ⊢
    generalize (q_ex g 4 0).2.2 = cs at go ⊢
    have go1 : 0 ≤ p := go.1
    have go2 : p ≤ 40 := go.2.1
    have s2 : z_same r_RU m m2 := s0.tr (a2.subo (by (try unfold c_RU); (try unfold r_RU); (repeat' (first | exact trivial | refine z_sbo_c ?_ ?_)) <;> (intro k h1 h2; first | exact z_on_h rfl (by omega) (by omega) | exact z_on_t (z_on_h rfl (by omega) (by omega)) | exact z_on_t (z_on_t (z_on_h rfl (by omega) (by omega))) | exact z_on_t (z_on_t (z_on_t (z_on_h rfl (by omega) (by omega)))) | exact z_on_t (z_on_t (z_on_t (z_on_t (z_on_h rfl (by omega) (by omega))))) | exact z_on_t (z_on_t (z_on_t (z_on_t (z_on_t (z_on_h rfl (by omega) (by omega)))))) | exact z_on_t (z_on_t (z_on_t (z_on_t (z_on_t (z_on_t (z_on_h rfl (by omega) (by omega))))))) | exact z_on_t (z_on_t (z_on_t (z_on_t (z_on_t (z_on_t (z_on_t (z_on_h rfl (by omega) (by omega)))))))) | exact z_on_t (z_on_t (z_on_t (z_on_t (z_on_t (z_on_t (z_on_t (z_on_t (z_on_h rfl (by omega) (by omega))))))))) | exact z_on_t (z_on_t (z_on_t (z_on_t (z_on_t (z_on_t (z_on_t (z_on_t (z_on_t (z_on_h rfl (by omega) (by omega)))))))))) | exact z_on_t (z_on_t (z_on_t (z_on_t (z_on_t (z_on_t (z_on_t (z_on_t (z_on_t (z_on_t (z_on_h rfl (by omega) (by omega))))))))))) | exact z_on_t (z_on_t (z_on_t (z_on_t (z_on_t (z_on_t (z_on_t (z_on_t (z_on_t (z_on_t (z_on_t (z_on_h rfl (by omega) (by omega)))))))))))) | exact z_on_t (z_on_t (z_on_t (z_on_t (z_on_t (z_on_t (z_on_t (z_on_t (z_on_t (z_on_t (z_on_t (z_on_t (z_on_h rfl (by omega) (by omega))))))))))))))))
    have f258 : m2 258 = m 258 := (a2.ofr (by (try unfold c_RU); (try unfold r_RU); (repeat' (first | exact trivial | refine z_ofr_c ?_ ?_)) <;> omega)).trans e258
    have f254 : m2 254 = m 254 := (a2.ofr (by (try unfold c_RU); (try unfold r_RU); (repeat' (first | exact trivial | refine z_ofr_c ?_ ?_)) <;> omega)).trans e254
    have f20 : m2 251 20 = m 251 20 := (a2.of (by (try unfold c_RU); (try unfold r_RU); (repeat' (first | exact trivial | refine z_of_c ?_ ?_)) <;> omega)).trans e20
    have fin : ∀ m3, z_same r_RU m m3 → m3 251 16 = p → m3 258 = m 258 → m3 251 20 = m 251 20 → ¬ (b = true ∧ (n : Int) ≤ p) → ∃ m', (some (m3, some (0, z_sub (-1) (m3 251 16))) : Option z_Q) = some (m', some ((0 : Nat), if b = true ∧ (n : Int) ≤ p then 0 else -1 - p)) ∧ z_same r_RU m m' ∧ ((n : Int) = 0 → m' 251 20 = 0) ∧ (¬ (n : Int) = 0 → (b = true ∧ (n : Int) ≤ p) → m' 251 20 = (n : Int) ∧ (n : Int) ≤ 40 ∧ ∀ k : Nat, (k : Int) < (n : Int) → m' 258 k = m 254 k) ∧ (¬ (n : Int) = 0 → ¬ (b = true ∧ (n : Int) ≤ p) → m' 251 20 = m 251 20 ∧ m' 258 = m 258) := fun m3 s3 h16 h258 h20 z => by
      rw [if_neg z, h16, z_sub_eq (by omega) (by omega)]
      exact ⟨m3, rfl, s3, fun y => absurd y c, fun _ y => absurd y z, fun _ _ => ⟨h20, h258⟩⟩
    rw [a1, zb_v, t_rule_40]
    cases b with
    | false =>
      have z : ¬ (false = true ∧ (n : Int) ≤ p) := fun z => by cases z.1
      have e16 : m2 251 16 = p := a4 rfl
      have h16 : ¬ m2 251 16 = -1 := by omega
      by_cases e : (n : Int) ≤ m2 251 15
      · rw [if_pos e, t_fine0 m2 h16, zb_v, t_rule_61, if_pos rfl]
        exact fin m2 s2 e16 f258 f20 z
      · rw [if_neg e, t_fault0 m2 _ h16, zb_n, t_rule_57, t_fine0 m2 h16, zb_v, t_rule_61, if_pos rfl]
        exact fin m2 s2 e16 f258 f20 z
    | true =>
      obtain ⟨e16, e15⟩ := a3 rfl
      rw [e15]
      by_cases e : (n : Int) ≤ p
      · have z : (true = true ∧ (n : Int) ≤ p) := ⟨rfl, e⟩
        rw [if_pos e, t_fine1 m2 e16, zb_v, t_rule_61, if_neg (by decide)]
        obtain ⟨m', b1, b2, b3⟩ := t_rcp (n := n) (by omega) n 0 m2 (Nat.zero_add _)
        have b1 : z_R 175 (m2, 73, [(2, 251), (0, (n : Int)), (0, 0)], []) = some (z_up m' 251 20 (n : Int), some (0, 0)) := b1
        rw [b1, if_pos z]
        have s3 : z_same r_RU m m' := s2.tr fun p k hn => b3 p k fun y => hn (258, 0, 39) (by decide) ⟨y.1.symm, Nat.zero_le _, by show k ≤ 39; omega⟩
        refine ⟨_, rfl, s3.upo (by (try unfold c_RU); (try unfold r_RU); first | exact z_on_h rfl (by omega) (by omega) | exact z_on_t (z_on_h rfl (by omega) (by omega)) | exact z_on_t (z_on_t (z_on_h rfl (by omega) (by omega))) | exact z_on_t (z_on_t (z_on_t (z_on_h rfl (by omega) (by omega)))) | exact z_on_t (z_on_t (z_on_t (z_on_t (z_on_h rfl (by omega) (by omega))))) | exact z_on_t (z_on_t (z_on_t (z_on_t (z_on_t (z_on_h rfl (by omega) (by omega)))))) | exact z_on_t (z_on_t (z_on_t (z_on_t (z_on_t (z_on_t (z_on_h rfl (by omega) (by omega))))))) | exact z_on_t (z_on_t (z_on_t (z_on_t (z_on_t (z_on_t (z_on_t (z_on_h rfl (by omega) (by omega)))))))) | exact z_on_t (z_on_t (z_on_t (z_on_t (z_on_t (z_on_t (z_on_t (z_on_t (z_on_h rfl (by omega) (by omega))))))))) | exact z_on_t (z_on_t (z_on_t (z_on_t (z_on_t (z_on_t (z_on_t (z_on_t (z_on_t (z_on_h rfl (by omega) (by omega)))))))))) | exact z_on_t (z_on_t (z_on_t (z_on_t (z_on_t (z_on_t (z_on_t (z_on_t (z_on_t (z_on_t (z_on_h rfl (by omega) (by omega))))))))))) | exact z_on_t (z_on_t (z_on_t (z_on_t (z_on_t (z_on_t (z_on_t (z_on_t (z_on_t (z_on_t (z_on_t (z_on_h rfl (by omega) (by omega)))))))))))) | exact z_on_t (z_on_t (z_on_t (z_on_t (z_on_t (z_on_t (z_on_t (z_on_t (z_on_t (z_on_t (z_on_t (z_on_t (z_on_h rfl (by omega) (by omega)))))))))))))), fun y => absurd y c, fun _ _ => ⟨zu_self, by omega, fun k hk => ?_⟩, fun _ y => absurd z y⟩
        have hk' := hb k (by omega)
        rw [zu_p (by decide), b2 k (Nat.zero_le _) (by omega), f254, z_by_sm hk'.1 hk'.2]
      · have z : ¬ (true = true ∧ (n : Int) ≤ p) := fun z => e z.2
        have h16 : ¬ (z_up m2 251 16 p) 251 16 = -1 := by rw [zu_self]; omega
        rw [if_neg e, t_fault1 m2 _ e16, zb_n, t_rule_57, t_fine0 _ h16, zb_v, t_rule_61, if_pos rfl]
        exact fin _ (s2.upo (by (try unfold c_RU); (try unfold r_RU); first | exact z_on_h rfl (by omega) (by omega) | exact z_on_t (z_on_h rfl (by omega) (by omega)) | exact z_on_t (z_on_t (z_on_h rfl (by omega) (by omega))) | exact z_on_t (z_on_t (z_on_t (z_on_h rfl (by omega) (by omega)))) | exact z_on_t (z_on_t (z_on_t (z_on_t (z_on_h rfl (by omega) (by omega))))) | exact z_on_t (z_on_t (z_on_t (z_on_t (z_on_t (z_on_h rfl (by omega) (by omega)))))) | exact z_on_t (z_on_t (z_on_t (z_on_t (z_on_t (z_on_t (z_on_h rfl (by omega) (by omega))))))) | exact z_on_t (z_on_t (z_on_t (z_on_t (z_on_t (z_on_t (z_on_t (z_on_h rfl (by omega) (by omega)))))))) | exact z_on_t (z_on_t (z_on_t (z_on_t (z_on_t (z_on_t (z_on_t (z_on_t (z_on_h rfl (by omega) (by omega))))))))) | exact z_on_t (z_on_t (z_on_t (z_on_t (z_on_t (z_on_t (z_on_t (z_on_t (z_on_t (z_on_h rfl (by omega) (by omega)))))))))) | exact z_on_t (z_on_t (z_on_t (z_on_t (z_on_t (z_on_t (z_on_t (z_on_t (z_on_t (z_on_t (z_on_h rfl (by omega) (by omega))))))))))) | exact z_on_t (z_on_t (z_on_t (z_on_t (z_on_t (z_on_t (z_on_t (z_on_t (z_on_t (z_on_t (z_on_t (z_on_h rfl (by omega) (by omega)))))))))))) | exact z_on_t (z_on_t (z_on_t (z_on_t (z_on_t (z_on_t (z_on_t (z_on_t (z_on_t (z_on_t (z_on_t (z_on_t (z_on_h rfl (by omega) (by omega))))))))))))))) zu_self ((zu_rowne (by decide)).trans f258) ((zu_k (by decide)).trans f20) z
end
section
/-! THE CLASS'S RULE RUN -/
theorem c_join (m : z_M) (c l r : Int) : z_R 72 (m, 0, [(0, c), (0, l), (0, r)], []) = some (m, some (0, q_op c l r)) := by
  rw [s_join_0]
  by_cases h42 : 42 = c
  · subst h42
    have e : q_op 42 l r = z_mul l r := by
      unfold q_op
      rw [if_neg (show ¬ (42 : Int) = 43 by decide), if_neg (show ¬ (42 : Int) = 45 by decide), if_pos rfl]
    rw [if_pos rfl, e]
  rw [if_neg h42]
  by_cases h43 : 43 = c
  · subst h43
    have e : q_op 43 l r = z_add l r := by
      unfold q_op
      rw [if_pos rfl]
    rw [if_pos rfl, e]
  rw [if_neg h43]
  by_cases h45 : 45 = c
  · subst h45
    have e : q_op 45 l r = z_sub l r := by
      unfold q_op
      rw [if_neg (show ¬ (45 : Int) = 43 by decide), if_pos rfl]
    rw [if_pos rfl, e]
  rw [if_neg h45]
  by_cases h47 : 47 = c
  · subst h47
    have e : q_op 47 l r = if r = 0 then 0 else z_div l r := by
      unfold q_op
      rw [if_neg (show ¬ (47 : Int) = 43 by decide), if_neg (show ¬ (47 : Int) = 45 by decide), if_neg (show ¬ (47 : Int) = 42 by decide), if_pos rfl]
    rw [if_pos rfl, e]
    by_cases z : r = 0
    · rw [if_pos z, if_pos z]
    · rw [if_neg z, if_neg z, if_neg z]
  rw [if_neg h47]
  by_cases h60 : 60 = c
  · subst h60
    have e : q_op 60 l r = if l < r then 1 else 0 := by
      unfold q_op
      rw [if_neg (show ¬ (60 : Int) = 43 by decide), if_neg (show ¬ (60 : Int) = 45 by decide), if_neg (show ¬ (60 : Int) = 42 by decide), if_neg (show ¬ (60 : Int) = 47 by decide), if_pos rfl]
    rw [if_pos rfl, e]
    by_cases z : r ≤ l
    · rw [if_pos z, if_neg (show ¬ l < r by omega)]
    · rw [if_neg z, if_pos (show l < r by omega)]
  rw [if_neg h60]
  by_cases h62 : 62 = c
  · subst h62
    have e : q_op 62 l r = if r < l then 1 else 0 := by
      unfold q_op
      rw [if_neg (show ¬ (62 : Int) = 43 by decide), if_neg (show ¬ (62 : Int) = 45 by decide), if_neg (show ¬ (62 : Int) = 42 by decide), if_neg (show ¬ (62 : Int) = 47 by decide), if_neg (show ¬ (62 : Int) = 60 by decide), if_pos rfl]
    rw [if_pos rfl, e]
    by_cases z : l ≤ r
    · rw [if_pos z, if_neg (show ¬ r < l by omega)]
    · rw [if_neg z, if_pos (show r < l by omega)]
  rw [if_neg h62]
  have e : q_op c l r = if l = r then 1 else 0 := by
    unfold q_op
    rw [if_neg (show ¬ c = 43 from fun z => h43 z.symm), if_neg (show ¬ c = 45 from fun z => h45 z.symm), if_neg (show ¬ c = 42 from fun z => h42 z.symm), if_neg (show ¬ c = 47 from fun z => h47 z.symm), if_neg (show ¬ c = 60 from fun z => h60 z.symm), if_neg (show ¬ c = 62 from fun z => h62 z.symm)]
  rw [e]
  by_cases z : l = r
  · rw [if_pos z, if_pos z]
  · rw [if_neg z, if_neg z]
/-- the stack's row, from its top -/
def stk : (Nat → Int) → List Int → Prop
  | _, [] => True
  | row, x :: S => row S.length = x ∧ stk row S
theorem stk_up {row : Nat → Int} {j : Nat} {v : Int} : ∀ {S : List Int}, stk row S → S.length ≤ j → stk (u_up row j v) S
  | [], _, _ => trivial
  | x :: S, h, hj => by
    have hj : S.length + 1 ≤ j := hj
    exact ⟨(u_up_ne (by omega)).trans h.1, stk_up h.2 (by omega)⟩
theorem stk_0 {row : Nat → Int} : ∀ {S : List Int}, stk row S → ∀ x, S.getLast? = some x → row 0 = x
  | [], _, x, h => by cases h
  | [y], h, x, h' => by cases h'; exact h.1
  | y :: z :: S, h, x, h' => stk_0 (S := z :: S) h.2 x (by rw [List.getLast?_cons_cons] at h'; exact h')
def clampv (v i : Int) : Int := if 0 ≤ v then (if v ≤ i then v else i) else 0
def topv (S : List Int) : Int := match S.getLast? with
  | some x => x
  | none => 0
theorem ev1_len {env : Nat → Int} {c : Int} {S : List Int} : (ev1 env c S).length ≤ S.length + 1 := by
  unfold ev1
  split
  · split
    · exact Nat.le_succ _
    · exact Nat.zero_le _
  split
  · split
    · rename_i y x S
      show S.length + 1 ≤ S.length + 1 + 1 + 1; omega
    · exact Nat.le_succ _
  · exact Nat.le_refl _
theorem c_run {env : Nat → Int} {x1 x2 x3 x4 x5 x6 x7 : Int} : ∀ (cs : List Int) (k : Nat) (S : List Int) (v10 : z_V) (m : z_M), (∀ c ∈ cs, c ≤ 2147483647) → m 4 3 = ((k + cs.length : Nat) : Int) → k + cs.length ≤ 40 → cds (m 5) k cs → stk (m 6) S → S.length ≤ k → (∀ i, i < 7 → m 7 i = env i) → ∃ m', z_R 71 (m, 60, [(2, 4), (0, x1), (0, x2), (0, x3), (0, x4), (0, x5), (0, x6), (0, x7), (0, (S.length : Int)), (0, (k : Int)), v10], []) = some (m', some (0, clampv (topv (ev env cs S)) x2)) ∧ z_same [(6, 0, 39)] m m' := by
  intro cs
  induction cs with
  | nil =>
    intro k S v10 m hcs hz hk hc hS hl he
    have hz : m 4 3 = (k : Int) := hz
    have hk : k ≤ 40 := hk
    rw [s_mel_60 m x1 x2 x3 x4 x5 x6 x7 S.length k v10 ⟨by omega, by omega⟩ ⟨by omega, by omega⟩ ⟨by omega, by omega⟩, if_pos (by omega)]
    show ∃ m', _ = some (m', some (0, clampv (topv S) x2)) ∧ _
    cases hS' : S.getLast? with
    | none =>
      have e : S = [] := List.getLast?_eq_none_iff.mp hS'
      subst e
      refine ⟨m, ?_, z_same.rf⟩
      rw [if_pos (by decide)]
      unfold topv clampv
      rw [hS']
      try simp only
      rw [if_pos (Int.le_refl 0)]
      by_cases h2 : 0 ≤ x2
      · rw [if_pos h2, if_pos h2]
      · rw [if_neg h2, if_neg h2]
    | some x =>
      have hne : ¬ (S.length : Int) ≤ 0 := fun z => by
        have : S = [] := List.eq_nil_of_length_eq_zero (by omega)
        rw [this] at hS'
        cases hS'
      have e0 := stk_0 hS x hS'
      refine ⟨m, ?_, z_same.rf⟩
      rw [if_neg hne, e0]
      unfold topv clampv
      rw [hS']
      try simp only
      by_cases c1 : 0 ≤ x
      · rw [if_pos c1, if_pos c1]
        by_cases c2 : x ≤ x2
        · rw [if_pos c2, if_pos c2]
        · rw [if_neg c2, if_neg c2]
      · rw [if_neg c1, if_neg c1]
  | cons c cs ih =>
    intro k S v10 m hcs hz hk hc hS hl he
    have hz : m 4 3 = ((k + (cs.length + 1) : Nat) : Int) := hz
    have hk : k + (cs.length + 1) ≤ 40 := hk
    obtain ⟨hc1, hc2⟩ := hc
    have next : ∀ (S' : List Int) (v10 : z_V) (m1 : z_M), S' = ev1 env c S → z_same [(6, 0, 39)] m m1 → stk (m1 6) S' → ∃ m', z_R 71 (m1, 60, [(2, 4), (0, x1), (0, x2), (0, x3), (0, x4), (0, x5), (0, x6), (0, x7), (0, (S'.length : Int)), (0, ((k + 1 : Nat) : Int)), v10], []) = some (m', some (0, clampv (topv (ev env (c :: cs) S)) x2)) ∧ z_same [(6, 0, 39)] m m' := by
      intro S' v10 m1 hS' sm hstk
      have hlen := ev1_len (env := env) (c := c) (S := S)
      rw [← hS'] at hlen
      obtain ⟨m', a1, a2⟩ := ih (k + 1) S' v10 m1 (fun c hc => hcs c (List.mem_cons_of_mem _ hc)) (by rw [sm.of (by (try unfold r_RL); (repeat' (first | exact trivial | refine z_of_c ?_ ?_)) <;> omega), hz]; omega) (by omega) (by rw [sm.ofr (by (try unfold r_RL); (repeat' (first | exact trivial | refine z_ofr_c ?_ ?_)) <;> omega)]; exact hc2) hstk (by omega) (fun i hi => by rw [sm.ofr (by (try unfold r_RL); (repeat' (first | exact trivial | refine z_ofr_c ?_ ?_)) <;> omega)]; exact he i hi)
      refine ⟨m', ?_, sm.tr a2⟩
      rw [a1, hS']
      rfl
    rw [s_mel_60 m x1 x2 x3 x4 x5 x6 x7 S.length k v10 ⟨by omega, by omega⟩ ⟨by omega, by omega⟩ ⟨by omega, by omega⟩, if_neg (by omega), Int.toNat_natCast, hc1, tc1]
    by_cases c1 : c = 2126
    · rw [if_pos c1]
      cases S with
      | nil =>
        rw [if_pos (by decide)]
        exact next [] _ m (by unfold ev1; rw [if_pos c1]) z_same.rf trivial
      | cons x S =>
        have e : (((x :: S).length : Int) - 1).toNat = S.length := by show (((S.length + 1 : Nat) : Int) - 1).toNat = S.length; omega
        rw [if_neg (by show ¬ ((S.length + 1 : Nat) : Int) ≤ 0; omega), e, hS.1]
        have hl : S.length + 1 ≤ k := hl
        refine next (z_neg x :: S) _ _ (by unfold ev1; rw [if_pos c1]) (z_same.rf.upo (by (try unfold r_RL); first | exact z_on_h rfl (by omega) (by omega) | exact z_on_t (z_on_h rfl (by omega) (by omega)) | exact z_on_t (z_on_t (z_on_h rfl (by omega) (by omega))) | exact z_on_t (z_on_t (z_on_t (z_on_h rfl (by omega) (by omega)))) | exact z_on_t (z_on_t (z_on_t (z_on_t (z_on_h rfl (by omega) (by omega))))) | exact z_on_t (z_on_t (z_on_t (z_on_t (z_on_t (z_on_h rfl (by omega) (by omega)))))) | exact z_on_t (z_on_t (z_on_t (z_on_t (z_on_t (z_on_t (z_on_h rfl (by omega) (by omega))))))) | exact z_on_t (z_on_t (z_on_t (z_on_t (z_on_t (z_on_t (z_on_t (z_on_h rfl (by omega) (by omega)))))))) | exact z_on_t (z_on_t (z_on_t (z_on_t (z_on_t (z_on_t (z_on_t (z_on_t (z_on_h rfl (by omega) (by omega))))))))) | exact z_on_t (z_on_t (z_on_t (z_on_t (z_on_t (z_on_t (z_on_t (z_on_t (z_on_t (z_on_h rfl (by omega) (by omega)))))))))) | exact z_on_t (z_on_t (z_on_t (z_on_t (z_on_t (z_on_t (z_on_t (z_on_t (z_on_t (z_on_t (z_on_h rfl (by omega) (by omega))))))))))) | exact z_on_t (z_on_t (z_on_t (z_on_t (z_on_t (z_on_t (z_on_t (z_on_t (z_on_t (z_on_t (z_on_t (z_on_h rfl (by omega) (by omega)))))))))))) | exact z_on_t (z_on_t (z_on_t (z_on_t (z_on_t (z_on_t (z_on_t (z_on_t (z_on_t (z_on_t (z_on_t (z_on_t (z_on_h rfl (by omega) (by omega))))))))))))))) ?_
        rw [zu_row]
        exact ⟨u_up_self, stk_up hS.2 (Nat.le_refl _)⟩
    rw [if_neg c1]
    by_cases c2 : c < 2000
    · have e40 : ¬ 40 ≤ (S.length : Int) := by omega
      rw [if_pos c2, if_neg e40, tc1]
      have push : ∀ (u : Int) (v10 : z_V), ev1 env c S = u :: S → ∃ m', z_R 71 (z_up m 6 S.length u, 60, [(2, 4), (0, x1), (0, x2), (0, x3), (0, x4), (0, x5), (0, x6), (0, x7), (0, ((S.length + 1 : Nat) : Int)), (0, ((k + 1 : Nat) : Int)), v10], []) = some (m', some (0, clampv (topv (ev env (c :: cs) S)) x2)) ∧ z_same [(6, 0, 39)] m m' := by
        intro u v10 hu
        refine next (u :: S) v10 _ hu.symm (z_same.rf.upo (by (try unfold r_RL); first | exact z_on_h rfl (by omega) (by omega) | exact z_on_t (z_on_h rfl (by omega) (by omega)) | exact z_on_t (z_on_t (z_on_h rfl (by omega) (by omega))) | exact z_on_t (z_on_t (z_on_t (z_on_h rfl (by omega) (by omega)))) | exact z_on_t (z_on_t (z_on_t (z_on_t (z_on_h rfl (by omega) (by omega))))) | exact z_on_t (z_on_t (z_on_t (z_on_t (z_on_t (z_on_h rfl (by omega) (by omega)))))) | exact z_on_t (z_on_t (z_on_t (z_on_t (z_on_t (z_on_t (z_on_h rfl (by omega) (by omega))))))) | exact z_on_t (z_on_t (z_on_t (z_on_t (z_on_t (z_on_t (z_on_t (z_on_h rfl (by omega) (by omega)))))))) | exact z_on_t (z_on_t (z_on_t (z_on_t (z_on_t (z_on_t (z_on_t (z_on_t (z_on_h rfl (by omega) (by omega))))))))) | exact z_on_t (z_on_t (z_on_t (z_on_t (z_on_t (z_on_t (z_on_t (z_on_t (z_on_t (z_on_h rfl (by omega) (by omega)))))))))) | exact z_on_t (z_on_t (z_on_t (z_on_t (z_on_t (z_on_t (z_on_t (z_on_t (z_on_t (z_on_t (z_on_h rfl (by omega) (by omega))))))))))) | exact z_on_t (z_on_t (z_on_t (z_on_t (z_on_t (z_on_t (z_on_t (z_on_t (z_on_t (z_on_t (z_on_t (z_on_h rfl (by omega) (by omega)))))))))))) | exact z_on_t (z_on_t (z_on_t (z_on_t (z_on_t (z_on_t (z_on_t (z_on_t (z_on_t (z_on_t (z_on_t (z_on_t (z_on_h rfl (by omega) (by omega))))))))))))))) ?_
        rw [zu_row]
        exact ⟨u_up_self, stk_up hS (Nat.le_refl _)⟩
      by_cases c3 : 1000 ≤ c
      · rw [if_pos c3]
        by_cases c4 : 7 ≤ c - 1000
        · rw [if_pos c4]
          exact push 0 _ (by unfold ev1; rw [if_neg c1, if_neg (by omega), if_neg (by omega), if_neg (by omega)])
        · rw [if_neg c4, he _ (by omega)]
          exact push _ _ (by unfold ev1; rw [if_neg c1, if_neg (by omega), if_neg (by omega), if_pos (by omega)])
      · rw [if_neg c3]
        exact push c _ (by unfold ev1; rw [if_neg c1, if_neg (by omega), if_pos (by omega)])
    · rw [if_neg c2]
      match S, hS, hl with
      | [], hS, hl =>
        rw [if_pos (by decide)]
        exact next [] _ m (by unfold ev1; rw [if_neg c1, if_pos (by omega)]) z_same.rf trivial
      | [x], hS, hl =>
        rw [if_pos (by simp)]
        exact next [x] _ m (by unfold ev1; rw [if_neg c1, if_pos (by omega)]) z_same.rf hS
      | w :: x :: S, hS, hl =>
        have hl : S.length + 1 + 1 ≤ k := hl
        have e1 : (((w :: x :: S).length : Int) - 1).toNat = S.length + 1 := by show (((S.length + 1 + 1 : Nat) : Int) - 1).toNat = S.length + 1; omega
        have e2 : (((w :: x :: S).length : Int) - 2).toNat = S.length := by show (((S.length + 1 + 1 : Nat) : Int) - 2).toNat = S.length; omega
        have e3 : ((w :: x :: S).length : Int) - 1 = ((S.length + 1 : Nat) : Int) := by show ((S.length + 1 + 1 : Nat) : Int) - 1 = _; omega
        have e4 : ((w :: x :: S).length : Int) - 2 = ((S.length : Nat) : Int) := by show ((S.length + 1 + 1 : Nat) : Int) - 2 = _; omega
        have g1 : m 6 (S.length + 1) = w := hS.1
        have g2 : m 6 S.length = x := hS.2.1
        have cb := hcs c List.mem_cons_self
        rw [if_neg (by show ¬ ((S.length + 1 + 1 : Nat) : Int) ≤ 1; omega), e1, e2, e3, e4, g1, g2, z_sub_eq (by omega) (by omega), c_join, zb_v, s_mel_163 m x1 x2 x3 x4 x5 x6 x7 _ k _ _ _ ⟨by omega, by omega⟩ ⟨by omega, by omega⟩, Int.toNat_natCast, tc1]
        refine next (q_op (c - 2000) x w :: S) _ _ (by unfold ev1; rw [if_neg c1, if_pos (by omega)]) (z_same.rf.upo (by (try unfold r_RL); first | exact z_on_h rfl (by omega) (by omega) | exact z_on_t (z_on_h rfl (by omega) (by omega)) | exact z_on_t (z_on_t (z_on_h rfl (by omega) (by omega))) | exact z_on_t (z_on_t (z_on_t (z_on_h rfl (by omega) (by omega)))) | exact z_on_t (z_on_t (z_on_t (z_on_t (z_on_h rfl (by omega) (by omega))))) | exact z_on_t (z_on_t (z_on_t (z_on_t (z_on_t (z_on_h rfl (by omega) (by omega)))))) | exact z_on_t (z_on_t (z_on_t (z_on_t (z_on_t (z_on_t (z_on_h rfl (by omega) (by omega))))))) | exact z_on_t (z_on_t (z_on_t (z_on_t (z_on_t (z_on_t (z_on_t (z_on_h rfl (by omega) (by omega)))))))) | exact z_on_t (z_on_t (z_on_t (z_on_t (z_on_t (z_on_t (z_on_t (z_on_t (z_on_h rfl (by omega) (by omega))))))))) | exact z_on_t (z_on_t (z_on_t (z_on_t (z_on_t (z_on_t (z_on_t (z_on_t (z_on_t (z_on_h rfl (by omega) (by omega)))))))))) | exact z_on_t (z_on_t (z_on_t (z_on_t (z_on_t (z_on_t (z_on_t (z_on_t (z_on_t (z_on_t (z_on_h rfl (by omega) (by omega))))))))))) | exact z_on_t (z_on_t (z_on_t (z_on_t (z_on_t (z_on_t (z_on_t (z_on_t (z_on_t (z_on_t (z_on_t (z_on_h rfl (by omega) (by omega)))))))))))) | exact z_on_t (z_on_t (z_on_t (z_on_t (z_on_t (z_on_t (z_on_t (z_on_t (z_on_t (z_on_t (z_on_t (z_on_t (z_on_h rfl (by omega) (by omega))))))))))))))) ?_
        rw [zu_row]
        exact ⟨u_up_self, stk_up hS.2.2 (Nat.le_refl _)⟩
/-- the class's rule, told by its codes -/
def c_env (w i a f y n h : Int) : Nat → Int := fun k => if k = 0 then w else if k = 1 then i else if k = 2 then a else if k = 3 then f else if k = 4 then y else if k = 5 then n else h
def c_ml (cs : List Int) : hr_M := fun w i a f y n h => clampv (topv (ev (c_env w i a f y n h) cs [])) i
theorem clampv_ok {v i : Int} (h : 0 ≤ i) : 0 ≤ clampv v i ∧ clampv v i ≤ i := by
  unfold clampv
  by_cases c1 : 0 ≤ v
  · rw [if_pos c1]
    by_cases c2 : v ≤ i
    · rw [if_pos c2]; omega
    · rw [if_neg c2]; omega
  · rw [if_neg c1]; omega
theorem c_ml_ok (cs : List Int) : hr_mlok (c_ml cs) := fun w i a f y n h hi => clampv_ok hi
theorem ev1_cg {env env' : Nat → Int} (h : ∀ k, k < 7 → env k = env' k) (c : Int) (S : List Int) : ev1 env c S = ev1 env' c S := by
  unfold ev1
  by_cases c1 : c = 2126
  · rw [if_pos c1, if_pos c1]
  rw [if_neg c1, if_neg c1]
  by_cases c2 : 2000 ≤ c
  · rw [if_pos c2, if_pos c2]
  rw [if_neg c2, if_neg c2]
  by_cases c3 : c < 1000
  · rw [if_pos c3, if_pos c3]
  rw [if_neg c3, if_neg c3]
  by_cases c4 : c - 1000 < 7
  · rw [if_pos c4, if_pos c4, h _ (by omega)]
  · rw [if_neg c4, if_neg c4]
theorem ev_cg {env env' : Nat → Int} (h : ∀ k, k < 7 → env k = env' k) : ∀ (cs S : List Int), ev env cs S = ev env' cs S
  | [], S => rfl
  | c :: cs, S => by
    show ev env cs (ev1 env c S) = ev env' cs (ev1 env' c S)
    rw [ev1_cg h, ev_cg h cs]
theorem K_rule_c {m : z_M} {cs : List Int} (h1 : m 4 3 = (cs.length : Int)) (h2 : cs.length ≤ 40) (h3 : ∀ c ∈ cs, c ≤ 2147483647) (h4 : cds (m 5) 0 cs) : c_Hml (c_ml cs) m := by
  intro m2 e5 e4 w i a f y n hh
  rw [s_mel_0]
  have s0 : z_same [(7, 0, 6)] m2 (z_up (z_up (z_up (z_up (z_up (z_up (z_up m2 7 0 w) 7 1 i) 7 2 a) 7 3 f) 7 4 y) 7 5 n) 7 6 hh) := ((((((z_same.rf.upo (by (try unfold r_RL); first | exact z_on_h rfl (by omega) (by omega) | exact z_on_t (z_on_h rfl (by omega) (by omega)) | exact z_on_t (z_on_t (z_on_h rfl (by omega) (by omega))) | exact z_on_t (z_on_t (z_on_t (z_on_h rfl (by omega) (by omega)))) | exact z_on_t (z_on_t (z_on_t (z_on_t (z_on_h rfl (by omega) (by omega))))) | exact z_on_t (z_on_t (z_on_t (z_on_t (z_on_t (z_on_h rfl (by omega) (by omega)))))) | exact z_on_t (z_on_t (z_on_t (z_on_t (z_on_t (z_on_t (z_on_h rfl (by omega) (by omega))))))) | exact z_on_t (z_on_t (z_on_t (z_on_t (z_on_t (z_on_t (z_on_t (z_on_h rfl (by omega) (by omega)))))))) | exact z_on_t (z_on_t (z_on_t (z_on_t (z_on_t (z_on_t (z_on_t (z_on_t (z_on_h rfl (by omega) (by omega))))))))) | exact z_on_t (z_on_t (z_on_t (z_on_t (z_on_t (z_on_t (z_on_t (z_on_t (z_on_t (z_on_h rfl (by omega) (by omega)))))))))) | exact z_on_t (z_on_t (z_on_t (z_on_t (z_on_t (z_on_t (z_on_t (z_on_t (z_on_t (z_on_t (z_on_h rfl (by omega) (by omega))))))))))) | exact z_on_t (z_on_t (z_on_t (z_on_t (z_on_t (z_on_t (z_on_t (z_on_t (z_on_t (z_on_t (z_on_t (z_on_h rfl (by omega) (by omega)))))))))))) | exact z_on_t (z_on_t (z_on_t (z_on_t (z_on_t (z_on_t (z_on_t (z_on_t (z_on_t (z_on_t (z_on_t (z_on_t (z_on_h rfl (by omega) (by omega))))))))))))))).upo (by (try unfold r_RL); first | exact z_on_h rfl (by omega) (by omega) | exact z_on_t (z_on_h rfl (by omega) (by omega)) | exact z_on_t (z_on_t (z_on_h rfl (by omega) (by omega))) | exact z_on_t (z_on_t (z_on_t (z_on_h rfl (by omega) (by omega)))) | exact z_on_t (z_on_t (z_on_t (z_on_t (z_on_h rfl (by omega) (by omega))))) | exact z_on_t (z_on_t (z_on_t (z_on_t (z_on_t (z_on_h rfl (by omega) (by omega)))))) | exact z_on_t (z_on_t (z_on_t (z_on_t (z_on_t (z_on_t (z_on_h rfl (by omega) (by omega))))))) | exact z_on_t (z_on_t (z_on_t (z_on_t (z_on_t (z_on_t (z_on_t (z_on_h rfl (by omega) (by omega)))))))) | exact z_on_t (z_on_t (z_on_t (z_on_t (z_on_t (z_on_t (z_on_t (z_on_t (z_on_h rfl (by omega) (by omega))))))))) | exact z_on_t (z_on_t (z_on_t (z_on_t (z_on_t (z_on_t (z_on_t (z_on_t (z_on_t (z_on_h rfl (by omega) (by omega)))))))))) | exact z_on_t (z_on_t (z_on_t (z_on_t (z_on_t (z_on_t (z_on_t (z_on_t (z_on_t (z_on_t (z_on_h rfl (by omega) (by omega))))))))))) | exact z_on_t (z_on_t (z_on_t (z_on_t (z_on_t (z_on_t (z_on_t (z_on_t (z_on_t (z_on_t (z_on_t (z_on_h rfl (by omega) (by omega)))))))))))) | exact z_on_t (z_on_t (z_on_t (z_on_t (z_on_t (z_on_t (z_on_t (z_on_t (z_on_t (z_on_t (z_on_t (z_on_t (z_on_h rfl (by omega) (by omega))))))))))))))).upo (by (try unfold r_RL); first | exact z_on_h rfl (by omega) (by omega) | exact z_on_t (z_on_h rfl (by omega) (by omega)) | exact z_on_t (z_on_t (z_on_h rfl (by omega) (by omega))) | exact z_on_t (z_on_t (z_on_t (z_on_h rfl (by omega) (by omega)))) | exact z_on_t (z_on_t (z_on_t (z_on_t (z_on_h rfl (by omega) (by omega))))) | exact z_on_t (z_on_t (z_on_t (z_on_t (z_on_t (z_on_h rfl (by omega) (by omega)))))) | exact z_on_t (z_on_t (z_on_t (z_on_t (z_on_t (z_on_t (z_on_h rfl (by omega) (by omega))))))) | exact z_on_t (z_on_t (z_on_t (z_on_t (z_on_t (z_on_t (z_on_t (z_on_h rfl (by omega) (by omega)))))))) | exact z_on_t (z_on_t (z_on_t (z_on_t (z_on_t (z_on_t (z_on_t (z_on_t (z_on_h rfl (by omega) (by omega))))))))) | exact z_on_t (z_on_t (z_on_t (z_on_t (z_on_t (z_on_t (z_on_t (z_on_t (z_on_t (z_on_h rfl (by omega) (by omega)))))))))) | exact z_on_t (z_on_t (z_on_t (z_on_t (z_on_t (z_on_t (z_on_t (z_on_t (z_on_t (z_on_t (z_on_h rfl (by omega) (by omega))))))))))) | exact z_on_t (z_on_t (z_on_t (z_on_t (z_on_t (z_on_t (z_on_t (z_on_t (z_on_t (z_on_t (z_on_t (z_on_h rfl (by omega) (by omega)))))))))))) | exact z_on_t (z_on_t (z_on_t (z_on_t (z_on_t (z_on_t (z_on_t (z_on_t (z_on_t (z_on_t (z_on_t (z_on_t (z_on_h rfl (by omega) (by omega))))))))))))))).upo (by (try unfold r_RL); first | exact z_on_h rfl (by omega) (by omega) | exact z_on_t (z_on_h rfl (by omega) (by omega)) | exact z_on_t (z_on_t (z_on_h rfl (by omega) (by omega))) | exact z_on_t (z_on_t (z_on_t (z_on_h rfl (by omega) (by omega)))) | exact z_on_t (z_on_t (z_on_t (z_on_t (z_on_h rfl (by omega) (by omega))))) | exact z_on_t (z_on_t (z_on_t (z_on_t (z_on_t (z_on_h rfl (by omega) (by omega)))))) | exact z_on_t (z_on_t (z_on_t (z_on_t (z_on_t (z_on_t (z_on_h rfl (by omega) (by omega))))))) | exact z_on_t (z_on_t (z_on_t (z_on_t (z_on_t (z_on_t (z_on_t (z_on_h rfl (by omega) (by omega)))))))) | exact z_on_t (z_on_t (z_on_t (z_on_t (z_on_t (z_on_t (z_on_t (z_on_t (z_on_h rfl (by omega) (by omega))))))))) | exact z_on_t (z_on_t (z_on_t (z_on_t (z_on_t (z_on_t (z_on_t (z_on_t (z_on_t (z_on_h rfl (by omega) (by omega)))))))))) | exact z_on_t (z_on_t (z_on_t (z_on_t (z_on_t (z_on_t (z_on_t (z_on_t (z_on_t (z_on_t (z_on_h rfl (by omega) (by omega))))))))))) | exact z_on_t (z_on_t (z_on_t (z_on_t (z_on_t (z_on_t (z_on_t (z_on_t (z_on_t (z_on_t (z_on_t (z_on_h rfl (by omega) (by omega)))))))))))) | exact z_on_t (z_on_t (z_on_t (z_on_t (z_on_t (z_on_t (z_on_t (z_on_t (z_on_t (z_on_t (z_on_t (z_on_t (z_on_h rfl (by omega) (by omega))))))))))))))).upo (by (try unfold r_RL); first | exact z_on_h rfl (by omega) (by omega) | exact z_on_t (z_on_h rfl (by omega) (by omega)) | exact z_on_t (z_on_t (z_on_h rfl (by omega) (by omega))) | exact z_on_t (z_on_t (z_on_t (z_on_h rfl (by omega) (by omega)))) | exact z_on_t (z_on_t (z_on_t (z_on_t (z_on_h rfl (by omega) (by omega))))) | exact z_on_t (z_on_t (z_on_t (z_on_t (z_on_t (z_on_h rfl (by omega) (by omega)))))) | exact z_on_t (z_on_t (z_on_t (z_on_t (z_on_t (z_on_t (z_on_h rfl (by omega) (by omega))))))) | exact z_on_t (z_on_t (z_on_t (z_on_t (z_on_t (z_on_t (z_on_t (z_on_h rfl (by omega) (by omega)))))))) | exact z_on_t (z_on_t (z_on_t (z_on_t (z_on_t (z_on_t (z_on_t (z_on_t (z_on_h rfl (by omega) (by omega))))))))) | exact z_on_t (z_on_t (z_on_t (z_on_t (z_on_t (z_on_t (z_on_t (z_on_t (z_on_t (z_on_h rfl (by omega) (by omega)))))))))) | exact z_on_t (z_on_t (z_on_t (z_on_t (z_on_t (z_on_t (z_on_t (z_on_t (z_on_t (z_on_t (z_on_h rfl (by omega) (by omega))))))))))) | exact z_on_t (z_on_t (z_on_t (z_on_t (z_on_t (z_on_t (z_on_t (z_on_t (z_on_t (z_on_t (z_on_t (z_on_h rfl (by omega) (by omega)))))))))))) | exact z_on_t (z_on_t (z_on_t (z_on_t (z_on_t (z_on_t (z_on_t (z_on_t (z_on_t (z_on_t (z_on_t (z_on_t (z_on_h rfl (by omega) (by omega))))))))))))))).upo (by (try unfold r_RL); first | exact z_on_h rfl (by omega) (by omega) | exact z_on_t (z_on_h rfl (by omega) (by omega)) | exact z_on_t (z_on_t (z_on_h rfl (by omega) (by omega))) | exact z_on_t (z_on_t (z_on_t (z_on_h rfl (by omega) (by omega)))) | exact z_on_t (z_on_t (z_on_t (z_on_t (z_on_h rfl (by omega) (by omega))))) | exact z_on_t (z_on_t (z_on_t (z_on_t (z_on_t (z_on_h rfl (by omega) (by omega)))))) | exact z_on_t (z_on_t (z_on_t (z_on_t (z_on_t (z_on_t (z_on_h rfl (by omega) (by omega))))))) | exact z_on_t (z_on_t (z_on_t (z_on_t (z_on_t (z_on_t (z_on_t (z_on_h rfl (by omega) (by omega)))))))) | exact z_on_t (z_on_t (z_on_t (z_on_t (z_on_t (z_on_t (z_on_t (z_on_t (z_on_h rfl (by omega) (by omega))))))))) | exact z_on_t (z_on_t (z_on_t (z_on_t (z_on_t (z_on_t (z_on_t (z_on_t (z_on_t (z_on_h rfl (by omega) (by omega)))))))))) | exact z_on_t (z_on_t (z_on_t (z_on_t (z_on_t (z_on_t (z_on_t (z_on_t (z_on_t (z_on_t (z_on_h rfl (by omega) (by omega))))))))))) | exact z_on_t (z_on_t (z_on_t (z_on_t (z_on_t (z_on_t (z_on_t (z_on_t (z_on_t (z_on_t (z_on_t (z_on_h rfl (by omega) (by omega)))))))))))) | exact z_on_t (z_on_t (z_on_t (z_on_t (z_on_t (z_on_t (z_on_t (z_on_t (z_on_t (z_on_t (z_on_t (z_on_t (z_on_h rfl (by omega) (by omega))))))))))))))).upo (by (try unfold r_RL); first | exact z_on_h rfl (by omega) (by omega) | exact z_on_t (z_on_h rfl (by omega) (by omega)) | exact z_on_t (z_on_t (z_on_h rfl (by omega) (by omega))) | exact z_on_t (z_on_t (z_on_t (z_on_h rfl (by omega) (by omega)))) | exact z_on_t (z_on_t (z_on_t (z_on_t (z_on_h rfl (by omega) (by omega))))) | exact z_on_t (z_on_t (z_on_t (z_on_t (z_on_t (z_on_h rfl (by omega) (by omega)))))) | exact z_on_t (z_on_t (z_on_t (z_on_t (z_on_t (z_on_t (z_on_h rfl (by omega) (by omega))))))) | exact z_on_t (z_on_t (z_on_t (z_on_t (z_on_t (z_on_t (z_on_t (z_on_h rfl (by omega) (by omega)))))))) | exact z_on_t (z_on_t (z_on_t (z_on_t (z_on_t (z_on_t (z_on_t (z_on_t (z_on_h rfl (by omega) (by omega))))))))) | exact z_on_t (z_on_t (z_on_t (z_on_t (z_on_t (z_on_t (z_on_t (z_on_t (z_on_t (z_on_h rfl (by omega) (by omega)))))))))) | exact z_on_t (z_on_t (z_on_t (z_on_t (z_on_t (z_on_t (z_on_t (z_on_t (z_on_t (z_on_t (z_on_h rfl (by omega) (by omega))))))))))) | exact z_on_t (z_on_t (z_on_t (z_on_t (z_on_t (z_on_t (z_on_t (z_on_t (z_on_t (z_on_t (z_on_t (z_on_h rfl (by omega) (by omega)))))))))))) | exact z_on_t (z_on_t (z_on_t (z_on_t (z_on_t (z_on_t (z_on_t (z_on_t (z_on_t (z_on_t (z_on_t (z_on_t (z_on_h rfl (by omega) (by omega))))))))))))))
  have ev7 : ∀ k, k < 7 → (z_up (z_up (z_up (z_up (z_up (z_up (z_up m2 7 0 w) 7 1 i) 7 2 a) 7 3 f) 7 4 y) 7 5 n) 7 6 hh) 7 k = c_env w i a f y n hh k := fun k hk => by
    rcases (show k = 0 ∨ k = 1 ∨ k = 2 ∨ k = 3 ∨ k = 4 ∨ k = 5 ∨ k = 6 by omega) with rfl | rfl | rfl | rfl | rfl | rfl | rfl
    · rw [zu_k (by decide), zu_k (by decide), zu_k (by decide), zu_k (by decide), zu_k (by decide), zu_k (by decide), zu_self]; rfl
    · rw [zu_k (by decide), zu_k (by decide), zu_k (by decide), zu_k (by decide), zu_k (by decide), zu_self]; rfl
    · rw [zu_k (by decide), zu_k (by decide), zu_k (by decide), zu_k (by decide), zu_self]; rfl
    · rw [zu_k (by decide), zu_k (by decide), zu_k (by decide), zu_self]; rfl
    · rw [zu_k (by decide), zu_k (by decide), zu_self]; rfl
    · rw [zu_k (by decide), zu_self]; rfl
    · rw [zu_self]; rfl
  generalize z_up (z_up (z_up (z_up (z_up (z_up (z_up m2 7 0 w) 7 1 i) 7 2 a) 7 3 f) 7 4 y) 7 5 n) 7 6 hh = m3 at s0 ev7 ⊢
  obtain ⟨m', a1, a2⟩ := c_run (env := c_env w i a f y n hh) (x1 := w) (x2 := i) (x3 := a) (x4 := f) (x5 := y) (x6 := n) (x7 := hh) cs 0 [] (9, 0) m3 h3 (by rw [s0.of (by (try unfold r_RL); (repeat' (first | exact trivial | refine z_of_c ?_ ?_)) <;> omega), e4, h1, Nat.zero_add]) (by omega) (by rw [s0.ofr (by (try unfold r_RL); (repeat' (first | exact trivial | refine z_ofr_c ?_ ?_)) <;> omega), e5]; exact h4) trivial (Nat.le_refl _) ev7
  exact ⟨m', a1, (s0.subo (by (try unfold r_RL); (repeat' (first | exact trivial | refine z_sbo_c ?_ ?_)) <;> (intro k h1 h2; first | exact z_on_h rfl (by omega) (by omega) | exact z_on_t (z_on_h rfl (by omega) (by omega)) | exact z_on_t (z_on_t (z_on_h rfl (by omega) (by omega))) | exact z_on_t (z_on_t (z_on_t (z_on_h rfl (by omega) (by omega)))) | exact z_on_t (z_on_t (z_on_t (z_on_t (z_on_h rfl (by omega) (by omega))))) | exact z_on_t (z_on_t (z_on_t (z_on_t (z_on_t (z_on_h rfl (by omega) (by omega)))))) | exact z_on_t (z_on_t (z_on_t (z_on_t (z_on_t (z_on_t (z_on_h rfl (by omega) (by omega))))))) | exact z_on_t (z_on_t (z_on_t (z_on_t (z_on_t (z_on_t (z_on_t (z_on_h rfl (by omega) (by omega)))))))) | exact z_on_t (z_on_t (z_on_t (z_on_t (z_on_t (z_on_t (z_on_t (z_on_t (z_on_h rfl (by omega) (by omega))))))))) | exact z_on_t (z_on_t (z_on_t (z_on_t (z_on_t (z_on_t (z_on_t (z_on_t (z_on_t (z_on_h rfl (by omega) (by omega)))))))))) | exact z_on_t (z_on_t (z_on_t (z_on_t (z_on_t (z_on_t (z_on_t (z_on_t (z_on_t (z_on_t (z_on_h rfl (by omega) (by omega))))))))))) | exact z_on_t (z_on_t (z_on_t (z_on_t (z_on_t (z_on_t (z_on_t (z_on_t (z_on_t (z_on_t (z_on_t (z_on_h rfl (by omega) (by omega)))))))))))) | exact z_on_t (z_on_t (z_on_t (z_on_t (z_on_t (z_on_t (z_on_t (z_on_t (z_on_t (z_on_t (z_on_t (z_on_t (z_on_h rfl (by omega) (by omega)))))))))))))))).tr (a2.subo (by (try unfold r_RL); (repeat' (first | exact trivial | refine z_sbo_c ?_ ?_)) <;> (intro k h1 h2; first | exact z_on_h rfl (by omega) (by omega) | exact z_on_t (z_on_h rfl (by omega) (by omega)) | exact z_on_t (z_on_t (z_on_h rfl (by omega) (by omega))) | exact z_on_t (z_on_t (z_on_t (z_on_h rfl (by omega) (by omega)))) | exact z_on_t (z_on_t (z_on_t (z_on_t (z_on_h rfl (by omega) (by omega))))) | exact z_on_t (z_on_t (z_on_t (z_on_t (z_on_t (z_on_h rfl (by omega) (by omega)))))) | exact z_on_t (z_on_t (z_on_t (z_on_t (z_on_t (z_on_t (z_on_h rfl (by omega) (by omega))))))) | exact z_on_t (z_on_t (z_on_t (z_on_t (z_on_t (z_on_t (z_on_t (z_on_h rfl (by omega) (by omega)))))))) | exact z_on_t (z_on_t (z_on_t (z_on_t (z_on_t (z_on_t (z_on_t (z_on_t (z_on_h rfl (by omega) (by omega))))))))) | exact z_on_t (z_on_t (z_on_t (z_on_t (z_on_t (z_on_t (z_on_t (z_on_t (z_on_t (z_on_h rfl (by omega) (by omega)))))))))) | exact z_on_t (z_on_t (z_on_t (z_on_t (z_on_t (z_on_t (z_on_t (z_on_t (z_on_t (z_on_t (z_on_h rfl (by omega) (by omega))))))))))) | exact z_on_t (z_on_t (z_on_t (z_on_t (z_on_t (z_on_t (z_on_t (z_on_t (z_on_t (z_on_t (z_on_t (z_on_h rfl (by omega) (by omega)))))))))))) | exact z_on_t (z_on_t (z_on_t (z_on_t (z_on_t (z_on_t (z_on_t (z_on_t (z_on_t (z_on_t (z_on_t (z_on_t (z_on_h rfl (by omega) (by omega))))))))))))))))⟩
theorem mm_clamp {v i : Int} (h : 0 ≤ i) : (if 0 < (if v < i then v else i) then (if v < i then v else i) else 0) = clampv v i := by
  unfold clampv
  by_cases c1 : v < i
  · rw [if_pos c1]
    by_cases c2 : 0 < v
    · rw [if_pos c2, if_pos (by omega), if_pos (by omega)]
    · rw [if_neg c2]
      by_cases c3 : 0 ≤ v
      · rw [if_pos c3, if_pos (by omega)]; omega
      · rw [if_neg c3]
  · rw [if_neg c1]
    by_cases c2 : 0 < i
    · rw [if_pos c2, if_pos (by omega)]
      by_cases c3 : v ≤ i
      · rw [if_pos c3]; omega
      · rw [if_neg c3]
    · rw [if_neg c2, if_pos (by omega)]
      by_cases c3 : v ≤ i
      · rw [if_pos c3]; omega
      · rw [if_neg c3]; omega
theorem K_rule_r {m : z_M} {cs : List Int} (h5 : (m 251 20 = 0 ∧ cs = [1000, 2, 2047]) ∨ (0 < m 251 20 ∧ m 251 20 ≤ 40 ∧ (∀ k, k < 40 → -128 ≤ m 258 k ∧ m 258 k ≤ 127) ∧ (q_ex (u_nx (fun k => z_and (m 258 k) 255) (m 251 20) 40) 4 0).1 = true ∧ (q_ex (u_nx (fun k => z_and (m 258 k) 255) (m 251 20) 40) 4 0).2.2 = cs)) : r_Hml (c_ml cs) m := by
  intro m2 e258 e20 a ha ha2 k w n hk hrg hW hN
  have ha3 := r_ne251 ha2
  obtain ⟨g1, g2, g3⟩ := hrg
  have gk := g1 k hk
  rw [t_mel_0 ha ha2 m2 k w n ⟨by omega, by omega⟩, Int.toNat_natCast]
  rcases h5 with ⟨h5, h6⟩ | ⟨h5, h6, h7, h8⟩
  · rw [if_pos (by rw [e20]; omega), mm_clamp gk.1.1]
    refine ⟨m2, ?_, z_same.rf⟩
    rw [h6]
    rfl
  · rw [if_neg (by rw [e20]; omega), tn9]
    have s0 : z_same [(259, 0, 6)] m2 (z_up (z_up (z_up (z_up (z_up (z_up (z_up m2 259 0 w) 259 1 (m2 a k)) 259 2 (m2 a (k + 9))) 259 3 (m2 a 36)) 259 4 ((k : Int) / 3)) 259 5 n) 259 6 (m2 a 35)) := ((((((z_same.rf.upo (by (try unfold r_RL); first | exact z_on_h rfl (by omega) (by omega) | exact z_on_t (z_on_h rfl (by omega) (by omega)) | exact z_on_t (z_on_t (z_on_h rfl (by omega) (by omega))) | exact z_on_t (z_on_t (z_on_t (z_on_h rfl (by omega) (by omega)))) | exact z_on_t (z_on_t (z_on_t (z_on_t (z_on_h rfl (by omega) (by omega))))) | exact z_on_t (z_on_t (z_on_t (z_on_t (z_on_t (z_on_h rfl (by omega) (by omega)))))) | exact z_on_t (z_on_t (z_on_t (z_on_t (z_on_t (z_on_t (z_on_h rfl (by omega) (by omega))))))) | exact z_on_t (z_on_t (z_on_t (z_on_t (z_on_t (z_on_t (z_on_t (z_on_h rfl (by omega) (by omega)))))))) | exact z_on_t (z_on_t (z_on_t (z_on_t (z_on_t (z_on_t (z_on_t (z_on_t (z_on_h rfl (by omega) (by omega))))))))) | exact z_on_t (z_on_t (z_on_t (z_on_t (z_on_t (z_on_t (z_on_t (z_on_t (z_on_t (z_on_h rfl (by omega) (by omega)))))))))) | exact z_on_t (z_on_t (z_on_t (z_on_t (z_on_t (z_on_t (z_on_t (z_on_t (z_on_t (z_on_t (z_on_h rfl (by omega) (by omega))))))))))) | exact z_on_t (z_on_t (z_on_t (z_on_t (z_on_t (z_on_t (z_on_t (z_on_t (z_on_t (z_on_t (z_on_t (z_on_h rfl (by omega) (by omega)))))))))))) | exact z_on_t (z_on_t (z_on_t (z_on_t (z_on_t (z_on_t (z_on_t (z_on_t (z_on_t (z_on_t (z_on_t (z_on_t (z_on_h rfl (by omega) (by omega))))))))))))))).upo (by (try unfold r_RL); first | exact z_on_h rfl (by omega) (by omega) | exact z_on_t (z_on_h rfl (by omega) (by omega)) | exact z_on_t (z_on_t (z_on_h rfl (by omega) (by omega))) | exact z_on_t (z_on_t (z_on_t (z_on_h rfl (by omega) (by omega)))) | exact z_on_t (z_on_t (z_on_t (z_on_t (z_on_h rfl (by omega) (by omega))))) | exact z_on_t (z_on_t (z_on_t (z_on_t (z_on_t (z_on_h rfl (by omega) (by omega)))))) | exact z_on_t (z_on_t (z_on_t (z_on_t (z_on_t (z_on_t (z_on_h rfl (by omega) (by omega))))))) | exact z_on_t (z_on_t (z_on_t (z_on_t (z_on_t (z_on_t (z_on_t (z_on_h rfl (by omega) (by omega)))))))) | exact z_on_t (z_on_t (z_on_t (z_on_t (z_on_t (z_on_t (z_on_t (z_on_t (z_on_h rfl (by omega) (by omega))))))))) | exact z_on_t (z_on_t (z_on_t (z_on_t (z_on_t (z_on_t (z_on_t (z_on_t (z_on_t (z_on_h rfl (by omega) (by omega)))))))))) | exact z_on_t (z_on_t (z_on_t (z_on_t (z_on_t (z_on_t (z_on_t (z_on_t (z_on_t (z_on_t (z_on_h rfl (by omega) (by omega))))))))))) | exact z_on_t (z_on_t (z_on_t (z_on_t (z_on_t (z_on_t (z_on_t (z_on_t (z_on_t (z_on_t (z_on_t (z_on_h rfl (by omega) (by omega)))))))))))) | exact z_on_t (z_on_t (z_on_t (z_on_t (z_on_t (z_on_t (z_on_t (z_on_t (z_on_t (z_on_t (z_on_t (z_on_t (z_on_h rfl (by omega) (by omega))))))))))))))).upo (by (try unfold r_RL); first | exact z_on_h rfl (by omega) (by omega) | exact z_on_t (z_on_h rfl (by omega) (by omega)) | exact z_on_t (z_on_t (z_on_h rfl (by omega) (by omega))) | exact z_on_t (z_on_t (z_on_t (z_on_h rfl (by omega) (by omega)))) | exact z_on_t (z_on_t (z_on_t (z_on_t (z_on_h rfl (by omega) (by omega))))) | exact z_on_t (z_on_t (z_on_t (z_on_t (z_on_t (z_on_h rfl (by omega) (by omega)))))) | exact z_on_t (z_on_t (z_on_t (z_on_t (z_on_t (z_on_t (z_on_h rfl (by omega) (by omega))))))) | exact z_on_t (z_on_t (z_on_t (z_on_t (z_on_t (z_on_t (z_on_t (z_on_h rfl (by omega) (by omega)))))))) | exact z_on_t (z_on_t (z_on_t (z_on_t (z_on_t (z_on_t (z_on_t (z_on_t (z_on_h rfl (by omega) (by omega))))))))) | exact z_on_t (z_on_t (z_on_t (z_on_t (z_on_t (z_on_t (z_on_t (z_on_t (z_on_t (z_on_h rfl (by omega) (by omega)))))))))) | exact z_on_t (z_on_t (z_on_t (z_on_t (z_on_t (z_on_t (z_on_t (z_on_t (z_on_t (z_on_t (z_on_h rfl (by omega) (by omega))))))))))) | exact z_on_t (z_on_t (z_on_t (z_on_t (z_on_t (z_on_t (z_on_t (z_on_t (z_on_t (z_on_t (z_on_t (z_on_h rfl (by omega) (by omega)))))))))))) | exact z_on_t (z_on_t (z_on_t (z_on_t (z_on_t (z_on_t (z_on_t (z_on_t (z_on_t (z_on_t (z_on_t (z_on_t (z_on_h rfl (by omega) (by omega))))))))))))))).upo (by (try unfold r_RL); first | exact z_on_h rfl (by omega) (by omega) | exact z_on_t (z_on_h rfl (by omega) (by omega)) | exact z_on_t (z_on_t (z_on_h rfl (by omega) (by omega))) | exact z_on_t (z_on_t (z_on_t (z_on_h rfl (by omega) (by omega)))) | exact z_on_t (z_on_t (z_on_t (z_on_t (z_on_h rfl (by omega) (by omega))))) | exact z_on_t (z_on_t (z_on_t (z_on_t (z_on_t (z_on_h rfl (by omega) (by omega)))))) | exact z_on_t (z_on_t (z_on_t (z_on_t (z_on_t (z_on_t (z_on_h rfl (by omega) (by omega))))))) | exact z_on_t (z_on_t (z_on_t (z_on_t (z_on_t (z_on_t (z_on_t (z_on_h rfl (by omega) (by omega)))))))) | exact z_on_t (z_on_t (z_on_t (z_on_t (z_on_t (z_on_t (z_on_t (z_on_t (z_on_h rfl (by omega) (by omega))))))))) | exact z_on_t (z_on_t (z_on_t (z_on_t (z_on_t (z_on_t (z_on_t (z_on_t (z_on_t (z_on_h rfl (by omega) (by omega)))))))))) | exact z_on_t (z_on_t (z_on_t (z_on_t (z_on_t (z_on_t (z_on_t (z_on_t (z_on_t (z_on_t (z_on_h rfl (by omega) (by omega))))))))))) | exact z_on_t (z_on_t (z_on_t (z_on_t (z_on_t (z_on_t (z_on_t (z_on_t (z_on_t (z_on_t (z_on_t (z_on_h rfl (by omega) (by omega)))))))))))) | exact z_on_t (z_on_t (z_on_t (z_on_t (z_on_t (z_on_t (z_on_t (z_on_t (z_on_t (z_on_t (z_on_t (z_on_t (z_on_h rfl (by omega) (by omega))))))))))))))).upo (by (try unfold r_RL); first | exact z_on_h rfl (by omega) (by omega) | exact z_on_t (z_on_h rfl (by omega) (by omega)) | exact z_on_t (z_on_t (z_on_h rfl (by omega) (by omega))) | exact z_on_t (z_on_t (z_on_t (z_on_h rfl (by omega) (by omega)))) | exact z_on_t (z_on_t (z_on_t (z_on_t (z_on_h rfl (by omega) (by omega))))) | exact z_on_t (z_on_t (z_on_t (z_on_t (z_on_t (z_on_h rfl (by omega) (by omega)))))) | exact z_on_t (z_on_t (z_on_t (z_on_t (z_on_t (z_on_t (z_on_h rfl (by omega) (by omega))))))) | exact z_on_t (z_on_t (z_on_t (z_on_t (z_on_t (z_on_t (z_on_t (z_on_h rfl (by omega) (by omega)))))))) | exact z_on_t (z_on_t (z_on_t (z_on_t (z_on_t (z_on_t (z_on_t (z_on_t (z_on_h rfl (by omega) (by omega))))))))) | exact z_on_t (z_on_t (z_on_t (z_on_t (z_on_t (z_on_t (z_on_t (z_on_t (z_on_t (z_on_h rfl (by omega) (by omega)))))))))) | exact z_on_t (z_on_t (z_on_t (z_on_t (z_on_t (z_on_t (z_on_t (z_on_t (z_on_t (z_on_t (z_on_h rfl (by omega) (by omega))))))))))) | exact z_on_t (z_on_t (z_on_t (z_on_t (z_on_t (z_on_t (z_on_t (z_on_t (z_on_t (z_on_t (z_on_t (z_on_h rfl (by omega) (by omega)))))))))))) | exact z_on_t (z_on_t (z_on_t (z_on_t (z_on_t (z_on_t (z_on_t (z_on_t (z_on_t (z_on_t (z_on_t (z_on_t (z_on_h rfl (by omega) (by omega))))))))))))))).upo (by (try unfold r_RL); first | exact z_on_h rfl (by omega) (by omega) | exact z_on_t (z_on_h rfl (by omega) (by omega)) | exact z_on_t (z_on_t (z_on_h rfl (by omega) (by omega))) | exact z_on_t (z_on_t (z_on_t (z_on_h rfl (by omega) (by omega)))) | exact z_on_t (z_on_t (z_on_t (z_on_t (z_on_h rfl (by omega) (by omega))))) | exact z_on_t (z_on_t (z_on_t (z_on_t (z_on_t (z_on_h rfl (by omega) (by omega)))))) | exact z_on_t (z_on_t (z_on_t (z_on_t (z_on_t (z_on_t (z_on_h rfl (by omega) (by omega))))))) | exact z_on_t (z_on_t (z_on_t (z_on_t (z_on_t (z_on_t (z_on_t (z_on_h rfl (by omega) (by omega)))))))) | exact z_on_t (z_on_t (z_on_t (z_on_t (z_on_t (z_on_t (z_on_t (z_on_t (z_on_h rfl (by omega) (by omega))))))))) | exact z_on_t (z_on_t (z_on_t (z_on_t (z_on_t (z_on_t (z_on_t (z_on_t (z_on_t (z_on_h rfl (by omega) (by omega)))))))))) | exact z_on_t (z_on_t (z_on_t (z_on_t (z_on_t (z_on_t (z_on_t (z_on_t (z_on_t (z_on_t (z_on_h rfl (by omega) (by omega))))))))))) | exact z_on_t (z_on_t (z_on_t (z_on_t (z_on_t (z_on_t (z_on_t (z_on_t (z_on_t (z_on_t (z_on_t (z_on_h rfl (by omega) (by omega)))))))))))) | exact z_on_t (z_on_t (z_on_t (z_on_t (z_on_t (z_on_t (z_on_t (z_on_t (z_on_t (z_on_t (z_on_t (z_on_t (z_on_h rfl (by omega) (by omega))))))))))))))).upo (by (try unfold r_RL); first | exact z_on_h rfl (by omega) (by omega) | exact z_on_t (z_on_h rfl (by omega) (by omega)) | exact z_on_t (z_on_t (z_on_h rfl (by omega) (by omega))) | exact z_on_t (z_on_t (z_on_t (z_on_h rfl (by omega) (by omega)))) | exact z_on_t (z_on_t (z_on_t (z_on_t (z_on_h rfl (by omega) (by omega))))) | exact z_on_t (z_on_t (z_on_t (z_on_t (z_on_t (z_on_h rfl (by omega) (by omega)))))) | exact z_on_t (z_on_t (z_on_t (z_on_t (z_on_t (z_on_t (z_on_h rfl (by omega) (by omega))))))) | exact z_on_t (z_on_t (z_on_t (z_on_t (z_on_t (z_on_t (z_on_t (z_on_h rfl (by omega) (by omega)))))))) | exact z_on_t (z_on_t (z_on_t (z_on_t (z_on_t (z_on_t (z_on_t (z_on_t (z_on_h rfl (by omega) (by omega))))))))) | exact z_on_t (z_on_t (z_on_t (z_on_t (z_on_t (z_on_t (z_on_t (z_on_t (z_on_t (z_on_h rfl (by omega) (by omega)))))))))) | exact z_on_t (z_on_t (z_on_t (z_on_t (z_on_t (z_on_t (z_on_t (z_on_t (z_on_t (z_on_t (z_on_h rfl (by omega) (by omega))))))))))) | exact z_on_t (z_on_t (z_on_t (z_on_t (z_on_t (z_on_t (z_on_t (z_on_t (z_on_t (z_on_t (z_on_t (z_on_h rfl (by omega) (by omega)))))))))))) | exact z_on_t (z_on_t (z_on_t (z_on_t (z_on_t (z_on_t (z_on_t (z_on_t (z_on_t (z_on_t (z_on_t (z_on_t (z_on_h rfl (by omega) (by omega))))))))))))))
    have ev7 : ∀ j, j < 7 → (z_up (z_up (z_up (z_up (z_up (z_up (z_up m2 259 0 w) 259 1 (m2 a k)) 259 2 (m2 a (k + 9))) 259 3 (m2 a 36)) 259 4 ((k : Int) / 3)) 259 5 n) 259 6 (m2 a 35)) 259 j = c_env w (m2 a k) (m2 a (k + 9)) (m2 a 36) ((k : Int) / 3) n (m2 a 35) j := fun j hj => by
      rcases (show j = 0 ∨ j = 1 ∨ j = 2 ∨ j = 3 ∨ j = 4 ∨ j = 5 ∨ j = 6 by omega) with rfl | rfl | rfl | rfl | rfl | rfl | rfl
      · rw [zu_k (by decide), zu_k (by decide), zu_k (by decide), zu_k (by decide), zu_k (by decide), zu_k (by decide), zu_self]; rfl
      · rw [zu_k (by decide), zu_k (by decide), zu_k (by decide), zu_k (by decide), zu_k (by decide), zu_self]; rfl
      · rw [zu_k (by decide), zu_k (by decide), zu_k (by decide), zu_k (by decide), zu_self]; rfl
      · rw [zu_k (by decide), zu_k (by decide), zu_k (by decide), zu_self]; rfl
      · rw [zu_k (by decide), zu_k (by decide), zu_self]; rfl
      · rw [zu_k (by decide), zu_self]; rfl
      · rw [zu_self]; rfl
    have henv : ∀ j, j < 7 → -2147483648 ≤ c_env w (m2 a k) (m2 a (k + 9)) (m2 a 36) ((k : Int) / 3) n (m2 a 35) j ∧ c_env w (m2 a k) (m2 a (k + 9)) (m2 a 36) ((k : Int) / 3) n (m2 a 35) j ≤ 2147483647 := fun j hj => by
      unfold r_i at hW hN
      rcases (show j = 0 ∨ j = 1 ∨ j = 2 ∨ j = 3 ∨ j = 4 ∨ j = 5 ∨ j = 6 by omega) with rfl | rfl | rfl | rfl | rfl | rfl | rfl
      · show -2147483648 ≤ w ∧ w ≤ 2147483647; omega
      · show -2147483648 ≤ m2 a k ∧ m2 a k ≤ 2147483647; omega
      · show -2147483648 ≤ m2 a (k + 9) ∧ m2 a (k + 9) ≤ 2147483647; omega
      · show -2147483648 ≤ m2 a 36 ∧ m2 a 36 ≤ 2147483647; omega
      · show -2147483648 ≤ (k : Int) / 3 ∧ (k : Int) / 3 ≤ 2147483647; omega
      · show -2147483648 ≤ n ∧ n ≤ 2147483647; omega
      · show -2147483648 ≤ m2 a 35 ∧ m2 a 35 ≤ 2147483647; omega
    generalize z_up (z_up (z_up (z_up (z_up (z_up (z_up m2 259 0 w) 259 1 (m2 a k)) 259 2 (m2 a (k + 9))) 259 3 (m2 a 36)) 259 4 ((k : Int) / 3)) 259 5 n) 259 6 (m2 a 35) = m3 at s0 ev7 ⊢
    rw [t_begin_0]
    have s1 : z_same r_RL m2 (z_up (z_up (z_up (z_up (z_up m3 251 12 258) 251 13 (m2 251 20)) 251 14 40) 251 15 0) 251 16 (-1)) := (((((s0.subo (by (try unfold r_RL); (repeat' (first | exact trivial | refine z_sbo_c ?_ ?_)) <;> (intro k h1 h2; first | exact z_on_h rfl (by omega) (by omega) | exact z_on_t (z_on_h rfl (by omega) (by omega)) | exact z_on_t (z_on_t (z_on_h rfl (by omega) (by omega))) | exact z_on_t (z_on_t (z_on_t (z_on_h rfl (by omega) (by omega)))) | exact z_on_t (z_on_t (z_on_t (z_on_t (z_on_h rfl (by omega) (by omega))))) | exact z_on_t (z_on_t (z_on_t (z_on_t (z_on_t (z_on_h rfl (by omega) (by omega)))))) | exact z_on_t (z_on_t (z_on_t (z_on_t (z_on_t (z_on_t (z_on_h rfl (by omega) (by omega))))))) | exact z_on_t (z_on_t (z_on_t (z_on_t (z_on_t (z_on_t (z_on_t (z_on_h rfl (by omega) (by omega)))))))) | exact z_on_t (z_on_t (z_on_t (z_on_t (z_on_t (z_on_t (z_on_t (z_on_t (z_on_h rfl (by omega) (by omega))))))))) | exact z_on_t (z_on_t (z_on_t (z_on_t (z_on_t (z_on_t (z_on_t (z_on_t (z_on_t (z_on_h rfl (by omega) (by omega)))))))))) | exact z_on_t (z_on_t (z_on_t (z_on_t (z_on_t (z_on_t (z_on_t (z_on_t (z_on_t (z_on_t (z_on_h rfl (by omega) (by omega))))))))))) | exact z_on_t (z_on_t (z_on_t (z_on_t (z_on_t (z_on_t (z_on_t (z_on_t (z_on_t (z_on_t (z_on_t (z_on_h rfl (by omega) (by omega)))))))))))) | exact z_on_t (z_on_t (z_on_t (z_on_t (z_on_t (z_on_t (z_on_t (z_on_t (z_on_t (z_on_t (z_on_t (z_on_t (z_on_h rfl (by omega) (by omega)))))))))))))))).upo (by (try unfold r_RL); first | exact z_on_h rfl (by omega) (by omega) | exact z_on_t (z_on_h rfl (by omega) (by omega)) | exact z_on_t (z_on_t (z_on_h rfl (by omega) (by omega))) | exact z_on_t (z_on_t (z_on_t (z_on_h rfl (by omega) (by omega)))) | exact z_on_t (z_on_t (z_on_t (z_on_t (z_on_h rfl (by omega) (by omega))))) | exact z_on_t (z_on_t (z_on_t (z_on_t (z_on_t (z_on_h rfl (by omega) (by omega)))))) | exact z_on_t (z_on_t (z_on_t (z_on_t (z_on_t (z_on_t (z_on_h rfl (by omega) (by omega))))))) | exact z_on_t (z_on_t (z_on_t (z_on_t (z_on_t (z_on_t (z_on_t (z_on_h rfl (by omega) (by omega)))))))) | exact z_on_t (z_on_t (z_on_t (z_on_t (z_on_t (z_on_t (z_on_t (z_on_t (z_on_h rfl (by omega) (by omega))))))))) | exact z_on_t (z_on_t (z_on_t (z_on_t (z_on_t (z_on_t (z_on_t (z_on_t (z_on_t (z_on_h rfl (by omega) (by omega)))))))))) | exact z_on_t (z_on_t (z_on_t (z_on_t (z_on_t (z_on_t (z_on_t (z_on_t (z_on_t (z_on_t (z_on_h rfl (by omega) (by omega))))))))))) | exact z_on_t (z_on_t (z_on_t (z_on_t (z_on_t (z_on_t (z_on_t (z_on_t (z_on_t (z_on_t (z_on_t (z_on_h rfl (by omega) (by omega)))))))))))) | exact z_on_t (z_on_t (z_on_t (z_on_t (z_on_t (z_on_t (z_on_t (z_on_t (z_on_t (z_on_t (z_on_t (z_on_t (z_on_h rfl (by omega) (by omega))))))))))))))).upo (by (try unfold r_RL); first | exact z_on_h rfl (by omega) (by omega) | exact z_on_t (z_on_h rfl (by omega) (by omega)) | exact z_on_t (z_on_t (z_on_h rfl (by omega) (by omega))) | exact z_on_t (z_on_t (z_on_t (z_on_h rfl (by omega) (by omega)))) | exact z_on_t (z_on_t (z_on_t (z_on_t (z_on_h rfl (by omega) (by omega))))) | exact z_on_t (z_on_t (z_on_t (z_on_t (z_on_t (z_on_h rfl (by omega) (by omega)))))) | exact z_on_t (z_on_t (z_on_t (z_on_t (z_on_t (z_on_t (z_on_h rfl (by omega) (by omega))))))) | exact z_on_t (z_on_t (z_on_t (z_on_t (z_on_t (z_on_t (z_on_t (z_on_h rfl (by omega) (by omega)))))))) | exact z_on_t (z_on_t (z_on_t (z_on_t (z_on_t (z_on_t (z_on_t (z_on_t (z_on_h rfl (by omega) (by omega))))))))) | exact z_on_t (z_on_t (z_on_t (z_on_t (z_on_t (z_on_t (z_on_t (z_on_t (z_on_t (z_on_h rfl (by omega) (by omega)))))))))) | exact z_on_t (z_on_t (z_on_t (z_on_t (z_on_t (z_on_t (z_on_t (z_on_t (z_on_t (z_on_t (z_on_h rfl (by omega) (by omega))))))))))) | exact z_on_t (z_on_t (z_on_t (z_on_t (z_on_t (z_on_t (z_on_t (z_on_t (z_on_t (z_on_t (z_on_t (z_on_h rfl (by omega) (by omega)))))))))))) | exact z_on_t (z_on_t (z_on_t (z_on_t (z_on_t (z_on_t (z_on_t (z_on_t (z_on_t (z_on_t (z_on_t (z_on_t (z_on_h rfl (by omega) (by omega))))))))))))))).upo (by (try unfold r_RL); first | exact z_on_h rfl (by omega) (by omega) | exact z_on_t (z_on_h rfl (by omega) (by omega)) | exact z_on_t (z_on_t (z_on_h rfl (by omega) (by omega))) | exact z_on_t (z_on_t (z_on_t (z_on_h rfl (by omega) (by omega)))) | exact z_on_t (z_on_t (z_on_t (z_on_t (z_on_h rfl (by omega) (by omega))))) | exact z_on_t (z_on_t (z_on_t (z_on_t (z_on_t (z_on_h rfl (by omega) (by omega)))))) | exact z_on_t (z_on_t (z_on_t (z_on_t (z_on_t (z_on_t (z_on_h rfl (by omega) (by omega))))))) | exact z_on_t (z_on_t (z_on_t (z_on_t (z_on_t (z_on_t (z_on_t (z_on_h rfl (by omega) (by omega)))))))) | exact z_on_t (z_on_t (z_on_t (z_on_t (z_on_t (z_on_t (z_on_t (z_on_t (z_on_h rfl (by omega) (by omega))))))))) | exact z_on_t (z_on_t (z_on_t (z_on_t (z_on_t (z_on_t (z_on_t (z_on_t (z_on_t (z_on_h rfl (by omega) (by omega)))))))))) | exact z_on_t (z_on_t (z_on_t (z_on_t (z_on_t (z_on_t (z_on_t (z_on_t (z_on_t (z_on_t (z_on_h rfl (by omega) (by omega))))))))))) | exact z_on_t (z_on_t (z_on_t (z_on_t (z_on_t (z_on_t (z_on_t (z_on_t (z_on_t (z_on_t (z_on_t (z_on_h rfl (by omega) (by omega)))))))))))) | exact z_on_t (z_on_t (z_on_t (z_on_t (z_on_t (z_on_t (z_on_t (z_on_t (z_on_t (z_on_t (z_on_t (z_on_t (z_on_h rfl (by omega) (by omega))))))))))))))).upo (by (try unfold r_RL); first | exact z_on_h rfl (by omega) (by omega) | exact z_on_t (z_on_h rfl (by omega) (by omega)) | exact z_on_t (z_on_t (z_on_h rfl (by omega) (by omega))) | exact z_on_t (z_on_t (z_on_t (z_on_h rfl (by omega) (by omega)))) | exact z_on_t (z_on_t (z_on_t (z_on_t (z_on_h rfl (by omega) (by omega))))) | exact z_on_t (z_on_t (z_on_t (z_on_t (z_on_t (z_on_h rfl (by omega) (by omega)))))) | exact z_on_t (z_on_t (z_on_t (z_on_t (z_on_t (z_on_t (z_on_h rfl (by omega) (by omega))))))) | exact z_on_t (z_on_t (z_on_t (z_on_t (z_on_t (z_on_t (z_on_t (z_on_h rfl (by omega) (by omega)))))))) | exact z_on_t (z_on_t (z_on_t (z_on_t (z_on_t (z_on_t (z_on_t (z_on_t (z_on_h rfl (by omega) (by omega))))))))) | exact z_on_t (z_on_t (z_on_t (z_on_t (z_on_t (z_on_t (z_on_t (z_on_t (z_on_t (z_on_h rfl (by omega) (by omega)))))))))) | exact z_on_t (z_on_t (z_on_t (z_on_t (z_on_t (z_on_t (z_on_t (z_on_t (z_on_t (z_on_t (z_on_h rfl (by omega) (by omega))))))))))) | exact z_on_t (z_on_t (z_on_t (z_on_t (z_on_t (z_on_t (z_on_t (z_on_t (z_on_t (z_on_t (z_on_t (z_on_h rfl (by omega) (by omega)))))))))))) | exact z_on_t (z_on_t (z_on_t (z_on_t (z_on_t (z_on_t (z_on_t (z_on_t (z_on_t (z_on_t (z_on_t (z_on_t (z_on_h rfl (by omega) (by omega))))))))))))))).upo (by (try unfold r_RL); first | exact z_on_h rfl (by omega) (by omega) | exact z_on_t (z_on_h rfl (by omega) (by omega)) | exact z_on_t (z_on_t (z_on_h rfl (by omega) (by omega))) | exact z_on_t (z_on_t (z_on_t (z_on_h rfl (by omega) (by omega)))) | exact z_on_t (z_on_t (z_on_t (z_on_t (z_on_h rfl (by omega) (by omega))))) | exact z_on_t (z_on_t (z_on_t (z_on_t (z_on_t (z_on_h rfl (by omega) (by omega)))))) | exact z_on_t (z_on_t (z_on_t (z_on_t (z_on_t (z_on_t (z_on_h rfl (by omega) (by omega))))))) | exact z_on_t (z_on_t (z_on_t (z_on_t (z_on_t (z_on_t (z_on_t (z_on_h rfl (by omega) (by omega)))))))) | exact z_on_t (z_on_t (z_on_t (z_on_t (z_on_t (z_on_t (z_on_t (z_on_t (z_on_h rfl (by omega) (by omega))))))))) | exact z_on_t (z_on_t (z_on_t (z_on_t (z_on_t (z_on_t (z_on_t (z_on_t (z_on_t (z_on_h rfl (by omega) (by omega)))))))))) | exact z_on_t (z_on_t (z_on_t (z_on_t (z_on_t (z_on_t (z_on_t (z_on_t (z_on_t (z_on_t (z_on_h rfl (by omega) (by omega))))))))))) | exact z_on_t (z_on_t (z_on_t (z_on_t (z_on_t (z_on_t (z_on_t (z_on_t (z_on_t (z_on_t (z_on_t (z_on_h rfl (by omega) (by omega)))))))))))) | exact z_on_t (z_on_t (z_on_t (z_on_t (z_on_t (z_on_t (z_on_t (z_on_t (z_on_t (z_on_t (z_on_t (z_on_t (z_on_h rfl (by omega) (by omega))))))))))))))
    have q12 : (z_up (z_up (z_up (z_up (z_up m3 251 12 258) 251 13 (m2 251 20)) 251 14 40) 251 15 0) 251 16 (-1)) 251 12 = 258 := by rw [zu_k (by decide), zu_k (by decide), zu_k (by decide), zu_k (by decide), zu_self]
    have q13 : (z_up (z_up (z_up (z_up (z_up m3 251 12 258) 251 13 (m2 251 20)) 251 14 40) 251 15 0) 251 16 (-1)) 251 13 = m2 251 20 := by rw [zu_k (by decide), zu_k (by decide), zu_k (by decide), zu_self]
    have q14 : (z_up (z_up (z_up (z_up (z_up m3 251 12 258) 251 13 (m2 251 20)) 251 14 40) 251 15 0) 251 16 (-1)) 251 14 = 40 := by rw [zu_k (by decide), zu_k (by decide), zu_self]
    have q15 : (z_up (z_up (z_up (z_up (z_up m3 251 12 258) 251 13 (m2 251 20)) 251 14 40) 251 15 0) 251 16 (-1)) 251 15 = 0 := by rw [zu_k (by decide), zu_self]
    have q16 : (z_up (z_up (z_up (z_up (z_up m3 251 12 258) 251 13 (m2 251 20)) 251 14 40) 251 15 0) 251 16 (-1)) 251 16 = -1 := zu_self
    have q259 : (z_up (z_up (z_up (z_up (z_up m3 251 12 258) 251 13 (m2 251 20)) 251 14 40) 251 15 0) 251 16 (-1)) 259 = m3 259 := by rw [zu_rowne (by decide), zu_rowne (by decide), zu_rowne (by decide), zu_rowne (by decide), zu_rowne (by decide)]
    show ∃ m', ((some (z_up (z_up (z_up (z_up (z_up m3 251 12 258) 251 13 (m2 251 20)) 251 14 40) 251 15 0) 251 16 (-1), none) : Option z_Q).bind fun qq => z_R 189 (qq.1, 92, [(2, 251), (2, ((a : Nat) : Int)), (0, (k : Int)), (0, w), (0, n), (0, z_div w 2)], qq.2.toList ++ [])) = _ ∧ _
    generalize z_up (z_up (z_up (z_up (z_up m3 251 12 258) 251 13 (m2 251 20)) 251 14 40) 251 15 0) 251 16 (-1) = m4 at s1 q12 q13 q14 q15 q16 q259 ⊢
    have u259 : (z_up m4 251 21 1) 259 = m3 259 := (zu_rowne (by decide)).trans q259
    have u258 : (z_up m4 251 21 1) 258 = m 258 := ((zu_rowne (by decide)).trans (s1.ofr (by (try unfold r_RL); (repeat' (first | exact trivial | refine z_ofr_c ?_ ?_)) <;> omega))).trans e258
    have hB : r_RB 258 (u_nx (fun k => z_and (m 258 k) 255) (m 251 20) 40) (z_up m4 251 21 1) := by
      refine ⟨⟨by rw [zu_k (by decide)]; exact q12, Or.inr rfl, by rw [zu_k (by decide)]; exact q14, by rw [zu_k (by decide), q13, e20]; omega, by rw [zu_k (by decide), q15]; omega, ?_, ?_⟩, by rw [zu_k (by decide)]; exact q16, by rw [zu_k (by decide), q15]; omega, Or.inr zu_self, fun j hj => ?_⟩
      · rw [u258, zu_k (by decide), q13, e20]
      · rw [u258]; exact h7
      · rw [u259, ev7 j hj]; exact henv j hj
    obtain ⟨m5, v, a1, a2, a3, a4⟩ := r_exprs (P := 258) (g := u_nx (fun k => z_and (m 258 k) 255) (m 251 20) 40) 4 (by decide) (z_up m4 251 21 1) hB
    rw [show (z_up m4 251 21 1) 251 15 = 0 from (zu_k (by decide)).trans q15, show 4 - (4 - 4) = 4 from rfl] at a3
    obtain ⟨-, -, -, b4⟩ := a3 h8.1
    have bv := b4 zu_self
    rw [u259, h8.2] at bv
    have a1 : z_R 176 (z_up m4 251 21 1, 0, [(2, 251), (0, 0), (9, 0)], []) = some (m5, some (0, v)) := a1
    have s2 : z_same r_RL m2 m5 := (s1.upo (p := 251) (k := 21) (v := 1) (by (try unfold r_RL); first | exact z_on_h rfl (by omega) (by omega) | exact z_on_t (z_on_h rfl (by omega) (by omega)) | exact z_on_t (z_on_t (z_on_h rfl (by omega) (by omega))) | exact z_on_t (z_on_t (z_on_t (z_on_h rfl (by omega) (by omega)))) | exact z_on_t (z_on_t (z_on_t (z_on_t (z_on_h rfl (by omega) (by omega))))) | exact z_on_t (z_on_t (z_on_t (z_on_t (z_on_t (z_on_h rfl (by omega) (by omega)))))) | exact z_on_t (z_on_t (z_on_t (z_on_t (z_on_t (z_on_t (z_on_h rfl (by omega) (by omega))))))) | exact z_on_t (z_on_t (z_on_t (z_on_t (z_on_t (z_on_t (z_on_t (z_on_h rfl (by omega) (by omega)))))))) | exact z_on_t (z_on_t (z_on_t (z_on_t (z_on_t (z_on_t (z_on_t (z_on_t (z_on_h rfl (by omega) (by omega))))))))) | exact z_on_t (z_on_t (z_on_t (z_on_t (z_on_t (z_on_t (z_on_t (z_on_t (z_on_t (z_on_h rfl (by omega) (by omega)))))))))) | exact z_on_t (z_on_t (z_on_t (z_on_t (z_on_t (z_on_t (z_on_t (z_on_t (z_on_t (z_on_t (z_on_h rfl (by omega) (by omega))))))))))) | exact z_on_t (z_on_t (z_on_t (z_on_t (z_on_t (z_on_t (z_on_t (z_on_t (z_on_t (z_on_t (z_on_t (z_on_h rfl (by omega) (by omega)))))))))))) | exact z_on_t (z_on_t (z_on_t (z_on_t (z_on_t (z_on_t (z_on_t (z_on_t (z_on_t (z_on_t (z_on_t (z_on_t (z_on_h rfl (by omega) (by omega))))))))))))))).tr (a2.subo (by (try unfold r_RL); (repeat' (first | exact trivial | refine z_sbo_c ?_ ?_)) <;> (intro k h1 h2; first | exact z_on_h rfl (by omega) (by omega) | exact z_on_t (z_on_h rfl (by omega) (by omega)) | exact z_on_t (z_on_t (z_on_h rfl (by omega) (by omega))) | exact z_on_t (z_on_t (z_on_t (z_on_h rfl (by omega) (by omega)))) | exact z_on_t (z_on_t (z_on_t (z_on_t (z_on_h rfl (by omega) (by omega))))) | exact z_on_t (z_on_t (z_on_t (z_on_t (z_on_t (z_on_h rfl (by omega) (by omega)))))) | exact z_on_t (z_on_t (z_on_t (z_on_t (z_on_t (z_on_t (z_on_h rfl (by omega) (by omega))))))) | exact z_on_t (z_on_t (z_on_t (z_on_t (z_on_t (z_on_t (z_on_t (z_on_h rfl (by omega) (by omega)))))))) | exact z_on_t (z_on_t (z_on_t (z_on_t (z_on_t (z_on_t (z_on_t (z_on_t (z_on_h rfl (by omega) (by omega))))))))) | exact z_on_t (z_on_t (z_on_t (z_on_t (z_on_t (z_on_t (z_on_t (z_on_t (z_on_t (z_on_h rfl (by omega) (by omega)))))))))) | exact z_on_t (z_on_t (z_on_t (z_on_t (z_on_t (z_on_t (z_on_t (z_on_t (z_on_t (z_on_t (z_on_h rfl (by omega) (by omega))))))))))) | exact z_on_t (z_on_t (z_on_t (z_on_t (z_on_t (z_on_t (z_on_t (z_on_t (z_on_t (z_on_t (z_on_t (z_on_h rfl (by omega) (by omega)))))))))))) | exact z_on_t (z_on_t (z_on_t (z_on_t (z_on_t (z_on_t (z_on_t (z_on_t (z_on_t (z_on_t (z_on_t (z_on_t (z_on_h rfl (by omega) (by omega))))))))))))))))
    have s3 : z_same r_RL m2 (z_up m5 251 21 0) := s2.upo (by (try unfold r_RL); first | exact z_on_h rfl (by omega) (by omega) | exact z_on_t (z_on_h rfl (by omega) (by omega)) | exact z_on_t (z_on_t (z_on_h rfl (by omega) (by omega))) | exact z_on_t (z_on_t (z_on_t (z_on_h rfl (by omega) (by omega)))) | exact z_on_t (z_on_t (z_on_t (z_on_t (z_on_h rfl (by omega) (by omega))))) | exact z_on_t (z_on_t (z_on_t (z_on_t (z_on_t (z_on_h rfl (by omega) (by omega)))))) | exact z_on_t (z_on_t (z_on_t (z_on_t (z_on_t (z_on_t (z_on_h rfl (by omega) (by omega))))))) | exact z_on_t (z_on_t (z_on_t (z_on_t (z_on_t (z_on_t (z_on_t (z_on_h rfl (by omega) (by omega)))))))) | exact z_on_t (z_on_t (z_on_t (z_on_t (z_on_t (z_on_t (z_on_t (z_on_t (z_on_h rfl (by omega) (by omega))))))))) | exact z_on_t (z_on_t (z_on_t (z_on_t (z_on_t (z_on_t (z_on_t (z_on_t (z_on_t (z_on_h rfl (by omega) (by omega)))))))))) | exact z_on_t (z_on_t (z_on_t (z_on_t (z_on_t (z_on_t (z_on_t (z_on_t (z_on_t (z_on_t (z_on_h rfl (by omega) (by omega))))))))))) | exact z_on_t (z_on_t (z_on_t (z_on_t (z_on_t (z_on_t (z_on_t (z_on_t (z_on_t (z_on_t (z_on_t (z_on_h rfl (by omega) (by omega)))))))))))) | exact z_on_t (z_on_t (z_on_t (z_on_t (z_on_t (z_on_t (z_on_t (z_on_t (z_on_t (z_on_t (z_on_t (z_on_t (z_on_h rfl (by omega) (by omega))))))))))))))
    have eA : m5 a k = m2 a k := s2.of (by (try unfold r_RL); (repeat' (first | exact trivial | refine z_of_c ?_ ?_)) <;> omega)
    refine ⟨z_up m5 251 21 0, ?_, s3⟩
    rw [zb_n, t_mel_92 ha ha2 m4 k w n _ ⟨by omega, by omega⟩, a1, zb_v, t_mel_102 ha ha2 m5 k w n _ v ⟨by omega, by omega⟩, Int.toNat_natCast, eA, mm_clamp gk.1.1]
    unfold c_ml
    rw [ev_cg (env' := m3 259) (fun j hj => (ev7 j hj).symm), bv []]
    rfl
end
section
/-! WHERE ANYONE IS, AND ANY ICE: in a ROOM that there is -/
def wi (w h n : Nat) (A : Nat → Int) : Prop := (∀ p, p < n → A (p + 18) = -1 ∨ ¬ u_hs (w : Int) (h : Int) (A (p + 18)) = 0) ∧ (∀ k : Nat, k < 9 → u_hs (w : Int) (h : Int) (k : Int) = 0 → A k = 0 ∧ A (k + 9) = 0) ∧ (A 34 = -1 ∨ ¬ u_hs (w : Int) (h : Int) (A 34) = 0)
section
variable {w h n : Nat} {A : Nat → Int}
theorem wi_off (n5 : n ≤ 5) (hi : wi w h n A) {j : Nat} {v : Int} (hj : 23 ≤ j) (h34 : ¬ 34 = j) : wi w h n (u_up A j v) := by
  refine ⟨fun p hp => ?_, fun k hk hz => ?_, by rw [u_up_ne (by omega)]; exact hi.2.2⟩
  · rw [u_up_ne (by omega)]
    exact hi.1 p hp
  · rw [u_up_ne (by omega), u_up_ne (by omega)]
    exact hi.2.1 k hk hz
/-- ice or water of a ROOM that there is -/
theorem wi_lo (hi : wi w h n A) {r : Nat} {v : Int} (hr : r < 9) (hx : ¬ u_hs (w : Int) (h : Int) (r : Int) = 0) : wi w h n (u_up A r v) := by
  refine ⟨fun p hp => ?_, fun k hk hz => ?_, by rw [u_up_ne (by omega)]; exact hi.2.2⟩
  · rw [u_up_ne (by omega)]
    exact hi.1 p hp
  · have hn : ¬ k = r := fun z => hx (by rw [← z]; exact hz)
    rw [u_up_ne hn, u_up_ne (by omega)]
    exact hi.2.1 k hk hz
theorem wi_wa (hi : wi w h n A) {r : Nat} {v : Int} (hr : r < 9) (hx : ¬ u_hs (w : Int) (h : Int) (r : Int) = 0) : wi w h n (u_up A (r + 9) v) := by
  refine ⟨fun p hp => ?_, fun k hk hz => ?_, by rw [u_up_ne (by omega)]; exact hi.2.2⟩
  · rw [u_up_ne (by omega)]
    exact hi.1 p hp
  · have hn : ¬ k = r := fun z => hx (by rw [← z]; exact hz)
    rw [u_up_ne (by omega), u_up_ne (by omega)]
    exact hi.2.1 k hk hz
theorem wi_go (n5 : n ≤ 5) (hi : wi w h n A) {p : Nat} {v : Int} (hv : v = -1 ∨ ¬ u_hs (w : Int) (h : Int) v = 0) (hp5 : p < 5) : wi w h n (u_up A (p + 18) v) := by
  refine ⟨fun q hq => ?_, fun k hk hz => ?_, by rw [u_up_ne (by omega)]; exact hi.2.2⟩
  · by_cases e : q = p
    · rw [e, u_up_self]
      exact hv
    · rw [u_up_ne (by omega)]
      exact hi.1 q hq
  · rw [u_up_ne (by omega), u_up_ne (by omega)]
    exact hi.2.1 k hk hz
theorem wi_st (hi : wi w h n A) {v : Int} (n5 : n ≤ 5) (hv : v = -1 ∨ ¬ u_hs (w : Int) (h : Int) v = 0) : wi w h n (u_up A 34 v) := by
  refine ⟨fun p hp => ?_, fun k hk hz => ?_, by rw [u_up_self]; exact hv⟩
  · rw [u_up_ne (by omega)]
    exact hi.1 p hp
  · rw [u_up_ne (by omega), u_up_ne (by omega)]
    exact hi.2.1 k hk hz
theorem wi_o (n5 : n ≤ 5) {wm : Nat → Int} {price : Int} : ∀ (f x : Nat) (A : Nat → Int), x + f ≤ 5 → wi w h n A → wi w h n (hr_o wm price f x A) := by
  intro f
  induction f with
  | zero => intro x A hx hi; exact hi
  | succ f ih =>
    intro x A hx hi
    unfold hr_o
    by_cases c : A (x + 18) = -1
    · rw [if_pos c]
      exact ih (x + 1) A (by omega) hi
    · rw [if_neg c]
      exact ih (x + 1) _ (by omega) (wi_off n5 hi (by omega) (by omega))
theorem wi_d1 (n5 : n ≤ 5) (hi : wi w h n A) {u e : Int} {r : Nat} (hr : r < 9) (hx : ¬ u_hs (w : Int) (h : Int) (r : Int) = 0) (hu : u = 0 ∨ (r + 3 < 9 ∧ ¬ u_hs (w : Int) (h : Int) ((r + 3 : Nat) : Int) = 0)) : wi w h n (hr_d1 u e r A) := by
  unfold hr_d1
  refine wi_lo (wi_wa ?_ hr hx) hr hx
  by_cases c : u = 0
  · rw [if_pos c]
    exact wi_off n5 hi (by decide) (by decide)
  · rw [if_neg c]
    rcases hu with z | z
    · exact absurd z c
    · exact wi_wa (r := r + 3) hi z.1 z.2
theorem wi_x (hw : w ≤ 3) (hh : h ≤ 3) (n5 : n ≤ 5) {e : Nat → Int} {y : Nat} (hy : y < h) : ∀ (f x : Nat) (A : Nat → Int), x + f = w → wi w h n A → wi w h n (hr_x h e y f x A) := by
  intro f
  induction f with
  | zero => intro x A hx hi; exact hi
  | succ f ih =>
    intro x A hx hi
    show wi w h n (hr_x h e y f (x + 1) (hr_d1 (if y + 1 = h then 0 else 1) (e (3 * y + x)) (3 * y + x) A))
    refine ih (x + 1) _ (by omega) (wi_d1 n5 hi (by omega) ?_ ?_)
    · rw [u_hs_eq hw hh (by omega), if_pos (by omega)]
      decide
    · by_cases c : y + 1 = h
      · exact Or.inl (if_pos c)
      · refine Or.inr ⟨by omega, ?_⟩
        rw [u_hs_eq hw hh (by omega), if_pos (by omega)]
        decide
theorem wi_y (hw : w ≤ 3) (hh : h ≤ 3) (n5 : n ≤ 5) {e : Nat → Int} : ∀ (y : Nat) (A : Nat → Int), y ≤ h → wi w h n A → wi w h n (hr_y w h e y A) := by
  intro y
  induction y with
  | zero => intro A hy hi; exact hi
  | succ y ih =>
    intro A hy hi
    show wi w h n (hr_y w h e y (hr_x h e y w 0 A))
    exact ih _ (by omega) (wi_x hw hh n5 (by omega) w 0 A (by omega) hi)
theorem wi_F : ∀ (f x : Nat) (A : Nat → Int), x + f = 9 → wi w h n A → wi w h n (hr_F (w : Int) (h : Int) f x A) := by
  intro f
  induction f with
  | zero => intro x A hx hi; exact hi
  | succ f ih =>
    intro x A hx hi
    unfold hr_F
    by_cases c : u_hs (w : Int) (h : Int) (x : Int) = 0
    · rw [if_pos c]
      exact ih (x + 1) A (by omega) hi
    · rw [if_neg c]
      refine ih (x + 1) _ (by omega) ?_
      unfold hr_f
      exact wi_lo (wi_wa hi (by omega) c) (by omega) c
theorem wi_p (n5 : n ≤ 5) {r to : Int} (hto : to = -1 ∨ ¬ u_hs (w : Int) (h : Int) to = 0) : ∀ (f x : Nat) (A : Nat → Int) (fb fm : Int), x + f ≤ 5 → wi w h n A → wi w h n (hr_p r to f x A fb fm).1 := by
  intro f
  induction f with
  | zero => intro x A fb fm hx hi; exact hi
  | succ f ih =>
    intro x A fb fm hx hi
    unfold hr_p
    by_cases c : A (x + 18) = r
    · rw [if_pos c]
      exact ih (x + 1) _ _ _ (by omega) (wi_off n5 (wi_go n5 hi hto (by omega)) (by omega) (by omega))
    · rw [if_neg c]
      exact ih (x + 1) A _ _ (by omega) hi
theorem wi_k (hw : w ≤ 3) (hh : h ≤ 3) (n5 : n ≤ 5) : ∀ (f x : Nat) (A : Nat → Int) (g fb fm : Int), wi w h n A → wi w h n (hr_k (w : Int) (h : Int) n f x A g fb fm).1 := by
  intro f
  induction f with
  | zero => intro x A g fb fm hi; exact hi
  | succ f ih =>
    intro x A g fb fm hi
    unfold hr_k
    by_cases c : u_hs (w : Int) (h : Int) (x : Int) = 0
    · rw [if_pos c]
      exact ih (x + 1) A _ _ _ hi
    · rw [if_neg c]
      by_cases d : A x = 0
      · rw [if_pos d]
        have hto : hr_to (w : Int) (h : Int) x = -1 ∨ ¬ u_hs (w : Int) (h : Int) (hr_to (w : Int) (h : Int) x) = 0 := by
          unfold hr_to
          by_cases z : u_hs (w : Int) (h : Int) ((x : Int) + 3) = 0
          · rw [if_pos z]
            exact Or.inl rfl
          · rw [if_neg z]
            exact Or.inr z
        refine ih (x + 1) _ _ _ _ (wi_p n5 hto n 0 _ fb fm (by omega) ?_)
        unfold hr_st
        by_cases s : A 34 = (x : Int)
        · rw [if_pos s]
          exact wi_st hi n5 hto
        · rw [if_neg s]
          exact hi
      · rw [if_neg d]
        exact ih (x + 1) A _ _ _ hi
theorem wi_A (hw : w ≤ 3) (hh : h ≤ 3) (n5 : n ≤ 5) {heat price : Int} {ml : hr_M} {wm : Nat → Int} (hi : wi w h n A) : wi w h n (hr_A w h heat price ml wm n A) := wi_off n5 (wi_k hw hh n5 9 0 _ 0 0 0 (wi_F 9 0 _ (by decide) (wi_y hw hh n5 h _ (Nat.le_refl _) (wi_o n5 n 0 A (by omega) hi)))) (by decide) (by decide)
theorem wi_H (hw : w ≤ 3) (hh : h ≤ 3) (n5 : n ≤ 5) {heat price : Int} {ml : hr_M} {wmt : Int → Nat → Int} : ∀ (f : Nat) (A : Nat → Int) (M G F T : Int), wi w h n A → wi w h n (hr_H w h heat price ml wmt n f A M G F T).1 := by
  intro f
  induction f with
  | zero => intro A M G F T hi; exact hi
  | succ f ih =>
    intro A M G F T hi
    exact ih _ _ _ _ _ (wi_A hw hh n5 hi)
end
/-- so of now, of what undo brings back, of what is kept; columns and storeys go together -/
def w_W (w h n : Nat) (A : Nat → Int) (c : Nat) (U : Nat → Nat → Int) (kn : Nat → Int) (KS : Nat → Nat → Int) : Prop := (w = 0 ↔ h = 0) ∧ wi w h n A ∧ (∀ i, i < c → wi w h n (U i)) ∧ ∀ i, i < 2 → kn i = (n : Int) → wi w h n (KS i)
theorem w_W_A {w h n : Nat} {A B : Nat → Int} {c : Nat} {U : Nat → Nat → Int} {kn : Nat → Int} {KS : Nat → Nat → Int} (hW : w_W w h n A c U kn KS) (hB : wi w h n B) : w_W w h n B c U kn KS := ⟨hW.1, hB, hW.2.2⟩
theorem w_W_0 {w h n : Nat} {A : Nat → Int} {U : Nat → Nat → Int} {kn : Nat → Int} {KS : Nat → Nat → Int} (h0 : w = 0 ↔ h = 0) (hA : wi w h n A) (hk : ∀ i, i < 2 → ¬ kn i = (n : Int)) : w_W w h n A 0 U kn KS := ⟨h0, hA, fun i hi => absurd hi (Nat.not_lt_zero i), fun i hi z => absurd z (hk i hi)⟩
theorem w_W_keep {w h n : Nat} {A : Nat → Int} {c : Nat} {U : Nat → Nat → Int} {kn : Nat → Int} {KS : Nat → Nat → Int} {i : Nat} (hW : w_W w h n A c U kn KS) : w_W w h n A c U (u_up kn i (n : Int)) (fun j => if j = i then A else KS j) := ⟨hW.1, hW.2.1, hW.2.2.1, fun j hj hk => by
  show wi w h n (if j = i then A else KS j)
  by_cases e : j = i
  · rw [if_pos e]
    exact hW.2.1
  · rw [if_neg e]
    rw [u_up_ne e] at hk
    exact hW.2.2.2 j hj hk⟩
theorem w_W_again {w h n : Nat} {A : Nat → Int} {c : Nat} {U : Nat → Nat → Int} {kn : Nat → Int} {KS : Nat → Nat → Int} {i : Nat} (hW : w_W w h n A c U kn KS) (hi : i < 2) (hk : kn i = (n : Int)) : w_W w h n (KS i) 0 U kn KS := ⟨hW.1, hW.2.2.2 i hi hk, fun j hj => absurd hj (Nat.not_lt_zero j), hW.2.2.2⟩
theorem w_W_un {w h n : Nat} {A : Nat → Int} {c j : Nat} {U : Nat → Nat → Int} {kn : Nat → Int} {KS : Nat → Nat → Int} (hc : c = j + 1) (hW : w_W w h n A c U kn KS) : w_W w h n (U 0) j (fun i => U (i + 1)) kn KS := ⟨hW.1, hW.2.2.1 0 (by omega), fun i hi => hW.2.2.1 (i + 1) (by omega), hW.2.2.2⟩
end
section
/-! WHAT BOTH ARE IN: rooms, people, doings, the State, what can be undone, what is kept, the rule -/
def C_hit (p lo hi : Nat) : Bool := decide ((12 ≤ p ∧ p ≤ 17) ∨ (31 ≤ p ∧ p ≤ 115) ∨ p = 8 ∨ p = 5 ∨ (p = 3 ∧ 8 ≤ hi) ∨ (p = 24 ∧ lo ≤ 5 ∧ 4 ≤ hi) ∨ (p = 28 ∧ 3 ≤ hi) ∨ (p = 4 ∧ 3 ≤ hi))
def C_hitB (p lo hi : Nat) : Bool := (Nat.ble 12 p && Nat.ble p 17) || ((Nat.ble 31 p && Nat.ble p 115) || (Nat.beq p 8 || (Nat.beq p 5 || ((Nat.beq p 3 && Nat.ble 8 hi) || ((Nat.beq p 24 && (Nat.ble lo 5 && Nat.ble 4 hi)) || ((Nat.beq p 28 && Nat.ble 3 hi) || (Nat.beq p 4 && Nat.ble 3 hi)))))))
theorem C_hitB_eq (p lo hi : Nat) : C_hit p lo hi = C_hitB p lo hi := by
  rw [Bool.eq_iff_iff]
  unfold C_hit C_hitB
  simp only [decide_eq_true_eq, Bool.or_eq_true, Bool.and_eq_true, Nat.ble_eq, Nat.beq_eq]
theorem C_hit_mono {p k lo hi : Nat} (h : C_hit p k k = true) (h1 : lo ≤ k) (h2 : k ≤ hi) : C_hit p lo hi = true := by
  unfold C_hit at h ⊢
  refine decide_eq_true ?_
  rcases of_decide_eq_true h with a | a | a | a | a | a | a | a
  · exact Or.inl a
  · exact Or.inr (Or.inl a)
  · exact Or.inr (Or.inr (Or.inl a))
  · exact Or.inr (Or.inr (Or.inr (Or.inl a)))
  · exact Or.inr (Or.inr (Or.inr (Or.inr (Or.inl ⟨a.1, by omega⟩))))
  · exact Or.inr (Or.inr (Or.inr (Or.inr (Or.inr (Or.inl ⟨a.1, by omega, by omega⟩)))))
  · exact Or.inr (Or.inr (Or.inr (Or.inr (Or.inr (Or.inr (Or.inl ⟨a.1, by omega⟩))))))
  · exact Or.inr (Or.inr (Or.inr (Or.inr (Or.inr (Or.inr (Or.inr ⟨a.1, by omega⟩))))))
theorem hit_st {p k : Nat} (h1 : 12 ≤ p) (h2 : p ≤ 17) : C_hit p k k = true := by
  unfold C_hit
  exact decide_eq_true (Or.inl ⟨h1, h2⟩)
theorem hit_dk {p k : Nat} (h1 : 31 ≤ p) (h2 : p ≤ 115) : C_hit p k k = true := by
  unfold C_hit
  exact decide_eq_true (Or.inr (Or.inl ⟨h1, h2⟩))
theorem hit_8 {k : Nat} : C_hit 8 k k = true := by
  unfold C_hit
  exact decide_eq_true (Or.inr (Or.inr (Or.inl rfl)))
theorem hit_5 {k : Nat} : C_hit 5 k k = true := by
  unfold C_hit
  exact decide_eq_true (Or.inr (Or.inr (Or.inr (Or.inl rfl))))
noncomputable def C_off (y : Nat) : Bool := (cs_at y).all fun C => C.2.2.2.2.1.all fun q => !(C_hitB q.1 q.2.1 q.2.2)
theorem C_off_ok {y : Nat} (h : C_off y = true) {C : A_C} (hC : C ∈ cs_at y) {alts : List A_A} {T : Int} {ρ : List Int} {σ σ' : m_H} {r : Option Value} (hp : c_post alts C.2.2.2.2.1 T ρ σ r σ') : ∀ p k, C_hit p k k = true → z_m σ' p k = z_m σ p k := fun p k hk => by
  have e := (c_post_h hp).2 p k (fun ⟨q, q1, q2, q3, q4⟩ => by
    have := List.all_eq_true.mp (List.all_eq_true.mp h C hC) q q1
    rw [← C_hitB_eq, q2, C_hit_mono hk q3 q4] at this
    cases this)
  unfold z_m
  rw [e]
def R_hit (p lo hi : Nat) : Bool := decide (p = 252 ∨ p = 253 ∨ p = 258 ∨ p = 260 ∨ (275 ≤ p ∧ p ≤ 277) ∨ (p = 251 ∧ ((lo ≤ 3 ∧ 1 ≤ hi) ∨ (lo ≤ 6 ∧ 5 ≤ hi) ∨ (lo ≤ 20 ∧ 20 ≤ hi) ∨ (lo ≤ 23 ∧ 23 ≤ hi) ∨ (lo ≤ 25 ∧ 25 ≤ hi) ∨ (lo ≤ 52 ∧ 52 ≤ hi))))
def R_hitB (p lo hi : Nat) : Bool := Nat.beq p 252 || (Nat.beq p 253 || (Nat.beq p 258 || (Nat.beq p 260 || ((Nat.ble 275 p && Nat.ble p 277) || (Nat.beq p 251 && ((Nat.ble lo 3 && Nat.ble 1 hi) || ((Nat.ble lo 6 && Nat.ble 5 hi) || ((Nat.ble lo 20 && Nat.ble 20 hi) || ((Nat.ble lo 23 && Nat.ble 23 hi) || ((Nat.ble lo 25 && Nat.ble 25 hi) || (Nat.ble lo 52 && Nat.ble 52 hi)))))))))))
theorem R_hitB_eq (p lo hi : Nat) : R_hit p lo hi = R_hitB p lo hi := by
  rw [Bool.eq_iff_iff]
  unfold R_hit R_hitB
  simp only [decide_eq_true_eq, Bool.or_eq_true, Bool.and_eq_true, Nat.ble_eq, Nat.beq_eq]
theorem R_hit_mono {p k lo hi : Nat} (h : R_hit p k k = true) (h1 : lo ≤ k) (h2 : k ≤ hi) : R_hit p lo hi = true := by
  unfold R_hit at h ⊢
  refine decide_eq_true ?_
  rcases of_decide_eq_true h with a | a | a | a | a | ⟨a, b⟩
  · exact Or.inl a
  · exact Or.inr (Or.inl a)
  · exact Or.inr (Or.inr (Or.inl a))
  · exact Or.inr (Or.inr (Or.inr (Or.inl a)))
  · exact Or.inr (Or.inr (Or.inr (Or.inr (Or.inl a))))
  · refine Or.inr (Or.inr (Or.inr (Or.inr (Or.inr ⟨a, ?_⟩))))
    rcases b with b | b | b | b | b | b
    · exact Or.inl ⟨by omega, by omega⟩
    · exact Or.inr (Or.inl ⟨by omega, by omega⟩)
    · exact Or.inr (Or.inr (Or.inl ⟨by omega, by omega⟩))
    · exact Or.inr (Or.inr (Or.inr (Or.inl ⟨by omega, by omega⟩)))
    · exact Or.inr (Or.inr (Or.inr (Or.inr (Or.inl ⟨by omega, by omega⟩))))
    · exact Or.inr (Or.inr (Or.inr (Or.inr (Or.inr ⟨by omega, by omega⟩))))
theorem hit_252 {k : Nat} : R_hit 252 k k = true := by
  unfold R_hit
  exact decide_eq_true (Or.inl rfl)
theorem hit_253 {k : Nat} : R_hit 253 k k = true := by
  unfold R_hit
  exact decide_eq_true (Or.inr (Or.inl rfl))
theorem hit_258 {k : Nat} : R_hit 258 k k = true := by
  unfold R_hit
  exact decide_eq_true (Or.inr (Or.inr (Or.inl rfl)))
theorem hit_260 {k : Nat} : R_hit 260 k k = true := by
  unfold R_hit
  exact decide_eq_true (Or.inr (Or.inr (Or.inr (Or.inl rfl))))
theorem hit_27 {p k : Nat} (h1 : 275 ≤ p) (h2 : p ≤ 277) : R_hit p k k = true := by
  unfold R_hit
  exact decide_eq_true (Or.inr (Or.inr (Or.inr (Or.inr (Or.inl ⟨h1, h2⟩)))))
noncomputable def R_off2 (y : Nat) : Bool := (cs_at y).all fun C => C.2.2.2.2.1.all fun q => !(R_hitB q.1 q.2.1 q.2.2)
theorem R_off2_ok {y : Nat} (h : R_off2 y = true) {C : A_C} (hC : C ∈ cs_at y) {alts : List A_A} {T : Int} {ρ : List Int} {σ σ' : m_H} {r : Option Value} (hp : c_post alts C.2.2.2.2.1 T ρ σ r σ') : ∀ p k, R_hit p k k = true → z_m σ' p k = z_m σ p k := fun p k hk => by
  have e := (c_post_h hp).2 p k (fun ⟨q, q1, q2, q3, q4⟩ => by
    have := List.all_eq_true.mp (List.all_eq_true.mp h C hC) q q1
    rw [← R_hitB_eq, q2, R_hit_mono hk q3 q4] at this
    cases this)
  unfold z_m
  rw [e]
/-- what can be undone: so many, the last first -/
def c_un (n : Int) (c : Nat) (U : Nat → Nat → Int) (m : z_M) : Prop := (0 ≤ m 28 3 ∧ m 28 3 ≤ 11) ∧ m 28 4 = (c : Int) ∧ c ≤ 12 ∧ ∀ i, i < c → cS m (32 + 6 * (((m 28 3).toNat + 11 - i) % 12)) n = U i
def r_un (n : Int) (c : Nat) (U : Nat → Nat → Int) (m : z_M) : Prop := m 251 25 = (c : Int) ∧ c ≤ 12 ∧ ∀ i, i < c → uR m 260 (c - 1 - i) n = U i
/-- the reference's rule -/
def r_ru (cs : List Int) (m : z_M) : Prop := (m 251 20 = 0 ∧ cs = [1000, 2, 2047]) ∨ (0 < m 251 20 ∧ m 251 20 ≤ 40 ∧ (∀ k, k < 40 → -128 ≤ m 258 k ∧ m 258 k ≤ 127) ∧ (q_ex (u_nx (fun k => z_and (m 258 k) 255) (m 251 20) 40) 4 0).1 = true ∧ (q_ex (u_nx (fun k => z_and (m 258 k) 255) (m 251 20) 40) 4 0).2.2 = cs)
/-- one that is kept, of the reference; v the persons that it speaks of, or -1 -/
def r_kp (n : Nat) (v : Int) (S : Nat → Int) (i : Nat) (m : z_M) : Prop := ((m 276 i = 0 ∧ v = -1) ∨ (m 276 i = 1 ∧ ∃ d : Nat, 0 ≤ v ∧ v + (d : Int) ≤ (n : Int) ∧ (d = 0 → v = (n : Int)) ∧ m 251 52 = (Int32.ofInt (m 277 i + (d : Int))).toInt ∧ -2147483648 ≤ m 277 i ∧ m 277 i ≤ 2147483647)) ∧ (v = (n : Int) → uR m 275 i n = S)
def C_is (w h n : Nat) (heat price : Int) (D A : Nat → Int) (c : Nat) (U : Nat → Nat → Int) (kn : Nat → Int) (KS : Nat → Nat → Int) (cs : List Int) (m : z_M) : Prop := (m 3 8 = (w : Int) ∧ m 3 9 = (h : Int) ∧ m 3 11 = (n : Int) ∧ m 3 12 = heat ∧ m 3 13 = price ∧ (∀ r : Nat, r < 9 → (z_and (z_shr (m 3 10) (r : Int)) 1 = 0 ↔ u_hs (w : Int) (h : Int) (r : Int) = 0)) ∧ m 24 4 = -1 ∧ m 24 5 = 0) ∧ (∀ j, j < 30 → m 8 j = D j) ∧ cS m 12 n = A ∧ c_un n c U m ∧ (∀ i, i < 2 → m 31 i = kn i ∧ (kn i = (n : Int) → cS m (104 + 6 * i) n = KS i)) ∧ (m 4 3 = (cs.length : Int) ∧ cs.length ≤ 40 ∧ (∀ c ∈ cs, c ≤ 2147483647) ∧ cds (m 5) 0 cs)
def R_is (w h n : Nat) (heat price : Int) (D A : Nat → Int) (c : Nat) (U : Nat → Nat → Int) (kn : Nat → Int) (KS : Nat → Nat → Int) (cs : List Int) (m : z_M) : Prop := (m 251 1 = (w : Int) ∧ m 251 2 = (h : Int) ∧ m 251 3 = (n : Int) ∧ m 251 5 = heat ∧ m 251 6 = price ∧ m 251 23 = -1) ∧ (∀ j, j < 30 → m 253 j = D j) ∧ rS m 252 n = A ∧ r_un n c U m ∧ (∀ i, i < 2 → r_kp n (kn i) (KS i) i m) ∧ r_ru cs m
section
variable {w h n : Nat} {heat price : Int} {D A A' : Nat → Int} {c c' : Nat} {U U' : Nat → Nat → Int} {kn : Nat → Int} {KS : Nat → Nat → Int} {cs : List Int} {m m' : z_M}
theorem cS_fr {s : Nat} {n : Int} (hs : ∀ j k, j ≤ 5 → (j = 0 → 5 ≤ k) → m' (s + j) k = m (s + j) k) : cS m' s n = cS m s n := cS_rows (funext fun k => hs 1 k (by decide) (fun z => absurd z (by decide))) (funext fun k => hs 2 k (by decide) (fun z => absurd z (by decide))) (funext fun k => hs 3 k (by decide) (fun z => absurd z (by decide))) (funext fun k => hs 4 k (by decide) (fun z => absurd z (by decide))) (funext fun k => hs 5 k (by decide) (fun z => absurd z (by decide))) (fun k h1 _ => hs 0 k (by decide) (fun _ => h1))
theorem C_mk0 {heat' price' : Int} {D' : Nat → Int} (hi : C_is w h n heat price D A c U kn KS cs m) (h3 : ∀ k, 8 ≤ k → k ≤ 11 → m' 3 k = m 3 k) (h12 : m' 3 12 = heat') (h13 : m' 3 13 = price') (hD : ∀ j, j < 30 → m' 8 j = D' j) (hf : ∀ p k, C_hit p k k = true → ¬ p = 3 → ¬ p = 8 → ¬ (12 ≤ p ∧ p ≤ 17) → ¬ p = 28 → ¬ (32 ≤ p ∧ p ≤ 103) → m' p k = m p k) (hA : cS m' 12 n = A') (hU : c_un n c' U' m') : C_is w h n heat' price' D' A' c' U' kn KS cs m' := by
  obtain ⟨⟨a1, a2, a3, a4, a5, a6, a7, a8⟩, b, -, -, e, f1, f2, f3, f4⟩ := hi
  have e5 : m' 5 = m 5 := funext fun k => hf 5 k hit_5 (by decide) (by decide) (by decide) (by decide) (by decide)
  refine ⟨⟨?_, ?_, ?_, h12, h13, ?_, ?_, ?_⟩, hD, hA, hU, fun i hi => ⟨(hf 31 i (hit_dk (by decide) (by decide)) (by decide) (by decide) (by decide) (by decide) (by decide)).trans (e i hi).1, fun hv => ?_⟩, ?_, f2, f3, by rw [e5]; exact f4⟩
  · rw [h3 8 (by decide) (by decide)]; exact a1
  · rw [h3 9 (by decide) (by decide)]; exact a2
  · rw [h3 11 (by decide) (by decide)]; exact a3
  · rw [h3 10 (by decide) (by decide)]; exact a6
  · exact (hf 24 4 (by decide) (by decide) (by decide) (by decide) (by decide) (by decide)).trans a7
  · exact (hf 24 5 (by decide) (by decide) (by decide) (by decide) (by decide) (by decide)).trans a8
  · rw [cS_fr (fun j k hj _ => hf (104 + 6 * i + j) k (hit_dk (by omega) (by omega)) (by omega) (by omega) (by omega) (by omega) (by omega))]
    exact (e i hi).2 hv
  · exact (hf 4 3 (by decide) (by decide) (by decide) (by decide) (by decide) (by decide)).trans f1
theorem C_mk (hi : C_is w h n heat price D A c U kn KS cs m) (hf : ∀ p k, C_hit p k k = true → ¬ (12 ≤ p ∧ p ≤ 17) → ¬ p = 28 → ¬ (32 ≤ p ∧ p ≤ 103) → m' p k = m p k) (hA : cS m' 12 n = A') (hU : c_un n c' U' m') : C_is w h n heat price D A' c' U' kn KS cs m' := by
  have e3 : ∀ k, 8 ≤ k → m' 3 k = m 3 k := fun k hk => hf 3 k (by
    unfold C_hit
    exact decide_eq_true (Or.inr (Or.inr (Or.inr (Or.inr (Or.inl ⟨rfl, hk⟩)))))) (by decide) (by decide) (by decide)
  exact C_mk0 hi (fun k h1 _ => e3 k h1) ((e3 12 (by decide)).trans hi.1.2.2.2.1) ((e3 13 (by decide)).trans hi.1.2.2.2.2.1) (fun j hj => (hf 8 j hit_8 (by decide) (by decide) (by decide)).trans (hi.2.1 j hj)) (fun p k h1 _ _ h2 h3 h4 => hf p k h1 h2 h3 h4) hA hU
theorem c_un_fr (hu : c_un n c U m) (hf : ∀ p k, (p = 28 ∧ 3 ≤ k) ∨ (32 ≤ p ∧ p ≤ 103) → m' p k = m p k) : c_un n c U m' := by
  obtain ⟨a1, a2, a3, a4⟩ := hu
  have e3 : m' 28 3 = m 28 3 := hf 28 3 (Or.inl ⟨rfl, by decide⟩)
  have e4 : m' 28 4 = m 28 4 := hf 28 4 (Or.inl ⟨rfl, by decide⟩)
  refine ⟨by rw [e3]; exact a1, by rw [e4]; exact a2, a3, fun i hi => ?_⟩
  rw [e3, cS_fr (fun j k hj _ => hf _ k (Or.inr (by omega)))]
  exact a4 i hi
theorem hit_28 {k : Nat} (h : 3 ≤ k) : C_hit 28 k k = true := by
  unfold C_hit
  exact decide_eq_true (Or.inr (Or.inr (Or.inr (Or.inr (Or.inr (Or.inr (Or.inl ⟨rfl, h⟩)))))))
theorem c_un_fr' (hu : c_un n c U m) (hf : ∀ p k, C_hit p k k = true → ¬ (12 ≤ p ∧ p ≤ 17) → m' p k = m p k) : c_un n c U m' := c_un_fr hu fun p k hp => by
  rcases hp with ⟨rfl, h3⟩ | hp
  · exact hf 28 k (hit_28 h3) (by decide)
  · exact hf p k (hit_dk (by omega) (by omega)) (by omega)
/-- the State alone is another -/
theorem C_mkA (hi : C_is w h n heat price D A c U kn KS cs m) (hf : ∀ p k, C_hit p k k = true → ¬ (12 ≤ p ∧ p ≤ 17) → m' p k = m p k) (hA : cS m' 12 n = A') : C_is w h n heat price D A' c U kn KS cs m' := C_mk hi (fun p k h1 h2 _ _ => hf p k h1 h2) hA (c_un_fr' hi.2.2.2.1 hf)
theorem C_fr (hi : C_is w h n heat price D A c U kn KS cs m) (hf : ∀ p k, C_hit p k k = true → m' p k = m p k) : C_is w h n heat price D A c U kn KS cs m' := C_mkA hi (fun p k h1 _ => hf p k h1) (by
  rw [cS_fr (fun j k hj _ => hf (12 + j) k (hit_st (by omega) (by omega)))]
  exact hi.2.2.1)
theorem R_mk0 {heat' price' : Int} {D' : Nat → Int} (hi : R_is w h n heat price D A c U kn KS cs m) (h5 : m' 251 5 = heat') (h6 : m' 251 6 = price') (hD : ∀ j, j < 30 → m' 253 j = D' j) (hf : ∀ p k, R_hit p k k = true → ¬ p = 252 → ¬ p = 253 → ¬ p = 260 → ¬ (p = 251 ∧ (k = 5 ∨ k = 6 ∨ k = 25)) → m' p k = m p k) (hA : rS m' 252 n = A') (hU : r_un n c' U' m') : R_is w h n heat' price' D' A' c' U' kn KS cs m' := by
  obtain ⟨⟨a1, a2, a3, a4, a5, a6⟩, b, -, -, e, f⟩ := hi
  refine ⟨⟨?_, ?_, ?_, h5, h6, ?_⟩, hD, hA, hU, fun i hi => ?_, ?_⟩
  · exact (hf 251 1 (by decide) (by decide) (by decide) (by decide) (by decide)).trans a1
  · exact (hf 251 2 (by decide) (by decide) (by decide) (by decide) (by decide)).trans a2
  · exact (hf 251 3 (by decide) (by decide) (by decide) (by decide) (by decide)).trans a3
  · exact (hf 251 23 (by decide) (by decide) (by decide) (by decide) (by decide)).trans a6
  · have e52 : m' 251 52 = m 251 52 := hf 251 52 (by decide) (by decide) (by decide) (by decide) (by decide)
    have e6 : m' 276 i = m 276 i := hf 276 i (hit_27 (by decide) (by decide)) (by decide) (by decide) (by decide) (by omega)
    have e7 : m' 277 i = m 277 i := hf 277 i (hit_27 (by decide) (by decide)) (by decide) (by decide) (by decide) (by omega)
    obtain ⟨k1, k2⟩ := e i hi
    unfold r_kp
    rw [e52, e6, e7, uR_row (fun k _ => hf 275 (37 * i + k) (hit_27 (by decide) (by decide)) (by decide) (by decide) (by decide) (by omega))]
    exact ⟨k1, k2⟩
  · have e20 : m' 251 20 = m 251 20 := hf 251 20 (by decide) (by decide) (by decide) (by decide) (by decide)
    have e258 : m' 258 = m 258 := funext fun k => hf 258 k hit_258 (by decide) (by decide) (by decide) (by omega)
    unfold r_ru
    rw [e20, e258]
    exact f
theorem R_mk (hi : R_is w h n heat price D A c U kn KS cs m) (hf : ∀ p k, R_hit p k k = true → ¬ p = 252 → ¬ p = 260 → ¬ (p = 251 ∧ k = 25) → m' p k = m p k) (hA : rS m' 252 n = A') (hU : r_un n c' U' m') : R_is w h n heat price D A' c' U' kn KS cs m' := R_mk0 hi ((hf 251 5 (by decide) (by omega) (by omega) (by omega)).trans hi.1.2.2.2.1) ((hf 251 6 (by decide) (by omega) (by omega) (by omega)).trans hi.1.2.2.2.2.1) (fun j hj => (hf 253 j hit_253 (by omega) (by omega) (by omega)).trans (hi.2.1 j hj)) (fun p k h1 h2 _ h3 h4 => hf p k h1 h2 h3 (fun z => h4 ⟨z.1, Or.inr (Or.inr z.2)⟩)) hA hU
theorem r_un_fr (hu : r_un n c U m) (hf : ∀ p k, (p = 251 ∧ k = 25) ∨ p = 260 → m' p k = m p k) : r_un n c U m' := by
  obtain ⟨a1, a2, a3⟩ := hu
  refine ⟨(hf 251 25 (Or.inl ⟨rfl, rfl⟩)).trans a1, a2, fun i hi => ?_⟩
  rw [uR_row (fun k _ => hf 260 _ (Or.inr rfl))]
  exact a3 i hi
theorem r_un_fr' (hu : r_un n c U m) (hf : ∀ p k, R_hit p k k = true → ¬ p = 252 → m' p k = m p k) : r_un n c U m' := r_un_fr hu fun p k hp => by
  rcases hp with ⟨rfl, rfl⟩ | rfl
  · exact hf 251 25 (by decide) (by decide)
  · exact hf 260 k hit_260 (by decide)
theorem R_mkA (hi : R_is w h n heat price D A c U kn KS cs m) (hf : ∀ p k, R_hit p k k = true → ¬ p = 252 → m' p k = m p k) (hA : rS m' 252 n = A') : R_is w h n heat price D A' c U kn KS cs m' := R_mk hi (fun p k h1 h2 _ _ => hf p k h1 h2) hA (r_un_fr' hi.2.2.2.1 hf)
theorem X_up {p0 k0 p k : Nat} {v : Int} (hn : ¬ (p = p0 ∧ k = k0)) : z_up m p0 k0 v p k = m p k := by
  unfold z_up
  rw [if_neg hn]
theorem R_fr (hi : R_is w h n heat price D A c U kn KS cs m) (hf : ∀ p k, R_hit p k k = true → m' p k = m p k) : R_is w h n heat price D A c U kn KS cs m' := R_mkA hi (fun p k h1 _ => hf p k h1) (by
  rw [rS_row (funext fun k => hf 252 k hit_252)]
  exact hi.2.2.1)
/-- the rule alone is another -/
theorem C_mkR {cs' : List Int} (hi : C_is w h n heat price D A c U kn KS cs m) (hf : ∀ p k, C_hit p k k = true → ¬ p = 4 → ¬ p = 5 → m' p k = m p k) (hr : m' 4 3 = (cs'.length : Int) ∧ cs'.length ≤ 40 ∧ (∀ c ∈ cs', c ≤ 2147483647) ∧ cds (m' 5) 0 cs') : C_is w h n heat price D A c U kn KS cs' m' := by
  obtain ⟨⟨a1, a2, a3, a4, a5, a6, a7, a8⟩, b, d, u, e, -⟩ := hi
  have e3 : ∀ k, 8 ≤ k → m' 3 k = m 3 k := fun k hk => hf 3 k (by
    unfold C_hit
    exact decide_eq_true (Or.inr (Or.inr (Or.inr (Or.inr (Or.inl ⟨rfl, hk⟩)))))) (by decide) (by decide)
  refine ⟨⟨?_, ?_, ?_, ?_, ?_, ?_, ?_, ?_⟩, fun j hj => (hf 8 j hit_8 (by decide) (by decide)).trans (b j hj), ?_, c_un_fr u (fun p k hp => ?_), fun i hi => ⟨(hf 31 i (hit_dk (by decide) (by decide)) (by decide) (by decide)).trans (e i hi).1, fun hv => ?_⟩, hr⟩
  · rw [e3 8 (by decide)]; exact a1
  · rw [e3 9 (by decide)]; exact a2
  · rw [e3 11 (by decide)]; exact a3
  · rw [e3 12 (by decide)]; exact a4
  · rw [e3 13 (by decide)]; exact a5
  · rw [e3 10 (by decide)]; exact a6
  · exact (hf 24 4 (by decide) (by decide) (by decide)).trans a7
  · exact (hf 24 5 (by decide) (by decide) (by decide)).trans a8
  · rw [cS_fr (fun j k hj _ => hf (12 + j) k (hit_st (by omega) (by omega)) (by omega) (by omega))]
    exact d
  · rcases hp with ⟨rfl, h3⟩ | hp
    · exact hf 28 k (hit_28 h3) (by decide) (by decide)
    · exact hf p k (hit_dk (by omega) (by omega)) (by omega) (by omega)
  · rw [cS_fr (fun j k hj _ => hf (104 + 6 * i + j) k (hit_dk (by omega) (by omega)) (by omega) (by omega))]
    exact (e i hi).2 hv
theorem R_mkR {cs' : List Int} (hi : R_is w h n heat price D A c U kn KS cs m) (hf : ∀ p k, R_hit p k k = true → ¬ p = 258 → ¬ (p = 251 ∧ k = 20) → m' p k = m p k) (hr : r_ru cs' m') : R_is w h n heat price D A c U kn KS cs' m' := by
  obtain ⟨⟨a1, a2, a3, a4, a5, a6⟩, b, d, u, e, -⟩ := hi
  refine ⟨⟨?_, ?_, ?_, ?_, ?_, ?_⟩, fun j hj => (hf 253 j hit_253 (by omega) (by omega)).trans (b j hj), ?_, r_un_fr u (fun p k hp => ?_), fun i hi => ?_, hr⟩
  · exact (hf 251 1 (by decide) (by decide) (by decide)).trans a1
  · exact (hf 251 2 (by decide) (by decide) (by decide)).trans a2
  · exact (hf 251 3 (by decide) (by decide) (by decide)).trans a3
  · exact (hf 251 5 (by decide) (by decide) (by decide)).trans a4
  · exact (hf 251 6 (by decide) (by decide) (by decide)).trans a5
  · exact (hf 251 23 (by decide) (by decide) (by decide)).trans a6
  · rw [rS_row (funext fun k => hf 252 k hit_252 (by omega) (by omega))]
    exact d
  · rcases hp with ⟨rfl, rfl⟩ | rfl
    · exact hf 251 25 (by decide) (by decide) (by decide)
    · exact hf 260 k hit_260 (by omega) (by omega)
  · have e52 : m' 251 52 = m 251 52 := hf 251 52 (by decide) (by decide) (by decide)
    have e6 : m' 276 i = m 276 i := hf 276 i (hit_27 (by omega) (by omega)) (by omega) (by omega)
    have e7 : m' 277 i = m 277 i := hf 277 i (hit_27 (by omega) (by omega)) (by omega) (by omega)
    obtain ⟨k1, k2⟩ := e i hi
    unfold r_kp
    rw [e52, e6, e7, uR_row (fun k _ => hf 275 (37 * i + k) (hit_27 (by omega) (by omega)) (by omega) (by omega))]
    exact ⟨k1, k2⟩
/-- a cell that is none of these -/
theorem C_upn {p0 k0 : Nat} {v : Int} (hi : C_is w h n heat price D A c U kn KS cs m) (hn : C_hit p0 k0 k0 = false) : C_is w h n heat price D A c U kn KS cs (z_up m p0 k0 v) := C_fr hi fun p k hk => X_up fun z => by
  rw [z.1, z.2, hn] at hk
  cases hk
theorem R_upn {p0 k0 : Nat} {v : Int} (hi : R_is w h n heat price D A c U kn KS cs m) (hn : R_hit p0 k0 k0 = false) : R_is w h n heat price D A c U kn KS cs (z_up m p0 k0 v) := R_fr hi fun p k hk => X_up fun z => by
  rw [z.1, z.2, hn] at hk
  cases hk
end
/-- both, alike -/
def Core (m : z_M) : Prop := ∃ (w h n : Nat) (heat price : Int) (D A : Nat → Int) (c : Nat) (U : Nat → Nat → Int) (kn : Nat → Int) (KS : Nat → Nat → Int) (cs : List Int), C_is w h n heat price D A c U kn KS cs m ∧ R_is w h n heat price D A c U kn KS cs m ∧ w_W w h n A c U kn KS
theorem Core_mk {w h n : Nat} {heat price : Int} {D A : Nat → Int} {c : Nat} {U : Nat → Nat → Int} {kn : Nat → Int} {KS : Nat → Nat → Int} {cs : List Int} {m : z_M} (h1 : C_is w h n heat price D A c U kn KS cs m) (h2 : R_is w h n heat price D A c U kn KS cs m) (hW : w_W w h n A c U kn KS) : Core m := ⟨w, h, n, heat, price, D, A, c, U, kn, KS, cs, h1, h2, hW⟩
theorem R_inj {X : Option z_Q} {m1 m2 : z_M} {x y : Int} (h1 : X = some (m1, some (0, x))) (h2 : X = some (m2, some (0, y))) : m1 = m2 ∧ x = y := by
  rw [h1] at h2
  have e := Option.some.inj h2
  exact ⟨congrArg Prod.fst e, congrArg (fun z : z_Q => (z.2.getD (0, 0)).2) e⟩
/-- the class's call, then the reference's -/
theorem core_do {y1 y2 : Nat} {G1 G2 : z_G} {σ1 σ2 : m_H} {v1 v2 : Int32} {x : Int} {Cp Rp Rp' : z_M → Prop} (hR : Rp (z_m σ1)) (f2 : Cp (z_m σ1) → Cp (z_m σ2)) (hc : ∃ m1, z_R y1 G1 = some (m1, some (0, x)) ∧ Cp m1) (hr : Rp (z_m σ1) → ∃ m2, z_R y2 G2 = some (m2, some (0, x)) ∧ Rp' m2) (hE1 : z_R y1 G1 = some (z_m σ1, some (0, v1.toInt))) (hE2 : z_R y2 G2 = some (z_m σ2, some (0, v2.toInt))) : (Cp (z_m σ2) ∧ Rp' (z_m σ2)) ∧ v1 = v2 := by
  obtain ⟨m1, a1, a2⟩ := hc
  obtain ⟨b1, b2⟩ := R_inj a1 hE1
  subst b1
  obtain ⟨m2, c1, c2⟩ := hr hR
  obtain ⟨d1, d2⟩ := R_inj c1 hE2
  subst d1
  exact ⟨⟨f2 a2, c2⟩, Int32.toInt_inj.mp (b2.symm.trans d2)⟩
/-! numbers of the cells -/
theorem z_rng3 {B : Int} {σ : m_H} (h : h_ok B σ) {p k : Nat} {lo hi : Int} (hp : p < h_N) (hk : k < h_ln p) (ht : h_ty p k = (3, lo, hi)) : 0 ≤ z_m σ p k ∧ z_m σ p k ≤ B := by
  obtain ⟨vs, h1, h2, h3⟩ := h.2 p hp
  have hv : vs[k]? = some (vs[k]'(by omega)) := List.getElem?_eq_getElem _
  have h4 := (h3 k _ hv).1
  rw [ht] at h4
  obtain ⟨x, hx, g1, g2⟩ : ∃ x : Int32, vs[k]'(by omega) = .int x ∧ 0 ≤ x.toInt ∧ x.toInt ≤ B := h4
  rw [z_m_at h1 hv, hx]
  exact ⟨g1, g2⟩
def wmD (D : Nat → Int) (t : Int) (p : Nat) : Int := D (6 * p + (t % 6).toNat)
theorem core_b {w h n : Nat} {heat price : Int} {D A : Nat → Int} {c : Nat} {U : Nat → Nat → Int} {kn : Nat → Int} {KS : Nat → Nat → Int} {cs : List Int} {M1 : Int} {σ : m_H} (hh : h_ok M1 σ) (hM : M1 ≤ 1073741824) (hR : R_is w h n heat price D A c U kn KS cs (z_m σ)) : (w ≤ 3 ∧ h ≤ 3 ∧ n ≤ 5) ∧ (0 ≤ heat ∧ heat ≤ 9) ∧ (0 ≤ price ∧ price ≤ 9) ∧ (∀ j, j < 30 → 0 ≤ D j ∧ D j ≤ 9) ∧ hr_ok n A ∧ (0 ≤ A 35 ∧ A 35 ≤ 1073741824) ∧ (-1 ≤ A 34 ∧ A 34 ≤ 9) ∧ ∀ t : Int, 0 ≤ t → ∀ p, p < 5 → 0 ≤ wmD D t p ∧ wmD D t p ≤ 9 := by
  obtain ⟨⟨a1, a2, a3, a4, a5, -⟩, b, d, -⟩ := hR
  have r1 := z_rng hh (p := 251) (k := 1) (lo := 0) (hi := 3) (by decide) (by decide +kernel) (by decide +kernel)
  have r2 := z_rng hh (p := 251) (k := 2) (lo := 0) (hi := 3) (by decide) (by decide +kernel) (by decide +kernel)
  have r3 := z_rng hh (p := 251) (k := 3) (lo := 0) (hi := 5) (by decide) (by decide +kernel) (by decide +kernel)
  have r5 := z_rng hh (p := 251) (k := 5) (lo := 0) (hi := 9) (by decide) (by decide +kernel) (by decide +kernel)
  have r6 := z_rng hh (p := 251) (k := 6) (lo := 0) (hi := 9) (by decide) (by decide +kernel) (by decide +kernel)
  have l252 : h_ln 252 = 37 := by decide +kernel
  have l253 : h_ln 253 = 30 := by decide +kernel
  have hD : ∀ j, j < 30 → 0 ≤ D j ∧ D j ≤ 9 := fun j hj => by
    have t : ∀ j, j < 30 → h_ty 253 j = (0, 0, 9) := by decide +kernel
    rw [← b j hj]
    exact z_rng hh (by decide) (by rw [l253]; exact hj) (t j hj)
  have n5 : n ≤ 5 := by omega
  refine ⟨⟨by omega, by omega, n5⟩, by omega, by omega, hD, ⟨fun k hk => ?_, fun k hk => ?_, fun p hp => ?_, ?_⟩, ?_, ?_, fun t ht p hp => ?_⟩
  · have t : ∀ k, k < 9 → h_ty 252 k = (0, 0, 99) := by decide +kernel
    rw [← d, rS_at (by omega) (a_vis_lo (by omega))]
    exact z_rng hh (by decide) (by rw [l252]; omega) (t k hk)
  · have t : ∀ k, k < 9 → h_ty 252 (k + 9) = (0, 0, 99 * ((k / 3 + 1 : Nat) : Int)) := by decide +kernel
    rw [← d, rS_at (by omega) (a_vis_lo (by omega))]
    exact z_rng hh (by decide) (by rw [l252]; omega) (t k hk)
  · have t : ∀ p, p < 5 → h_ty 252 (p + 18) = (0, -1, 8) := by decide +kernel
    rw [← d, rS_at (by omega) (a_vis_p (b := 18) (p := p) (by omega) (by omega) (by omega) (by omega))]
    exact z_rng hh (by decide) (by rw [l252]; omega) (t p (by omega))
  · rw [← d, rS_at (by omega) (a_vis_hi (by omega))]
    exact z_rng hh (by decide) (by rw [l252]; decide) (by decide +kernel)
  · rw [← d, rS_at (by omega) (a_vis_hi (by omega))]
    have := z_rng3 hh (p := 252) (k := 35) (lo := 0) (hi := 0) (by decide) (by rw [l252]; decide) (by decide +kernel)
    omega
  · rw [← d, rS_at (by omega) (a_vis_hi (by omega))]
    exact z_rng hh (p := 252) (k := 34) (lo := -1) (hi := 9) (by decide) (by rw [l252]; decide) (by decide +kernel)
  · have hm : 0 ≤ t % 6 ∧ t % 6 < 6 := ⟨Int.emod_nonneg _ (by decide), Int.emod_lt_of_pos _ (by decide)⟩
    exact hD _ (by omega)
theorem cw_D {D : Nat → Int} {m : z_M} (h4 : m 24 4 = -1) (h5 : m 24 5 = 0) (h8 : ∀ j, j < 30 → m 8 j = D j) {t : Int} (ht : 0 ≤ t) {p : Nat} (hp : p < 5) : cw m p t = wmD D t p := by
  have hm : 0 ≤ t % 6 ∧ t % 6 < 6 := ⟨Int.emod_nonneg _ (by decide), Int.emod_lt_of_pos _ (by decide)⟩
  have ej : (6 * (p : Int) + t % 6).toNat = 6 * p + (t % 6).toNat := by omega
  have e0 : z_and (z_shr 0 (6 * (p : Int) + t % 6)) 1 = 0 := by
    have e : ∀ j, j < 30 → z_and (z_shr 0 ((j : Nat) : Int)) 1 = 0 := by decide +kernel
    have := e (6 * p + (t % 6).toNat) (by omega)
    rw [show ((6 * p + (t % 6).toNat : Nat) : Int) = 6 * (p : Int) + t % 6 by omega] at this
    exact this
  unfold cw wmD
  rw [h5, if_pos e0, if_neg (by rw [h4]; omega), ej, h8 _ (by omega)]
theorem rwm_D {D : Nat → Int} {m : z_M} (h23 : m 251 23 = -1) (h253 : ∀ j, j < 30 → m 253 j = D j) {t : Int} (ht : 0 ≤ t) {p : Nat} (hp : p < 5) : rwm m p t = wmD D t p := by
  have hm : 0 ≤ t % 6 ∧ t % 6 < 6 := ⟨Int.emod_nonneg _ (by decide), Int.emod_lt_of_pos _ (by decide)⟩
  have ej : (6 * (p : Int) + t % 6).toNat = 6 * p + (t % 6).toNat := by omega
  unfold rwm wmD
  rw [if_neg (by rw [h23]; omega), ej, h253 _ (by omega)]
end
