/-! THE CLASS READS A RULE -/
def wr : (Nat → Int) → Nat → List Int → (Nat → Int)
  | row, _, [] => row
  | row, n, c :: cs => wr (u_up row n c) (n + 1) cs
theorem wr_app : ∀ (a b : List Int) (row : Nat → Int) (n : Nat), wr row n (a ++ b) = wr (wr row n a) (n + a.length) b
  | [], b, row, n => rfl
  | c :: a, b, row, n => by
    show wr (u_up row n c) (n + 1) (a ++ b) = wr (wr (u_up row n c) (n + 1) a) (n + (a.length + 1)) b
    rw [wr_app a b, show n + 1 + a.length = n + (a.length + 1) by omega]
def okf (b : Bool) : Int := bif b then 1 else 0
abbrev c_RL : List (Nat × Nat × Nat) := [(1, 2, 2), (116, 2, 2), (117, 0, 39)]
/-- what a part of it leaves -/
def c_RP (m m' : z_M) (r : q_Q) : Prop := z_same c_RL m m' ∧ m' 1 2 = r.2.1 ∧ (0 ≤ m' 116 2 ∧ m' 116 2 ≤ 40) ∧ (r.1 = true → m' 116 2 = m 116 2 + ((r.2.2).length : Int) ∧ m' 117 = wr (m 117) (m 116 2).toNat r.2.2)
/-- where it may begin -/
def c_RB (g : Int → Int) (m : z_M) : Prop := u_g m = g ∧ m 1 1 ≤ 80 ∧ (0 ≤ m 1 2 ∧ m 1 2 ≤ 40) ∧ 0 ≤ m 116 2 ∧ m 116 2 ≤ m 1 2
theorem u_g_RL {m m' : z_M} (h : z_same c_RL m m') : u_g m' = u_g m := u_g_eq (h.ofr (by (try unfold c_RL); (repeat' (first | exact trivial | refine z_ofr_c ?_ ?_)) <;> omega)) (h.of (by (try unfold c_RL); (repeat' (first | exact trivial | refine z_of_c ?_ ?_)) <;> omega)) (h.of (by (try unfold c_RL); (repeat' (first | exact trivial | refine z_of_c ?_ ?_)) <;> omega))
theorem c_emit (m : z_M) (c : Int) (h0 : 0 ≤ m 116 2) (h1 : m 116 2 ≤ 40) : ∃ m', z_R 48 (m, 0, [(2, 116), (0, c)], []) = some (m', none) ∧ z_same c_RL m m' ∧ m' 1 2 = m 1 2 ∧ (0 ≤ m' 116 2 ∧ m' 116 2 ≤ 40) ∧ (m 116 2 < 40 → m' 116 2 = m 116 2 + 1 ∧ m' 117 = u_up (m 117) (m 116 2).toNat c) := by
  rw [s_rem__0 m c ⟨h0, h1⟩]
  by_cases h : 40 ≤ m 116 2
  · rw [if_pos h]
    exact ⟨m, rfl, z_same.rf, rfl, ⟨h0, h1⟩, fun z => by omega⟩
  · rw [if_neg h]
    refine ⟨_, rfl, (z_same.rf.upo (by (try unfold c_RL); first | exact z_on_h rfl (by omega) (by omega) | exact z_on_t (z_on_h rfl (by omega) (by omega)) | exact z_on_t (z_on_t (z_on_h rfl (by omega) (by omega))) | exact z_on_t (z_on_t (z_on_t (z_on_h rfl (by omega) (by omega)))) | exact z_on_t (z_on_t (z_on_t (z_on_t (z_on_h rfl (by omega) (by omega))))) | exact z_on_t (z_on_t (z_on_t (z_on_t (z_on_t (z_on_h rfl (by omega) (by omega)))))) | exact z_on_t (z_on_t (z_on_t (z_on_t (z_on_t (z_on_t (z_on_h rfl (by omega) (by omega))))))) | exact z_on_t (z_on_t (z_on_t (z_on_t (z_on_t (z_on_t (z_on_t (z_on_h rfl (by omega) (by omega)))))))) | exact z_on_t (z_on_t (z_on_t (z_on_t (z_on_t (z_on_t (z_on_t (z_on_t (z_on_h rfl (by omega) (by omega))))))))) | exact z_on_t (z_on_t (z_on_t (z_on_t (z_on_t (z_on_t (z_on_t (z_on_t (z_on_t (z_on_h rfl (by omega) (by omega)))))))))) | exact z_on_t (z_on_t (z_on_t (z_on_t (z_on_t (z_on_t (z_on_t (z_on_t (z_on_t (z_on_t (z_on_h rfl (by omega) (by omega))))))))))) | exact z_on_t (z_on_t (z_on_t (z_on_t (z_on_t (z_on_t (z_on_t (z_on_t (z_on_t (z_on_t (z_on_t (z_on_h rfl (by omega) (by omega)))))))))))) | exact z_on_t (z_on_t (z_on_t (z_on_t (z_on_t (z_on_t (z_on_t (z_on_t (z_on_t (z_on_t (z_on_t (z_on_t (z_on_h rfl (by omega) (by omega))))))))))))))).upo (by (try unfold c_RL); first | exact z_on_h rfl (by omega) (by omega) | exact z_on_t (z_on_h rfl (by omega) (by omega)) | exact z_on_t (z_on_t (z_on_h rfl (by omega) (by omega))) | exact z_on_t (z_on_t (z_on_t (z_on_h rfl (by omega) (by omega)))) | exact z_on_t (z_on_t (z_on_t (z_on_t (z_on_h rfl (by omega) (by omega))))) | exact z_on_t (z_on_t (z_on_t (z_on_t (z_on_t (z_on_h rfl (by omega) (by omega)))))) | exact z_on_t (z_on_t (z_on_t (z_on_t (z_on_t (z_on_t (z_on_h rfl (by omega) (by omega))))))) | exact z_on_t (z_on_t (z_on_t (z_on_t (z_on_t (z_on_t (z_on_t (z_on_h rfl (by omega) (by omega)))))))) | exact z_on_t (z_on_t (z_on_t (z_on_t (z_on_t (z_on_t (z_on_t (z_on_t (z_on_h rfl (by omega) (by omega))))))))) | exact z_on_t (z_on_t (z_on_t (z_on_t (z_on_t (z_on_t (z_on_t (z_on_t (z_on_t (z_on_h rfl (by omega) (by omega)))))))))) | exact z_on_t (z_on_t (z_on_t (z_on_t (z_on_t (z_on_t (z_on_t (z_on_t (z_on_t (z_on_t (z_on_h rfl (by omega) (by omega))))))))))) | exact z_on_t (z_on_t (z_on_t (z_on_t (z_on_t (z_on_t (z_on_t (z_on_t (z_on_t (z_on_t (z_on_t (z_on_h rfl (by omega) (by omega)))))))))))) | exact z_on_t (z_on_t (z_on_t (z_on_t (z_on_t (z_on_t (z_on_t (z_on_t (z_on_t (z_on_t (z_on_t (z_on_t (z_on_h rfl (by omega) (by omega)))))))))))))), ?_, ?_, fun _ => ⟨?_, ?_⟩⟩
    · rw [zu_p (by decide), zu_p (by decide)]
    · rw [zu_self]; omega
    · rw [zu_self]
    · rw [zu_rowne (by decide), zu_row]
def q_bnd : Nat → Int
  | 0 => 999
  | 1 => 99
  | 2 => 9
  | _ => 0
theorem c_num1 {g : Int → Int} : ∀ (k : Nat) (x3 v : Int) (m : z_M), 0 ≤ x3 → x3 + (k : Int) = 3 → u_g m = g → m 1 1 ≤ 80 → 0 ≤ m 1 2 → m 1 2 ≤ 40 + x3 → 0 ≤ v → v ≤ q_bnd k → 0 ≤ m 116 2 → m 116 2 ≤ 40 → ∃ m', z_R 47 (m, 12, [(2, 116), (0, v), (0, u_dg (g (m 1 2))), (0, x3)], []) = some (m', none) ∧ z_same c_RL m m' ∧ m' 1 2 = (q_nm g k (m 1 2) v).1 ∧ (0 ≤ m' 116 2 ∧ m' 116 2 ≤ 40) ∧ (m 116 2 < 40 → m' 116 2 = m 116 2 + 1 ∧ m' 117 = u_up (m 117) (m 116 2).toNat (q_nm g k (m 1 2) v).2) := by
  intro k
  induction k with
  | zero =>
    intro x3 v m hx0 hx hg h1 h0 h0' hv0 hv hs0 hs1
    obtain ⟨m', a1, a2, a3, a4, a5⟩ := c_emit m v hs0 hs1
    rw [s_rnu_12, if_pos (by omega), a1, zb_n, s_rnu_63]
    exact ⟨m', rfl, a2, a3, a4, a5⟩
  | succ k ih =>
    intro x3 v m hx0 hx hg h1 h0 h0' hv0 hv hs0 hs1
    rw [s_rnu_12, if_neg (by omega)]
    unfold q_nm
    by_cases c : u_dg (g (m 1 2)) = -1
    · obtain ⟨m', a1, a2, a3, a4, a5⟩ := c_emit m v hs0 hs1
      rw [if_pos c, if_pos c, c_step0, zb_v, s_rnu_34, if_pos rfl, a1, zb_n, s_rnu_63]
      exact ⟨m', rfl, a2, a3, a4, a5⟩
    · have r := u_dg_rng (g (m 1 2))
      have hv9 : v ≤ 99 := by
        rcases (show k = 0 ∨ k = 1 ∨ k = 2 by omega) with rfl | rfl | rfl
        · exact hv
        · have hv : v ≤ 9 := hv
          omega
        · have hv : v ≤ 0 := hv
          omega
      have hg' : u_g (z_up m 1 2 (m 1 2 + 1)) = g := u_g_at.trans hg
      have e12 : (z_up m 1 2 (m 1 2 + 1)) 1 2 = m 1 2 + 1 := zu_self
      rw [if_neg c, if_neg c, c_step1 m h0 (by omega), zb_v, s_rnu_34, if_neg (by decide), c_nd _ (by omega) (by rw [zu_k (by decide)]; exact h1), zb_v, s_rnu_51, hg', e12, z_mul_eq (by omega) (by omega), z_add_eq (x := 10 * v) (by omega) (by omega), z_add_eq (x := x3) (by omega) (by omega)]
      obtain ⟨m', a1, a2, a3, a4, a5⟩ := ih (x3 + 1) (10 * v + u_dg (g (m 1 2))) (z_up m 1 2 (m 1 2 + 1)) (by omega) (by omega) hg' (by rw [zu_k (by decide)]; exact h1) (by omega) (by omega) (by omega) (by
        rcases (show k = 0 ∨ k = 1 ∨ k = 2 by omega) with rfl | rfl | rfl
        · have hv : v ≤ 99 := hv
          show 10 * v + u_dg (g (m 1 2)) ≤ 999
          omega
        · have hv : v ≤ 9 := hv
          show 10 * v + u_dg (g (m 1 2)) ≤ 99
          omega
        · have hv : v ≤ 0 := hv
          show 10 * v + u_dg (g (m 1 2)) ≤ 9
          omega) (by rw [zu_p (by decide)]; exact hs0) (by rw [zu_p (by decide)]; exact hs1)
      rw [e12] at a1 a3 a5
      rw [zu_p (by decide), zu_rowne (by decide)] at a5
      exact ⟨m', a1, (z_same.rf.upo (by (try unfold c_RL); first | exact z_on_h rfl (by omega) (by omega) | exact z_on_t (z_on_h rfl (by omega) (by omega)) | exact z_on_t (z_on_t (z_on_h rfl (by omega) (by omega))) | exact z_on_t (z_on_t (z_on_t (z_on_h rfl (by omega) (by omega)))) | exact z_on_t (z_on_t (z_on_t (z_on_t (z_on_h rfl (by omega) (by omega))))) | exact z_on_t (z_on_t (z_on_t (z_on_t (z_on_t (z_on_h rfl (by omega) (by omega)))))) | exact z_on_t (z_on_t (z_on_t (z_on_t (z_on_t (z_on_t (z_on_h rfl (by omega) (by omega))))))) | exact z_on_t (z_on_t (z_on_t (z_on_t (z_on_t (z_on_t (z_on_t (z_on_h rfl (by omega) (by omega)))))))) | exact z_on_t (z_on_t (z_on_t (z_on_t (z_on_t (z_on_t (z_on_t (z_on_t (z_on_h rfl (by omega) (by omega))))))))) | exact z_on_t (z_on_t (z_on_t (z_on_t (z_on_t (z_on_t (z_on_t (z_on_t (z_on_t (z_on_h rfl (by omega) (by omega)))))))))) | exact z_on_t (z_on_t (z_on_t (z_on_t (z_on_t (z_on_t (z_on_t (z_on_t (z_on_t (z_on_t (z_on_h rfl (by omega) (by omega))))))))))) | exact z_on_t (z_on_t (z_on_t (z_on_t (z_on_t (z_on_t (z_on_t (z_on_t (z_on_t (z_on_t (z_on_t (z_on_h rfl (by omega) (by omega)))))))))))) | exact z_on_t (z_on_t (z_on_t (z_on_t (z_on_t (z_on_t (z_on_t (z_on_t (z_on_t (z_on_t (z_on_t (z_on_t (z_on_h rfl (by omega) (by omega))))))))))))))).tr a2, a3, a4, a5⟩
theorem c_num {g : Int → Int} (m : z_M) (hB : c_RB g m) : ∃ m', z_R 47 (m, 0, [(2, 116), (9, 0), (9, 0), (9, 0)], []) = some (m', none) ∧ z_same c_RL m m' ∧ m' 1 2 = (q_nm g 3 (m 1 2) 0).1 ∧ (0 ≤ m' 116 2 ∧ m' 116 2 ≤ 40) ∧ (m 116 2 < 40 → m' 116 2 = m 116 2 + 1 ∧ m' 117 = u_up (m 117) (m 116 2).toNat (q_nm g 3 (m 1 2) 0).2) := by
  obtain ⟨b1, b2, b3, b4, b5⟩ := hB
  rw [s_rnu_0, c_nd m b3.1 b2, zb_v, s_rnu_9, b1]
  exact c_num1 3 0 0 m (by decide) (by decide) b1 b2 b3.1 (by omega) (Int.le_refl _) (by decide) b4 (by omega)
theorem z_i2c_sm {x : Int} (h0 : 0 ≤ x) (h1 : x ≤ 255) : z_i2c x = x := by
  have e3 : (Int32.ofInt x).toInt = x := zr_of (by omega) (by omega)
  unfold z_i2c
  rw [(nar_c _).2 (by omega) (by omega), e3]
/-- that an expression at depth d is read so -/
noncomputable def c_PE (g : Int → Int) (d : Nat) : Prop := ∀ m : z_M, c_RB g m → ∃ m', z_R 41 (m, 0, [(2, 116), (0, (d : Int)), (9, 0), (9, 0)], []) = some (m', some (0, okf (q_ex g (4 - d) (m 1 2)).1)) ∧ c_RP m m' (q_ex g (4 - d) (m 1 2))
theorem c_RP_fail {m m' : z_M} {i : Int} {c : List Int} (h : z_same c_RL m m') (hp : m' 1 2 = i) (hs : 0 ≤ m' 116 2 ∧ m' 116 2 ≤ 40) : c_RP m m' (false, i, c) := ⟨h, hp, hs, fun z => by cases z⟩
theorem c_thing {g : Int → Int} (hg : q_gb g) (hr : ∀ i, -1 ≤ g i ∧ g i ≤ 255) {d : Nat} (hd : d ≤ 4) (hE : d < 4 → c_PE g (d + 1)) (m : z_M) (hB : c_RB g m) : ∃ m', z_R 45 (m, 0, [(2, 116), (0, (d : Int)), (9, 0), (9, 0)], []) = some (m', some (0, okf (q_th g (q_E g d) (m 1 2)).1)) ∧ c_RP m m' (q_th g (q_E g d) (m 1 2)) := by
  obtain ⟨b1, b2, b3, b4, b5⟩ := id hB
  have rr := hr (m 1 2)
  rw [s_rth_0, c_next m b3.1 b2, zb_v, s_rth_7, b1]
  unfold q_th
  by_cases c1 : g (m 1 2) = 40
  · have bb := hg (m 1 2) (by omega)
    rw [if_pos c1, if_pos c1, s_rbr_0 m d ⟨by omega, by omega⟩]
    by_cases c2 : 4 ≤ d
    · have e : q_E g d = none := by unfold q_E; rw [if_pos c2]
      rw [if_pos (by omega), c_step0, zb_v, s_rbr_17, if_pos rfl, zb_v, s_rth_19, e]
      exact ⟨m, rfl, c_RP_fail z_same.rf rfl ⟨b4, by omega⟩⟩
    · have e : q_E g d = some (q_ex g (4 - (d + 1))) := by unfold q_E; rw [if_neg c2, show 3 - d = 4 - (d + 1) by omega]
      have e12 : (z_up m 1 2 (m 1 2 + 1)) 1 2 = m 1 2 + 1 := zu_self
      have s1 : z_same c_RL m (z_up m 1 2 (m 1 2 + 1)) := z_same.rf.upo (by (try unfold c_RL); first | exact z_on_h rfl (by omega) (by omega) | exact z_on_t (z_on_h rfl (by omega) (by omega)) | exact z_on_t (z_on_t (z_on_h rfl (by omega) (by omega))) | exact z_on_t (z_on_t (z_on_t (z_on_h rfl (by omega) (by omega)))) | exact z_on_t (z_on_t (z_on_t (z_on_t (z_on_h rfl (by omega) (by omega))))) | exact z_on_t (z_on_t (z_on_t (z_on_t (z_on_t (z_on_h rfl (by omega) (by omega)))))) | exact z_on_t (z_on_t (z_on_t (z_on_t (z_on_t (z_on_t (z_on_h rfl (by omega) (by omega))))))) | exact z_on_t (z_on_t (z_on_t (z_on_t (z_on_t (z_on_t (z_on_t (z_on_h rfl (by omega) (by omega)))))))) | exact z_on_t (z_on_t (z_on_t (z_on_t (z_on_t (z_on_t (z_on_t (z_on_t (z_on_h rfl (by omega) (by omega))))))))) | exact z_on_t (z_on_t (z_on_t (z_on_t (z_on_t (z_on_t (z_on_t (z_on_t (z_on_t (z_on_h rfl (by omega) (by omega)))))))))) | exact z_on_t (z_on_t (z_on_t (z_on_t (z_on_t (z_on_t (z_on_t (z_on_t (z_on_t (z_on_t (z_on_h rfl (by omega) (by omega))))))))))) | exact z_on_t (z_on_t (z_on_t (z_on_t (z_on_t (z_on_t (z_on_t (z_on_t (z_on_t (z_on_t (z_on_t (z_on_h rfl (by omega) (by omega)))))))))))) | exact z_on_t (z_on_t (z_on_t (z_on_t (z_on_t (z_on_t (z_on_t (z_on_t (z_on_t (z_on_t (z_on_t (z_on_t (z_on_h rfl (by omega) (by omega))))))))))))))
      have sz : (z_up m 1 2 (m 1 2 + 1)) 116 2 = m 116 2 := zu_p (by decide)
      have srow : (z_up m 1 2 (m 1 2 + 1)) 117 = m 117 := zu_rowne (by decide)
      obtain ⟨m1, a1, a2, a3, a4, a5⟩ := hE (by omega) (z_up m 1 2 (m 1 2 + 1)) ⟨u_g_at.trans b1, by rw [zu_k (by decide)]; exact b2, by omega, by omega, by omega⟩
      rw [e12] at a1 a3 a5
      rw [sz, srow] at a5
      have gd := q_ex_good hg (4 - (d + 1)) (m 1 2 + 1) (by omega) (by omega)
      rw [if_neg (by omega), c_step1 m b3.1 (by omega), zb_v, s_rbr_17, if_neg (by decide), z_add_eq (by omega) (by omega), tc1, a1, zb_v, s_rbr_27, e]
      simp only
      generalize q_ex g (4 - (d + 1)) (m 1 2 + 1) = R at a1 a3 a5 gd ⊢
      obtain ⟨ok, pos, code⟩ := R
      simp only at a3 a5 gd ⊢
      cases ok with
      | false =>
        rw [show okf false = 0 from rfl, if_pos rfl, zb_v, s_rth_19, if_neg (fun z => by cases z.1)]
        exact ⟨m1, rfl, c_RP_fail (s1.tr a2) a3 a4⟩
      | true =>
        have g1 : u_g m1 = g := (u_g_RL (s1.tr a2)).trans b1
        rw [show okf true = 1 from rfl, if_neg (by decide), c_over m1 41 (by omega) (by rw [(s1.tr a2).of (by (try unfold c_RL); (repeat' (first | exact trivial | refine z_of_c ?_ ?_)) <;> omega)]; exact b2) (by omega), g1, a3]
        by_cases c3 : g pos = 41
        · rw [if_pos c3, if_pos ⟨rfl, c3⟩, zb_v, s_rbr_39, if_neg (by decide), zb_v, s_rth_19]
          refine ⟨_, rfl, (s1.tr a2).upo (by (try unfold c_RL); first | exact z_on_h rfl (by omega) (by omega) | exact z_on_t (z_on_h rfl (by omega) (by omega)) | exact z_on_t (z_on_t (z_on_h rfl (by omega) (by omega))) | exact z_on_t (z_on_t (z_on_t (z_on_h rfl (by omega) (by omega)))) | exact z_on_t (z_on_t (z_on_t (z_on_t (z_on_h rfl (by omega) (by omega))))) | exact z_on_t (z_on_t (z_on_t (z_on_t (z_on_t (z_on_h rfl (by omega) (by omega)))))) | exact z_on_t (z_on_t (z_on_t (z_on_t (z_on_t (z_on_t (z_on_h rfl (by omega) (by omega))))))) | exact z_on_t (z_on_t (z_on_t (z_on_t (z_on_t (z_on_t (z_on_t (z_on_h rfl (by omega) (by omega)))))))) | exact z_on_t (z_on_t (z_on_t (z_on_t (z_on_t (z_on_t (z_on_t (z_on_t (z_on_h rfl (by omega) (by omega))))))))) | exact z_on_t (z_on_t (z_on_t (z_on_t (z_on_t (z_on_t (z_on_t (z_on_t (z_on_t (z_on_h rfl (by omega) (by omega)))))))))) | exact z_on_t (z_on_t (z_on_t (z_on_t (z_on_t (z_on_t (z_on_t (z_on_t (z_on_t (z_on_t (z_on_h rfl (by omega) (by omega))))))))))) | exact z_on_t (z_on_t (z_on_t (z_on_t (z_on_t (z_on_t (z_on_t (z_on_t (z_on_t (z_on_t (z_on_t (z_on_h rfl (by omega) (by omega)))))))))))) | exact z_on_t (z_on_t (z_on_t (z_on_t (z_on_t (z_on_t (z_on_t (z_on_t (z_on_t (z_on_t (z_on_t (z_on_t (z_on_h rfl (by omega) (by omega)))))))))))))), zu_self, ?_, fun _ => ?_⟩
          · rw [zu_p (by decide)]; exact a4
          · rw [zu_p (by decide), zu_rowne (by decide)]; exact a5 rfl
        · rw [if_neg c3, if_neg (fun z => c3 z.2), zb_v, s_rbr_39, if_pos rfl, zb_v, s_rth_19]
          exact ⟨m1, rfl, c_RP_fail (s1.tr a2) a3 a4⟩
  rw [if_neg c1, if_neg c1, c_digit, zb_v, s_rth_24]
  by_cases c2 : u_dg (g (m 1 2)) = -1
  · rw [if_pos c2, if_pos c2]
    have fl : ∀ x3 : Int, z_idx (g (m 1 2)) = -1 → ∃ m', ((z_R 26 (m, 0, [(2, 1), (0, 0)], [])).bind fun qq => z_R 45 (qq.1, 67, [(2, 116), (0, (d : Int)), (0, g (m 1 2)), (0, x3)], qq.2.toList ++ [])) = some (m', some (0, okf (if z_idx (g (m 1 2)) = -1 then ((false, m 1 2, []) : q_Q) else (true, m 1 2 + 1, [1000 + z_idx (g (m 1 2))])).1)) ∧ c_RP m m' (if z_idx (g (m 1 2)) = -1 then (false, m 1 2, []) else (true, m 1 2 + 1, [1000 + z_idx (g (m 1 2))])) := by
      intro x3 hz
      rw [if_pos hz, c_step0, zb_v, s_rth_67, if_pos rfl]
      exact ⟨m, rfl, c_RP_fail z_same.rf rfl ⟨b4, by omega⟩⟩
    by_cases c3 : g (m 1 2) = -1
    · rw [if_pos c3]
      exact fl (-1) (by rw [c3]; decide)
    rw [if_neg c3, z_i2c_sm (by omega) rr.2]
    have bi := z_idx_b (g (m 1 2))
    by_cases c4 : z_idx (g (m 1 2)) < 0
    · rw [if_pos c4]
      exact fl _ (by omega)
    · have bb := hg (m 1 2) c3
      rw [if_neg c4, if_neg (by omega), c_step1 m b3.1 (by omega), zb_v, s_rth_67, if_neg (by decide), z_add_eq (by omega) (by omega)]
      have sz : (z_up m 1 2 (m 1 2 + 1)) 116 2 = m 116 2 := zu_p (by decide)
      have srow : (z_up m 1 2 (m 1 2 + 1)) 117 = m 117 := zu_rowne (by decide)
      obtain ⟨m1, a1, a2, a3, a4, a5⟩ := c_emit (z_up m 1 2 (m 1 2 + 1)) (1000 + z_idx (g (m 1 2))) (by omega) (by omega)
      rw [sz, srow] at a5
      rw [a1, zb_n, s_rth_81]
      refine ⟨m1, rfl, (z_same.rf.upo (by (try unfold c_RL); first | exact z_on_h rfl (by omega) (by omega) | exact z_on_t (z_on_h rfl (by omega) (by omega)) | exact z_on_t (z_on_t (z_on_h rfl (by omega) (by omega))) | exact z_on_t (z_on_t (z_on_t (z_on_h rfl (by omega) (by omega)))) | exact z_on_t (z_on_t (z_on_t (z_on_t (z_on_h rfl (by omega) (by omega))))) | exact z_on_t (z_on_t (z_on_t (z_on_t (z_on_t (z_on_h rfl (by omega) (by omega)))))) | exact z_on_t (z_on_t (z_on_t (z_on_t (z_on_t (z_on_t (z_on_h rfl (by omega) (by omega))))))) | exact z_on_t (z_on_t (z_on_t (z_on_t (z_on_t (z_on_t (z_on_t (z_on_h rfl (by omega) (by omega)))))))) | exact z_on_t (z_on_t (z_on_t (z_on_t (z_on_t (z_on_t (z_on_t (z_on_t (z_on_h rfl (by omega) (by omega))))))))) | exact z_on_t (z_on_t (z_on_t (z_on_t (z_on_t (z_on_t (z_on_t (z_on_t (z_on_t (z_on_h rfl (by omega) (by omega)))))))))) | exact z_on_t (z_on_t (z_on_t (z_on_t (z_on_t (z_on_t (z_on_t (z_on_t (z_on_t (z_on_t (z_on_h rfl (by omega) (by omega))))))))))) | exact z_on_t (z_on_t (z_on_t (z_on_t (z_on_t (z_on_t (z_on_t (z_on_t (z_on_t (z_on_t (z_on_t (z_on_h rfl (by omega) (by omega)))))))))))) | exact z_on_t (z_on_t (z_on_t (z_on_t (z_on_t (z_on_t (z_on_t (z_on_t (z_on_t (z_on_t (z_on_t (z_on_t (z_on_h rfl (by omega) (by omega))))))))))))))).tr a2, a3.trans zu_self, a4, fun _ => ?_⟩
      exact a5 (by omega)
  · rw [if_neg c2, if_neg c2]
    obtain ⟨m1, a1, a2, a3, a4, a5⟩ := c_num m hB
    have bb := hg (m 1 2) (by have := u_dg_ne c2; omega)
    rw [a1, zb_n, s_rth_32]
    exact ⟨m1, rfl, a2, a3, a4, fun _ => a5 (by omega)⟩
theorem c_minus {g : Int → Int} (hg : q_gb g) {d : Int} : ∀ (f k : Nat) (m : z_M), k + f = 40 → u_g m = g → m 1 1 ≤ 80 → 0 ≤ m 1 2 → m 1 2 ≤ 40 → ∃ m1 k', z_R 44 (m, 4, [(2, 116), (0, d), (0, ((k % 2 : Nat) : Int)), (0, (k : Int))], []) = ((z_R 45 (m1, 0, [(2, 116), (0, d), (9, 0), (9, 0)], [])).bind fun qq => z_R 44 (qq.1, 43, [(2, 116), (0, d), (0, (((k + q_mn g f (m 1 2)) % 2 : Nat) : Int)), (0, k')], qq.2.toList ++ [])) ∧ m1 1 2 = m 1 2 + (q_mn g f (m 1 2) : Int) ∧ z_same [(1, 2, 2)] m m1 := by
  intro f
  induction f with
  | zero =>
    intro k m hk h1 h2 h3 h4
    rw [s_rsg_4, if_pos (by omega)]
    exact ⟨m, (k : Int), rfl, by show m 1 2 = m 1 2 + ((0 : Nat) : Int); omega, z_same.rf⟩
  | succ f ih =>
    intro k m hk h1 h2 h3 h4
    rw [s_rsg_4, if_neg (by omega), c_over m 45 h3 h2 (by omega), h1]
    unfold q_mn
    by_cases c : g (m 1 2) = 45
    · have bb := hg (m 1 2) (by omega)
      have e12 : (z_up m 1 2 (m 1 2 + 1)) 1 2 = m 1 2 + 1 := zu_self
      obtain ⟨m1, k', a1, a2, a3⟩ := ih (k + 1) (z_up m 1 2 (m 1 2 + 1)) (by omega) (u_g_at.trans h1) (by rw [zu_k (by decide)]; exact h2) (by omega) (by omega)
      rw [e12] at a1 a2
      have a1 : z_R 44 (z_up m 1 2 (m 1 2 + 1), 4, [(2, 116), (0, d), (0, (((k + 1) % 2 : Nat) : Int)), (0, ((k + 1 : Nat) : Int))], []) = ((z_R 45 (m1, 0, [(2, 116), (0, d), (9, 0), (9, 0)], [])).bind fun qq => z_R 44 (qq.1, 43, [(2, 116), (0, d), (0, (((k + 1 + q_mn g f (m 1 2 + 1)) % 2 : Nat) : Int)), (0, k')], qq.2.toList ++ [])) := a1
      rw [if_pos c, if_pos c, zb_v, s_rsg_19, if_neg (by decide), z_add_eq (by omega) (by omega), tc1]
      refine ⟨m1, k', ?_, by rw [a2]; omega, (z_same.rf.upo (by (try unfold c_RL); first | exact z_on_h rfl (by omega) (by omega) | exact z_on_t (z_on_h rfl (by omega) (by omega)) | exact z_on_t (z_on_t (z_on_h rfl (by omega) (by omega))) | exact z_on_t (z_on_t (z_on_t (z_on_h rfl (by omega) (by omega)))) | exact z_on_t (z_on_t (z_on_t (z_on_t (z_on_h rfl (by omega) (by omega))))) | exact z_on_t (z_on_t (z_on_t (z_on_t (z_on_t (z_on_h rfl (by omega) (by omega)))))) | exact z_on_t (z_on_t (z_on_t (z_on_t (z_on_t (z_on_t (z_on_h rfl (by omega) (by omega))))))) | exact z_on_t (z_on_t (z_on_t (z_on_t (z_on_t (z_on_t (z_on_t (z_on_h rfl (by omega) (by omega)))))))) | exact z_on_t (z_on_t (z_on_t (z_on_t (z_on_t (z_on_t (z_on_t (z_on_t (z_on_h rfl (by omega) (by omega))))))))) | exact z_on_t (z_on_t (z_on_t (z_on_t (z_on_t (z_on_t (z_on_t (z_on_t (z_on_t (z_on_h rfl (by omega) (by omega)))))))))) | exact z_on_t (z_on_t (z_on_t (z_on_t (z_on_t (z_on_t (z_on_t (z_on_t (z_on_t (z_on_t (z_on_h rfl (by omega) (by omega))))))))))) | exact z_on_t (z_on_t (z_on_t (z_on_t (z_on_t (z_on_t (z_on_t (z_on_t (z_on_t (z_on_t (z_on_t (z_on_h rfl (by omega) (by omega)))))))))))) | exact z_on_t (z_on_t (z_on_t (z_on_t (z_on_t (z_on_t (z_on_t (z_on_t (z_on_t (z_on_t (z_on_t (z_on_t (z_on_h rfl (by omega) (by omega))))))))))))))).tr a3⟩
      rw [show k + (q_mn g f (m 1 2 + 1) + 1) = k + 1 + q_mn g f (m 1 2 + 1) by omega, ← a1]
      by_cases c2 : ((k % 2 : Nat) : Int) = 0
      · rw [if_pos c2, show (((k + 1) % 2 : Nat) : Int) = 1 by omega]
      · rw [if_neg c2, show (((k + 1) % 2 : Nat) : Int) = 0 by omega]
    · rw [if_neg c, if_neg c, zb_v, s_rsg_19, if_pos rfl]
      exact ⟨m, (k : Int), rfl, by show m 1 2 = m 1 2 + ((0 : Nat) : Int); omega, z_same.rf⟩
theorem c_signed {g : Int → Int} (hg : q_gb g) (hr : ∀ i, -1 ≤ g i ∧ g i ≤ 255) {d : Nat} (hd : d ≤ 4) (hE : d < 4 → c_PE g (d + 1)) (m : z_M) (hB : c_RB g m) : ∃ m', z_R 44 (m, 0, [(2, 116), (0, (d : Int)), (9, 0), (9, 0)], []) = some (m', some (0, okf (q_sg g (q_E g d) (m 1 2)).1)) ∧ c_RP m m' (q_sg g (q_E g d) (m 1 2)) := by
  obtain ⟨b1, b2, b3, b4, b5⟩ := id hB
  obtain ⟨m1, k', a1, a2, a3⟩ := c_minus hg (d := (d : Int)) 40 0 m (by decide) b1 b2 b3.1 b3.2
  have bn := q_mn_b hg 40 (m 1 2) b3.1 b3.2
  have a1 : z_R 44 (m, 4, [(2, 116), (0, (d : Int)), (0, 0), (0, 0)], []) = ((z_R 45 (m1, 0, [(2, 116), (0, (d : Int)), (9, 0), (9, 0)], [])).bind fun qq => z_R 44 (qq.1, 43, [(2, 116), (0, (d : Int)), (0, (((0 + q_mn g 40 (m 1 2)) % 2 : Nat) : Int)), (0, k')], qq.2.toList ++ [])) := a1
  rw [Nat.zero_add] at a1
  rw [s_rsg_0, a1]
  unfold q_sg
  generalize q_mn g 40 (m 1 2) = n at a2 bn ⊢
  have s1 : z_same c_RL m m1 := a3.subo (by (try unfold c_RL); (repeat' (first | exact trivial | refine z_sbo_c ?_ ?_)) <;> (intro k h1 h2; first | exact z_on_h rfl (by omega) (by omega) | exact z_on_t (z_on_h rfl (by omega) (by omega)) | exact z_on_t (z_on_t (z_on_h rfl (by omega) (by omega))) | exact z_on_t (z_on_t (z_on_t (z_on_h rfl (by omega) (by omega)))) | exact z_on_t (z_on_t (z_on_t (z_on_t (z_on_h rfl (by omega) (by omega))))) | exact z_on_t (z_on_t (z_on_t (z_on_t (z_on_t (z_on_h rfl (by omega) (by omega)))))) | exact z_on_t (z_on_t (z_on_t (z_on_t (z_on_t (z_on_t (z_on_h rfl (by omega) (by omega))))))) | exact z_on_t (z_on_t (z_on_t (z_on_t (z_on_t (z_on_t (z_on_t (z_on_h rfl (by omega) (by omega)))))))) | exact z_on_t (z_on_t (z_on_t (z_on_t (z_on_t (z_on_t (z_on_t (z_on_t (z_on_h rfl (by omega) (by omega))))))))) | exact z_on_t (z_on_t (z_on_t (z_on_t (z_on_t (z_on_t (z_on_t (z_on_t (z_on_t (z_on_h rfl (by omega) (by omega)))))))))) | exact z_on_t (z_on_t (z_on_t (z_on_t (z_on_t (z_on_t (z_on_t (z_on_t (z_on_t (z_on_t (z_on_h rfl (by omega) (by omega))))))))))) | exact z_on_t (z_on_t (z_on_t (z_on_t (z_on_t (z_on_t (z_on_t (z_on_t (z_on_t (z_on_t (z_on_t (z_on_h rfl (by omega) (by omega)))))))))))) | exact z_on_t (z_on_t (z_on_t (z_on_t (z_on_t (z_on_t (z_on_t (z_on_t (z_on_t (z_on_t (z_on_t (z_on_t (z_on_h rfl (by omega) (by omega)))))))))))))))
  have sz : m1 116 2 = m 116 2 := a3.of (by (try unfold c_RL); (repeat' (first | exact trivial | refine z_of_c ?_ ?_)) <;> omega)
  have srow : m1 117 = m 117 := a3.ofr (by (try unfold c_RL); (repeat' (first | exact trivial | refine z_ofr_c ?_ ?_)) <;> omega)
  have B1 : c_RB g m1 := ⟨(u_g_RL s1).trans b1, by rw [a3.of (by (try unfold c_RL); (repeat' (first | exact trivial | refine z_of_c ?_ ?_)) <;> omega)]; exact b2, by omega, by omega, by omega⟩
  obtain ⟨m2, d1, d2, d3, d4, d5⟩ := c_thing hg hr hd hE m1 B1
  have gd := q_th_good hg (q_E_good hg d) (m1 1 2) B1.2.2.1.1 B1.2.2.1.2
  rw [a2] at d1 d3 d5 gd
  rw [sz, srow] at d5
  generalize q_th g (q_E g d) (m 1 2 + (n : Int)) = R at d1 d3 d5 gd ⊢
  obtain ⟨ok, pos, code⟩ := R
  simp only at d1 d3 d5 gd ⊢
  rw [d1, zb_v, s_rsg_43]
  by_cases c : n % 2 = 1
  · rw [if_neg (by omega), if_pos c]
    obtain ⟨m3, e1, e2, e3, e4, e5⟩ := c_emit m2 2126 d4.1 d4.2
    rw [e1, zb_n, s_rsg_55]
    refine ⟨m3, rfl, (s1.tr d2).tr e2, e3.trans d3, e4, fun z => ?_⟩
    obtain ⟨f1, f2⟩ := d5 z
    have gz := gd.2.2 z
    have ee := e5 (by omega)
    rw [f1, f2] at ee
    refine ⟨?_, ?_⟩
    · rw [ee.1]
      show _ = m 116 2 + (((code ++ [2126]).length : Nat) : Int)
      rw [List.length_append]
      show _ = m 116 2 + ((code.length + 1 : Nat) : Int)
      omega
    · rw [ee.2]
      show _ = wr (m 117) (m 116 2).toNat (code ++ [2126])
      rw [wr_app, show (m 116 2 + (code.length : Int)).toNat = (m 116 2).toNat + code.length by omega]
      rfl
  · rw [if_pos (by omega), if_neg c, List.append_nil]
    exact ⟨m2, rfl, s1.tr d2, d3, d4, d5⟩
/-- parts joined from the left -/
theorem c_chain1 {g : Int → Int} (hg : q_gb g) {d : Nat} {b a1 a2 : Int} {part : Int → q_Q} (hgood : q_good part) (ha1 : ¬ a1 = -1) (ha2 : ¬ a2 = -1) (hj : ∀ (m : z_M) (s : Int), z_R 51 (m, 0, [(0, s), (0, b)], []) = some (m, some (0, okf (decide (s = a1 ∨ s = a2))))) (hp : ∀ m : z_M, c_RB g m → ∃ m', z_R 43 (m, 0, [(2, 116), (0, (d : Int)), (0, b)], []) = some (m', some (0, okf (part (m 1 2)).1)) ∧ c_RP m m' (part (m 1 2))) {m0 : z_M} (hB : c_RB g m0) (hr : ∀ i, -1 ≤ g i ∧ g i ≤ 255) : ∀ (k : Nat) (x5 : Int) (r : q_Q) (m : z_M), x5 + (k : Int) = 40 → 0 ≤ x5 → c_RP m0 m r → m0 1 2 ≤ r.2.1 → r.2.1 ≤ 40 → (r.1 = true → m0 1 2 < r.2.1 ∧ ((r.2.2).length : Int) ≤ r.2.1 - m0 1 2) → ∃ m', z_R 42 (m, 19, [(2, 116), (0, (d : Int)), (0, b), (0, okf r.1), (0, g r.2.1), (0, x5)], []) = some (m', some (0, okf (q_lp g part a1 a2 k r).1)) ∧ c_RP m0 m' (q_lp g part a1 a2 k r) := by
  obtain ⟨b1, b2, b3, b4, b5⟩ := hB
  intro k
  induction k with
  | zero =>
    intro x5 r m hx h0 hP h1 h2 h3
    rw [s_rch_19, if_pos (by omega)]
    exact ⟨m, rfl, hP⟩
  | succ k ih =>
    intro x5 r m hx h0 hP h1 h2 h3
    obtain ⟨p1, p2, p3, p4⟩ := hP
    rw [s_rch_19, if_neg (by omega)]
    unfold q_lp
    by_cases c0 : r.1 = false
    · rw [if_neg (show ¬ (r.1 = true ∧ (g r.2.1 = a1 ∨ g r.2.1 = a2)) from fun z => by rw [c0] at z; cases z.1), c0, show okf false = 0 from rfl, if_pos rfl]
      exact ⟨m, rfl, p1, p2, p3, p4⟩
    have c1 : r.1 = true := by cases hq : r.1 <;> simp_all
    have c1' : ¬ okf r.1 = 0 := by rw [c1]; decide
    rw [if_neg c1', hj, zb_v, s_rch_40]
    have g1 : u_g m = g := (u_g_RL p1).trans b1
    have rr := hr r.2.1
    obtain ⟨q1, q2⟩ := h3 c1
    obtain ⟨p5, p6⟩ := p4 c1
    by_cases c2 : g r.2.1 = a1 ∨ g r.2.1 = a2
    · have bb := hg r.2.1 (by rcases c2 with z | z <;> rw [z] <;> assumption)
      have e12 : (z_up m 1 2 (m 1 2 + 1)) 1 2 = m 1 2 + 1 := zu_self
      have sz : (z_up m 1 2 (m 1 2 + 1)) 116 2 = m 116 2 := zu_p (by decide)
      have srow : (z_up m 1 2 (m 1 2 + 1)) 117 = m 117 := zu_rowne (by decide)
      obtain ⟨m1, d1, d2, d3, d4, d5⟩ := hp (z_up m 1 2 (m 1 2 + 1)) ⟨u_g_at.trans g1, by rw [zu_k (by decide), p1.of (by (try unfold c_RL); (repeat' (first | exact trivial | refine z_of_c ?_ ?_)) <;> omega)]; exact b2, by omega, by omega, by omega⟩
      have gd := hgood (m 1 2 + 1) (by omega) (by omega)
      rw [e12] at d1 d3 d5
      rw [sz, srow] at d5
      rw [p2] at d1 d3 d5 gd
      rw [decide_eq_true c2, show okf true = 1 from rfl, c_step1 m (by omega) (by omega), zb_v, s_rch_43, if_neg (by decide), p2, d1, zb_v, s_rch_52, if_pos ⟨c1, c2⟩, z_add_eq (by omega) (by omega)]
      obtain ⟨m2, f1, f2, f3, f4, f5⟩ := c_emit m1 (2000 + g r.2.1) d4.1 d4.2
      have s2 : z_same c_RL m0 m2 := (p1.tr ((z_same.rf.upo (L := c_RL) (p := 1) (k := 2) (v := r.2.1 + 1) (by (try unfold c_RL); first | exact z_on_h rfl (by omega) (by omega) | exact z_on_t (z_on_h rfl (by omega) (by omega)) | exact z_on_t (z_on_t (z_on_h rfl (by omega) (by omega))) | exact z_on_t (z_on_t (z_on_t (z_on_h rfl (by omega) (by omega)))) | exact z_on_t (z_on_t (z_on_t (z_on_t (z_on_h rfl (by omega) (by omega))))) | exact z_on_t (z_on_t (z_on_t (z_on_t (z_on_t (z_on_h rfl (by omega) (by omega)))))) | exact z_on_t (z_on_t (z_on_t (z_on_t (z_on_t (z_on_t (z_on_h rfl (by omega) (by omega))))))) | exact z_on_t (z_on_t (z_on_t (z_on_t (z_on_t (z_on_t (z_on_t (z_on_h rfl (by omega) (by omega)))))))) | exact z_on_t (z_on_t (z_on_t (z_on_t (z_on_t (z_on_t (z_on_t (z_on_t (z_on_h rfl (by omega) (by omega))))))))) | exact z_on_t (z_on_t (z_on_t (z_on_t (z_on_t (z_on_t (z_on_t (z_on_t (z_on_t (z_on_h rfl (by omega) (by omega)))))))))) | exact z_on_t (z_on_t (z_on_t (z_on_t (z_on_t (z_on_t (z_on_t (z_on_t (z_on_t (z_on_t (z_on_h rfl (by omega) (by omega))))))))))) | exact z_on_t (z_on_t (z_on_t (z_on_t (z_on_t (z_on_t (z_on_t (z_on_t (z_on_t (z_on_t (z_on_t (z_on_h rfl (by omega) (by omega)))))))))))) | exact z_on_t (z_on_t (z_on_t (z_on_t (z_on_t (z_on_t (z_on_t (z_on_t (z_on_t (z_on_t (z_on_t (z_on_t (z_on_h rfl (by omega) (by omega))))))))))))))).tr (by rw [p2] at d2; exact d2))).tr f2
      have g2 : u_g m2 = g := (u_g_RL s2).trans b1
      rw [f1, zb_n, s_rch_63, c_next m2 (by omega) (by rw [s2.of (by (try unfold c_RL); (repeat' (first | exact trivial | refine z_of_c ?_ ?_)) <;> omega)]; exact b2), zb_v, s_rch_70, g2, f3, d3, z_add_eq (by omega) (by omega)]
      generalize part (r.2.1 + 1) = S at d1 d3 d5 gd ⊢
      obtain ⟨ok, pos, code⟩ := S
      simp only at d1 d3 d5 gd ⊢
      have R := ih (x5 + 1) (ok, pos, r.2.2 ++ code ++ [2000 + g r.2.1]) m2 (by omega) (by omega) ⟨s2, f3.trans d3, f4, fun z => by
        obtain ⟨t1, t2⟩ := d5 z
        have gz := gd.2.2 z
        have t3 := f5 (by omega)
        rw [t1, t2, p5, p6] at t3
        refine ⟨?_, ?_⟩
        · rw [t3.1]
          show _ = m0 116 2 + (((r.2.2 ++ code ++ [2000 + g r.2.1]).length : Nat) : Int)
          rw [List.length_append, List.length_append]
          show _ = m0 116 2 + (((r.2.2).length + code.length + 1 : Nat) : Int)
          omega
        · rw [t3.2]
          show _ = wr (m0 117) (m0 116 2).toNat (r.2.2 ++ code ++ [2000 + g r.2.1])
          rw [wr_app, wr_app, List.length_append, show (m0 116 2 + ((r.2.2).length : Int)).toNat = (m0 116 2).toNat + (r.2.2).length by omega, show (m0 116 2 + ((r.2.2).length : Int) + (code.length : Int)).toNat = (m0 116 2).toNat + ((r.2.2).length + code.length) by omega]
          rfl⟩ (by simp only; omega) (by simp only; exact gd.2.1) (fun z => by
        have gz := gd.2.2 z
        refine ⟨by simp only; omega, ?_⟩
        show (((r.2.2 ++ code ++ [2000 + g r.2.1]).length : Nat) : Int) ≤ pos - m0 1 2
        rw [List.length_append, List.length_append]
        show (((r.2.2).length + code.length + 1 : Nat) : Int) ≤ _
        omega)
      exact R
    · rw [decide_eq_false c2, show okf false = 0 from rfl, c_step0, zb_v, s_rch_43, if_pos rfl, if_neg (fun z => c2 z.2)]
      exact ⟨m, rfl, p1, p2, p3, p4⟩
theorem c_chain {g : Int → Int} (hg : q_gb g) {d : Nat} (hd : d ≤ 4) {b a1 a2 : Int} {part : Int → q_Q} (hgood : q_good part) (ha1 : ¬ a1 = -1) (ha2 : ¬ a2 = -1) (hj : ∀ (m : z_M) (s : Int), z_R 51 (m, 0, [(0, s), (0, b)], []) = some (m, some (0, okf (decide (s = a1 ∨ s = a2))))) (hp : ∀ m : z_M, c_RB g m → ∃ m', z_R 43 (m, 0, [(2, 116), (0, (d : Int)), (0, b)], []) = some (m', some (0, okf (part (m 1 2)).1)) ∧ c_RP m m' (part (m 1 2))) (hr : ∀ i, -1 ≤ g i ∧ g i ≤ 255) (m : z_M) (hB : c_RB g m) : ∃ m', z_R 42 (m, 0, [(2, 116), (0, (d : Int)), (0, b), (9, 0), (9, 0), (9, 0)], []) = some (m', some (0, okf (q_lp g part a1 a2 40 (part (m 1 2))).1)) ∧ c_RP m m' (q_lp g part a1 a2 40 (part (m 1 2))) := by
  obtain ⟨b1, b2, b3, b4, b5⟩ := id hB
  obtain ⟨m1, d1, d2⟩ := hp m hB
  have gd := hgood (m 1 2) b3.1 b3.2
  obtain ⟨p1, p2, p3, p4⟩ := id d2
  have g1 : u_g m1 = g := (u_g_RL p1).trans b1
  rw [s_rch_0 m d b ⟨by omega, by omega⟩, d1, zb_v, s_rch_6, c_next m1 (by omega) (by rw [p1.of (by (try unfold c_RL); (repeat' (first | exact trivial | refine z_of_c ?_ ?_)) <;> omega)]; exact b2), zb_v, s_rch_14, g1, p2]
  exact c_chain1 hg hgood ha1 ha2 hj hp hB hr 40 0 _ m1 (by decide) (Int.le_refl _) d2 gd.1 gd.2.1 gd.2.2
theorem c_join1 (m : z_M) (s : Int) : z_R 51 (m, 0, [(0, s), (0, 1)], []) = some (m, some (0, okf (decide (s = 42 ∨ s = 47)))) := by
  rw [s_rjo_0, if_neg (by decide)]
  by_cases h1 : s = 42
  · rw [if_pos h1, decide_eq_true (Or.inl h1)]; rfl
  rw [if_neg h1]
  by_cases h2 : s = 47
  · rw [if_pos h2, decide_eq_true (Or.inr h2)]; rfl
  · rw [if_neg h2, decide_eq_false (fun z => z.elim h1 h2)]; rfl
theorem c_join0 (m : z_M) (s : Int) : z_R 51 (m, 0, [(0, s), (0, 0)], []) = some (m, some (0, okf (decide (s = 43 ∨ s = 45)))) := by
  rw [s_rjo_0, if_pos rfl]
  by_cases h1 : s = 43
  · rw [if_pos h1, decide_eq_true (Or.inl h1)]; rfl
  rw [if_neg h1]
  by_cases h2 : s = 45
  · rw [if_pos h2, decide_eq_true (Or.inr h2)]; rfl
  · rw [if_neg h2, decide_eq_false (fun z => z.elim h1 h2)]; rfl
theorem c_product {g : Int → Int} (hg : q_gb g) (hr : ∀ i, -1 ≤ g i ∧ g i ≤ 255) {d : Nat} (hd : d ≤ 4) (hE : d < 4 → c_PE g (d + 1)) (m : z_M) (hB : c_RB g m) : ∃ m', z_R 42 (m, 0, [(2, 116), (0, (d : Int)), (0, 1), (9, 0), (9, 0), (9, 0)], []) = some (m', some (0, okf (q_pr g (q_E g d) (m 1 2)).1)) ∧ c_RP m m' (q_pr g (q_E g d) (m 1 2)) := by
  refine c_chain hg hd (q_sg_good hg (q_E_good hg d)) (by decide) (by decide) c_join1 (fun m hB => ?_) hr m hB
  obtain ⟨m', a1, a2⟩ := c_signed hg hr hd hE m hB
  refine ⟨m', ?_, a2⟩
  rw [s_rpt_0, if_neg (by decide), a1, zb_v, s_rpt_9]
theorem c_sum {g : Int → Int} (hg : q_gb g) (hr : ∀ i, -1 ≤ g i ∧ g i ≤ 255) {d : Nat} (hd : d ≤ 4) (hE : d < 4 → c_PE g (d + 1)) (m : z_M) (hB : c_RB g m) : ∃ m', z_R 42 (m, 0, [(2, 116), (0, (d : Int)), (0, 0), (9, 0), (9, 0), (9, 0)], []) = some (m', some (0, okf (q_su g (q_E g d) (m 1 2)).1)) ∧ c_RP m m' (q_su g (q_E g d) (m 1 2)) := by
  refine c_chain hg hd (q_pr_good hg (q_E_good hg d)) (by decide) (by decide) c_join0 (fun m hB => ?_) hr m hB
  obtain ⟨m', a1, a2⟩ := c_product hg hr hd hE m hB
  refine ⟨m', ?_, a2⟩
  rw [s_rpt_0, if_pos rfl, a1, zb_v, s_rpt_18]
theorem c_expr {g : Int → Int} (hg : q_gb g) (hr : ∀ i, -1 ≤ g i ∧ g i ≤ 255) {d : Nat} (hd : d ≤ 4) (hE : d < 4 → c_PE g (d + 1)) : c_PE g d := by
  intro m hB
  obtain ⟨b1, b2, b3, b4, b5⟩ := id hB
  rw [q_ex_he g hd]
  obtain ⟨m1, a1, p1, p2, p3, p4⟩ := c_sum hg hr hd hE m hB
  have gd := q_su_good hg (q_E_good hg d) (m 1 2) b3.1 b3.2
  have g1 : u_g m1 = g := (u_g_RL p1).trans b1
  rw [s_rex_0 m d ⟨by omega, by omega⟩, a1, zb_v, s_rex_6 m1 d _ ⟨by omega, by omega⟩, c_next m1 (by omega) (by rw [p1.of (by (try unfold c_RL); (repeat' (first | exact trivial | refine z_of_c ?_ ?_)) <;> omega)]; exact b2), zb_v, s_rex_14 m1 d _ _ ⟨by omega, by omega⟩, g1, p2]
  unfold q_he
  generalize hR : q_su g (q_E g d) (m 1 2) = R at a1 p2 p4 gd ⊢
  obtain ⟨ok, pos, code⟩ := R
  simp only at a1 p2 p4 gd ⊢
  have no : ¬ (ok = true ∧ (g pos = 60 ∨ g pos = 62 ∨ g pos = 61)) → c_RP m m1 (if ok = true ∧ (g pos = 60 ∨ g pos = 62 ∨ g pos = 61) then ((q_su g (q_E g d) (pos + 1)).1, (q_su g (q_E g d) (pos + 1)).2.1, code ++ (q_su g (q_E g d) (pos + 1)).2.2 ++ [2000 + g pos]) else (ok, pos, code)) := fun z => by
    rw [if_neg z]
    exact ⟨p1, p2, p3, p4⟩
  cases ok with
  | false =>
    rw [show okf false = 0 from rfl, if_pos rfl]
    have z := no (fun z => by cases z.1)
    rw [if_neg (show ¬ (false = true ∧ (g pos = 60 ∨ g pos = 62 ∨ g pos = 61)) from fun z => by cases z.1)] at z ⊢
    exact ⟨m1, rfl, z⟩
  | true =>
    rw [show okf true = 1 from rfl, if_neg (by decide)]
    by_cases c : g pos = 60 ∨ g pos = 62 ∨ g pos = 61
    · rw [if_pos (show true = true ∧ (g pos = 60 ∨ g pos = 62 ∨ g pos = 61) from ⟨rfl, c⟩)]
      have bb := hg pos (by rcases c with z | z | z <;> rw [z] <;> decide)
      obtain ⟨p5, p6⟩ := p4 rfl
      have gz := gd.2.2 rfl
      have e12 : (z_up m1 1 2 (m1 1 2 + 1)) 1 2 = m1 1 2 + 1 := zu_self
      have sz : (z_up m1 1 2 (m1 1 2 + 1)) 116 2 = m1 116 2 := zu_p (by decide)
      have srow : (z_up m1 1 2 (m1 1 2 + 1)) 117 = m1 117 := zu_rowne (by decide)
      obtain ⟨m2, d1, d2, d3, d4, d5⟩ := c_sum hg hr hd hE (z_up m1 1 2 (m1 1 2 + 1)) ⟨u_g_at.trans g1, by rw [zu_k (by decide), p1.of (by (try unfold c_RL); (repeat' (first | exact trivial | refine z_of_c ?_ ?_)) <;> omega)]; exact b2, by omega, by omega, by omega⟩
      rw [e12] at d1 d3 d5
      rw [sz, srow, p5, p6] at d5
      rw [p2] at d1 d2 d3 d5
      have gd2 := q_su_good hg (q_E_good hg d) (pos + 1) (by omega) (by omega)
      have rp := hr pos
      obtain ⟨m3, f1, f2, f3, f4, f5⟩ := c_emit m2 (2000 + g pos) d4.1 d4.2
      have go : ((z_R 26 (m1, 0, [(2, 1), (0, 1)], [])).bind fun qq => z_R 41 (qq.1, 49, [(2, 116), (0, (d : Int)), (0, 1), (0, g pos)], qq.2.toList ++ [])) = some (m3, some (0, okf (q_su g (q_E g d) (pos + 1)).1)) := by
        rw [c_step1 m1 (by omega) (by omega), zb_v, s_rex_49, if_neg (by decide), p2, d1, zb_v, s_rex_58, z_add_eq (by omega) (by omega), f1, zb_n, s_rex_68]
      have fin : c_RP m m3 ((q_su g (q_E g d) (pos + 1)).1, (q_su g (q_E g d) (pos + 1)).2.1, code ++ (q_su g (q_E g d) (pos + 1)).2.2 ++ [2000 + g pos]) := by
        refine ⟨(p1.tr ((z_same.rf.upo (L := c_RL) (p := 1) (k := 2) (v := pos + 1) (by (try unfold c_RL); first | exact z_on_h rfl (by omega) (by omega) | exact z_on_t (z_on_h rfl (by omega) (by omega)) | exact z_on_t (z_on_t (z_on_h rfl (by omega) (by omega))) | exact z_on_t (z_on_t (z_on_t (z_on_h rfl (by omega) (by omega)))) | exact z_on_t (z_on_t (z_on_t (z_on_t (z_on_h rfl (by omega) (by omega))))) | exact z_on_t (z_on_t (z_on_t (z_on_t (z_on_t (z_on_h rfl (by omega) (by omega)))))) | exact z_on_t (z_on_t (z_on_t (z_on_t (z_on_t (z_on_t (z_on_h rfl (by omega) (by omega))))))) | exact z_on_t (z_on_t (z_on_t (z_on_t (z_on_t (z_on_t (z_on_t (z_on_h rfl (by omega) (by omega)))))))) | exact z_on_t (z_on_t (z_on_t (z_on_t (z_on_t (z_on_t (z_on_t (z_on_t (z_on_h rfl (by omega) (by omega))))))))) | exact z_on_t (z_on_t (z_on_t (z_on_t (z_on_t (z_on_t (z_on_t (z_on_t (z_on_t (z_on_h rfl (by omega) (by omega)))))))))) | exact z_on_t (z_on_t (z_on_t (z_on_t (z_on_t (z_on_t (z_on_t (z_on_t (z_on_t (z_on_t (z_on_h rfl (by omega) (by omega))))))))))) | exact z_on_t (z_on_t (z_on_t (z_on_t (z_on_t (z_on_t (z_on_t (z_on_t (z_on_t (z_on_t (z_on_t (z_on_h rfl (by omega) (by omega)))))))))))) | exact z_on_t (z_on_t (z_on_t (z_on_t (z_on_t (z_on_t (z_on_t (z_on_t (z_on_t (z_on_t (z_on_t (z_on_t (z_on_h rfl (by omega) (by omega))))))))))))))).tr d2)).tr f2, f3.trans d3, f4, fun z => ?_⟩
        obtain ⟨t1, t2⟩ := d5 z
        have gz2 := gd2.2.2 z
        have t3 := f5 (by omega)
        rw [t1, t2] at t3
        refine ⟨?_, ?_⟩
        · rw [t3.1]
          show _ = m 116 2 + (((code ++ (q_su g (q_E g d) (pos + 1)).2.2 ++ [2000 + g pos]).length : Nat) : Int)
          rw [List.length_append, List.length_append]
          show _ = m 116 2 + ((code.length + ((q_su g (q_E g d) (pos + 1)).2.2).length + 1 : Nat) : Int)
          omega
        · rw [t3.2]
          show _ = wr (m 117) (m 116 2).toNat (code ++ (q_su g (q_E g d) (pos + 1)).2.2 ++ [2000 + g pos])
          rw [wr_app, wr_app, List.length_append, show (m 116 2 + (code.length : Int)).toNat = (m 116 2).toNat + code.length by omega, show (m 116 2 + (code.length : Int) + (((q_su g (q_E g d) (pos + 1)).2.2).length : Int)).toNat = (m 116 2).toNat + (code.length + ((q_su g (q_E g d) (pos + 1)).2.2).length) by omega]
          rfl
      refine ⟨m3, ?_, fin⟩
      by_cases c1 : g pos = 60
      · rw [if_pos c1]; exact go
      rw [if_neg c1]
      by_cases c2 : g pos = 62
      · rw [if_pos c2]; exact go
      rw [if_neg c2, if_pos (by omega)]
      exact go
    · have z := no (fun z => c z.2)
      rw [if_neg (show ¬ (true = true ∧ (g pos = 60 ∨ g pos = 62 ∨ g pos = 61)) from fun z => c z.2)] at z ⊢
      rw [if_neg (fun z => c (Or.inl z)), if_neg (fun z => c (Or.inr (Or.inl z))), if_neg (fun z => c (Or.inr (Or.inr z))), c_step0, zb_v, s_rex_49, if_pos rfl]
      exact ⟨m1, rfl, z⟩
theorem c_exprs {g : Int → Int} (hg : q_gb g) (hr : ∀ i, -1 ≤ g i ∧ g i ≤ 255) : ∀ D, D ≤ 4 → c_PE g (4 - D)
  | 0, _ => c_expr hg hr (by decide) (fun z => by omega)
  | D + 1, h => c_expr hg hr (by omega) (fun _ => by
    rw [show 4 - (D + 1) + 1 = 4 - D by omega]
    exact c_exprs hg hr D (by omega))
