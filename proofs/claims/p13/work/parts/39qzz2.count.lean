/-! COUNT, of what both are in -/
section
variable {w h n : Nat} {heat price : Int} {D A : Nat → Int} {c : Nat} {U : Nat → Nat → Int} {kn : Nat → Int} {KS : Nat → Nat → Int} {cs : List Int} {m : z_M}
theorem W_flo {B : Nat → Int} (h8 : m 3 8 = (w : Int)) (h9 : m 3 9 = (h : Int)) (hB : cS m 12 n = B) : ∀ (f x : Nat) (b : Int), x + f = 9 → z_R 92 (m, 4, [(2, 3), (2, 12), (0, b), (0, (x : Int))], []) = some (m, some (0, s_bt (fun k => decide (¬ u_hs (w : Int) (h : Int) (k : Int) = 0 ∧ 0 < B k)) f x b)) := by
  intro f
  induction f with
  | zero =>
    intro x b hx
    rw [ct_flo_4, if_pos (by omega)]
    rfl
  | succ f ih =>
    intro x b hx
    have eB : m 13 x = B x := by
      rw [← hB]
      exact (cS_at1 (s := 12) (by omega)).symm
    rw [ct_flo_4, if_neg (show ¬ (9 : Int) ≤ (x : Int) by omega), h8, h9, z_add_eq (x := (x : Int)) (y := 1) (by omega) (by omega), tc1, Int.toNat_natCast, eB]
    unfold s_bt
    by_cases c1 : u_hs (w : Int) (h : Int) (x : Int) = 0
    · rw [if_neg (not_not_intro c1), if_neg (fun z => (of_decide_eq_true z).1 c1)]
      exact ih (x + 1) b (by omega)
    · rw [if_pos c1]
      by_cases c2 : B x ≤ 0
      · rw [if_pos c2, if_neg (fun z => by have := (of_decide_eq_true z).2; omega)]
        exact ih (x + 1) b (by omega)
      · rw [if_neg c2, if_pos (decide_eq_true ⟨c1, by omega⟩)]
        exact ih (x + 1) _ (by omega)
theorem V_tha {B : Nat → Int} (h1 : m 251 1 = (w : Int)) (h2 : m 251 2 = (h : Int)) (hB : rS m 252 n = B) : ∀ (f x : Nat) (b : Int), x + f = 9 → z_w b = b → z_R 223 (m, 4, [(2, 251), (2, 252), (0, b), (0, (x : Int))], []) = some (m, some (0, s_bt (fun k => decide (¬ u_hs (w : Int) (h : Int) (k : Int) = 0 ∧ B k = 0)) f x b)) := by
  intro f
  induction f with
  | zero =>
    intro x b hx hb
    rw [ct_tha_4, if_pos (by omega)]
    rfl
  | succ f ih =>
    intro x b hx hb
    have eB : m 252 x = B x := by
      rw [← hB]
      exact (rS_at (by omega) (a_vis_lo (by omega))).symm
    rw [ct_tha_4, if_neg (show ¬ (9 : Int) ≤ (x : Int) by omega), h1, h2, z_add_eq (x := (x : Int)) (y := 1) (by omega) (by omega), tc1, Int.toNat_natCast, eB, z_or0 hb]
    unfold s_bt
    by_cases c1 : u_hs (w : Int) (h : Int) (x : Int) = 0
    · rw [if_neg (not_not_intro c1), if_neg (fun z => (of_decide_eq_true z).1 c1)]
      exact ih (x + 1) b (by omega) hb
    · rw [if_pos c1]
      by_cases c2 : B x = 0
      · rw [if_pos c2, if_pos (decide_eq_true ⟨c1, c2⟩)]
        exact ih (x + 1) _ (by omega) z_or_w
      · rw [if_neg c2, if_neg (fun z => c2 (of_decide_eq_true z).2)]
        exact ih (x + 1) b (by omega) hb
def n_ct (w h n : Nat) (heat price : Int) (A : Nat → Int) (c : Nat) (row txt k : Int) : Int := if k = 0 then (w : Int) else if k = 1 then (h : Int) else if k = 2 then (n : Int) else if k = 3 then hr_b (-1) n 0 A 0 else if k = 4 then A 34 else if k = 5 then heat else if k = 6 then A 36 else if k = 7 then price else if k = 8 then A 35 else if k = 9 then s_G w h A else if k = 10 then (c : Int) else if k = 11 then row else if k = 12 then txt else -100
theorem n_511 : ∀ M : Nat, M < 512 → z_and (M : Int) 511 = (M : Int) := by decide +kernel
theorem n_9 {M : Int} (hm : ∀ r : Nat, r < 9 → (z_and (z_shr M (r : Int)) 1 = 0 ↔ u_hs (w : Int) (h : Int) (r : Int) = 0)) (hM : 0 ≤ M ∧ M < 512) (hA : ∀ k, k < 9 → 0 ≤ A k) : z_and M (z_xor (s_F w h A) (-1)) = s_G w h A := by
  have bG : 0 ≤ s_G w h A ∧ s_G w h A < 512 := s_bt_b 9 0 0 (by decide) ⟨by decide, by decide⟩
  refine zb_ext z_and_w (z_w_of (by omega) (by omega)) (fun k hk => ?_)
  rw [zb_and, zb_xor, zb_m1 hk]
  unfold s_F s_G
  rw [zb_bt hk 9 0 0 (by decide), zb_bt hk 9 0 0 (by decide), zb_0]
  by_cases k9 : k < 9
  · have e := hm k k9
    rw [zb_test k9] at e
    rw [decide_eq_true (show 0 ≤ k ∧ k < 0 + 9 by omega)]
    have hk0 := hA k k9
    by_cases c1 : u_hs (w : Int) (h : Int) (k : Int) = 0
    · rw [e.mpr c1, decide_eq_false (show ¬ (¬ u_hs (w : Int) (h : Int) (k : Int) = 0 ∧ A k = 0) from fun z => z.1 c1)]
      rfl
    · cases y : zb M k with
      | false => exact absurd (e.mp y) c1
      | true =>
        by_cases c2 : A k = 0
        · rw [decide_eq_false (show ¬ (¬ u_hs (w : Int) (h : Int) (k : Int) = 0 ∧ 0 < A k) by omega), decide_eq_true (show ¬ u_hs (w : Int) (h : Int) (k : Int) = 0 ∧ A k = 0 from ⟨c1, c2⟩)]
          rfl
        · rw [decide_eq_true (show ¬ u_hs (w : Int) (h : Int) (k : Int) = 0 ∧ 0 < A k from ⟨c1, by omega⟩), decide_eq_false (show ¬ (¬ u_hs (w : Int) (h : Int) (k : Int) = 0 ∧ A k = 0) from fun z => c2 z.2)]
          rfl
  · rw [decide_eq_false (show ¬ (0 ≤ k ∧ k < 0 + 9) by omega)]
    have e5 : zb 511 k = false := by
      have : ∀ k, k < 32 → 9 ≤ k → zb 511 k = false := by decide +kernel
      exact this k hk (by omega)
    have eM : zb M k = false := by
      obtain ⟨q, rfl⟩ : ∃ q : Nat, M = (q : Int) := ⟨M.toNat, by omega⟩
      rw [← n_511 q (by omega), zb_and, e5, Bool.and_false]
    rw [eM]
    rfl
theorem C_count (hi : C_is w h n heat price D A c U kn KS cs m) (h5 : n ≤ 5) (hok : hr_ok n A) (hM : 0 ≤ m 3 10 ∧ m 3 10 < 512) (k : Int) : z_R 154 (m, 0, [(2, 0), (0, k)], []) = some (m, some (0, n_ct w h n heat price A c (m 0 13) (m 1 1) k)) := by
  have e6 : m 12 6 = A 34 := by
    rw [← hi.2.2.1]
    exact (cS_at0 (s := 12) (j := 6) (by decide)).symm
  have e7 : m 12 7 = A 35 := by
    rw [← hi.2.2.1]
    exact (cS_at0 (s := 12) (j := 7) (by decide)).symm
  have e8 : m 12 8 = A 36 := by
    rw [← hi.2.2.1]
    exact (cS_at0 (s := 12) (j := 8) (by decide)).symm
  have aB := C_bin hi h5 (r := -1) n 0 0 (by omega) (by decide)
  have aB : z_R 100 (m, 5, [(2, 3), (2, 12), (0, -1), (0, 0), (0, 0)], []) = some (m, some (0, hr_b (-1) n 0 A 0)) := aB
  have eF := W_flo (w := w) (h := h) (n := n) hi.1.1 hi.1.2.1 hi.2.2.1 9 0 0 (by decide)
  have eF : z_R 92 (m, 4, [(2, 3), (2, 12), (0, 0), (0, 0)], []) = some (m, some (0, s_F w h A)) := eF
  rw [ct_cou_0]
  unfold n_ct
  by_cases k0 : k = 0
  · rw [if_pos k0, if_pos k0, hi.1.1]
  rw [if_neg k0, if_neg k0]
  by_cases k1 : k = 1
  · rw [if_pos k1, if_pos k1, hi.1.2.1]
  rw [if_neg k1, if_neg k1]
  by_cases k2 : k = 2
  · rw [if_pos k2, if_pos k2, hi.1.2.2.1]
  rw [if_neg k2, if_neg k2]
  by_cases k3 : k = 3
  · rw [if_pos k3, if_pos k3, z_bin_0, aB, zb_v, ct_cou_104]
  rw [if_neg k3, if_neg k3]
  by_cases k4 : k = 4
  · rw [if_pos k4, if_pos k4, e6]
  rw [if_neg k4, if_neg k4]
  by_cases k5 : k = 5
  · rw [if_pos k5, if_pos k5, hi.1.2.2.2.1]
  rw [if_neg k5, if_neg k5]
  by_cases k6 : k = 6
  · rw [if_pos k6, if_pos k6, e8]
  rw [if_neg k6, if_neg k6]
  by_cases k7 : k = 7
  · rw [if_pos k7, if_pos k7, hi.1.2.2.2.2.1]
  rw [if_neg k7, if_neg k7]
  by_cases k8 : k = 8
  · rw [if_pos k8, if_pos k8, e7]
  rw [if_neg k8, if_neg k8]
  by_cases k9 : k = 9
  · rw [if_pos k9, if_pos k9, ct_flo_0, eF, zb_v, ct_cou_163, n_9 hi.1.2.2.2.2.2.1 hM (fun j hj => (hok.1 j hj).1)]
  rw [if_neg k9, if_neg k9]
  by_cases k10 : k = 10
  · rw [if_pos k10, if_pos k10, hi.2.2.2.1.2.1]
  rw [if_neg k10, if_neg k10]
  by_cases k11 : k = 11
  · rw [if_pos k11, if_pos k11]
  rw [if_neg k11, if_neg k11]
  by_cases k12 : k = 12
  · rw [if_pos k12, if_pos k12]
  rw [if_neg k12, if_neg k12]
theorem R_count (hi : R_is w h n heat price D A c U kn KS cs m) (h5 : n ≤ 5) (k : Int) : z_R 260 (m, 0, [(2, 251), (0, k)], []) = some (z_up m 251 11 0, some (0, n_ct w h n heat price A c (m 251 10) (m 251 8) k)) := by
  have e34 : m 252 34 = A 34 := R_A hi (by decide) (a_vis_hi (by decide))
  have e35 : m 252 35 = A 35 := R_A hi (by decide) (a_vis_hi (by decide))
  have e36 : m 252 36 = A 36 := R_A hi (by decide) (a_vis_hi (by decide))
  have hu := R_upn (p0 := 251) (k0 := 11) (v := 0) hi (by decide)
  have pin := r_pin z_A_252 (Or.inl rfl) h5 (k := -1) (z_up m 251 11 0) hu.1.2.2.1
  rw [hu.2.2.1] at pin
  have pin : z_R 183 (z_up m 251 11 0, 0, [(2, 251), (2, 252), (0, -1), (9, 0), (9, 0)], []) = some (z_up m 251 11 0, some (0, hr_b (-1) n 0 A 0)) := pin
  have eF := V_tha (w := w) (h := h) (n := n) hu.1.1 hu.1.2.1 hu.2.2.1 9 0 0 (by decide) (by decide +kernel)
  have eF : z_R 223 (z_up m 251 11 0, 4, [(2, 251), (2, 252), (0, 0), (0, 0)], []) = some (z_up m 251 11 0, some (0, s_G w h A)) := eF
  rw [ct_tco_0]
  unfold n_ct
  by_cases k0 : k = 0
  · rw [if_pos k0, if_pos k0, hi.1.1]
  rw [if_neg k0, if_neg k0]
  by_cases k1 : k = 1
  · rw [if_pos k1, if_pos k1, hi.1.2.1]
  rw [if_neg k1, if_neg k1]
  by_cases k2 : k = 2
  · rw [if_pos k2, if_pos k2, hi.1.2.2.1]
  rw [if_neg k2, if_neg k2]
  by_cases k3 : k = 3
  · rw [if_pos k3, if_pos k3, pin, zb_v, ct_tco_96]
  rw [if_neg k3, if_neg k3]
  by_cases k4 : k = 4
  · rw [if_pos k4, if_pos k4, e34]
  rw [if_neg k4, if_neg k4]
  by_cases k5 : k = 5
  · rw [if_pos k5, if_pos k5, hi.1.2.2.2.1]
  rw [if_neg k5, if_neg k5]
  by_cases k6 : k = 6
  · rw [if_pos k6, if_pos k6, e36]
  rw [if_neg k6, if_neg k6]
  by_cases k7 : k = 7
  · rw [if_pos k7, if_pos k7, hi.1.2.2.2.2.1]
  rw [if_neg k7, if_neg k7]
  by_cases k8 : k = 8
  · rw [if_pos k8, if_pos k8, e35]
  rw [if_neg k8, if_neg k8]
  by_cases k9 : k = 9
  · rw [if_pos k9, if_pos k9, ct_tha_0, eF, zb_v, ct_tco_139]
  rw [if_neg k9, if_neg k9]
  by_cases k10 : k = 10
  · rw [if_pos k10, if_pos k10, hi.2.2.2.1.1]
  rw [if_neg k10, if_neg k10]
  by_cases k11 : k = 11
  · rw [if_pos k11, if_pos k11]
  rw [if_neg k11, if_neg k11]
  by_cases k12 : k = 12
  · rw [if_pos k12, if_pos k12]
  rw [if_neg k12, if_neg k12]
theorem u_mk_b : ∀ w : Nat, w < 4 → ∀ h : Nat, h < 4 → 0 ≤ u_mk (w : Int) (h : Int) 9 0 0 ∧ u_mk (w : Int) (h : Int) 9 0 0 < 512 := by decide +kernel
theorem W_house (hi : C_is w h n heat price D A c U kn KS cs m) (h0 : 0 ≤ m 1 1) (h1 : m 1 1 ≤ 80) {S : u_H} (hS : u_hou (u_nx (m 2) (m 1 1) 80) (m 1 1) 3 0 3 0 (m 9) = S) : ∃ m', z_R 18 (m, 0, [(2, 0), (9, 0), (9, 0)], []) = some (m', some (0, u_ans S)) ∧ (0 ≤ m 3 10 ∧ m 3 10 < 512 → 0 ≤ m' 3 10 ∧ m' 3 10 < 512) := by
  have b := u_hou_b (u_nx_b h1) (n := m 1 1) 3 0 3 0 (m 9) (g := u_nx (m 2) (m 1 1) 80) (by decide) (by decide) (by decide) (by decide) (by decide) (by decide)
  obtain ⟨m1, a1, a2⟩ := c_readHouse m h1
  rw [hS] at a1 a2 b
  obtain ⟨ok, w', h', i, a⟩ := S
  obtain ⟨p1, p2, p3, p4, p5⟩ := a2
  try simp only at a1 p1 p2 p3 p4 b
  unfold u_ans
  try simp only
  rw [s_house_0, a1]
  show ∃ m', z_R 18 (m1, 11, [(2, 0), (9, 0), (9, 0)], [(0, if ok = true then 1 else 0)]) = _ ∧ _
  rw [s_house_11, s_empty_0]
  show ∃ m', z_R 18 (z_up m1 1 1 0, 19, [(2, 0), (0, if ok = true then 1 else 0), (9, 0)], []) = _ ∧ _
  rw [s_house_19]
  have hf1 : ∀ p k, ¬ (p = 1 ∧ 1 ≤ k ∧ k ≤ 3) → ¬ (p = 3 ∧ 5 ≤ k ∧ k ≤ 6) → ¬ p = 9 → (z_up m1 1 1 0) p k = m p k := fun p k n1 n2 n3 => by
    rw [X_up (by omega)]
    exact p5.of (by
      unfold u_L2
      (repeat' (first | exact trivial | refine z_of_c ?_ ?_)) <;> omega)
  by_cases c : ok = true
  · rw [if_pos c, if_neg (by decide), if_pos c]
    obtain ⟨w2, rfl⟩ : ∃ w2 : Nat, w' = (w2 : Int) := ⟨w'.toNat, by omega⟩
    obtain ⟨h2, rfl⟩ : ∃ h2 : Nat, h' = (h2 : Int) := ⟨h'.toNat, by omega⟩
    obtain ⟨m2, d1, ⟨d2, d3, d4, d5⟩, d6, d7, d8, d9⟩ := C_build (z_up m1 1 1 0) ((zu_p (by decide)).trans p1) ((zu_p (by decide)).trans (p2 c))
    rw [d1]
    show ∃ m', z_R 18 (m2, 44, [(2, 0), (0, 1), (9, 0)], [(0, z_mul (w2 : Int) (h2 : Int))]) = _ ∧ _
    rw [s_house_44, s_fd_0]
    show ∃ m', z_R 18 (z_up m2 28 4 0, 52, [(2, 0), (0, 1), (0, z_mul (w2 : Int) (h2 : Int))], []) = _ ∧ _
    rw [s_house_52, s_fk_0]
    obtain ⟨m3, f1, f2, f3⟩ := c_fk 2 0 (z_up m2 28 4 0) (by decide) (by decide)
    rw [f1]
    have hf3 : ∀ p k, ¬ (p = 31 ∧ k ≤ 1) → ¬ (p = 28 ∧ k = 4) → m3 p k = m2 p k := fun p k n1 n2 => by
      rw [f2.of (by
        refine z_of_c ?_ trivial
        omega), X_up n2]
    refine ⟨m3, (s_house_59 _ _ _).trans (by rw [u_mul3 b.1 b.2.1 b.2.2.1 b.2.2.2.1]), fun _ => ?_⟩
    rw [hf3 3 10 (by decide) (by decide), d5]
    exact u_mk_b w2 (by omega) h2 (by omega)
  · rw [if_neg c, if_pos rfl, if_neg c]
    have e1 : (z_up m1 1 1 0) 1 2 = i := (zu_k (by decide)).trans p3
    rw [e1, z_sub_eq (by omega) (by omega)]
    refine ⟨_, rfl, fun z => ?_⟩
    rw [hf1 3 10 (by decide) (by decide) (by decide)]
    exact z
end
/-! the relation, with how many numbers were told, and the mask of the rooms -/
def ln_E (m : z_M) : Prop := m 251 10 = m 0 13 ∧ (0 ≤ m 3 10 ∧ m 3 10 < 512)
def Rel_N (σ : m_H) : Prop := Rel_L σ ∧ ln_E (z_m σ)
theorem ln_start : ∀ σ, xs_is σ → Rel_N σ := fun σ hx => ⟨lo_start σ hx, by
  have V := V_ck_ok (xs_ck_ok (f := fun σ => V_ck [(0, 13, 1, 0), (251, 10, 1, 0), (3, 10, 1, 0)] σ) (by decide +kernel) hx)
  have z0 : z_m σ 0 13 = 0 := V (0, 13, 1, 0) List.mem_cons_self 0 (by decide)
  have z1 : z_m σ 251 10 = 0 := V (251, 10, 1, 0) (List.mem_cons_of_mem _ List.mem_cons_self) 0 (by decide)
  have z2 : z_m σ 3 10 = 0 := V (3, 10, 1, 0) (List.mem_cons_of_mem _ (List.mem_cons_of_mem _ List.mem_cons_self)) 0 (by decide)
  exact ⟨z1.trans z0.symm, by rw [z2]; decide⟩⟩
def ln_offb (y1 y2 : Nat) : Bool := (md_off y1 251 10 && md_off y2 0 13) && (md_off y1 3 10 && md_off y2 3 10)
theorem ln_case {c : l_C} (h1 : l_rel2 Rel_L c) (h2 : l_twR Rel_L ln_Q c) (h : ln_offb c.2.2.1 c.2.2.2.2.2.2.2 = true) : l_rel2 Rel_N c := by
  obtain ⟨g, g'⟩ := Bool.and_eq_true _ _ |>.mp h
  obtain ⟨g1, g2⟩ := Bool.and_eq_true _ _ |>.mp g
  obtain ⟨g3, g4⟩ := Bool.and_eq_true _ _ |>.mp g'
  intro M1 M2 M3 σ σ1 σ2 as v1 v2 C1 C2 ρ1 ρ2 ha hR hh hM1 hC1 hp1 hE1 hC2 hp2 hE2
  have z := h1 M1 M2 M3 σ σ1 σ2 as v1 v2 C1 C2 ρ1 ρ2 ha hR.1 hh hM1 hC1 hp1 hE1 hC2 hp2 hE2
  refine ⟨⟨z.1, ?_, ?_⟩, z.2⟩
  · obtain ⟨o, a, b⟩ := h2 M1 M2 M3 σ σ1 σ2 as v1 v2 C1 C2 ρ1 ρ2 ha hR.1 hh hM1 hC1 hp1 hE1 hC2 hp2 hE2
    have f1 : z_m σ1 251 10 = z_m σ 251 10 := md_off_ok g1 hC1 hp1
    have f2 : z_m σ2 0 13 = z_m σ1 0 13 := md_off_ok g2 hC2 hp2
    cases o with
    | none =>
      have a : z_m σ1 0 13 = z_m σ 0 13 := a
      have b : z_m σ2 251 10 = z_m σ1 251 10 := b
      rw [b, f1, f2, a]
      exact hR.2.1
    | some k =>
      have a : z_m σ1 0 13 = (k : Int) := a
      have b : z_m σ2 251 10 = (k : Int) := b
      rw [b, f2, a]
  · have f3 : z_m σ1 3 10 = z_m σ 3 10 := md_off_ok g3 hC1 hp1
    have f4 : z_m σ2 3 10 = z_m σ1 3 10 := md_off_ok g4 hC2 hp2
    rw [f4, f3]
    exact hR.2.2
theorem two_L {Q : z_M → z_M → z_M → Prop} {c : l_C} (h : l_two Q c) : l_twR Rel_L Q c := by
  intro M1 M2 M3 σ σ1 σ2 as v1 v2 C1 C2 ρ1 ρ2 ha hR hh hM1 hC1 hp1 hE1 hC2 hp2 hE2
  exact h M1 M2 M3 σ σ1 σ2 as v1 v2 C1 C2 ρ1 ρ2 ha hR.1 hh hM1 hC1 hp1 hE1 hC2 hp2 hE2
theorem ln_none {c : l_C} (h : (md_off c.2.2.1 0 13 && md_off c.2.2.2.2.2.2.2 251 10) = true) : l_twR Rel_L ln_Q c := by
  obtain ⟨g1, g2⟩ := Bool.and_eq_true _ _ |>.mp h
  intro M1 M2 M3 σ σ1 σ2 as v1 v2 C1 C2 ρ1 ρ2 ha hR hh hM1 hC1 hp1 hE1 hC2 hp2 hE2
  exact ⟨none, md_off_ok g1 hC1 hp1, md_off_ok g2 hC2 hp2⟩
theorem ln_q {c : l_C} (h1 : l_rel2 Rel_L c) (h : ((md_off c.2.2.1 0 13 && md_off c.2.2.2.2.2.2.2 251 10) && ln_offb c.2.2.1 c.2.2.2.2.2.2.2) = true) : l_rel2 Rel_N c := by
  obtain ⟨g1, g2⟩ := Bool.and_eq_true _ _ |>.mp h
  exact ln_case h1 (ln_none g1) g2
theorem ln_q3 {y n : Nat} (h1 : l_rel3 Rel_L y n) (h : (md_off y 0 13 && (md_off y 251 10 && md_off y 3 10)) = true) : l_rel3 Rel_N y n := by
  obtain ⟨g1, g⟩ := Bool.and_eq_true _ _ |>.mp h
  obtain ⟨g2, g3⟩ := Bool.and_eq_true _ _ |>.mp g
  intro M1 M2 M3 σ σ1 σ2 as v C2 ρ2 ha hR hh hM1 hf hh1 hC2 hp2 hE2
  have hz : ∀ p k, (¬ p = 6 ∧ ¬ p = 7 ∧ ¬ p = 278) → z_m σ1 p k = z_m σ p k := fun p k hp => by
    have e := hf p k (fun ⟨q, q1, q2, _⟩ => by
      simp only [List.mem_cons, List.not_mem_nil, or_false] at q1
      rcases q1 with rfl | rfl | rfl <;> simp only at q2 <;> omega)
    unfold z_m
    rw [e]
  refine ⟨h1 M1 M2 M3 σ σ1 σ2 as v C2 ρ2 ha hR.1 hh hM1 hf hh1 hC2 hp2 hE2, ?_, ?_⟩
  · have f1 : z_m σ2 251 10 = z_m σ1 251 10 := md_off_ok g2 hC2 hp2
    have f2 : z_m σ2 0 13 = z_m σ1 0 13 := md_off_ok g1 hC2 hp2
    rw [f1, f2, hz 251 10 (by decide), hz 0 13 (by decide)]
    exact hR.2.1
  · have f3 : z_m σ2 3 10 = z_m σ1 3 10 := md_off_ok g3 hC2 hp2
    rw [f3, hz 3 10 (by decide)]
    exact hR.2.2
theorem ln_house (h1 : l_rel2 Rel_L (263, 36, 18, 0, false, 268, 40, 163)) : l_rel2 Rel_N (263, 36, 18, 0, false, 268, 40, 163) := by
  intro M1 M2 M3 σ σ1 σ2 as v1 v2 C1 C2 ρ1 ρ2 ha hR hh hM1 hC1 hp1 hE1 hC2 hp2 hE2
  have z := h1 M1 M2 M3 σ σ1 σ2 as v1 v2 C1 C2 ρ1 ρ2 ha hR.1 hh hM1 hC1 hp1 hE1 hC2 hp2 hE2
  obtain rfl := as_nil ha
  have hE1 : z_R 18 (z_m σ, 0, [(2, 0), (9, 0), (9, 0)], []) = some (z_m σ1, some (0, v1.toInt)) := z_R_iff.mpr hE1
  obtain ⟨r1, r2⟩ := z_rng hh (p := 1) (k := 1) (lo := 0) (hi := 80) (by decide) (by decide +kernel) (by decide +kernel)
  obtain ⟨w, h, n, heat, price, D, A, c, U, kn, KS, cs, cC, cR, cW⟩ := hR.1.1.2
  obtain ⟨m1, d1, d2⟩ := W_house cC r1 r2 rfl
  rw [← s_mem (d1.symm.trans hE1)] at d2
  have f1 : z_m σ1 251 10 = z_m σ 251 10 := md_off_ok (y := 18) (by decide +kernel) hC1 hp1
  have f2 : z_m σ1 0 13 = z_m σ 0 13 := md_off_ok (y := 18) (by decide +kernel) hC1 hp1
  have f3 : z_m σ2 251 10 = z_m σ1 251 10 := md_off_ok (y := 163) (by decide +kernel) hC2 hp2
  have f4 : z_m σ2 0 13 = z_m σ1 0 13 := md_off_ok (y := 163) (by decide +kernel) hC2 hp2
  have f5 : z_m σ2 3 10 = z_m σ1 3 10 := md_off_ok (y := 163) (by decide +kernel) hC2 hp2
  refine ⟨⟨z.1, ?_, ?_⟩, z.2⟩
  · rw [f3, f4, f1, f2]
    exact hR.2.1
  · rw [f5]
    exact d2 hR.2.2
theorem core_count : l_rel2 Rel_N (1247, 184, 154, 1, false, 1258, 187, 260) := by
  intro M1 M2 M3 σ σ1 σ2 as v1 v2 C1 C2 ρ1 ρ2 ha hR hh hM1 hC1 hp1 hE1 hC2 hp2 hE2
  obtain ⟨k, rfl⟩ := as_one ha
  have hE1 : z_R 154 (z_m σ, 0, [(2, 0), (0, k.toInt)], []) = some (z_m σ1, some (0, v1.toInt)) := z_R_iff.mpr hE1
  have hE2 : z_R 260 (z_m σ1, 0, [(2, 251), (0, k.toInt)], []) = some (z_m σ2, some (0, v2.toInt)) := z_R_iff.mpr hE2
  have hT := T_two (y1 := 154) (y2 := 260) (by decide +kernel) (by decide +kernel) hC1 hC2 hp1 hp2 hR.1.1.1
  have hL := lo_off_ok (y := 260) (by decide +kernel) hC2 hp2 (lo_off_ok (y := 154) (by decide +kernel) hC1 hp1 hR.1.2)
  have hK := core_off_ok (y := 260) (by decide +kernel) hC2 hp2 (core_off_ok (y := 154) (by decide +kernel) hC1 hp1 hR.1.1.2)
  have hT0 : u_R (z_m σ) := hR.1.1.1
  obtain ⟨w, h, n, heat, price, D, A, c, U, kn, KS, cs, cC, cR, cW⟩ := hR.1.1.2
  obtain ⟨⟨-, -, n5⟩, -, -, -, hok, -⟩ := core_b hh hM1 cR
  have e1 := C_count cC n5 hok hR.2.2 k.toInt
  have m1 := s_mem (e1.symm.trans hE1)
  have x1 := (R_inj e1 hE1).2
  rw [m1] at hE2
  have e2 := R_count cR n5 k.toInt
  have m2 := s_mem (e2.symm.trans hE2)
  have x2 := (R_inj e2 hE2).2
  rw [hR.2.1, ← hT0.1] at x2
  refine ⟨⟨⟨⟨hT, hK⟩, hL⟩, ?_, ?_⟩, fun _ => Int32.toInt_inj.mp (x1.symm.trans x2)⟩
  · rw [m2, zu_k (by decide), zu_p (by decide)]
    exact hR.2.1
  · rw [m2, zu_p (by decide)]
    exact hR.2.2
