section
/-! CARRY: the way of THE STOVE by which the least melts -/
def cy_to (r : Int) : Int := if r = -1 then 9 else r
def cy_bes (q r : Nat) : Bool := decide ((if 0 ≤ ((q : Int) % 3) - ((r : Int) % 3) then ((q : Int) % 3) - ((r : Int) % 3) else 0 - (((q : Int) % 3) - ((r : Int) % 3))) + (if 0 ≤ ((q : Int) / 3) - ((r : Int) / 3) then ((q : Int) / 3) - ((r : Int) / 3) else 0 - (((q : Int) / 3) - ((r : Int) / 3))) ≤ 1)
def cy_rl (w h q : Nat) : Nat → Nat → List Int
  | 0, _ => []
  | f + 1, r => if (¬ u_hs (w : Int) (h : Int) (r : Int) = 0) ∧ cy_bes q r = true then (r : Int) :: cy_rl w h q f (r + 1) else cy_rl w h q f (r + 1)
def cy_stp (i : Nat) : Int := if i = 0 then -3 else if i = 1 then -1 else if i = 2 then 0 else if i = 3 then 1 else 3
def cy_ok (w h q i : Nat) : Bool := decide (¬ u_hs (w : Int) (h : Int) ((q : Int) + cy_stp i) = 0) && (decide (¬ (cy_stp i = -1 ∨ cy_stp i = 1)) || decide (0 ≤ (q : Int) + cy_stp i ∧ ((q : Int) + cy_stp i) / 3 = (q : Int) / 3))
def cy_cl (w h q : Nat) : Nat → Nat → List Int
  | 0, _ => []
  | f + 1, i => if cy_ok w h q i = true then ((q : Int) + cy_stp i) :: cy_cl w h q f (i + 1) else cy_cl w h q f (i + 1)
theorem cy_eq : ∀ w, w < 4 → ∀ h, h < 4 → ∀ q, q < 9 → cy_cl w h q 5 0 = cy_rl w h q 10 0 := by decide +kernel
theorem cy_ne : ∀ w, w < 4 → ∀ h, h < 4 → ∀ q, q < 9 → ¬ u_hs ((w : Nat) : Int) ((h : Nat) : Int) ((q : Nat) : Int) = 0 → ¬ cy_rl w h q 10 0 = [] := by decide +kernel
def cy_L (w h : Nat) (q : Int) : List Int := if q = -1 then [-1] else cy_rl w h q.toNat 10 0
theorem cy_rl_in {w h q : Nat} : ∀ (f r : Nat) (x : Int), x ∈ cy_rl w h q f r → ¬ u_hs (w : Int) (h : Int) x = 0
  | 0, _, _, hx => absurd hx List.not_mem_nil
  | f + 1, r, x, hx => by
    unfold cy_rl at hx
    by_cases c : (¬ u_hs (w : Int) (h : Int) (r : Int) = 0) ∧ cy_bes q r = true
    · rw [if_pos c] at hx
      rcases List.mem_cons.mp hx with rfl | hx
      · exact c.1
      · exact cy_rl_in f (r + 1) x hx
    · rw [if_neg c] at hx
      exact cy_rl_in f (r + 1) x hx
theorem cy_L_in {w h : Nat} {q x : Int} (hx : x ∈ cy_L w h q) : x = -1 ∨ ¬ u_hs (w : Int) (h : Int) x = 0 := by
  unfold cy_L at hx
  by_cases c : q = -1
  · rw [if_pos c] at hx
    exact Or.inl (List.mem_singleton.mp hx)
  · rw [if_neg c] at hx
    exact Or.inr (cy_rl_in 10 0 x hx)
/-- the search: the least that melts, and by which way -/
def cy_g (St : (Nat → Int) → Int → (Nat → Int)) (ml : (Nat → Int) → Int → Int) (L : Int → List Int) : Nat → Nat → (Nat → Int) → Int → (Nat → Int) → Int × (Nat → Int) → Int × (Nat → Int)
  | 0, _, _, s, way, acc => if s < acc.1 then (s, way) else acc
  | j + 1, k, B, s, way, acc => (L (B 34)).foldl (fun a r => cy_g St ml L j (k + 1) (St B r) (s + ml B r) (u_up way k (cy_to r)) a) acc
theorem cy_fold_le {f : Int × (Nat → Int) → Int → Int × (Nat → Int)} (hf : ∀ a r, (f a r).1 ≤ a.1) : ∀ (l : List Int) (a : Int × (Nat → Int)), (l.foldl f a).1 ≤ a.1
  | [], a => Int.le_refl _
  | r :: l, a => Int.le_trans (cy_fold_le hf l (f a r)) (hf a r)
theorem cy_fold_id {f : Int × (Nat → Int) → Int → Int × (Nat → Int)} {a : Int × (Nat → Int)} : ∀ (l : List Int), (∀ r ∈ l, f a r = a) → l.foldl f a = a
  | [], _ => rfl
  | r :: l, h => by
    show l.foldl f (f a r) = a
    rw [h r List.mem_cons_self]
    exact cy_fold_id l (fun x hx => h x (List.mem_cons_of_mem _ hx))
section
variable {St : (Nat → Int) → Int → (Nat → Int)} {ml : (Nat → Int) → Int → Int} {L : Int → List Int} {Q : Nat → (Nat → Int) → Prop}
theorem cy_le : ∀ (j k : Nat) (B : Nat → Int) (s : Int) (way : Nat → Int) (acc : Int × (Nat → Int)), (cy_g St ml L j k B s way acc).1 ≤ acc.1
  | 0, k, B, s, way, acc => by
    unfold cy_g
    split
    · show s ≤ acc.1
      omega
    · exact Int.le_refl _
  | j + 1, k, B, s, way, acc => by
    unfold cy_g
    exact cy_fold_le (fun a r => cy_le j (k + 1) _ _ _ a) _ _
theorem cy_skip (hQ : ∀ k B r, k < 6 → Q k B → r ∈ L (B 34) → Q (k + 1) (St B r) ∧ 0 ≤ ml B r ∧ ml B r ≤ 891) : ∀ (j k : Nat) (B : Nat → Int) (s : Int) (way : Nat → Int) (acc : Int × (Nat → Int)), k + j ≤ 6 → Q k B → acc.1 ≤ s → cy_g St ml L j k B s way acc = acc
  | 0, k, B, s, way, acc, _, _, h => by
    unfold cy_g
    exact if_neg (by omega)
  | j + 1, k, B, s, way, acc, hkj, hB, h => by
    unfold cy_g
    refine cy_fold_id _ (fun r hr => ?_)
    obtain ⟨h1, h2, h3⟩ := hQ k B r (by omega) hB hr
    exact cy_skip hQ j (k + 1) _ _ _ acc (by omega) h1 (by omega)
theorem cy_fin (hQ : ∀ k B r, k < 6 → Q k B → r ∈ L (B 34) → Q (k + 1) (St B r) ∧ 0 ≤ ml B r ∧ ml B r ≤ 891) (hne : ∀ k B, Q k B → ¬ L (B 34) = []) : ∀ (j k : Nat) (B : Nat → Int) (s : Int) (way : Nat → Int) (acc : Int × (Nat → Int)), k + j ≤ 6 → Q k B → (cy_g St ml L j k B s way acc).1 ≤ s + 891 * (j : Int)
  | 0, k, B, s, way, acc, _, _ => by
    unfold cy_g
    split
    · show s ≤ _
      omega
    · omega
  | j + 1, k, B, s, way, acc, hkj, hB => by
    unfold cy_g
    cases hl : L (B 34) with
    | nil => exact absurd hl (hne k B hB)
    | cons r l =>
      obtain ⟨h1, h2, h3⟩ := hQ k B r (by omega) hB (by rw [hl]; exact List.mem_cons_self)
      have h4 := cy_fin hQ hne j (k + 1) (St B r) (s + ml B r) (u_up way k (cy_to r)) acc (by omega) h1
      refine Int.le_trans (cy_fold_le (fun a r => cy_le j (k + 1) _ _ _ a) l _) ?_
      show (cy_g St ml L j (k + 1) (St B r) (s + ml B r) (u_up way k (cy_to r)) acc).1 ≤ _
      omega
end
def cy_St (w h n : Nat) (heat price : Int) (cs : List Int) (D : Nat → Int) (B : Nat → Int) (r : Int) : Nat → Int := hr_A w h heat price (c_ml cs) (wmD D (B 35)) n (u_up B 34 r)
def cy_ml (w h n : Nat) (heat : Int) (cs : List Int) (D : Nat → Int) (B : Nat → Int) (r : Int) : Int := hr_m w h heat (c_ml cs) (wmD D (B 35)) n (u_up B 34 r)
abbrev cy_G (w h n : Nat) (heat price : Int) (cs : List Int) (D : Nat → Int) : Nat → Nat → (Nat → Int) → Int → (Nat → Int) → Int × (Nat → Int) → Int × (Nat → Int) := cy_g (cy_St w h n heat price cs D) (cy_ml w h n heat cs D) (cy_L w h)
def cy_Q (w h n : Nat) (k : Nat) (B : Nat → Int) : Prop := hr_ok n B ∧ (0 ≤ B 35 ∧ B 35 ≤ 1073741824 + (k : Int)) ∧ wi w h n B
/-- what is answered -/
def cy_A (w h n : Nat) (heat price : Int) (cs : List Int) (D A : Nat → Int) (a : Int) : Int := if ¬ (1 ≤ a ∧ a ≤ 5) then -1 else if A 34 = -1 then -2 else (cy_G w h n heat price cs D a.toNat 0 A 0 (fun _ => 0) (1000000, fun _ => 0)).1
section
variable {w h n : Nat} {heat price : Int} {D A : Nat → Int} {c : Nat} {U : Nat → Nat → Int} {kn : Nat → Int} {KS : Nat → Nat → Int} {cs : List Int} {m : z_M}
theorem cy_Q_ok (hN : w_N w h n heat D) : ∀ k B r, k < 6 → cy_Q w h n k B → r ∈ cy_L w h (B 34) → cy_Q w h n (k + 1) (cy_St w h n heat price cs D B r) ∧ 0 ≤ cy_ml w h n heat cs D B r ∧ cy_ml w h n heat cs D B r ≤ 891 := by
  intro k B r hk6 ⟨q1, q2, q3⟩ hr
  have h5 := hN.1.2.2
  have hv := cy_L_in hr
  have hok : hr_ok n (u_up B 34 r) := hr_ok_up q1 (by decide) (fun z => absurd z (by decide)) (fun p h1 h2 => by omega)
  have h35 : u_up B 34 r 35 = B 35 := u_up_ne (by decide)
  have hm := hr_m_b (w := w) (h := h) (heat := heat) (wm := wmD D (B 35)) (c_ml_ok cs) hok
  have e35 : cy_St w h n heat price cs D B r 35 = B 35 + 1 := by
    unfold cy_St
    rw [hr_A_35 hN.1.1 hN.1.2.1 h5, h35, z_add_eq (by omega) (by omega)]
  refine ⟨⟨hr_A_ok (price := price) hN.1.1 hN.1.2.1 h5 hN.2.1 (c_ml_ok cs) (hN.2.2 (B 35) q2.1) hok, ?_, wi_A hN.1.1 hN.1.2.1 h5 (wi_st q3 h5 hv)⟩, hm⟩
  rw [e35]
  omega
theorem cy_Q_ne (hN : w_N w h n heat D) : ∀ k B, cy_Q w h n k B → ¬ cy_L w h (B 34) = [] := by
  intro k B ⟨q1, q2, q3⟩ z
  unfold cy_L at z
  by_cases c : B 34 = -1
  · rw [if_pos c] at z
    cases z
  · rw [if_neg c] at z
    have hv := q3.2.2.resolve_left c
    have hr := u_hs_rng hv
    refine cy_ne w (by have := hN.1.1; omega) h (by have := hN.1.2.1; omega) (B 34).toNat (by omega) ?_ z
    rw [show (((B 34).toNat : Nat) : Int) = B 34 by omega]
    exact hv
/-! the class -/
theorem cy_rd {i : Nat} (hi : i < 5) (m : z_M) : z_rd m 1000001 ((i : Nat) : Int).toNat = cy_stp i := by
  rcases (show i = 0 ∨ i = 1 ∨ i = 2 ∨ i = 3 ∨ i = 4 by omega) with rfl | rfl | rfl | rfl | rfl <;> rfl
theorem cy_stp_b (i : Nat) : -3 ≤ cy_stp i ∧ cy_stp i ≤ 3 := by
  unfold cy_stp
  (repeat' split) <;> decide
theorem cy_s76 {q i : Nat} (hq : q < 9) (hi : i < 5) (h8 : m 3 8 = (w : Int)) (h9 : m 3 9 = (h : Int)) (x1 x2 : Int) (v5 v6 v7 : z_V) : ∃ w5 w6 w7, z_R 131 (m, 76, [(2, 153), (0, x1), (0, x2), (0, (q : Int)), (0, (i : Int)), v5, v6, v7], []) = if cy_ok w h q i = true then ((z_R 132 (m, 0, [(2, 153), (0, x1), (0, (q : Int) + cy_stp i), (0, x2), (9, 0)], [])).bind fun qq => z_R 131 (qq.1, 174, [(2, 153), (0, x1), (0, x2), (0, (q : Int)), (0, (i : Int)), (0, w5), (0, w6), (0, w7)], qq.2.toList ++ [])) else z_R 131 (m, 76, [(2, 153), (0, x1), (0, x2), (0, (q : Int)), (0, ((i + 1 : Nat) : Int)), (0, w5), (0, w6), (0, w7)], []) := by
  have hb := cy_stp_b i
  have ea : z_add (q : Int) (cy_stp i) = (q : Int) + cy_stp i := z_add_eq (by omega) (by omega)
  have ed : z_div (q : Int) 3 = (q : Int) / 3 := z_div_nn (by omega) (by omega) (by decide) (by decide)
  rw [cy_gf0_76, cy_rd hi, ea, h8, h9, ed, if_neg (by omega), if_pos (by omega), tc1]
  have eo : cy_ok w h q i = true ↔ (¬ u_hs (w : Int) (h : Int) ((q : Int) + cy_stp i) = 0) ∧ ((¬ (cy_stp i = -1 ∨ cy_stp i = 1)) ∨ (0 ≤ (q : Int) + cy_stp i ∧ ((q : Int) + cy_stp i) / 3 = (q : Int) / 3)) := by
    unfold cy_ok
    rw [Bool.and_eq_true, Bool.or_eq_true, decide_eq_true_iff, decide_eq_true_iff, decide_eq_true_iff]
  by_cases c0 : (q : Int) + cy_stp i < 0
  · have cu : u_hs (w : Int) (h : Int) ((q : Int) + cy_stp i) = 0 := Decidable.byContradiction fun z => by
      have := u_hs_rng z
      omega
    have ef : ¬ cy_ok w h q i = true := fun z => (eo.mp z).1 cu
    rw [if_pos c0]
    by_cases c1 : cy_stp i = -1
    · rw [if_pos c1, if_neg (not_not_intro cu)]
      exact ⟨_, 0, 1, (if_neg ef).symm⟩
    rw [if_neg c1]
    by_cases c2 : cy_stp i = 1
    · rw [if_pos c2, if_neg (not_not_intro cu)]
      exact ⟨_, 0, 1, (if_neg ef).symm⟩
    rw [if_neg c2, if_neg (not_not_intro cu)]
    exact ⟨_, 0, 0, (if_neg ef).symm⟩
  have en : z_div ((q : Int) + cy_stp i) 3 = ((q : Int) + cy_stp i) / 3 := z_div_nn (by omega) (by omega) (by decide) (by decide)
  rw [if_neg c0, en]
  by_cases c3 : ((q : Int) + cy_stp i) / 3 = (q : Int) / 3
  · rw [if_pos c3]
    by_cases cu : u_hs (w : Int) (h : Int) ((q : Int) + cy_stp i) = 0
    · have ef : ¬ cy_ok w h q i = true := fun z => (eo.mp z).1 cu
      by_cases c1 : cy_stp i = -1
      · rw [if_pos c1, if_neg (not_not_intro cu)]
        exact ⟨_, 1, 1, (if_neg ef).symm⟩
      rw [if_neg c1]
      by_cases c2 : cy_stp i = 1
      · rw [if_pos c2, if_neg (not_not_intro cu)]
        exact ⟨_, 1, 1, (if_neg ef).symm⟩
      rw [if_neg c2, if_neg (not_not_intro cu)]
      exact ⟨_, 1, 0, (if_neg ef).symm⟩
    · have et : cy_ok w h q i = true := eo.mpr ⟨cu, Or.inr ⟨by omega, c3⟩⟩
      by_cases c1 : cy_stp i = -1
      · rw [if_pos c1, if_pos cu]
        exact ⟨_, 1, 1, (if_pos et).symm⟩
      rw [if_neg c1]
      by_cases c2 : cy_stp i = 1
      · rw [if_pos c2, if_pos cu]
        exact ⟨_, 1, 1, (if_pos et).symm⟩
      rw [if_neg c2, if_pos cu]
      exact ⟨_, 1, 0, (if_pos et).symm⟩
  · rw [if_neg c3]
    by_cases cu : u_hs (w : Int) (h : Int) ((q : Int) + cy_stp i) = 0
    · have ef : ¬ cy_ok w h q i = true := fun z => (eo.mp z).1 cu
      by_cases c1 : cy_stp i = -1
      · rw [if_pos c1, if_neg (not_not_intro cu)]
        exact ⟨_, 0, 1, (if_neg ef).symm⟩
      rw [if_neg c1]
      by_cases c2 : cy_stp i = 1
      · rw [if_pos c2, if_neg (not_not_intro cu)]
        exact ⟨_, 0, 1, (if_neg ef).symm⟩
      rw [if_neg c2, if_neg (not_not_intro cu)]
      exact ⟨_, 0, 0, (if_neg ef).symm⟩
    · by_cases c1 : cy_stp i = -1
      · have ef : ¬ cy_ok w h q i = true := fun z => ((eo.mp z).2.resolve_left (fun y => y (Or.inl c1))).2 |> c3
        rw [if_pos c1, if_pos cu]
        exact ⟨_, 0, 1, (if_neg ef).symm⟩
      rw [if_neg c1]
      by_cases c2 : cy_stp i = 1
      · have ef : ¬ cy_ok w h q i = true := fun z => ((eo.mp z).2.resolve_left (fun y => y (Or.inr c2))).2 |> c3
        rw [if_pos c2, if_pos cu]
        exact ⟨_, 0, 1, (if_neg ef).symm⟩
      have et : cy_ok w h q i = true := eo.mpr ⟨cu, Or.inl (fun z => z.elim c1 c2)⟩
      rw [if_neg c2, if_pos cu]
      exact ⟨_, 0, 0, (if_pos et).symm⟩
theorem cy_gtU0 {k : Nat} (hk : k < 5) (m : z_M) (r s : Int) : z_R 132 (m, 0, [(2, 153), (0, (k : Int)), (0, r), (0, s), (9, 0)], []) = (z_R 61 (m, 0, [(2, ((157 + 6 * (k + 1) : Nat) : Int)), (2, ((157 + 6 * k : Nat) : Int))], [])).bind fun qq => z_R 132 (qq.1, 31, [(2, 153), (0, (k : Int)), (0, r), (0, s), (2, ((157 + 6 * (k + 1) : Nat) : Int))], qq.2.toList ++ []) := by
  rcases (show k = 0 ∨ k = 1 ∨ k = 2 ∨ k = 3 ∨ k = 4 by omega) with rfl | rfl | rfl | rfl | rfl
  · exact cy_gt0_0 m r s
  · exact cy_gt1_0 m r s
  · exact cy_gt2_0 m r s
  · exact cy_gt3_0 m r s
  · exact cy_gt4_0 m r s
theorem cy_gtU31 {k : Nat} (hk : k < 5) (m : z_M) (r s : Int) : z_R 132 (m, 31, [(2, 153), (0, (k : Int)), (0, r), (0, s), (2, ((157 + 6 * (k + 1) : Nat) : Int))], []) = (z_R 67 (z_up (z_up (z_up (z_up (z_up (z_up m (157 + 6 * (k + 1)) 6 r) 155 k (cy_to r)) 24 6 0) 24 7 0) 24 8 0) 24 9 0, 0, [(2, 24), (2, ((157 + 6 * (k + 1) : Nat) : Int)), (0, 1), (9, 0)], [])).bind fun qq => z_R 132 (qq.1, 71, [(2, 153), (0, (k : Int)), (0, r), (0, s), (2, ((157 + 6 * (k + 1) : Nat) : Int))], qq.2.toList ++ []) := by
  unfold cy_to
  rcases (show k = 0 ∨ k = 1 ∨ k = 2 ∨ k = 3 ∨ k = 4 by omega) with rfl | rfl | rfl | rfl | rfl
  · by_cases c : r = -1
    · rw [if_pos c]
      refine (cy_gt0_31 m _ r s).trans ?_
      rw [if_pos c, if_pos (by decide)]
      rfl
    · rw [if_neg c]
      refine (cy_gt0_31 m _ r s).trans ?_
      rw [if_neg c, if_pos (by decide)]
      rfl
  · by_cases c : r = -1
    · rw [if_pos c]
      refine (cy_gt1_31 m _ r s).trans ?_
      rw [if_pos c, if_pos (by decide)]
      rfl
    · rw [if_neg c]
      refine (cy_gt1_31 m _ r s).trans ?_
      rw [if_neg c, if_pos (by decide)]
      rfl
  · by_cases c : r = -1
    · rw [if_pos c]
      refine (cy_gt2_31 m _ r s).trans ?_
      rw [if_pos c, if_pos (by decide)]
      rfl
    · rw [if_neg c]
      refine (cy_gt2_31 m _ r s).trans ?_
      rw [if_neg c, if_pos (by decide)]
      rfl
  · by_cases c : r = -1
    · rw [if_pos c]
      refine (cy_gt3_31 m _ r s).trans ?_
      rw [if_pos c, if_pos (by decide)]
      rfl
    · rw [if_neg c]
      refine (cy_gt3_31 m _ r s).trans ?_
      rw [if_neg c, if_pos (by decide)]
      rfl
  · by_cases c : r = -1
    · rw [if_pos c]
      refine (cy_gt4_31 m _ r s).trans ?_
      rw [if_pos c, if_pos (by decide)]
      rfl
    · rw [if_neg c]
      refine (cy_gt4_31 m _ r s).trans ?_
      rw [if_neg c, if_pos (by decide)]
      rfl
theorem cy_gtU71 {k : Nat} (hk : k < 5) (m : z_M) (r s : Int) : z_R 132 (m, 71, [(2, 153), (0, (k : Int)), (0, r), (0, s), (2, ((157 + 6 * (k + 1) : Nat) : Int))], []) = (z_R 131 (m, 0, [(2, 153), (0, z_add (k : Int) 1), (0, z_add s (m 24 6)), (9, 0), (9, 0), (9, 0), (9, 0), (9, 0)], [])).bind fun qq => z_R 132 (qq.1, 87, [(2, 153), (0, (k : Int)), (0, r), (0, s), (2, ((157 + 6 * (k + 1) : Nat) : Int))], qq.2.toList ++ []) := by
  rcases (show k = 0 ∨ k = 1 ∨ k = 2 ∨ k = 3 ∨ k = 4 by omega) with rfl | rfl | rfl | rfl | rfl
  · exact cy_gt0_71 m _ r s
  · exact cy_gt1_71 m _ r s
  · exact cy_gt2_71 m _ r s
  · exact cy_gt3_71 m _ r s
  · exact cy_gt4_71 m _ r s
theorem cy_gtU87 {k : Nat} (hk : k < 5) (m : z_M) (r s : Int) : z_R 132 (m, 87, [(2, 153), (0, (k : Int)), (0, r), (0, s), (2, ((157 + 6 * (k + 1) : Nat) : Int))], []) = some (m, none) := by
  rcases (show k = 0 ∨ k = 1 ∨ k = 2 ∨ k = 3 ∨ k = 4 by omega) with rfl | rfl | rfl | rfl | rfl
  · exact cy_gt0_87 m _ r s
  · exact cy_gt1_87 m _ r s
  · exact cy_gt2_87 m _ r s
  · exact cy_gt3_87 m _ r s
  · exact cy_gt4_87 m _ r s
theorem cy_gfU0 {k : Nat} (hk : k < 6) (m : z_M) (s : Int) (h5 : m 153 5 ≤ 5) : z_R 131 (m, 0, [(2, 153), (0, (k : Int)), (0, s), (9, 0), (9, 0), (9, 0), (9, 0), (9, 0)], []) = if m 153 6 = (-1) then (if m 153 5 ≤ (k : Int) then some (z_cp (z_up m 153 6 s) 155 0 156 0 5, none) else if m (157 + 6 * k) 6 = (-1) then (z_R 132 (m, 0, [(2, 153), (0, (k : Int)), (0, (-1)), (0, s), (9, 0)], [])).bind fun qq => z_R 131 (qq.1, 72, [(2, 153), (0, (k : Int)), (0, s), (0, m (157 + 6 * k) 6), (9, 0), (9, 0), (9, 0), (9, 0)], qq.2.toList ++ []) else z_R 131 (m, 76, [(2, 153), (0, (k : Int)), (0, s), (0, m (157 + 6 * k) 6), (0, 0), (9, 0), (9, 0), (9, 0)], [])) else if s < m 153 6 then (if m 153 5 ≤ (k : Int) then some (z_cp (z_up m 153 6 s) 155 0 156 0 5, none) else if m (157 + 6 * k) 6 = (-1) then (z_R 132 (m, 0, [(2, 153), (0, (k : Int)), (0, (-1)), (0, s), (9, 0)], [])).bind fun qq => z_R 131 (qq.1, 72, [(2, 153), (0, (k : Int)), (0, s), (0, m (157 + 6 * k) 6), (9, 0), (9, 0), (9, 0), (9, 0)], qq.2.toList ++ []) else z_R 131 (m, 76, [(2, 153), (0, (k : Int)), (0, s), (0, m (157 + 6 * k) 6), (0, 0), (9, 0), (9, 0), (9, 0)], [])) else some (m, none) := by
  rcases (show k = 0 ∨ k = 1 ∨ k = 2 ∨ k = 3 ∨ k = 4 ∨ k = 5 by omega) with rfl | rfl | rfl | rfl | rfl | rfl
  · exact cy_gf0_0 m s
  · exact cy_gf1_0 m s
  · exact cy_gf2_0 m s
  · exact cy_gf3_0 m s
  · exact cy_gf4_0 m s
  · have h6 : m 153 5 ≤ ((5 : Nat) : Int) := h5
    refine (cy_gf5_0 m s).trans ?_
    rw [if_pos h5, if_pos h6]
theorem cy_zst {k : Nat} (hk : k < 6) : z_st (157 + 6 * k) := by
  have : ∀ k, k < 6 → 157 + 6 * k ∈ z_stL := by decide
  exact ⟨this k hk, Or.inr (Or.inr (Or.inr (Or.inr (Or.inr (Or.inr (Or.inr (Or.inl (by omega))))))))⟩
def cy_iC (w h n : Nat) (heat price : Int) (D A : Nat → Int) (c : Nat) (U : Nat → Nat → Int) (kn : Nat → Int) (KS : Nat → Nat → Int) (cs : List Int) (N : Nat) (acc : Int × (Nat → Int)) (m : z_M) : Prop := C_is w h n heat price D A c U kn KS cs m ∧ m 153 5 = (N : Int) ∧ m 153 6 = (if acc.1 = 1000000 then -1 else acc.1) ∧ (0 ≤ acc.1 ∧ acc.1 ≤ 1000000) ∧ (acc.1 = 1000000 ∨ ∀ i, i < N → m 156 i = acc.2 i) ∧ z_w (m 24 9) = m 24 9
theorem cy_iC_fr {N : Nat} {acc : Int × (Nat → Int)} {m m' : z_M} (hi : cy_iC w h n heat price D A c U kn KS cs N acc m) (hf : ∀ p k, C_hit p k k = true → m' p k = m p k) (h1 : ∀ k, m' 153 k = m 153 k) (h2 : ∀ k, m' 156 k = m 156 k) (h9 : z_w (m' 24 9) = m' 24 9) : cy_iC w h n heat price D A c U kn KS cs N acc m' := by
  obtain ⟨a, b1, b2, b3, b4, b5⟩ := hi
  exact ⟨C_fr a hf, (h1 5).trans b1, (h1 6).trans b2, b3, b4.imp id (fun z i hi => (h2 i).trans (z i hi)), h9⟩
theorem cy_gt {N : Nat} (hN : w_N w h n heat D) {j k : Nat} (hk : k < 5) (IH : ∀ (s : Int) (m : z_M) (B way : Nat → Int) (acc : Int × (Nat → Int)), 0 ≤ s → s ≤ 891 * ((k + 1 : Nat) : Int) → cy_iC w h n heat price D A c U kn KS cs N acc m → cS m (157 + 6 * (k + 1)) n = B → cy_Q w h n (k + 1) B → (∀ i, i < k + 1 → m 155 i = way i) → ∃ m1, z_R 131 (m, 0, [(2, 153), (0, ((k + 1 : Nat) : Int)), (0, s), (9, 0), (9, 0), (9, 0), (9, 0), (9, 0)], []) = some (m1, none) ∧ cy_iC w h n heat price D A c U kn KS cs N (cy_G w h n heat price cs D j (k + 1) B s way acc) m1 ∧ (∀ i, i < k + 1 → m1 155 i = m 155 i) ∧ ∀ i, i ≤ k + 1 → cS m1 (157 + 6 * i) n = cS m (157 + 6 * i) n) (r s : Int) (m : z_M) (B way : Nat → Int) (acc : Int × (Nat → Int)) (h0 : 0 ≤ s) (h1 : s ≤ 891 * (k : Int)) (hv : cy_iC w h n heat price D A c U kn KS cs N acc m) (hB : cS m (157 + 6 * k) n = B) (hQ : cy_Q w h n k B) (hr : r ∈ cy_L w h (B 34)) (hw : ∀ i, i < k → m 155 i = way i) : ∃ m1, z_R 132 (m, 0, [(2, 153), (0, (k : Int)), (0, r), (0, s), (9, 0)], []) = some (m1, none) ∧ cy_iC w h n heat price D A c U kn KS cs N (cy_G w h n heat price cs D j (k + 1) (cy_St w h n heat price cs D B r) (s + cy_ml w h n heat cs D B r) (u_up way k (cy_to r)) acc) m1 ∧ (∀ i, i < k → m1 155 i = m 155 i) ∧ ∀ i, i ≤ k → cS m1 (157 + 6 * i) n = cS m (157 + 6 * i) n := by
  obtain ⟨q1, q2, q3⟩ := cy_Q_ok (price := price) (cs := cs) hN k B r (by omega) hQ hr
  have hst := cy_zst (k := k) (by omega)
  have hst1 := cy_zst (k := k + 1) (by omega)
  obtain ⟨m2, b1, b2, b3⟩ := c_become hst hst1 (by omega) m
  have hA2 : cS m2 (157 + 6 * (k + 1)) n = B := (cS_cR b2).trans hB
  rw [cy_gtU0 hk, b1, zb_n, cy_gtU31 hk]
  have g3 : ∀ p j, ¬ (157 + 6 * (k + 1) ≤ p ∧ p ≤ 157 + 6 * (k + 1) + 5) → ¬ p = 155 → ¬ p = 24 → (z_up (z_up (z_up (z_up (z_up (z_up m2 (157 + 6 * (k + 1)) 6 r) 155 k (cy_to r)) 24 6 0) 24 7 0) 24 8 0) 24 9 0) p j = m p j := fun p j hp h155 h24 => by
    rw [zu_p h24, zu_p h24, zu_p h24, zu_p h24, zu_p h155, zu_p (by omega)]
    exact b3.of (by (try unfold r_LHs); (repeat' (first | exact trivial | refine z_of_c ?_ ?_)) <;> omega)
  have g45 : ∀ j, j < 6 → (z_up (z_up (z_up (z_up (z_up (z_up m2 (157 + 6 * (k + 1)) 6 r) 155 k (cy_to r)) 24 6 0) 24 7 0) 24 8 0) 24 9 0) 24 j = m 24 j := fun j hj => by
    rw [zu_k (by omega), zu_k (by omega), zu_k (by omega), zu_k (by omega), zu_p (by decide), zu_p (by omega)]
    exact b3.of (by (try unfold r_LHs); (repeat' (first | exact trivial | refine z_of_c ?_ ?_)) <;> omega)
  have g155 : ∀ i, ¬ i = k → (z_up (z_up (z_up (z_up (z_up (z_up m2 (157 + 6 * (k + 1)) 6 r) 155 k (cy_to r)) 24 6 0) 24 7 0) 24 8 0) 24 9 0) 155 i = m 155 i := fun i hi => by
    rw [zu_p (by decide), zu_p (by decide), zu_p (by decide), zu_p (by decide), zu_k hi, zu_p (by omega)]
    exact b3.of (by (try unfold r_LHs); (repeat' (first | exact trivial | refine z_of_c ?_ ?_)) <;> omega)
  have g155k : (z_up (z_up (z_up (z_up (z_up (z_up m2 (157 + 6 * (k + 1)) 6 r) 155 k (cy_to r)) 24 6 0) 24 7 0) 24 8 0) 24 9 0) 155 k = cy_to r := by
    rw [zu_p (by decide), zu_p (by decide), zu_p (by decide), zu_p (by decide), zu_self]
  have g6 : (z_up (z_up (z_up (z_up (z_up (z_up m2 (157 + 6 * (k + 1)) 6 r) 155 k (cy_to r)) 24 6 0) 24 7 0) 24 8 0) 24 9 0) 24 6 = 0 := by rw [zu_k (by decide), zu_k (by decide), zu_k (by decide), zu_self]
  have g9 : (z_up (z_up (z_up (z_up (z_up (z_up m2 (157 + 6 * (k + 1)) 6 r) 155 k (cy_to r)) 24 6 0) 24 7 0) 24 8 0) 24 9 0) 24 9 = 0 := zu_self
  have hA3 : cS (z_up (z_up (z_up (z_up (z_up (z_up m2 (157 + 6 * (k + 1)) 6 r) 155 k (cy_to r)) 24 6 0) 24 7 0) 24 8 0) 24 9 0) (157 + 6 * (k + 1)) n = u_up B 34 r := by
    have e : ∀ (m' : z_M) p q v, (p = 24 ∨ p = 155) → cS (z_up m' p q v) (157 + 6 * (k + 1)) n = cS m' (157 + 6 * (k + 1)) n := fun m' p q v hp => cS_fr fun j x hj _ => zu_p (by omega)
    rw [e _ _ _ _ (Or.inl rfl), e _ _ _ _ (Or.inl rfl), e _ _ _ _ (Or.inl rfl), e _ _ _ _ (Or.inl rfl), e _ _ _ _ (Or.inr rfl), cS_stove, hA2]
  generalize z_up (z_up (z_up (z_up (z_up (z_up m2 (157 + 6 * (k + 1)) 6 r) 155 k (cy_to r)) 24 6 0) 24 7 0) 24 8 0) 24 9 0 = m3 at g3 g45 g155 g155k g6 g9 hA3 ⊢
  have hC3 : C_is w h n heat price D A c U kn KS cs m3 := C_fr hv.1 fun p j hk => by
    have hk' := hk
    unfold C_hit at hk'
    have hk' := of_decide_eq_true hk'
    by_cases h24 : p = 24
    · subst h24
      exact g45 j (by omega)
    · exact g3 p j (by omega) (by omega) h24
  obtain ⟨qk, qt, qw⟩ := hQ
  have h35 : u_up B 34 r 35 = B 35 := u_up_ne (by decide)
  have hok3 : hr_ok n (u_up B 34 r) := hr_ok_up qk (by decide) (fun z => absurd z (by decide)) (fun p h1 h2 => by have := hN.1.2.2; omega)
  obtain ⟨m4, c1, c2, c3, c4, c5, c6, c7⟩ := tw_go1 hst1 hN hC3 hA3 hok3 (by rw [h35]; exact qt.1) (by rw [h35]; omega) (by rw [g6]; decide +kernel) (by rw [g9]; decide +kernel)
  rw [h35] at c2 c4
  have c2 : cS m4 (157 + 6 * (k + 1)) n = cy_St w h n heat price cs D B r := c2
  have c4 : m4 24 6 = z_add (m3 24 6) (cy_ml w h n heat cs D B r) := c4
  have e6 : m4 24 6 = cy_ml w h n heat cs D B r := by rw [c4, g6, z_add_eq (by omega) (by omega), Int.zero_add]
  have s4 : ∀ p j, ¬ (157 + 6 * (k + 1) ≤ p ∧ p ≤ 157 + 6 * (k + 1) + 5) → ¬ p = 155 → ¬ p = 24 → ¬ p = 25 → ¬ p = 26 → ¬ p = 6 → ¬ p = 7 → m4 p j = m p j := fun p j hp h155 h24 h25 h26 h6 h7 => (c7.of (by (try unfold r_LHs); (repeat' (first | exact trivial | refine z_of_c ?_ ?_)) <;> omega)).trans (g3 p j hp h155 h24)
  have w4 : ∀ i, i < k + 1 → m4 155 i = u_up way k (cy_to r) i := fun i hi => by
    rw [show m4 155 i = m3 155 i from c7.of (by (try unfold r_LHs); (repeat' (first | exact trivial | refine z_of_c ?_ ?_)) <;> omega)]
    by_cases e : i = k
    · rw [e, g155k, u_up_self]
    · rw [g155 i e, u_up_ne e, hw i (by omega)]
  have hv4 : cy_iC w h n heat price D A c U kn KS cs N acc m4 := cy_iC_fr hv (fun p j hk => by
    have hk' := hk
    unfold C_hit at hk'
    have hk' := of_decide_eq_true hk'
    by_cases h24 : p = 24
    · subst h24
      exact (c7.of (by (try unfold r_LHs); (repeat' (first | exact trivial | refine z_of_c ?_ ?_)) <;> omega)).trans (g45 j (by omega))
    · exact s4 p j (by omega) (by omega) h24 (by omega) (by omega) (by omega) (by omega)) (fun j => s4 153 j (by omega) (by decide) (by decide) (by decide) (by decide) (by decide) (by decide)) (fun j => s4 156 j (by omega) (by decide) (by decide) (by decide) (by decide) (by decide) (by decide)) c5
  have u4 : ∀ i, i ≤ k → cS m4 (157 + 6 * i) n = cS m (157 + 6 * i) n := fun i hi => cS_fr fun j q hj _ => s4 _ q (by omega) (by omega) (by omega) (by omega) (by omega) (by omega) (by omega)
  rw [c1, zb_n, cy_gtU71 hk, e6, z_add_eq (x := (k : Int)) (y := 1) (by omega) (by omega), tc1, z_add_eq (x := s) (by omega) (by omega)]
  obtain ⟨m5, d1, d2, d3, d4⟩ := IH (s + cy_ml w h n heat cs D B r) m4 (cy_St w h n heat price cs D B r) (u_up way k (cy_to r)) acc (by omega) (by omega) hv4 c2 q1 w4
  rw [d1, zb_n, cy_gtU87 hk]
  refine ⟨m5, rfl, d2, fun i hi => ?_, fun i hi => (d4 i (by omega)).trans (u4 i hi)⟩
  rw [d3 i (by omega), show m4 155 i = m3 155 i from c7.of (by (try unfold r_LHs); (repeat' (first | exact trivial | refine z_of_c ?_ ?_)) <;> omega)]
  exact g155 i (by omega)
theorem cy_gf {N : Nat} (hN5 : N ≤ 5) (hN : w_N w h n heat D) : ∀ (j k : Nat), k + j = N → ∀ (s : Int) (m : z_M) (B way : Nat → Int) (acc : Int × (Nat → Int)), 0 ≤ s → s ≤ 891 * (k : Int) → cy_iC w h n heat price D A c U kn KS cs N acc m → cS m (157 + 6 * k) n = B → cy_Q w h n k B → (∀ i, i < k → m 155 i = way i) → ∃ m1, z_R 131 (m, 0, [(2, 153), (0, (k : Int)), (0, s), (9, 0), (9, 0), (9, 0), (9, 0), (9, 0)], []) = some (m1, none) ∧ cy_iC w h n heat price D A c U kn KS cs N (cy_G w h n heat price cs D j k B s way acc) m1 ∧ (∀ i, i < k → m1 155 i = m 155 i) ∧ ∀ i, i ≤ k → cS m1 (157 + 6 * i) n = cS m (157 + 6 * i) n := by
  intro j
  induction j with
  | zero =>
    intro k hk s m B way acc h0 h1 hv hB hQ hw
    obtain rfl : k = N := by omega
    obtain ⟨a, b1, b2, b3, b4, b5⟩ := hv
    have fin : ∃ m1, (some (z_cp (z_up m 153 6 s) 155 0 156 0 5, none) : Option z_Q) = some (m1, none) ∧ cy_iC w h n heat price D A c U kn KS cs k (s, way) m1 ∧ (∀ i, i < k → m1 155 i = m 155 i) ∧ ∀ i, i ≤ k → cS m1 (157 + 6 * i) n = cS m (157 + 6 * i) n := by
      refine ⟨_, rfl, ⟨C_fr a fun p j hk => ?_, ?_, ?_, ⟨h0, by show s ≤ 1000000; omega⟩, Or.inr fun i hi => ?_, ?_⟩, fun i _ => ?_, fun i hi => cS_fr fun j q hj _ => ?_⟩
      · have hk' := hk
        unfold C_hit at hk'
        have hk' := of_decide_eq_true hk'
        rw [zc_p (by omega), zu_p (by omega)]
      · rw [zc_p (by decide), zu_k (by decide)]
        exact b1
      · rw [zc_p (by decide), zu_self, if_neg (show ¬ s = 1000000 by omega)]
      · rw [zc_in (by omega), zu_p (by decide)]
        exact hw i hi
      · rw [zc_p (by decide), zu_p (by decide)]
        exact b5
      · rw [zc_p (by decide), zu_p (by decide)]
      · rw [zc_p (by omega), zu_p (by omega)]
    rw [cy_gfU0 (by omega) _ _ (by omega), b2, b1]
    show ∃ m1, _ ∧ cy_iC w h n heat price D A c U kn KS cs k (if s < acc.1 then (s, way) else acc) m1 ∧ _
    by_cases y : acc.1 = 1000000
    · rw [if_pos y, if_pos rfl, if_pos (Int.le_refl _), if_pos (show s < acc.1 by omega)]
      exact fin
    · rw [if_neg y, if_neg (show ¬ acc.1 = -1 by omega)]
      by_cases z : s < acc.1
      · rw [if_pos z, if_pos (Int.le_refl _), if_pos z]
        exact fin
      · rw [if_neg z, if_neg z]
        exact ⟨m, rfl, ⟨a, b1, b2, b3, b4, b5⟩, fun i _ => rfl, fun i _ => rfl⟩
  | succ j ih =>
    intro k hk s m B way acc h0 h1 hv hB hQ hw
    have IH := ih (k + 1) (by omega)
    have e34 : m (157 + 6 * k) 6 = B 34 := by
      rw [← hB]
      exact (cS_at0 (s := 157 + 6 * k) (j := 6) (by decide)).symm
    have hgo := cy_gt (j := j) hN (show k < 5 by omega) IH
    have lp : ∀ q : Nat, B 34 = (q : Int) → q < 9 → ∀ (f i : Nat) (v5 v6 v7 : z_V) (m' : z_M) (acc' : Int × (Nat → Int)), i + f = 5 → cy_iC w h n heat price D A c U kn KS cs N acc' m' → (∀ i, i < k → m' 155 i = m 155 i) → (∀ i, i ≤ k → cS m' (157 + 6 * i) n = cS m (157 + 6 * i) n) → (∀ x ∈ cy_cl w h q f i, x ∈ cy_L w h (B 34)) → ∃ m1, z_R 131 (m', 76, [(2, 153), (0, (k : Int)), (0, s), (0, (q : Int)), (0, (i : Int)), v5, v6, v7], []) = some (m1, none) ∧ cy_iC w h n heat price D A c U kn KS cs N ((cy_cl w h q f i).foldl (fun a r => cy_G w h n heat price cs D j (k + 1) (cy_St w h n heat price cs D B r) (s + cy_ml w h n heat cs D B r) (u_up way k (cy_to r)) a) acc') m1 ∧ (∀ i, i < k → m1 155 i = m 155 i) ∧ ∀ i, i ≤ k → cS m1 (157 + 6 * i) n = cS m (157 + 6 * i) n := by
      intro q hq hq9 f
      induction f with
      | zero =>
        intro i v5 v6 v7 m' acc' hi hv' hw' hs' hL
        rw [cy_gf0_76, if_pos (by omega)]
        exact ⟨m', rfl, hv', hw', hs'⟩
      | succ f ihf =>
        intro i v5 v6 v7 m' acc' hi hv' hw' hs' hL
        obtain ⟨w5, w6, w7, e⟩ := cy_s76 (m := m') hq9 (show i < 5 by omega) hv'.1.1.1 hv'.1.1.2.1 (k : Int) s v5 v6 v7
        rw [e]
        unfold cy_cl at hL ⊢
        by_cases y : cy_ok w h q i = true
        · rw [if_pos y] at hL ⊢
          rw [if_pos y]
          obtain ⟨m2, a1, a2, a3, a4⟩ := hgo ((q : Int) + cy_stp i) s m' B way acc' h0 h1 hv' ((hs' k (Nat.le_refl k)).trans hB) hQ (hL _ List.mem_cons_self) (fun i hi => (hw' i hi).trans (hw i hi))
          rw [a1, zb_n, cy_gf0_174, z_add_eq (x := (i : Int)) (y := 1) (by omega) (by omega), tc1]
          exact ihf (i + 1) _ _ _ m2 _ (by omega) a2 (fun i hi => (a3 i hi).trans (hw' i hi)) (fun i hi => (a4 i hi).trans (hs' i hi)) (fun x hx => hL x (List.mem_cons_of_mem _ hx))
        · rw [if_neg y] at hL ⊢
          rw [if_neg y]
          exact ihf (i + 1) _ _ _ m' acc' (by omega) hv' hw' hs' hL
    have main : ∃ m1, (if m 153 5 ≤ (k : Int) then some (z_cp (z_up m 153 6 s) 155 0 156 0 5, none) else if m (157 + 6 * k) 6 = (-1) then (z_R 132 (m, 0, [(2, 153), (0, (k : Int)), (0, (-1)), (0, s), (9, 0)], [])).bind fun qq => z_R 131 (qq.1, 72, [(2, 153), (0, (k : Int)), (0, s), (0, m (157 + 6 * k) 6), (9, 0), (9, 0), (9, 0), (9, 0)], qq.2.toList ++ []) else z_R 131 (m, 76, [(2, 153), (0, (k : Int)), (0, s), (0, m (157 + 6 * k) 6), (0, 0), (9, 0), (9, 0), (9, 0)], [])) = some (m1, none) ∧ cy_iC w h n heat price D A c U kn KS cs N (cy_G w h n heat price cs D (j + 1) k B s way acc) m1 ∧ (∀ i, i < k → m1 155 i = m 155 i) ∧ ∀ i, i ≤ k → cS m1 (157 + 6 * i) n = cS m (157 + 6 * i) n := by
      rw [hv.2.1, if_neg (by omega), e34]
      show ∃ m1, _ ∧ cy_iC w h n heat price D A c U kn KS cs N ((cy_L w h (B 34)).foldl (fun a r => cy_G w h n heat price cs D j (k + 1) (cy_St w h n heat price cs D B r) (s + cy_ml w h n heat cs D B r) (u_up way k (cy_to r)) a) acc) m1 ∧ _
      by_cases y : B 34 = -1
      · have eL : cy_L w h (B 34) = [-1] := if_pos y
        obtain ⟨m2, a1, a2, a3, a4⟩ := hgo (-1) s m B way acc h0 h1 hv hB hQ (by rw [eL]; exact List.mem_cons_self) hw
        rw [if_pos y, a1, zb_n, cy_gf0_72, eL]
        exact ⟨m2, rfl, a2, a3, a4⟩
      · have hr := u_hs_rng (hQ.2.2.2.2.resolve_left y)
        have eq : B 34 = (((B 34).toNat : Nat) : Int) := by omega
        have eL : cy_L w h (B 34) = cy_cl w h (B 34).toNat 5 0 := (if_neg y).trans (cy_eq w (by have := hN.1.1; omega) h (by have := hN.1.2.1; omega) (B 34).toNat (by omega)).symm
        obtain ⟨m1, a1, a2, a3, a4⟩ := lp (B 34).toNat eq (by omega) 5 0 (9, 0) (9, 0) (9, 0) m acc (by decide) hv (fun _ _ => rfl) (fun _ _ => rfl) (fun x hx => by rw [eL]; exact hx)
        rw [← eq] at a1
        rw [if_neg y, eL]
        exact ⟨m1, a1, a2, a3, a4⟩
    rw [cy_gfU0 (by omega) _ _ (by have := hv.2.1; omega)]
    by_cases y : m 153 6 = -1
    · rw [if_pos y]
      exact main
    · rw [if_neg y]
      by_cases z : s < m 153 6
      · rw [if_pos z]
        exact main
      · rw [if_neg z]
        have e6 := hv.2.2.1
        have ea : acc.1 ≤ s := by
          by_cases x : acc.1 = 1000000
          · rw [if_pos x] at e6
            exact absurd e6 y
          · rw [if_neg x] at e6
            omega
        have es := cy_skip (cy_Q_ok (price := price) (cs := cs) hN) (j + 1) k B s way acc (by omega) hQ ea
        show ∃ m1, _ ∧ cy_iC w h n heat price D A c U kn KS cs N (cy_g (cy_St w h n heat price cs D) (cy_ml w h n heat cs D) (cy_L w h) (j + 1) k B s way acc) m1 ∧ _
        rw [es]
        exact ⟨m, rfl, hv, fun _ _ => rfl, fun _ _ => rfl⟩
theorem cy_add1 {N : Nat} (hN5 : N ≤ 5) {l : Int} : ∀ (f x : Nat) (m : z_M), x + f = N → m 0 13 = (x : Int) → m 153 6 = l → C_is w h n heat price D A c U kn KS cs m → ∃ m1, z_R 129 (m, 44, [(2, 0), (0, (N : Int)), (0, (x : Int))], []) = some (m1, some (0, l)) ∧ C_is w h n heat price D A c U kn KS cs m1 := by
  intro f
  induction f with
  | zero =>
    intro x m hx h13 hl hi
    rw [cy_car_44, if_pos (by omega), hl]
    exact ⟨m, rfl, hi⟩
  | succ f ih =>
    intro x m hx h13 hl hi
    rw [cy_car_44, if_neg (by omega), if_pos (by omega), c_add (j := x) m _ (by omega) h13, zb_n, cy_car_63, z_add_eq (x := (x : Int)) (y := 1) (by omega) (by omega), tc1]
    exact ih (x + 1) _ (by omega) zu_self (by rw [zu_p (by decide), zu_p (by decide)]; exact hl) (C_upn (C_upn hi (by unfold C_hit; exact decide_eq_false (by omega))) (by decide))
theorem C_carry (hi : C_is w h n heat price D A c U kn KS cs m) (hN : w_N w h n heat D) (hok : hr_ok n A) (ht : 0 ≤ A 35 ∧ A 35 ≤ 1073741824) (hw : wi w h n A) (k9 : z_w (m 24 9) = m 24 9) (a : Int) : ∃ m1, z_R 129 (m, 0, [(2, 0), (0, a), (9, 0)], []) = some (m1, some (0, cy_A w h n heat price cs D A a)) ∧ C_is w h n heat price D A c U kn KS cs m1 := by
  have e34 : m 12 6 = A 34 := by
    rw [← hi.2.2.1]
    exact (cS_at0 (s := 12) (j := 6) (by decide)).symm
  rw [cy_car_0]
  by_cases c1 : a < 1
  · have e : cy_A w h n heat price cs D A a = -1 := if_pos (by omega)
    rw [if_pos c1, e]
    exact ⟨m, rfl, hi⟩
  rw [if_neg c1]
  by_cases c2 : a ≤ 5
  · rw [if_pos c2, e34]
    by_cases c3 : A 34 = -1
    · have e : cy_A w h n heat price cs D A a = -2 := (if_neg (by omega)).trans (if_pos c3)
      rw [if_pos c3, e]
      exact ⟨m, rfl, hi⟩
    · have e : cy_A w h n heat price cs D A a = (cy_G w h n heat price cs D a.toNat 0 A 0 (fun _ => 0) (1000000, fun _ => 0)).1 := (if_neg (by omega)).trans (if_neg c3)
      obtain ⟨N, rfl⟩ : ∃ N : Nat, a = (N : Int) := ⟨a.toNat, by omega⟩
      rw [Int.toNat_natCast] at e
      rw [if_neg c3, cy_sea_0, if_neg (show ¬ (5 : Int) < (N : Int) by omega)]
      have hi0 : C_is w h n heat price D A c U kn KS cs (z_up (z_up m 153 5 (N : Int)) 153 6 (-1)) := C_upn (C_upn hi (by decide)) (by decide)
      have g5 : (z_up (z_up m 153 5 (N : Int)) 153 6 (-1)) 153 5 = (N : Int) := by rw [zu_k (by decide), zu_self]
      have g6 : (z_up (z_up m 153 5 (N : Int)) 153 6 (-1)) 153 6 = -1 := zu_self
      have g9 : (z_up (z_up m 153 5 (N : Int)) 153 6 (-1)) 24 9 = m 24 9 := by rw [zu_p (by decide), zu_p (by decide)]
      generalize z_up (z_up m 153 5 (N : Int)) 153 6 (-1) = m0 at hi0 g5 g6 g9 ⊢
      obtain ⟨m3, b1, b2, b3⟩ := c_become z_st_12 (cy_zst (k := 0) (by decide)) (by decide) m0
      have b1 : z_R 61 (m0, 0, [(2, 157), (2, 12)], []) = some (m3, none) := b1
      have hi3 : C_is w h n heat price D A c U kn KS cs m3 := C_fr hi0 fun p k hk => by
        have hk' := hk
        unfold C_hit at hk'
        have hk' := of_decide_eq_true hk'
        exact b3.of (by (try unfold r_LHs); (repeat' (first | exact trivial | refine z_of_c ?_ ?_)) <;> omega)
      have hv : cy_iC w h n heat price D A c U kn KS cs N (1000000, fun _ => 0) m3 := ⟨hi3, (b3.of (by (try unfold r_LHs); (repeat' (first | exact trivial | refine z_of_c ?_ ?_)) <;> omega)).trans g5, ((b3.of (by (try unfold r_LHs); (repeat' (first | exact trivial | refine z_of_c ?_ ?_)) <;> omega)).trans g6).trans (if_pos rfl).symm, ⟨by decide, by decide⟩, Or.inl rfl, by rw [show m3 24 9 = m0 24 9 from b3.of (by (try unfold r_LHs); (repeat' (first | exact trivial | refine z_of_c ?_ ?_)) <;> omega), g9]; exact k9⟩
      have hQ : cy_Q w h n 0 A := ⟨hok, ⟨ht.1, by omega⟩, hw⟩
      obtain ⟨m4, d1, d2, -, -⟩ := cy_gf (N := N) (by omega) hN N 0 (by omega) 0 m3 A (fun _ => 0) (1000000, fun _ => 0) (by decide) (by decide) hv ((cS_cR b2).trans hi0.2.2.1) hQ (fun i hi => absurd hi (Nat.not_lt_zero i))
      have d1 : z_R 131 (m3, 0, [(2, 153), (0, 0), (0, 0), (9, 0), (9, 0), (9, 0), (9, 0), (9, 0)], []) = some (m4, none) := d1
      have hfin : (cy_G w h n heat price cs D N 0 A 0 (fun _ => 0) (1000000, fun _ => 0)).1 ≤ 0 + 891 * (N : Int) := cy_fin (cy_Q_ok (price := price) (cs := cs) hN) (cy_Q_ne hN) N 0 A 0 (fun _ => 0) (1000000, fun _ => 0) (by omega) hQ
      have e6 : m4 153 6 = (if (cy_G w h n heat price cs D N 0 A 0 (fun _ => 0) (1000000, fun _ => 0)).1 = 1000000 then -1 else (cy_G w h n heat price cs D N 0 A 0 (fun _ => 0) (1000000, fun _ => 0)).1) := d2.2.2.1
      rw [if_neg (show ¬ (cy_G w h n heat price cs D N 0 A 0 (fun _ => 0) (1000000, fun _ => 0)).1 = 1000000 from fun z => by
        rw [z] at hfin
        omega)] at e6
      rw [b1, zb_n, cy_sea_24, d1, zb_n, cy_sea_30, zb_n, cy_car_38, s_tell0_0, zb_n, cy_car_42, e]
      exact cy_add1 (by omega) N 0 _ (by omega) zu_self ((zu_p (by decide)).trans e6) (C_upn d2.1 (by decide))
  · have e : cy_A w h n heat price cs D A a = -1 := if_pos (by omega)
    rw [if_neg c2, e]
    exact ⟨m, rfl, hi⟩
/-! the reference -/
theorem cy_gcU0 {k : Nat} (hk : k < 6) (m : z_M) (n s : Int) : z_R 246 (m, 0, [(2, 251), (0, (k : Int)), (0, n), (0, s), (9, 0), (9, 0), (9, 0), (9, 0)], []) = if (k : Int) = n then if s < m 251 49 then z_R 246 (z_up m 251 49 s, 22, [(2, 251), (0, (k : Int)), (0, n), (0, s), (0, 0), (9, 0), (9, 0), (9, 0)], []) else some (m, none) else (z_R 198 (m, 0, [(2, 264), (2, 270), (0, ((37 * k : Nat) : Int)), (9, 0)], [])).bind fun qq => z_R 246 (qq.1, 64, [(2, 251), (0, (k : Int)), (0, n), (0, s), (9, 0), (9, 0), (9, 0), (9, 0)], qq.2.toList ++ []) := by
  rcases (show k = 0 ∨ k = 1 ∨ k = 2 ∨ k = 3 ∨ k = 4 ∨ k = 5 by omega) with rfl | rfl | rfl | rfl | rfl | rfl
  · exact cy_gc0_0 m n s
  · exact cy_gc1_0 m n s
  · exact cy_gc2_0 m n s
  · exact cy_gc3_0 m n s
  · exact cy_gc4_0 m n s
  · exact cy_gc5_0 m n s
theorem cy_bw {N : Nat} (hN5 : N ≤ 5) {x1 x3 : Int} : ∀ (f i : Nat) (m : z_M), i + f = N → ∃ m1, z_R 246 (m, 22, [(2, 251), (0, x1), (0, (N : Int)), (0, x3), (0, (i : Int)), (9, 0), (9, 0), (9, 0)], []) = some (m1, none) ∧ (∀ q, i ≤ q → q < N → m1 272 q = m 271 q) ∧ ∀ p q, ¬ (p = 272 ∧ i ≤ q) → m1 p q = m p q := by
  intro f
  induction f with
  | zero =>
    intro i m hi
    rw [cy_gc0_22, if_pos (by omega)]
    exact ⟨m, rfl, fun q h1 h2 => by omega, fun _ _ _ => rfl⟩
  | succ f ih =>
    intro i m hi
    rw [cy_gc0_22, if_neg (by omega), if_pos (by omega), tc1, Int.toNat_natCast]
    obtain ⟨m1, a1, a2, a3⟩ := ih (i + 1) (z_up m 272 i (m 271 i)) (by omega)
    refine ⟨m1, a1, fun q h1 h2 => ?_, fun p q hp => (a3 p q (by omega)).trans ?_⟩
    · by_cases e : q = i
      · rw [a3 272 q (by omega), e, zu_self]
      · rw [a2 q (by omega) h2, zu_p (by decide)]
    · by_cases e : p = 272
      · subst e
        exact zu_k (by omega)
      · exact zu_p e
theorem cy_cp {k : Nat} (hk : k < 5) {N s q r x6 : Int} : ∀ (f i : Nat) (m : z_M), i + f = 37 → ∃ m1, z_R 246 (m, 142, [(2, 251), (0, (k : Int)), (0, N), (0, s), (0, q), (0, r), (0, x6), (0, (i : Int))], []) = z_R 246 (m1, 142, [(2, 251), (0, (k : Int)), (0, N), (0, s), (0, q), (0, r), (0, x6), (0, 37)], []) ∧ (∀ j, i ≤ j → j < 37 → m1 264 j = m 270 (37 * k + j)) ∧ ∀ p j, ¬ (p = 264 ∧ i ≤ j) → m1 p j = m p j := by
  intro f
  induction f with
  | zero =>
    intro i m hi
    obtain rfl : i = 37 := by omega
    exact ⟨m, rfl, fun j h1 h2 => by omega, fun _ _ _ => rfl⟩
  | succ f ih =>
    intro i m hi
    rw [cy_gc0_142, if_neg (by omega), z_mul_eq (x := 37) (y := (k : Int)) (by omega) (by omega), z_add_eq (x := 37 * (k : Int)) (y := (i : Int)) (by omega) (by omega), if_pos (by omega), if_pos (by omega), tc1, Int.toNat_natCast, show (37 * (k : Int) + (i : Int)).toNat = 37 * k + i by omega]
    obtain ⟨m1, a1, a2, a3⟩ := ih (i + 1) (z_up m 264 i (m 270 (37 * k + i))) (by omega)
    refine ⟨m1, a1, fun j h1 h2 => ?_, fun p j hp => (a3 p j (by omega)).trans ?_⟩
    · by_cases e : j = i
      · rw [a3 264 j (by omega), e, zu_self]
      · rw [a2 j (by omega) h2, zu_p (by decide)]
    · by_cases e : p = 264
      · subst e
        exact zu_k (by omega)
      · exact zu_p e
theorem cy_besR {q r : Nat} (hq : q < 9) (hr : r < 9) (m : z_M) : z_R 247 (m, 0, [(2, 251), (0, (q : Int)), (0, (r : Int))], []) = some (m, some (0, if cy_bes q r = true then 1 else 0)) := by
  have e : ∀ q, q < 9 → ∀ r, r < 9 → (1 < z_add (if 0 ≤ (((q : Nat) : Int) % 3) - (((r : Nat) : Int) % 3) then (((q : Nat) : Int) % 3) - (((r : Nat) : Int) % 3) else z_sub 0 ((((q : Nat) : Int) % 3) - (((r : Nat) : Int) % 3))) (if 0 ≤ (((q : Nat) : Int) / 3) - (((r : Nat) : Int) / 3) then (((q : Nat) : Int) / 3) - (((r : Nat) : Int) / 3) else z_sub 0 ((((q : Nat) : Int) / 3) - (((r : Nat) : Int) / 3))) ↔ ¬ cy_bes q r = true) := by decide +kernel
  have e := e q hq r hr
  rw [cy_bes_0 m _ _ ⟨by omega, by omega⟩ ⟨by omega, by omega⟩]
  by_cases z : cy_bes q r = true
  · rw [if_neg (fun y => (e.mp y) z), if_pos z]
  · rw [if_pos (e.mpr z), if_neg z]
def cy_iR (w h n : Nat) (heat price : Int) (D A : Nat → Int) (c : Nat) (U : Nat → Nat → Int) (kn : Nat → Int) (KS : Nat → Nat → Int) (cs : List Int) (N : Nat) (acc : Int × (Nat → Int)) (m : z_M) : Prop := R_is w h n heat price D A c U kn KS cs m ∧ m 251 49 = acc.1 ∧ (acc.1 = 1000000 ∨ ∀ i, i < N → m 272 i = acc.2 i)
theorem cy_iR_fr {N : Nat} {acc : Int × (Nat → Int)} {m m' : z_M} (hi : cy_iR w h n heat price D A c U kn KS cs N acc m) (hf : ∀ p k, R_hit p k k = true → m' p k = m p k) (h1 : m' 251 49 = m 251 49) (h2 : ∀ k, m' 272 k = m 272 k) : cy_iR w h n heat price D A c U kn KS cs N acc m' := by
  obtain ⟨a, b1, b2⟩ := hi
  exact ⟨R_fr a hf, h1.trans b1, b2.imp id (fun z i hi => (h2 i).trans (z i hi))⟩
theorem cy_vis {N : Nat} (hN5 : N ≤ 5) (hN : w_N w h n heat D) {j k : Nat} (hk : k < 5) (IH : ∀ (s : Int) (m : z_M) (B way : Nat → Int) (acc : Int × (Nat → Int)), 0 ≤ s → s ≤ 891 * ((k + 1 : Nat) : Int) → cy_iR w h n heat price D A c U kn KS cs N acc m → rS m 264 n = B → cy_Q w h n (k + 1) B → (∀ i, i < k + 1 → m 271 i = way i) → ∃ m1, z_R 246 (m, 0, [(2, 251), (0, ((k + 1 : Nat) : Int)), (0, (N : Int)), (0, s), (9, 0), (9, 0), (9, 0), (9, 0)], []) = some (m1, none) ∧ cy_iR w h n heat price D A c U kn KS cs N (cy_G w h n heat price cs D j (k + 1) B s way acc) m1 ∧ (∀ i, i < k + 1 → m1 271 i = m 271 i) ∧ ∀ i, i < 37 * (k + 1) → m1 270 i = m 270 i) (v s : Int) (m : z_M) (B way : Nat → Int) (acc : Int × (Nat → Int)) (h0 : 0 ≤ s) (h1 : s ≤ 891 * (k : Int)) (hv : cy_iR w h n heat price D A c U kn KS cs N acc m) (hB : uR m 270 k n = B) (hQ : cy_Q w h n k B) (hr : v ∈ cy_L w h (B 34)) (h34 : B 34 = -1 ↔ v = -1) (hw : ∀ i, i < k → m 271 i = way i) : ∃ m1, z_R 246 (m, 142, [(2, 251), (0, (k : Int)), (0, (N : Int)), (0, s), (0, B 34), (0, cy_to v), (0, 1), (0, 0)], []) = z_R 246 (m1, 76, [(2, 251), (0, (k : Int)), (0, (N : Int)), (0, s), (0, B 34), (0, z_add (cy_to v) 1), (0, 1), (0, 37)], []) ∧ cy_iR w h n heat price D A c U kn KS cs N (cy_G w h n heat price cs D j (k + 1) (cy_St w h n heat price cs D B v) (s + cy_ml w h n heat cs D B v) (u_up way k (cy_to v)) acc) m1 ∧ (∀ i, i < k → m1 271 i = m 271 i) ∧ ∀ i, i < 37 * (k + 1) → m1 270 i = m 270 i := by
  obtain ⟨q1, q2, q3⟩ := cy_Q_ok (price := price) (cs := cs) hN k B v (by omega) hQ hr
  obtain ⟨m2, a1, a2, a3⟩ := cy_cp hk (N := (N : Int)) (s := s) (q := B 34) (r := cy_to v) (x6 := 1) 37 0 m (by decide)
  have a1 : z_R 246 (m, 142, [(2, 251), (0, (k : Int)), (0, (N : Int)), (0, s), (0, B 34), (0, cy_to v), (0, 1), (0, 0)], []) = z_R 246 (m2, 142, [(2, 251), (0, (k : Int)), (0, (N : Int)), (0, s), (0, B 34), (0, cy_to v), (0, 1), (0, 37)], []) := a1
  have hB2 : rS m2 264 n = B := (rS_is (j := k) (fun i hi => a2 i (Nat.zero_le i) hi)).trans hB
  have e142 : z_R 246 (m2, 142, [(2, 251), (0, (k : Int)), (0, (N : Int)), (0, s), (0, B 34), (0, cy_to v), (0, 1), (0, 37)], []) = (z_R 208 (z_up (z_up m2 264 34 v) 271 k (cy_to v), 0, [(2, 251), (2, 264), (9, 0), (9, 0), (9, 0)], [])).bind fun qq => z_R 246 (qq.1, 209, [(2, 251), (0, (k : Int)), (0, (N : Int)), (0, s), (0, B 34), (0, cy_to v), (0, 1), (0, 37)], qq.2.toList ++ []) := by
    rw [cy_gc0_142, if_pos (Int.le_refl _)]
    by_cases y : B 34 = -1
    · rw [if_pos y, if_pos (by omega), Int.toNat_natCast, h34.mp y]
    · have e : cy_to v = v := if_neg (fun z => y (h34.mpr z))
      rw [if_neg y, if_pos (by omega), Int.toNat_natCast, e]
  rw [a1, e142]
  have hR2 : R_is w h n heat price D A c U kn KS cs m2 := R_fr hv.1 fun p j hk => a3 p j fun z => by
    have hk' := hk
    unfold R_hit at hk'
    have hk' := of_decide_eq_true hk'
    omega
  have hR3 : R_is w h n heat price D A c U kn KS cs (z_up (z_up m2 264 34 v) 271 k (cy_to v)) := R_fr (R_upn (p0 := 264) (k0 := 34) (v := v) hR2 (by decide)) fun p j hk => zu_p fun z => by
    have hk' := hk
    unfold R_hit at hk'
    have hk' := of_decide_eq_true hk'
    omega
  have hA3 : rS (z_up (z_up m2 264 34 v) 271 k (cy_to v)) 264 n = u_up B 34 v := by rw [rS_row (zu_rowne (by decide)), rS_up (by decide) (a_vis_hi (by decide)), hB2]
  have g3 : ∀ p j, ¬ p = 264 → ¬ p = 271 → (z_up (z_up m2 264 34 v) 271 k (cy_to v)) p j = m p j := fun p j h1 h2 => by rw [zu_p h2, zu_p h1]; exact a3 p j (fun z => h1 z.1)
  have g271 : ∀ i, ¬ i = k → (z_up (z_up m2 264 34 v) 271 k (cy_to v)) 271 i = m 271 i := fun i hi => by rw [zu_k hi, zu_p (by decide)]; exact a3 271 i (fun z => absurd z.1 (by decide))
  have g271k : (z_up (z_up m2 264 34 v) 271 k (cy_to v)) 271 k = cy_to v := zu_self
  generalize z_up (z_up m2 264 34 v) 271 k (cy_to v) = m3 at hR3 hA3 g3 g271 g271k ⊢
  obtain ⟨qk, qt, qw⟩ := hQ
  have h35 : u_up B 34 v 35 = B 35 := u_up_ne (by decide)
  have hok3 : hr_ok n (u_up B 34 v) := hr_ok_up qk (by decide) (fun z => absurd z (by decide)) (fun p h1 h2 => by have := hN.1.2.2; omega)
  obtain ⟨m4, c1, c2, c3, -, -, -, c7⟩ := r_hour (a := 264) z_A_264 (Or.inr rfl) hN.1.1 hN.1.2.1 (price := price) ⟨hN.1.2.2, hN.2.1, c_ml_ok cs, hN.2.2⟩ m3 (R_cfg hR3) hA3 hok3 (by rw [h35]; exact qt.1) (by rw [h35]; omega)
  have c1 : z_R 208 (m3, 0, [(2, 251), (2, 264), (9, 0), (9, 0), (9, 0)], []) = some (m4, none) := c1
  rw [h35] at c2 c3
  have c2 : rS m4 264 n = cy_St w h n heat price cs D B v := c2
  have c3 : m4 251 28 = cy_ml w h n heat cs D B v := c3
  have s1 : z_same (r_LHs 264) m3 m4 := c7.subo (by (try unfold r_LHs); (repeat' (first | exact trivial | refine z_sbo_c ?_ ?_)) <;> (intro k h1 h2; first | exact z_on_h rfl (by omega) (by omega) | exact z_on_t (z_on_h rfl (by omega) (by omega)) | exact z_on_t (z_on_t (z_on_h rfl (by omega) (by omega))) | exact z_on_t (z_on_t (z_on_t (z_on_h rfl (by omega) (by omega)))) | exact z_on_t (z_on_t (z_on_t (z_on_t (z_on_h rfl (by omega) (by omega))))) | exact z_on_t (z_on_t (z_on_t (z_on_t (z_on_t (z_on_h rfl (by omega) (by omega)))))) | exact z_on_t (z_on_t (z_on_t (z_on_t (z_on_t (z_on_t (z_on_h rfl (by omega) (by omega))))))) | exact z_on_t (z_on_t (z_on_t (z_on_t (z_on_t (z_on_t (z_on_t (z_on_h rfl (by omega) (by omega)))))))) | exact z_on_t (z_on_t (z_on_t (z_on_t (z_on_t (z_on_t (z_on_t (z_on_t (z_on_h rfl (by omega) (by omega))))))))) | exact z_on_t (z_on_t (z_on_t (z_on_t (z_on_t (z_on_t (z_on_t (z_on_t (z_on_t (z_on_h rfl (by omega) (by omega)))))))))) | exact z_on_t (z_on_t (z_on_t (z_on_t (z_on_t (z_on_t (z_on_t (z_on_t (z_on_t (z_on_t (z_on_h rfl (by omega) (by omega))))))))))) | exact z_on_t (z_on_t (z_on_t (z_on_t (z_on_t (z_on_t (z_on_t (z_on_t (z_on_t (z_on_t (z_on_t (z_on_h rfl (by omega) (by omega)))))))))))) | exact z_on_t (z_on_t (z_on_t (z_on_t (z_on_t (z_on_t (z_on_t (z_on_t (z_on_t (z_on_t (z_on_t (z_on_t (z_on_h rfl (by omega) (by omega)))))))))))))))
  have hv4 : cy_iR w h n heat price D A c U kn KS cs N acc m4 := ⟨R_off264 hR3 s1, ((s1.of (by (try unfold r_LHs); (repeat' (first | exact trivial | refine z_of_c ?_ ?_)) <;> omega)).trans (g3 251 49 (by decide) (by decide))).trans hv.2.1, hv.2.2.imp id (fun z i hi => ((s1.of (by (try unfold r_LHs); (repeat' (first | exact trivial | refine z_of_c ?_ ?_)) <;> omega)).trans (g3 272 i (by decide) (by decide))).trans (z i hi))⟩
  have w4 : ∀ i, i < k + 1 → m4 271 i = u_up way k (cy_to v) i := fun i hi => by
    rw [show m4 271 i = m3 271 i from s1.of (by (try unfold r_LHs); (repeat' (first | exact trivial | refine z_of_c ?_ ?_)) <;> omega)]
    by_cases e : i = k
    · rw [e, g271k, u_up_self]
    · rw [g271 i e, u_up_ne e, hw i (by omega)]
  have u4 : ∀ i, m4 270 i = m 270 i := fun i => (s1.of (by (try unfold r_LHs); (repeat' (first | exact trivial | refine z_of_c ?_ ?_)) <;> omega)).trans (g3 270 i (by decide) (by decide))
  rw [c1, zb_n, cy_gc0_209, c3, z_add_eq (x := (k : Int)) (y := 1) (by omega) (by omega), tc1, z_add_eq (x := s) (by omega) (by omega)]
  obtain ⟨m5, d1, d2, d3, d4⟩ := IH (s + cy_ml w h n heat cs D B v) m4 (cy_St w h n heat price cs D B v) (u_up way k (cy_to v)) acc (by omega) (by omega) hv4 c2 q1 w4
  rw [d1, zb_n, cy_gc0_223]
  refine ⟨m5, rfl, d2, fun i hi => ?_, fun i hi => (d4 i hi).trans (u4 i)⟩
  rw [d3 i (by omega), show m4 271 i = m3 271 i from s1.of (by (try unfold r_LHs); (repeat' (first | exact trivial | refine z_of_c ?_ ?_)) <;> omega)]
  exact g271 i (by omega)
theorem cy_gc {N : Nat} (hN5 : N ≤ 5) (hN : w_N w h n heat D) : ∀ (j k : Nat), k + j = N → ∀ (s : Int) (m : z_M) (B way : Nat → Int) (acc : Int × (Nat → Int)), 0 ≤ s → s ≤ 891 * (k : Int) → cy_iR w h n heat price D A c U kn KS cs N acc m → rS m 264 n = B → cy_Q w h n k B → (∀ i, i < k → m 271 i = way i) → ∃ m1, z_R 246 (m, 0, [(2, 251), (0, (k : Int)), (0, (N : Int)), (0, s), (9, 0), (9, 0), (9, 0), (9, 0)], []) = some (m1, none) ∧ cy_iR w h n heat price D A c U kn KS cs N (cy_G w h n heat price cs D j k B s way acc) m1 ∧ (∀ i, i < k → m1 271 i = m 271 i) ∧ ∀ i, i < 37 * k → m1 270 i = m 270 i := by
  intro j
  induction j with
  | zero =>
    intro k hk s m B way acc h0 h1 hv hB hQ hw
    obtain rfl : k = N := by omega
    rw [cy_gcU0 (by omega), if_pos rfl, hv.2.1]
    show ∃ m1, _ ∧ cy_iR w h n heat price D A c U kn KS cs k (if s < acc.1 then (s, way) else acc) m1 ∧ _
    by_cases z : s < acc.1
    · rw [if_pos z, if_pos z]
      obtain ⟨m1, a1, a2, a3⟩ := cy_bw hN5 (x1 := (k : Int)) (x3 := s) k 0 (z_up m 251 49 s) (by omega)
      have a1 : z_R 246 (z_up m 251 49 s, 22, [(2, 251), (0, (k : Int)), (0, (k : Int)), (0, s), (0, 0), (9, 0), (9, 0), (9, 0)], []) = some (m1, none) := a1
      refine ⟨m1, a1, ⟨R_fr (R_upn (p0 := 251) (k0 := 49) (v := s) hv.1 (by decide)) fun p j hk => a3 p j fun z => ?_, ?_, Or.inr fun i hi => ?_⟩, fun i _ => ?_, fun i _ => ?_⟩
      · have hk' := hk
        unfold R_hit at hk'
        have hk' := of_decide_eq_true hk'
        omega
      · exact (a3 251 49 (by omega)).trans zu_self
      · rw [a2 i (Nat.zero_le i) hi, zu_p (by decide)]
        exact hw i hi
      · exact (a3 271 i (by omega)).trans (zu_p (by decide))
      · exact (a3 270 i (by omega)).trans (zu_p (by decide))
    · rw [if_neg z, if_neg z]
      exact ⟨m, rfl, hv, fun _ _ => rfl, fun _ _ => rfl⟩
  | succ j ih =>
    intro k hk s m B way acc h0 h1 hv hB hQ hw
    have IH := ih (k + 1) (by omega)
    obtain ⟨m0, b1, b2, b3⟩ := t_layd (a := 264) (q := 270) (B := 148) cy_lay_0 cy_lay_2 (by decide) (b := 37 * k) (by omega) m
    have b1 : z_R 198 (m, 0, [(2, 264), (2, 270), (0, ((37 * k : Nat) : Int)), (9, 0)], []) = some (m0, none) := b1
    have hB0 : uR m0 270 k n = B := (uR_is (fun i hi => b2 i hi)).trans hB
    have f0 : ∀ p q, ¬ p = 270 → m0 p q = m p q := fun p q hp => b3 p q (fun z => hp z.1)
    have e34 : m0 264 34 = B 34 := by
      rw [f0 264 34 (by decide), ← hB]
      exact (rS_at (by decide) (a_vis_hi (by decide))).symm
    have hv0 : cy_iR w h n heat price D A c U kn KS cs N acc m0 := cy_iR_fr hv (fun p q hk => f0 p q fun z => by
      have hk' := hk
      unfold R_hit at hk'
      have hk' := of_decide_eq_true hk'
      omega) (f0 251 49 (by decide)) (fun q => f0 272 q (by decide))
    have hgo := cy_vis (j := j) hN5 hN (show k < 5 by omega) IH
    rw [cy_gcU0 (by omega), if_neg (by omega), b1, zb_n, cy_gc0_64, e34]
    show ∃ m1, _ ∧ cy_iR w h n heat price D A c U kn KS cs N ((cy_L w h (B 34)).foldl (fun a r => cy_G w h n heat price cs D j (k + 1) (cy_St w h n heat price cs D B r) (s + cy_ml w h n heat cs D B r) (u_up way k (cy_to r)) a) acc) m1 ∧ _
    have hrow : ∀ m' : z_M, (∀ i, i < 37 * (k + 1) → m' 270 i = m0 270 i) → uR m' 270 k n = B := fun m' hm => (uR_row (fun i hi => hm _ (by omega))).trans hB0
    have hlow : ∀ i, i < 37 * k → m0 270 i = m 270 i := fun i hi => b3 270 i (by omega)
    by_cases y : B 34 = -1
    · have eL : cy_L w h (B 34) = [-1] := if_pos y
      have sk : ∀ (f r : Nat) (v6 v7 : z_V), r + f = 9 → ∃ v6', z_R 246 (m0, 76, [(2, 251), (0, (k : Int)), (0, (N : Int)), (0, s), (0, B 34), (0, (r : Int)), v6, v7], []) = z_R 246 (m0, 76, [(2, 251), (0, (k : Int)), (0, (N : Int)), (0, s), (0, B 34), (0, 9), v6', v7], []) := by
        intro f
        induction f with
        | zero =>
          intro r v6 v7 hr
          obtain rfl : r = 9 := by omega
          exact ⟨v6, rfl⟩
        | succ f ihf =>
          intro r v6 v7 hr
          rw [cy_gc0_76, if_neg (by omega), if_pos y, if_neg (by omega), z_add_eq (x := (r : Int)) (y := 1) (by omega) (by omega), tc1]
          exact ihf (r + 1) _ _ (by omega)
      obtain ⟨v6', e0⟩ := sk 9 0 (9, 0) (9, 0) (by decide)
      have e0 : z_R 246 (m0, 76, [(2, 251), (0, (k : Int)), (0, (N : Int)), (0, s), (0, B 34), (0, 0), (9, 0), (9, 0)], []) = z_R 246 (m0, 76, [(2, 251), (0, (k : Int)), (0, (N : Int)), (0, s), (0, B 34), (0, 9), v6', (9, 0)], []) := e0
      obtain ⟨m2, a1, a2, a3, a4⟩ := hgo (-1) s m0 B way acc h0 h1 hv0 hB0 hQ (by rw [eL]; exact List.mem_cons_self) ⟨fun _ => rfl, fun _ => y⟩ (fun i hi => (f0 271 i (by decide)).trans (hw i hi))
      have a1 : z_R 246 (m0, 142, [(2, 251), (0, (k : Int)), (0, (N : Int)), (0, s), (0, B 34), (0, 9), (0, 1), (0, 0)], []) = z_R 246 (m2, 76, [(2, 251), (0, (k : Int)), (0, (N : Int)), (0, s), (0, B 34), (0, z_add 9 1), (0, 1), (0, 37)], []) := a1
      rw [e0, cy_gc0_76, if_neg (by decide), if_pos y, if_pos rfl, a1, cy_gc0_76, if_pos (by decide +kernel), eL]
      exact ⟨m2, rfl, a2, fun i hi => (a3 i hi).trans (f0 271 i (by decide)), fun i hi => (a4 i (by omega)).trans (hlow i hi)⟩
    · have hr := u_hs_rng (hQ.2.2.2.2.resolve_left y)
      obtain ⟨q, hq⟩ : ∃ q : Nat, B 34 = (q : Int) := ⟨(B 34).toNat, by omega⟩
      have eL : cy_L w h (B 34) = cy_rl w h q 10 0 := (if_neg y).trans (by rw [hq, Int.toNat_natCast])
      have lp : ∀ (f r : Nat) (v6 v7 : z_V) (m' : z_M) (acc' : Int × (Nat → Int)), r + f = 10 → cy_iR w h n heat price D A c U kn KS cs N acc' m' → (∀ i, i < k → m' 271 i = m0 271 i) → (∀ i, i < 37 * (k + 1) → m' 270 i = m0 270 i) → (∀ x ∈ cy_rl w h q f r, x ∈ cy_L w h (B 34)) → ∃ m1, z_R 246 (m', 76, [(2, 251), (0, (k : Int)), (0, (N : Int)), (0, s), (0, B 34), (0, (r : Int)), v6, v7], []) = some (m1, none) ∧ cy_iR w h n heat price D A c U kn KS cs N ((cy_rl w h q f r).foldl (fun a r => cy_G w h n heat price cs D j (k + 1) (cy_St w h n heat price cs D B r) (s + cy_ml w h n heat cs D B r) (u_up way k (cy_to r)) a) acc') m1 ∧ (∀ i, i < k → m1 271 i = m0 271 i) ∧ ∀ i, i < 37 * (k + 1) → m1 270 i = m0 270 i := by
        intro f
        induction f with
        | zero =>
          intro r v6 v7 m' acc' hr' hv' hw' hs' hL
          rw [cy_gc0_76, if_pos (by omega)]
          exact ⟨m', rfl, hv', hw', hs'⟩
        | succ f ihf =>
          intro r v6 v7 m' acc' hr' hv' hw' hs' hL
          rw [cy_gc0_76, if_neg (by omega), if_neg y, hv'.1.1.1, hv'.1.1.2.1, z_add_eq (x := (r : Int)) (y := 1) (by omega) (by omega), tc1]
          unfold cy_rl at hL ⊢
          by_cases cu : u_hs (w : Int) (h : Int) (r : Int) = 0
          · have cn : ¬ ((¬ u_hs (w : Int) (h : Int) (r : Int) = 0) ∧ cy_bes q r = true) := fun z => z.1 cu
            rw [if_neg cn] at hL ⊢
            rw [if_neg (not_not_intro cu)]
            exact ihf (r + 1) _ _ m' acc' (by omega) hv' hw' hs' hL
          · have hr9 := u_hs_rng cu
            have eb := cy_besR (q := q) (r := r) (by omega) (by omega) m'
            rw [if_pos cu, hq, eb, zb_v, cy_gc0_121, z_add_eq (x := (r : Int)) (y := 1) (by omega) (by omega), tc1]
            by_cases cb : cy_bes q r = true
            · have cy : (¬ u_hs (w : Int) (h : Int) (r : Int) = 0) ∧ cy_bes q r = true := ⟨cu, cb⟩
              rw [if_pos cy] at hL ⊢
              rw [if_pos cb, if_neg (show ¬ (1 : Int) = 0 by decide)]
              have er : cy_to (r : Int) = (r : Int) := if_neg (by omega)
              obtain ⟨m2, a1, a2, a3, a4⟩ := hgo (r : Int) s m' B way acc' h0 h1 hv' (hrow m' hs') hQ (hL _ List.mem_cons_self) ⟨fun z => absurd z y, fun z => by omega⟩ (fun i hi => (hw' i hi).trans ((f0 271 i (by decide)).trans (hw i hi)))
              rw [er, hq, z_add_eq (x := (r : Int)) (y := 1) (by omega) (by omega), tc1] at a1
              rw [a1, ← hq]
              rw [show (List.foldl (fun a r => cy_G w h n heat price cs D j (k + 1) (cy_St w h n heat price cs D B r) (s + cy_ml w h n heat cs D B r) (u_up way k (cy_to r)) a) acc' ((r : Int) :: cy_rl w h q f (r + 1))) = List.foldl (fun a r => cy_G w h n heat price cs D j (k + 1) (cy_St w h n heat price cs D B r) (s + cy_ml w h n heat cs D B r) (u_up way k (cy_to r)) a) (cy_G w h n heat price cs D j (k + 1) (cy_St w h n heat price cs D B (r : Int)) (s + cy_ml w h n heat cs D B (r : Int)) (u_up way k (cy_to (r : Int))) acc') (cy_rl w h q f (r + 1)) from rfl]
              exact ihf (r + 1) _ _ m2 _ (by omega) a2 (fun i hi => (a3 i hi).trans (hw' i hi)) (fun i hi => (a4 i hi).trans (hs' i hi)) (fun x hx => hL x (List.mem_cons_of_mem _ hx))
            · have cn : ¬ ((¬ u_hs (w : Int) (h : Int) (r : Int) = 0) ∧ cy_bes q r = true) := fun z => cb z.2
              rw [if_neg cn] at hL ⊢
              rw [if_neg cb, if_pos (show (0 : Int) = 0 from rfl), ← hq]
              exact ihf (r + 1) _ _ m' acc' (by omega) hv' hw' hs' hL
      obtain ⟨m1, a1, a2, a3, a4⟩ := lp 10 0 (9, 0) (9, 0) m0 acc (by decide) hv0 (fun _ _ => rfl) (fun _ _ => rfl) (fun x hx => by rw [eL]; exact hx)
      rw [eL]
      exact ⟨m1, a1, a2, fun i hi => (a3 i hi).trans (f0 271 i (by decide)), fun i hi => (a4 i (by omega)).trans (hlow i hi)⟩
theorem cy_tel {N : Nat} (hN5 : N ≤ 5) {l : Int} : ∀ (f x : Nat) (m : z_M), x + f = N → m 251 10 = (x : Int) → m 251 49 = l → R_is w h n heat price D A c U kn KS cs m → ∃ m1, z_R 245 (m, 55, [(2, 251), (0, (N : Int)), (0, (x : Int))], []) = some (m1, some (0, l)) ∧ R_is w h n heat price D A c U kn KS cs m1 := by
  intro f
  induction f with
  | zero =>
    intro x m hx h10 hl hi
    rw [cy_tca_55, if_pos (by omega), hl]
    exact ⟨m, rfl, hi⟩
  | succ f ih =>
    intro x m hx h10 hl hi
    rw [cy_tca_55, if_neg (by omega), if_pos (by omega), t_tell (j := x) m _ (by omega) h10, zb_n, cy_tca_71, z_add_eq (x := (x : Int)) (y := 1) (by omega) (by omega), tc1]
    exact ih (x + 1) _ (by omega) zu_self (by rw [zu_k (by decide), zu_p (by decide)]; exact hl) (R_upn (R_upn hi (by unfold R_hit; exact decide_eq_false (by omega))) (by decide))
theorem R_carry (hi : R_is w h n heat price D A c U kn KS cs m) (hN : w_N w h n heat D) (hok : hr_ok n A) (ht : 0 ≤ A 35 ∧ A 35 ≤ 1073741824) (hw : wi w h n A) (a : Int) : ∃ m1, z_R 245 (m, 0, [(2, 251), (0, a), (9, 0)], []) = some (m1, some (0, cy_A w h n heat price cs D A a)) ∧ R_is w h n heat price D A c U kn KS cs m1 := by
  have e34 : m 252 34 = A 34 := R_A hi (by decide) (a_vis_hi (by decide))
  have hu := R_upn (p0 := 251) (k0 := 11) (v := 0) hi (by decide)
  rw [cy_tca_0, e34]
  generalize z_up m 251 11 0 = m0 at hu ⊢
  by_cases c1 : 1 ≤ a ∧ a ≤ 5
  · rw [if_pos c1]
    by_cases c3 : A 34 = -1
    · have e : cy_A w h n heat price cs D A a = -2 := (if_neg (not_not_intro c1)).trans (if_pos c3)
      rw [if_pos c3, e]
      exact ⟨_, rfl, hu⟩
    · have e : cy_A w h n heat price cs D A a = (cy_G w h n heat price cs D a.toNat 0 A 0 (fun _ => 0) (1000000, fun _ => 0)).1 := (if_neg (not_not_intro c1)).trans (if_neg c3)
      obtain ⟨N, rfl⟩ : ∃ N : Nat, a = (N : Int) := ⟨a.toNat, by omega⟩
      rw [Int.toNat_natCast] at e
      obtain ⟨m1, b1, b2, b3⟩ := R_lt hu
      have hQ : cy_Q w h n 0 A := ⟨hok, ⟨ht.1, by omega⟩, hw⟩
      have hv : cy_iR w h n heat price D A c U kn KS cs N (1000000, fun _ => 0) (z_up m1 251 49 1000000) := ⟨R_upn b2 (by decide), zu_self, Or.inl rfl⟩
      obtain ⟨m4, d1, d2, -, -⟩ := cy_gc (N := N) (by omega) hN N 0 (by omega) 0 (z_up m1 251 49 1000000) A (fun _ => 0) (1000000, fun _ => 0) (by decide) (by decide) hv ((rS_row (zu_rowne (by decide))).trans b3) hQ (fun i hi => absurd hi (Nat.not_lt_zero i))
      have d1 : z_R 246 (z_up m1 251 49 1000000, 0, [(2, 251), (0, 0), (0, (N : Int)), (0, 0), (9, 0), (9, 0), (9, 0), (9, 0)], []) = some (m4, none) := d1
      rw [if_neg c3, b1, zb_n, cy_tca_34, d1, zb_n, cy_tca_48, e]
      exact cy_tel (by omega) N 0 _ (by omega) zu_self ((zu_k (by decide)).trans d2.2.1) (R_upn d2.1 (by decide))
  · have e : cy_A w h n heat price cs D A a = -1 := if_pos c1
    rw [if_neg c1, e]
    exact ⟨_, rfl, hu⟩
end
theorem core_carry : l_rel2 Rel_C (974, 148, 129, 1, true, 984, 151, 245) := by
  intro M1 M2 M3 σ σ1 σ2 as v1 v2 C1 C2 ρ1 ρ2 ha hR hh hM1 hC1 hp1 hE1 hC2 hp2 hE2
  obtain ⟨a, rfl⟩ := as_one ha
  have hE1 : z_R 129 (z_m σ, 0, [(2, 0), (0, a.toInt), (9, 0)], []) = some (z_m σ1, some (0, v1.toInt)) := z_R_iff.mpr hE1
  have hE2 : z_R 245 (z_m σ1, 0, [(2, 251), (0, a.toInt), (9, 0)], []) = some (z_m σ2, some (0, v2.toInt)) := z_R_iff.mpr hE2
  have hT := T_two (y1 := 129) (y2 := 245) (by decide +kernel) (by decide +kernel) hC1 hC2 hp1 hp2 hR.1
  obtain ⟨w, h, n, heat, price, D, A, c, U, kn, KS, cs, cC, cR, cW⟩ := hR.2
  obtain ⟨b1, b2, -, -, hok, b35, -, b7⟩ := core_b hh hM1 cR
  have hN : w_N w h n heat D := ⟨b1, b2, b7⟩
  have kk := core_24 hh
  have f1 := R_off2_ok (y := 129) (by decide +kernel) hC1 hp1
  have f2 := C_off_ok (y := 245) (by decide +kernel) hC2 hp2
  have cR1 := R_fr cR f1
  have z := core_do cR1 (fun q => C_fr q f2) (C_carry cC hN hok b35 cW.2.1 kk.2 a.toInt) (fun q => R_carry q hN hok b35 cW.2.1 a.toInt) hE1 hE2
  exact ⟨⟨hT, Core_mk z.1.1 z.1.2 cW⟩, fun _ => z.2⟩
end
section
/-! WHAT IS KEPT: both texts alike, and both are in one and the same -/
def Rel_0 (σ : m_H) : Prop := Rel_C σ
theorem rel_start : ∀ σ, xs_is σ → Rel_0 σ := core_start
theorem rel_off {c : l_C} (h : ((core_offb c.2.2.1 && core_offb c.2.2.2.2.2.2.2) && (rel_offb c.2.2.1 && (rel_offb c.2.2.2.2.2.2.2 && !c.2.2.2.2.1))) = true) : l_rel2 Rel_0 c := by
  obtain ⟨h1, h2⟩ := Bool.and_eq_true _ _ |>.mp h
  exact core_q (R_off h2) h1
theorem rel_sign : l_rel2 Rel_0 (219, 26, 14, 1, false, 230, 30, 160) := core_q R_sign (by decide +kernel)
theorem rel_end : l_rel2 Rel_0 (244, 31, 16, 1, false, 255, 35, 161) := core_q R_end (by decide +kernel)
theorem rel_quiet : l_rel2 Rel_0 (836, 124, 110, 1, false, 847, 127, 233) := core_quiet rfl
theorem rel_cases : ∀ c ∈ law_cs, l_rel2 Rel_0 c := by
  unfold law_cs
  refine List.forall_mem_cons.mpr ⟨rel_sign, ?_⟩
  refine List.forall_mem_cons.mpr ⟨rel_end, ?_⟩
  refine List.forall_mem_cons.mpr ⟨core_house, ?_⟩
  refine List.forall_mem_cons.mpr ⟨core_people, ?_⟩
  refine List.forall_mem_cons.mpr ⟨core_rule, ?_⟩
  refine List.forall_mem_cons.mpr ⟨core_set, ?_⟩
  refine List.forall_mem_cons.mpr ⟨core_doing, ?_⟩
  refine List.forall_mem_cons.mpr ⟨core_sheet, ?_⟩
  refine List.forall_mem_cons.mpr ⟨core_move, ?_⟩
  refine List.forall_mem_cons.mpr ⟨core_stove, ?_⟩
  refine List.forall_mem_cons.mpr ⟨core_hour, ?_⟩
  refine List.forall_mem_cons.mpr ⟨core_hours, ?_⟩
  refine List.forall_mem_cons.mpr ⟨core_pay, ?_⟩
  refine List.forall_mem_cons.mpr ⟨core_winter, ?_⟩
  refine List.forall_mem_cons.mpr ⟨core_undo, ?_⟩
  refine List.forall_mem_cons.mpr ⟨rel_off (by decide +kernel), ?_⟩
  refine List.forall_mem_cons.mpr ⟨rel_off (by decide +kernel), ?_⟩
  refine List.forall_mem_cons.mpr ⟨rel_off (by decide +kernel), ?_⟩
  refine List.forall_mem_cons.mpr ⟨rel_off (by decide +kernel), ?_⟩
  refine List.forall_mem_cons.mpr ⟨rel_off (by decide +kernel), ?_⟩
  refine List.forall_mem_cons.mpr ⟨rel_off (by decide +kernel), ?_⟩
  refine List.forall_mem_cons.mpr ⟨rel_quiet, ?_⟩
  refine List.forall_mem_cons.mpr ⟨rel_off (by decide +kernel), ?_⟩
  refine List.forall_mem_cons.mpr ⟨rel_off (by decide +kernel), ?_⟩
  refine List.forall_mem_cons.mpr ⟨rel_off (by decide +kernel), ?_⟩
  refine List.forall_mem_cons.mpr ⟨rel_off (by decide +kernel), ?_⟩
  refine List.forall_mem_cons.mpr ⟨rel_off (by decide +kernel), ?_⟩
  refine List.forall_mem_cons.mpr ⟨core_carry, ?_⟩
  refine List.forall_mem_cons.mpr ⟨rel_off (by decide +kernel), ?_⟩
  refine List.forall_mem_cons.mpr ⟨rel_off (by decide +kernel), ?_⟩
  refine List.forall_mem_cons.mpr ⟨rel_off (by decide +kernel), ?_⟩
  refine List.forall_mem_cons.mpr ⟨rel_off (by decide +kernel), ?_⟩
  refine List.forall_mem_cons.mpr ⟨rel_off (by decide +kernel), ?_⟩
  refine List.forall_mem_cons.mpr ⟨core_season, ?_⟩
  refine List.forall_mem_cons.mpr ⟨core_keep, ?_⟩
  refine List.forall_mem_cons.mpr ⟨core_again, ?_⟩
  refine List.forall_mem_cons.mpr ⟨rel_off (by decide +kernel), ?_⟩
  exact fun _ h => absurd h List.not_mem_nil
theorem rel_5 : l_rel3 Rel_0 181 2 := core_q3 (R3_off (by decide +kernel)) (by decide +kernel)
theorem rel_6 : l_rel3 Rel_0 190 2 := core_q3 (R3_off (by decide +kernel)) (by decide +kernel)
theorem rel_39 : l_rel3 Rel_0 261 1 := core_q3 (R3_off (by decide +kernel)) (by decide +kernel)
end
