section
/-! CARRY: the way of THE STOVE by which the least melts -/
def cy_to (r : Int) : Int := if r = -1 then 9 else r
def cy_bes (q r : Nat) : Bool := decide ((if 0 ≤ ((q : Int) % 3) - ((r : Int) % 3) then ((q : Int) % 3) - ((r : Int) % 3) else 0 - (((q : Int) % 3) - ((r : Int) % 3))) + (if 0 ≤ ((q : Int) / 3) - ((r : Int) / 3) then ((q : Int) / 3) - ((r : Int) / 3) else 0 - (((q : Int) / 3) - ((r : Int) / 3))) ≤ 1)
def cy_rl (w h q : Nat) : Nat → Nat → List Int
  | 0, _ => []
  | f + 1, r => if (¬ u_hs (w : Int) (h : Int) (r : Int) = 0) ∧ cy_bes q r = true then (r : Int) :: cy_rl w h q f (r + 1) else cy_rl w h q f (r + 1)
def cy_stp (i : Nat) : Int := if i = 0 then -3 else if i = 1 then -1 else if i = 2 then 0 else if i = 3 then 1 else 3
def cy_ok (w h q i : Nat) : Bool := decide (¬ u_hs (w : Int) (h : Int) ((q : Int) + cy_stp i) = 0) && (decide (¬ (cy_stp i = -1 ∨ cy_stp i = 1)) || decide (0 ≤ (q : Int) + cy_stp i ∧ ((q : Int) + cy_stp i) / 3 = (q : Int) / 3))
def cy_cl (w h q : Nat) : Nat → Nat → List Int
  | 0, _ => []
  | f + 1, i => if cy_ok w h q i = true then ((q : Int) + cy_stp i) :: cy_cl w h q f (i + 1) else cy_cl w h q f (i + 1)
theorem cy_eq : ∀ w, w < 4 → ∀ h, h < 4 → ∀ q, q < 9 → cy_cl w h q 5 0 = cy_rl w h q 10 0 := by decide +kernel
theorem cy_ne : ∀ w, w < 4 → ∀ h, h < 4 → ∀ q, q < 9 → ¬ u_hs ((w : Nat) : Int) ((h : Nat) : Int) ((q : Nat) : Int) = 0 → ¬ cy_rl w h q 10 0 = [] := by decide +kernel
def cy_L (w h : Nat) (q : Int) : List Int := if q = -1 then [-1] else cy_rl w h q.toNat 10 0
theorem cy_rl_in {w h q : Nat} : ∀ (f r : Nat) (x : Int), x ∈ cy_rl w h q f r → ¬ u_hs (w : Int) (h : Int) x = 0
  | 0, _, _, hx => absurd hx List.not_mem_nil
  | f + 1, r, x, hx => by
    unfold cy_rl at hx
    by_cases c : (¬ u_hs (w : Int) (h : Int) (r : Int) = 0) ∧ cy_bes q r = true
    · rw [if_pos c] at hx
      rcases List.mem_cons.mp hx with rfl | hx
      · exact c.1
      · exact cy_rl_in f (r + 1) x hx
    · rw [if_neg c] at hx
      exact cy_rl_in f (r + 1) x hx
theorem cy_L_in {w h : Nat} {q x : Int} (hx : x ∈ cy_L w h q) : x = -1 ∨ ¬ u_hs (w : Int) (h : Int) x = 0 := by
  unfold cy_L at hx
  by_cases c : q = -1
  · rw [if_pos c] at hx
    exact Or.inl (List.mem_singleton.mp hx)
  · rw [if_neg c] at hx
    exact Or.inr (cy_rl_in 10 0 x hx)
/-- the search: the least that melts, and by which way -/
def cy_g (St : (Nat → Int) → Int → (Nat → Int)) (ml : (Nat → Int) → Int → Int) (L : Int → List Int) : Nat → Nat → (Nat → Int) → Int → (Nat → Int) → Int × (Nat → Int) → Int × (Nat → Int)
  | 0, _, _, s, way, acc => if s < acc.1 then (s, way) else acc
  | j + 1, k, B, s, way, acc => (L (B 34)).foldl (fun a r => cy_g St ml L j (k + 1) (St B r) (s + ml B r) (u_up way k (cy_to r)) a) acc
theorem cy_fold_le {f : Int × (Nat → Int) → Int → Int × (Nat → Int)} (hf : ∀ a r, (f a r).1 ≤ a.1) : ∀ (l : List Int) (a : Int × (Nat → Int)), (l.foldl f a).1 ≤ a.1
  | [], a => Int.le_refl _
  | r :: l, a => Int.le_trans (cy_fold_le hf l (f a r)) (hf a r)
theorem cy_fold_id {f : Int × (Nat → Int) → Int → Int × (Nat → Int)} {a : Int × (Nat → Int)} : ∀ (l : List Int), (∀ r ∈ l, f a r = a) → l.foldl f a = a
  | [], _ => rfl
  | r :: l, h => by
    show l.foldl f (f a r) = a
    rw [h r List.mem_cons_self]
    exact cy_fold_id l (fun x hx => h x (List.mem_cons_of_mem _ hx))
section
variable {St : (Nat → Int) → Int → (Nat → Int)} {ml : (Nat → Int) → Int → Int} {L : Int → List Int} {Q : Nat → (Nat → Int) → Prop}
theorem cy_le : ∀ (j k : Nat) (B : Nat → Int) (s : Int) (way : Nat → Int) (acc : Int × (Nat → Int)), (cy_g St ml L j k B s way acc).1 ≤ acc.1
  | 0, k, B, s, way, acc => by
    unfold cy_g
    split
    · show s ≤ acc.1
      omega
    · exact Int.le_refl _
  | j + 1, k, B, s, way, acc => by
    unfold cy_g
    exact cy_fold_le (fun a r => cy_le j (k + 1) _ _ _ a) _ _
theorem cy_skip (hQ : ∀ k B r, k < 6 → Q k B → r ∈ L (B 34) → Q (k + 1) (St B r) ∧ 0 ≤ ml B r ∧ ml B r ≤ 891) : ∀ (j k : Nat) (B : Nat → Int) (s : Int) (way : Nat → Int) (acc : Int × (Nat → Int)), k + j ≤ 6 → Q k B → acc.1 ≤ s → cy_g St ml L j k B s way acc = acc
  | 0, k, B, s, way, acc, _, _, h => by
    unfold cy_g
    exact if_neg (by omega)
  | j + 1, k, B, s, way, acc, hkj, hB, h => by
    unfold cy_g
    refine cy_fold_id _ (fun r hr => ?_)
    obtain ⟨h1, h2, h3⟩ := hQ k B r (by omega) hB hr
    exact cy_skip hQ j (k + 1) _ _ _ acc (by omega) h1 (by omega)
theorem cy_fin (hQ : ∀ k B r, k < 6 → Q k B → r ∈ L (B 34) → Q (k + 1) (St B r) ∧ 0 ≤ ml B r ∧ ml B r ≤ 891) (hne : ∀ k B, Q k B → ¬ L (B 34) = []) : ∀ (j k : Nat) (B : Nat → Int) (s : Int) (way : Nat → Int) (acc : Int × (Nat → Int)), k + j ≤ 6 → Q k B → (cy_g St ml L j k B s way acc).1 ≤ s + 891 * (j : Int)
  | 0, k, B, s, way, acc, _, _ => by
    unfold cy_g
    split
    · show s ≤ _
      omega
    · omega
  | j + 1, k, B, s, way, acc, hkj, hB => by
    unfold cy_g
    cases hl : L (B 34) with
    | nil => exact absurd hl (hne k B hB)
    | cons r l =>
      obtain ⟨h1, h2, h3⟩ := hQ k B r (by omega) hB (by rw [hl]; exact List.mem_cons_self)
      have h4 := cy_fin hQ hne j (k + 1) (St B r) (s + ml B r) (u_up way k (cy_to r)) acc (by omega) h1
      refine Int.le_trans (cy_fold_le (fun a r => cy_le j (k + 1) _ _ _ a) l _) ?_
      show (cy_g St ml L j (k + 1) (St B r) (s + ml B r) (u_up way k (cy_to r)) acc).1 ≤ _
      omega
end
def cy_St (w h n : Nat) (heat price : Int) (cs : List Int) (D : Nat → Int) (B : Nat → Int) (r : Int) : Nat → Int := hr_A w h heat price (c_ml cs) (wmD D (B 35)) n (u_up B 34 r)
def cy_ml (w h n : Nat) (heat : Int) (cs : List Int) (D : Nat → Int) (B : Nat → Int) (r : Int) : Int := hr_m w h heat (c_ml cs) (wmD D (B 35)) n (u_up B 34 r)
abbrev cy_G (w h n : Nat) (heat price : Int) (cs : List Int) (D : Nat → Int) : Nat → Nat → (Nat → Int) → Int → (Nat → Int) → Int × (Nat → Int) → Int × (Nat → Int) := cy_g (cy_St w h n heat price cs D) (cy_ml w h n heat cs D) (cy_L w h)
def cy_Q (w h n : Nat) (k : Nat) (B : Nat → Int) : Prop := hr_ok n B ∧ (0 ≤ B 35 ∧ B 35 ≤ 1073741824 + (k : Int)) ∧ wi w h n B
/-- what is answered -/
def cy_A (w h n : Nat) (heat price : Int) (cs : List Int) (D A : Nat → Int) (a : Int) : Int := if ¬ (1 ≤ a ∧ a ≤ 5) then -1 else if A 34 = -1 then -2 else (cy_G w h n heat price cs D a.toNat 0 A 0 (fun _ => 0) (1000000, fun _ => 0)).1
section
variable {w h n : Nat} {heat price : Int} {D A : Nat → Int} {c : Nat} {U : Nat → Nat → Int} {kn : Nat → Int} {KS : Nat → Nat → Int} {cs : List Int} {m : z_M}
theorem cy_Q_ok (hN : w_N w h n heat D) : ∀ k B r, k < 6 → cy_Q w h n k B → r ∈ cy_L w h (B 34) → cy_Q w h n (k + 1) (cy_St w h n heat price cs D B r) ∧ 0 ≤ cy_ml w h n heat cs D B r ∧ cy_ml w h n heat cs D B r ≤ 891 := by
  intro k B r hk6 ⟨q1, q2, q3⟩ hr
  have h5 := hN.1.2.2
  have hv := cy_L_in hr
  have hok : hr_ok n (u_up B 34 r) := hr_ok_up q1 (by decide) (fun z => absurd z (by decide)) (fun p h1 h2 => by omega)
  have h35 : u_up B 34 r 35 = B 35 := u_up_ne (by decide)
  have hm := hr_m_b (w := w) (h := h) (heat := heat) (wm := wmD D (B 35)) (c_ml_ok cs) hok
  have e35 : cy_St w h n heat price cs D B r 35 = B 35 + 1 := by
    unfold cy_St
    rw [hr_A_35 hN.1.1 hN.1.2.1 h5, h35, z_add_eq (by omega) (by omega)]
  refine ⟨⟨hr_A_ok (price := price) hN.1.1 hN.1.2.1 h5 hN.2.1 (c_ml_ok cs) (hN.2.2 (B 35) q2.1) hok, ?_, wi_A hN.1.1 hN.1.2.1 h5 (wi_st q3 h5 hv)⟩, hm⟩
  rw [e35]
  omega
theorem cy_Q_ne (hN : w_N w h n heat D) : ∀ k B, cy_Q w h n k B → ¬ cy_L w h (B 34) = [] := by
  intro k B ⟨q1, q2, q3⟩ z
  unfold cy_L at z
  by_cases c : B 34 = -1
  · rw [if_pos c] at z
    cases z
  · rw [if_neg c] at z
    have hv := q3.2.2.resolve_left c
    have hr := u_hs_rng hv
    refine cy_ne w (by have := hN.1.1; omega) h (by have := hN.1.2.1; omega) (B 34).toNat (by omega) ?_ z
    rw [show (((B 34).toNat : Nat) : Int) = B 34 by omega]
    exact hv
/-! the class -/
theorem cy_rd {i : Nat} (hi : i < 5) (m : z_M) : z_rd m 1000001 ((i : Nat) : Int).toNat = cy_stp i := by
  rcases (show i = 0 ∨ i = 1 ∨ i = 2 ∨ i = 3 ∨ i = 4 by omega) with rfl | rfl | rfl | rfl | rfl <;> rfl
theorem cy_stp_b (i : Nat) : -3 ≤ cy_stp i ∧ cy_stp i ≤ 3 := by
  unfold cy_stp
  (repeat' split) <;> decide
theorem cy_s76 {q i : Nat} (hq : q < 9) (hi : i < 5) (h8 : m 3 8 = (w : Int)) (h9 : m 3 9 = (h : Int)) (x1 x2 : Int) (v5 v6 v7 : z_V) : ∃ w5 w6 w7, z_R 131 (m, 76, [(2, 153), (0, x1), (0, x2), (0, (q : Int)), (0, (i : Int)), v5, v6, v7], []) = if cy_ok w h q i = true then ((z_R 132 (m, 0, [(2, 153), (0, x1), (0, (q : Int) + cy_stp i), (0, x2), (9, 0)], [])).bind fun qq => z_R 131 (qq.1, 174, [(2, 153), (0, x1), (0, x2), (0, (q : Int)), (0, (i : Int)), (0, w5), (0, w6), (0, w7)], qq.2.toList ++ [])) else z_R 131 (m, 76, [(2, 153), (0, x1), (0, x2), (0, (q : Int)), (0, ((i + 1 : Nat) : Int)), (0, w5), (0, w6), (0, w7)], []) := by
  have hb := cy_stp_b i
  have ea : z_add (q : Int) (cy_stp i) = (q : Int) + cy_stp i := z_add_eq (by omega) (by omega)
  have ed : z_div (q : Int) 3 = (q : Int) / 3 := z_div_nn (by omega) (by omega) (by decide) (by decide)
  rw [cy_gf0_76, cy_rd hi, ea, h8, h9, ed, if_neg (by omega), if_pos (by omega), tc1]
  have eo : cy_ok w h q i = true ↔ (¬ u_hs (w : Int) (h : Int) ((q : Int) + cy_stp i) = 0) ∧ ((¬ (cy_stp i = -1 ∨ cy_stp i = 1)) ∨ (0 ≤ (q : Int) + cy_stp i ∧ ((q : Int) + cy_stp i) / 3 = (q : Int) / 3)) := by
    unfold cy_ok
    rw [Bool.and_eq_true, Bool.or_eq_true, decide_eq_true_iff, decide_eq_true_iff, decide_eq_true_iff]
  by_cases c0 : (q : Int) + cy_stp i < 0
  · have cu : u_hs (w : Int) (h : Int) ((q : Int) + cy_stp i) = 0 := Decidable.byContradiction fun z => by
      have := u_hs_rng z
      omega
    have ef : ¬ cy_ok w h q i = true := fun z => (eo.mp z).1 cu
    rw [if_pos c0]
    by_cases c1 : cy_stp i = -1
    · rw [if_pos c1, if_neg (not_not_intro cu)]
      exact ⟨_, 0, 1, (if_neg ef).symm⟩
    rw [if_neg c1]
    by_cases c2 : cy_stp i = 1
    · rw [if_pos c2, if_neg (not_not_intro cu)]
      exact ⟨_, 0, 1, (if_neg ef).symm⟩
    rw [if_neg c2, if_neg (not_not_intro cu)]
    exact ⟨_, 0, 0, (if_neg ef).symm⟩
  have en : z_div ((q : Int) + cy_stp i) 3 = ((q : Int) + cy_stp i) / 3 := z_div_nn (by omega) (by omega) (by decide) (by decide)
  rw [if_neg c0, en]
  by_cases c3 : ((q : Int) + cy_stp i) / 3 = (q : Int) / 3
  · rw [if_pos c3]
    by_cases cu : u_hs (w : Int) (h : Int) ((q : Int) + cy_stp i) = 0
    · have ef : ¬ cy_ok w h q i = true := fun z => (eo.mp z).1 cu
      by_cases c1 : cy_stp i = -1
      · rw [if_pos c1, if_neg (not_not_intro cu)]
        exact ⟨_, 1, 1, (if_neg ef).symm⟩
      rw [if_neg c1]
      by_cases c2 : cy_stp i = 1
      · rw [if_pos c2, if_neg (not_not_intro cu)]
        exact ⟨_, 1, 1, (if_neg ef).symm⟩
      rw [if_neg c2, if_neg (not_not_intro cu)]
      exact ⟨_, 1, 0, (if_neg ef).symm⟩
    · have et : cy_ok w h q i = true := eo.mpr ⟨cu, Or.inr ⟨by omega, c3⟩⟩
      by_cases c1 : cy_stp i = -1
      · rw [if_pos c1, if_pos cu]
        exact ⟨_, 1, 1, (if_pos et).symm⟩
      rw [if_neg c1]
      by_cases c2 : cy_stp i = 1
      · rw [if_pos c2, if_pos cu]
        exact ⟨_, 1, 1, (if_pos et).symm⟩
      rw [if_neg c2, if_pos cu]
      exact ⟨_, 1, 0, (if_pos et).symm⟩
  · rw [if_neg c3]
    by_cases cu : u_hs (w : Int) (h : Int) ((q : Int) + cy_stp i) = 0
    · have ef : ¬ cy_ok w h q i = true := fun z => (eo.mp z).1 cu
      by_cases c1 : cy_stp i = -1
      · rw [if_pos c1, if_neg (not_not_intro cu)]
        exact ⟨_, 0, 1, (if_neg ef).symm⟩
      rw [if_neg c1]
      by_cases c2 : cy_stp i = 1
      · rw [if_pos c2, if_neg (not_not_intro cu)]
        exact ⟨_, 0, 1, (if_neg ef).symm⟩
      rw [if_neg c2, if_neg (not_not_intro cu)]
      exact ⟨_, 0, 0, (if_neg ef).symm⟩
    · by_cases c1 : cy_stp i = -1
      · have ef : ¬ cy_ok w h q i = true := fun z => ((eo.mp z).2.resolve_left (fun y => y (Or.inl c1))).2 |> c3
        rw [if_pos c1, if_pos cu]
        exact ⟨_, 0, 1, (if_neg ef).symm⟩
      rw [if_neg c1]
      by_cases c2 : cy_stp i = 1
      · have ef : ¬ cy_ok w h q i = true := fun z => ((eo.mp z).2.resolve_left (fun y => y (Or.inr c2))).2 |> c3
        rw [if_pos c2, if_pos cu]
        exact ⟨_, 0, 1, (if_neg ef).symm⟩
      have et : cy_ok w h q i = true := eo.mpr ⟨cu, Or.inl (fun z => z.elim c1 c2)⟩
      rw [if_neg c2, if_pos cu]
      exact ⟨_, 0, 0, (if_pos et).symm⟩
theorem cy_gtU0 {k : Nat} (hk : k < 5) (m : z_M) (r s : Int) : z_R 132 (m, 0, [(2, 153), (0, (k : Int)), (0, r), (0, s), (9, 0)], []) = (z_R 61 (m, 0, [(2, ((157 + 6 * (k + 1) : Nat) : Int)), (2, ((157 + 6 * k : Nat) : Int))], [])).bind fun qq => z_R 132 (qq.1, 31, [(2, 153), (0, (k : Int)), (0, r), (0, s), (2, ((157 + 6 * (k + 1) : Nat) : Int))], qq.2.toList ++ []) := by
  rcases (show k = 0 ∨ k = 1 ∨ k = 2 ∨ k = 3 ∨ k = 4 by omega) with rfl | rfl | rfl | rfl | rfl
  · exact cy_gt0_0 m r s
  · exact cy_gt1_0 m r s
  · exact cy_gt2_0 m r s
  · exact cy_gt3_0 m r s
  · exact cy_gt4_0 m r s
theorem cy_gtU31 {k : Nat} (hk : k < 5) (m : z_M) (r s : Int) : z_R 132 (m, 31, [(2, 153), (0, (k : Int)), (0, r), (0, s), (2, ((157 + 6 * (k + 1) : Nat) : Int))], []) = (z_R 67 (z_up (z_up (z_up (z_up (z_up (z_up m (157 + 6 * (k + 1)) 6 r) 155 k (cy_to r)) 24 6 0) 24 7 0) 24 8 0) 24 9 0, 0, [(2, 24), (2, ((157 + 6 * (k + 1) : Nat) : Int)), (0, 1), (9, 0)], [])).bind fun qq => z_R 132 (qq.1, 71, [(2, 153), (0, (k : Int)), (0, r), (0, s), (2, ((157 + 6 * (k + 1) : Nat) : Int))], qq.2.toList ++ []) := by
  unfold cy_to
  rcases (show k = 0 ∨ k = 1 ∨ k = 2 ∨ k = 3 ∨ k = 4 by omega) with rfl | rfl | rfl | rfl | rfl
  · by_cases c : r = -1
    · rw [if_pos c]
      refine (cy_gt0_31 m _ r s).trans ?_
      rw [if_pos c, if_pos (by decide)]
      rfl
    · rw [if_neg c]
      refine (cy_gt0_31 m _ r s).trans ?_
      rw [if_neg c, if_pos (by decide)]
      rfl
  · by_cases c : r = -1
    · rw [if_pos c]
      refine (cy_gt1_31 m _ r s).trans ?_
      rw [if_pos c, if_pos (by decide)]
      rfl
    · rw [if_neg c]
      refine (cy_gt1_31 m _ r s).trans ?_
      rw [if_neg c, if_pos (by decide)]
      rfl
  · by_cases c : r = -1
    · rw [if_pos c]
      refine (cy_gt2_31 m _ r s).trans ?_
      rw [if_pos c, if_pos (by decide)]
      rfl
    · rw [if_neg c]
      refine (cy_gt2_31 m _ r s).trans ?_
      rw [if_neg c, if_pos (by decide)]
      rfl
  · by_cases c : r = -1
    · rw [if_pos c]
      refine (cy_gt3_31 m _ r s).trans ?_
      rw [if_pos c, if_pos (by decide)]
      rfl
    · rw [if_neg c]
      refine (cy_gt3_31 m _ r s).trans ?_
      rw [if_neg c, if_pos (by decide)]
      rfl
  · by_cases c : r = -1
    · rw [if_pos c]
      refine (cy_gt4_31 m _ r s).trans ?_
      rw [if_pos c, if_pos (by decide)]
      rfl
    · rw [if_neg c]
      refine (cy_gt4_31 m _ r s).trans ?_
      rw [if_neg c, if_pos (by decide)]
      rfl
theorem cy_gtU71 {k : Nat} (hk : k < 5) (m : z_M) (r s : Int) : z_R 132 (m, 71, [(2, 153), (0, (k : Int)), (0, r), (0, s), (2, ((157 + 6 * (k + 1) : Nat) : Int))], []) = (z_R 131 (m, 0, [(2, 153), (0, z_add (k : Int) 1), (0, z_add s (m 24 6)), (9, 0), (9, 0), (9, 0), (9, 0), (9, 0)], [])).bind fun qq => z_R 132 (qq.1, 87, [(2, 153), (0, (k : Int)), (0, r), (0, s), (2, ((157 + 6 * (k + 1) : Nat) : Int))], qq.2.toList ++ []) := by
  rcases (show k = 0 ∨ k = 1 ∨ k = 2 ∨ k = 3 ∨ k = 4 by omega) with rfl | rfl | rfl | rfl | rfl
  · exact cy_gt0_71 m _ r s
  · exact cy_gt1_71 m _ r s
  · exact cy_gt2_71 m _ r s
  · exact cy_gt3_71 m _ r s
  · exact cy_gt4_71 m _ r s
theorem cy_gtU87 {k : Nat} (hk : k < 5) (m : z_M) (r s : Int) : z_R 132 (m, 87, [(2, 153), (0, (k : Int)), (0, r), (0, s), (2, ((157 + 6 * (k + 1) : Nat) : Int))], []) = some (m, none) := by
  rcases (show k = 0 ∨ k = 1 ∨ k = 2 ∨ k = 3 ∨ k = 4 by omega) with rfl | rfl | rfl | rfl | rfl
  · exact cy_gt0_87 m _ r s
  · exact cy_gt1_87 m _ r s
  · exact cy_gt2_87 m _ r s
  · exact cy_gt3_87 m _ r s
  · exact cy_gt4_87 m _ r s
theorem cy_gfU0 {k : Nat} (hk : k < 6) (m : z_M) (s : Int) (h5 : m 153 5 ≤ 5) : z_R 131 (m, 0, [(2, 153), (0, (k : Int)), (0, s), (9, 0), (9, 0), (9, 0), (9, 0), (9, 0)], []) = if m 153 6 = (-1) then (if m 153 5 ≤ (k : Int) then some (z_cp (z_up m 153 6 s) 155 0 156 0 5, none) else if m (157 + 6 * k) 6 = (-1) then (z_R 132 (m, 0, [(2, 153), (0, (k : Int)), (0, (-1)), (0, s), (9, 0)], [])).bind fun qq => z_R 131 (qq.1, 72, [(2, 153), (0, (k : Int)), (0, s), (0, m (157 + 6 * k) 6), (9, 0), (9, 0), (9, 0), (9, 0)], qq.2.toList ++ []) else z_R 131 (m, 76, [(2, 153), (0, (k : Int)), (0, s), (0, m (157 + 6 * k) 6), (0, 0), (9, 0), (9, 0), (9, 0)], [])) else if s < m 153 6 then (if m 153 5 ≤ (k : Int) then some (z_cp (z_up m 153 6 s) 155 0 156 0 5, none) else if m (157 + 6 * k) 6 = (-1) then (z_R 132 (m, 0, [(2, 153), (0, (k : Int)), (0, (-1)), (0, s), (9, 0)], [])).bind fun qq => z_R 131 (qq.1, 72, [(2, 153), (0, (k : Int)), (0, s), (0, m (157 + 6 * k) 6), (9, 0), (9, 0), (9, 0), (9, 0)], qq.2.toList ++ []) else z_R 131 (m, 76, [(2, 153), (0, (k : Int)), (0, s), (0, m (157 + 6 * k) 6), (0, 0), (9, 0), (9, 0), (9, 0)], [])) else some (m, none) := by
  rcases (show k = 0 ∨ k = 1 ∨ k = 2 ∨ k = 3 ∨ k = 4 ∨ k = 5 by omega) with rfl | rfl | rfl | rfl | rfl | rfl
  · exact cy_gf0_0 m s
  · exact cy_gf1_0 m s
  · exact cy_gf2_0 m s
  · exact cy_gf3_0 m s
  · exact cy_gf4_0 m s
  · have h6 : m 153 5 ≤ ((5 : Nat) : Int) := h5
    refine (cy_gf5_0 m s).trans ?_
    rw [if_pos h5, if_pos h6]
theorem cy_zst {k : Nat} (hk : k < 6) : z_st (157 + 6 * k) := by
  have : ∀ k, k < 6 → 157 + 6 * k ∈ z_stL := by decide
  exact ⟨this k hk, Or.inr (Or.inr (Or.inr (Or.inr (Or.inr (Or.inr (Or.inr (Or.inl (by omega))))))))⟩
def cy_iC (w h n : Nat) (heat price : Int) (D A : Nat → Int) (c : Nat) (U : Nat → Nat → Int) (kn : Nat → Int) (KS : Nat → Nat → Int) (cs : List Int) (N : Nat) (acc : Int × (Nat → Int)) (m : z_M) : Prop := C_is w h n heat price D A c U kn KS cs m ∧ m 153 5 = (N : Int) ∧ m 153 6 = (if acc.1 = 1000000 then -1 else acc.1) ∧ (0 ≤ acc.1 ∧ acc.1 ≤ 1000000) ∧ (acc.1 = 1000000 ∨ ∀ i, i < N → m 156 i = acc.2 i) ∧ z_w (m 24 9) = m 24 9
theorem cy_iC_fr {N : Nat} {acc : Int × (Nat → Int)} {m m' : z_M} (hi : cy_iC w h n heat price D A c U kn KS cs N acc m) (hf : ∀ p k, C_hit p k k = true → m' p k = m p k) (h1 : ∀ k, m' 153 k = m 153 k) (h2 : ∀ k, m' 156 k = m 156 k) (h9 : z_w (m' 24 9) = m' 24 9) : cy_iC w h n heat price D A c U kn KS cs N acc m' := by
  obtain ⟨a, b1, b2, b3, b4, b5⟩ := hi
  exact ⟨C_fr a hf, (h1 5).trans b1, (h1 6).trans b2, b3, b4.imp id (fun z i hi => (h2 i).trans (z i hi)), h9⟩
theorem cy_gt {N : Nat} (hN : w_N w h n heat D) {j k : Nat} (hk : k < 5) (IH : ∀ (s : Int) (m : z_M) (B way : Nat → Int) (acc : Int × (Nat → Int)), 0 ≤ s → s ≤ 891 * ((k + 1 : Nat) : Int) → cy_iC w h n heat price D A c U kn KS cs N acc m → cS m (157 + 6 * (k + 1)) n = B → cy_Q w h n (k + 1) B → (∀ i, i < k + 1 → m 155 i = way i) → ∃ m1, z_R 131 (m, 0, [(2, 153), (0, ((k + 1 : Nat) : Int)), (0, s), (9, 0), (9, 0), (9, 0), (9, 0), (9, 0)], []) = some (m1, none) ∧ cy_iC w h n heat price D A c U kn KS cs N (cy_G w h n heat price cs D j (k + 1) B s way acc) m1 ∧ (∀ i, i < k + 1 → m1 155 i = m 155 i) ∧ ∀ i, i ≤ k + 1 → cS m1 (157 + 6 * i) n = cS m (157 + 6 * i) n) (r s : Int) (m : z_M) (B way : Nat → Int) (acc : Int × (Nat → Int)) (h0 : 0 ≤ s) (h1 : s ≤ 891 * (k : Int)) (hv : cy_iC w h n heat price D A c U kn KS cs N acc m) (hB : cS m (157 + 6 * k) n = B) (hQ : cy_Q w h n k B) (hr : r ∈ cy_L w h (B 34)) (hw : ∀ i, i < k → m 155 i = way i) : ∃ m1, z_R 132 (m, 0, [(2, 153), (0, (k : Int)), (0, r), (0, s), (9, 0)], []) = some (m1, none) ∧ cy_iC w h n heat price D A c U kn KS cs N (cy_G w h n heat price cs D j (k + 1) (cy_St w h n heat price cs D B r) (s + cy_ml w h n heat cs D B r) (u_up way k (cy_to r)) acc) m1 ∧ (∀ i, i < k → m1 155 i = m 155 i) ∧ ∀ i, i ≤ k → cS m1 (157 + 6 * i) n = cS m (157 + 6 * i) n := by
  obtain ⟨q1, q2, q3⟩ := cy_Q_ok (price := price) (cs := cs) hN k B r (by omega) hQ hr
  have hst := cy_zst (k := k) (by omega)
  have hst1 := cy_zst (k := k + 1) (by omega)
  obtain ⟨m2, b1, b2, b3⟩ := c_become hst hst1 (by omega) m
  have hA2 : cS m2 (157 + 6 * (k + 1)) n = B := (cS_cR b2).trans hB
  rw [cy_gtU0 hk, b1, zb_n, cy_gtU31 hk]
  have g3 : ∀ p j, ¬ (157 + 6 * (k + 1) ≤ p ∧ p ≤ 157 + 6 * (k + 1) + 5) → ¬ p = 155 → ¬ p = 24 → (z_up (z_up (z_up (z_up (z_up (z_up m2 (157 + 6 * (k + 1)) 6 r) 155 k (cy_to r)) 24 6 0) 24 7 0) 24 8 0) 24 9 0) p j = m p j := fun p j hp h155 h24 => by
    rw [zu_p h24, zu_p h24, zu_p h24, zu_p h24, zu_p h155, zu_p (by omega)]
    exact b3.of (by (try unfold r_LHs); (repeat' (first | exact trivial | refine z_of_c ?_ ?_)) <;> omega)
  have g45 : ∀ j, j < 6 → (z_up (z_up (z_up (z_up (z_up (z_up m2 (157 + 6 * (k + 1)) 6 r) 155 k (cy_to r)) 24 6 0) 24 7 0) 24 8 0) 24 9 0) 24 j = m 24 j := fun j hj => by
    rw [zu_k (by omega), zu_k (by omega), zu_k (by omega), zu_k (by omega), zu_p (by decide), zu_p (by omega)]
    exact b3.of (by (try unfold r_LHs); (repeat' (first | exact trivial | refine z_of_c ?_ ?_)) <;> omega)
  have g155 : ∀ i, ¬ i = k → (z_up (z_up (z_up (z_up (z_up (z_up m2 (157 + 6 * (k + 1)) 6 r) 155 k (cy_to r)) 24 6 0) 24 7 0) 24 8 0) 24 9 0) 155 i = m 155 i := fun i hi => by
    rw [zu_p (by decide), zu_p (by decide), zu_p (by decide), zu_p (by decide), zu_k hi, zu_p (by omega)]
    exact b3.of (by (try unfold r_LHs); (repeat' (first | exact trivial | refine z_of_c ?_ ?_)) <;> omega)
  have g155k : (z_up (z_up (z_up (z_up (z_up (z_up m2 (157 + 6 * (k + 1)) 6 r) 155 k (cy_to r)) 24 6 0) 24 7 0) 24 8 0) 24 9 0) 155 k = cy_to r := by
    rw [zu_p (by decide), zu_p (by decide), zu_p (by decide), zu_p (by decide), zu_self]
  have g6 : (z_up (z_up (z_up (z_up (z_up (z_up m2 (157 + 6 * (k + 1)) 6 r) 155 k (cy_to r)) 24 6 0) 24 7 0) 24 8 0) 24 9 0) 24 6 = 0 := by rw [zu_k (by decide), zu_k (by decide), zu_k (by decide), zu_self]
  have g9 : (z_up (z_up (z_up (z_up (z_up (z_up m2 (157 + 6 * (k + 1)) 6 r) 155 k (cy_to r)) 24 6 0) 24 7 0) 24 8 0) 24 9 0) 24 9 = 0 := zu_self
  have hA3 : cS (z_up (z_up (z_up (z_up (z_up (z_up m2 (157 + 6 * (k + 1)) 6 r) 155 k (cy_to r)) 24 6 0) 24 7 0) 24 8 0) 24 9 0) (157 + 6 * (k + 1)) n = u_up B 34 r := by
    have e : ∀ (m' : z_M) p q v, (p = 24 ∨ p = 155) → cS (z_up m' p q v) (157 + 6 * (k + 1)) n = cS m' (157 + 6 * (k + 1)) n := fun m' p q v hp => cS_fr fun j x hj _ => zu_p (by omega)
    rw [e _ _ _ _ (Or.inl rfl), e _ _ _ _ (Or.inl rfl), e _ _ _ _ (Or.inl rfl), e _ _ _ _ (Or.inl rfl), e _ _ _ _ (Or.inr rfl), cS_stove, hA2]
  generalize z_up (z_up (z_up (z_up (z_up (z_up m2 (157 + 6 * (k + 1)) 6 r) 155 k (cy_to r)) 24 6 0) 24 7 0) 24 8 0) 24 9 0 = m3 at g3 g45 g155 g155k g6 g9 hA3 ⊢
  have hC3 : C_is w h n heat price D A c U kn KS cs m3 := C_fr hv.1 fun p j hk => by
    have hk' := hk
    unfold C_hit at hk'
    have hk' := of_decide_eq_true hk'
    by_cases h24 : p = 24
    · subst h24
      exact g45 j (by omega)
    · exact g3 p j (by omega) (by omega) h24
  obtain ⟨qk, qt, qw⟩ := hQ
  have h35 : u_up B 34 r 35 = B 35 := u_up_ne (by decide)
  have hok3 : hr_ok n (u_up B 34 r) := hr_ok_up qk (by decide) (fun z => absurd z (by decide)) (fun p h1 h2 => by have := hN.1.2.2; omega)
  obtain ⟨m4, c1, c2, c3, c4, c5, c6, c7⟩ := tw_go1 hst1 hN hC3 hA3 hok3 (by rw [h35]; exact qt.1) (by rw [h35]; omega) (by rw [g6]; decide +kernel) (by rw [g9]; decide +kernel)
  rw [h35] at c2 c4
  have c2 : cS m4 (157 + 6 * (k + 1)) n = cy_St w h n heat price cs D B r := c2
  have c4 : m4 24 6 = z_add (m3 24 6) (cy_ml w h n heat cs D B r) := c4
  have e6 : m4 24 6 = cy_ml w h n heat cs D B r := by rw [c4, g6, z_add_eq (by omega) (by omega), Int.zero_add]
  have s4 : ∀ p j, ¬ (157 + 6 * (k + 1) ≤ p ∧ p ≤ 157 + 6 * (k + 1) + 5) → ¬ p = 155 → ¬ p = 24 → ¬ p = 25 → ¬ p = 26 → ¬ p = 6 → ¬ p = 7 → m4 p j = m p j := fun p j hp h155 h24 h25 h26 h6 h7 => (c7.of (by (try unfold r_LHs); (repeat' (first | exact trivial | refine z_of_c ?_ ?_)) <;> omega)).trans (g3 p j hp h155 h24)
  have w4 : ∀ i, i < k + 1 → m4 155 i = u_up way k (cy_to r) i := fun i hi => by
    rw [show m4 155 i = m3 155 i from c7.of (by (try unfold r_LHs); (repeat' (first | exact trivial | refine z_of_c ?_ ?_)) <;> omega)]
    by_cases e : i = k
    · rw [e, g155k, u_up_self]
    · rw [g155 i e, u_up_ne e, hw i (by omega)]
  have hv4 : cy_iC w h n heat price D A c U kn KS cs N acc m4 := cy_iC_fr hv (fun p j hk => by
    have hk' := hk
    unfold C_hit at hk'
    have hk' := of_decide_eq_true hk'
    by_cases h24 : p = 24
    · subst h24
      exact (c7.of (by (try unfold r_LHs); (repeat' (first | exact trivial | refine z_of_c ?_ ?_)) <;> omega)).trans (g45 j (by omega))
    · exact s4 p j (by omega) (by omega) h24 (by omega) (by omega) (by omega) (by omega)) (fun j => s4 153 j (by omega) (by decide) (by decide) (by decide) (by decide) (by decide) (by decide)) (fun j => s4 156 j (by omega) (by decide) (by decide) (by decide) (by decide) (by decide) (by decide)) c5
  have u4 : ∀ i, i ≤ k → cS m4 (157 + 6 * i) n = cS m (157 + 6 * i) n := fun i hi => cS_fr fun j q hj _ => s4 _ q (by omega) (by omega) (by omega) (by omega) (by omega) (by omega) (by omega)
  rw [c1, zb_n, cy_gtU71 hk, e6, z_add_eq (x := (k : Int)) (y := 1) (by omega) (by omega), tc1, z_add_eq (x := s) (by omega) (by omega)]
  obtain ⟨m5, d1, d2, d3, d4⟩ := IH (s + cy_ml w h n heat cs D B r) m4 (cy_St w h n heat price cs D B r) (u_up way k (cy_to r)) acc (by omega) (by omega) hv4 c2 q1 w4
  rw [d1, zb_n, cy_gtU87 hk]
  refine ⟨m5, rfl, d2, fun i hi => ?_, fun i hi => (d4 i (by omega)).trans (u4 i hi)⟩
  rw [d3 i (by omega), show m4 155 i = m3 155 i from c7.of (by (try unfold r_LHs); (repeat' (first | exact trivial | refine z_of_c ?_ ?_)) <;> omega)]
  exact g155 i (by omega)
theorem cy_gf {N : Nat} (hN5 : N ≤ 5) (hN : w_N w h n heat D) : ∀ (j k : Nat), k + j = N → ∀ (s : Int) (m : z_M) (B way : Nat → Int) (acc : Int × (Nat → Int)), 0 ≤ s → s ≤ 891 * (k : Int) → cy_iC w h n heat price D A c U kn KS cs N acc m → cS m (157 + 6 * k) n = B → cy_Q w h n k B → (∀ i, i < k → m 155 i = way i) → ∃ m1, z_R 131 (m, 0, [(2, 153), (0, (k : Int)), (0, s), (9, 0), (9, 0), (9, 0), (9, 0), (9, 0)], []) = some (m1, none) ∧ cy_iC w h n heat price D A c U kn KS cs N (cy_G w h n heat price cs D j k B s way acc) m1 ∧ (∀ i, i < k → m1 155 i = m 155 i) ∧ ∀ i, i ≤ k → cS m1 (157 + 6 * i) n = cS m (157 + 6 * i) n := by
  intro j
  induction j with
  | zero =>
    intro k hk s m B way acc h0 h1 hv hB hQ hw
    obtain rfl : k = N := by omega
    obtain ⟨a, b1, b2, b3, b4, b5⟩ := hv
    have fin : ∃ m1, (some (z_cp (z_up m 153 6 s) 155 0 156 0 5, none) : Option z_Q) = some (m1, none) ∧ cy_iC w h n heat price D A c U kn KS cs k (s, way) m1 ∧ (∀ i, i < k → m1 155 i = m 155 i) ∧ ∀ i, i ≤ k → cS m1 (157 + 6 * i) n = cS m (157 + 6 * i) n := by
      refine ⟨_, rfl, ⟨C_fr a fun p j hk => ?_, ?_, ?_, ⟨h0, by show s ≤ 1000000; omega⟩, Or.inr fun i hi => ?_, ?_⟩, fun i _ => ?_, fun i hi => cS_fr fun j q hj _ => ?_⟩
      · have hk' := hk
        unfold C_hit at hk'
        have hk' := of_decide_eq_true hk'
        rw [zc_p (by omega), zu_p (by omega)]
      · rw [zc_p (by decide), zu_k (by decide)]
        exact b1
      · rw [zc_p (by decide), zu_self, if_neg (show ¬ s = 1000000 by omega)]
      · rw [zc_in (by omega), zu_p (by decide)]
        exact hw i hi
      · rw [zc_p (by decide), zu_p (by decide)]
        exact b5
      · rw [zc_p (by decide), zu_p (by decide)]
      · rw [zc_p (by omega), zu_p (by omega)]
    rw [cy_gfU0 (by omega) _ _ (by omega), b2, b1]
    show ∃ m1, _ ∧ cy_iC w h n heat price D A c U kn KS cs k (if s < acc.1 then (s, way) else acc) m1 ∧ _
    by_cases y : acc.1 = 1000000
    · rw [if_pos y, if_pos rfl, if_pos (Int.le_refl _), if_pos (show s < acc.1 by omega)]
      exact fin
    · rw [if_neg y, if_neg (show ¬ acc.1 = -1 by omega)]
      by_cases z : s < acc.1
      · rw [if_pos z, if_pos (Int.le_refl _), if_pos z]
        exact fin
      · rw [if_neg z, if_neg z]
        exact ⟨m, rfl, ⟨a, b1, b2, b3, b4, b5⟩, fun i _ => rfl, fun i _ => rfl⟩
  | succ j ih =>
    intro k hk s m B way acc h0 h1 hv hB hQ hw
    have IH := ih (k + 1) (by omega)
    have e34 : m (157 + 6 * k) 6 = B 34 := by
      rw [← hB]
      exact (cS_at0 (s := 157 + 6 * k) (j := 6) (by decide)).symm
    have hgo := cy_gt (j := j) hN (show k < 5 by omega) IH
    have lp : ∀ q : Nat, B 34 = (q : Int) → q < 9 → ∀ (f i : Nat) (v5 v6 v7 : z_V) (m' : z_M) (acc' : Int × (Nat → Int)), i + f = 5 → cy_iC w h n heat price D A c U kn KS cs N acc' m' → (∀ i, i < k → m' 155 i = m 155 i) → (∀ i, i ≤ k → cS m' (157 + 6 * i) n = cS m (157 + 6 * i) n) → (∀ x ∈ cy_cl w h q f i, x ∈ cy_L w h (B 34)) → ∃ m1, z_R 131 (m', 76, [(2, 153), (0, (k : Int)), (0, s), (0, (q : Int)), (0, (i : Int)), v5, v6, v7], []) = some (m1, none) ∧ cy_iC w h n heat price D A c U kn KS cs N ((cy_cl w h q f i).foldl (fun a r => cy_G w h n heat price cs D j (k + 1) (cy_St w h n heat price cs D B r) (s + cy_ml w h n heat cs D B r) (u_up way k (cy_to r)) a) acc') m1 ∧ (∀ i, i < k → m1 155 i = m 155 i) ∧ ∀ i, i ≤ k → cS m1 (157 + 6 * i) n = cS m (157 + 6 * i) n := by
      intro q hq hq9 f
      induction f with
      | zero =>
        intro i v5 v6 v7 m' acc' hi hv' hw' hs' hL
        rw [cy_gf0_76, if_pos (by omega)]
        exact ⟨m', rfl, hv', hw', hs'⟩
      | succ f ihf =>
        intro i v5 v6 v7 m' acc' hi hv' hw' hs' hL
        obtain ⟨w5, w6, w7, e⟩ := cy_s76 (m := m') hq9 (show i < 5 by omega) hv'.1.1.1 hv'.1.1.2.1 (k : Int) s v5 v6 v7
        rw [e]
        unfold cy_cl at hL ⊢
        by_cases y : cy_ok w h q i = true
        · rw [if_pos y] at hL ⊢
          rw [if_pos y]
          obtain ⟨m2, a1, a2, a3, a4⟩ := hgo ((q : Int) + cy_stp i) s m' B way acc' h0 h1 hv' ((hs' k (Nat.le_refl k)).trans hB) hQ (hL _ List.mem_cons_self) (fun i hi => (hw' i hi).trans (hw i hi))
          rw [a1, zb_n, cy_gf0_174, z_add_eq (x := (i : Int)) (y := 1) (by omega) (by omega), tc1]
          exact ihf (i + 1) _ _ _ m2 _ (by omega) a2 (fun i hi => (a3 i hi).trans (hw' i hi)) (fun i hi => (a4 i hi).trans (hs' i hi)) (fun x hx => hL x (List.mem_cons_of_mem _ hx))
        · rw [if_neg y] at hL ⊢
          rw [if_neg y]
          exact ihf (i + 1) _ _ _ m' acc' (by omega) hv' hw' hs' hL
    have main : ∃ m1, (if m 153 5 ≤ (k : Int) then some (z_cp (z_up m 153 6 s) 155 0 156 0 5, none) else if m (157 + 6 * k) 6 = (-1) then (z_R 132 (m, 0, [(2, 153), (0, (k : Int)), (0, (-1)), (0, s), (9, 0)], [])).bind fun qq => z_R 131 (qq.1, 72, [(2, 153), (0, (k : Int)), (0, s), (0, m (157 + 6 * k) 6), (9, 0), (9, 0), (9, 0), (9, 0)], qq.2.toList ++ []) else z_R 131 (m, 76, [(2, 153), (0, (k : Int)), (0, s), (0, m (157 + 6 * k) 6), (0, 0), (9, 0), (9, 0), (9, 0)], [])) = some (m1, none) ∧ cy_iC w h n heat price D A c U kn KS cs N (cy_G w h n heat price cs D (j + 1) k B s way acc) m1 ∧ (∀ i, i < k → m1 155 i = m 155 i) ∧ ∀ i, i ≤ k → cS m1 (157 + 6 * i) n = cS m (157 + 6 * i) n := by
      rw [hv.2.1, if_neg (by omega), e34]
      show ∃ m1, _ ∧ cy_iC w h n heat price D A c U kn KS cs N ((cy_L w h (B 34)).foldl (fun a r => cy_G w h n heat price cs D j (k + 1) (cy_St w h n heat price cs D B r) (s + cy_ml w h n heat cs D B r) (u_up way k (cy_to r)) a) acc) m1 ∧ _
      by_cases y : B 34 = -1
      · have eL : cy_L w h (B 34) = [-1] := if_pos y
        obtain ⟨m2, a1, a2, a3, a4⟩ := hgo (-1) s m B way acc h0 h1 hv hB hQ (by rw [eL]; exact List.mem_cons_self) hw
        rw [if_pos y, a1, zb_n, cy_gf0_72, eL]
        exact ⟨m2, rfl, a2, a3, a4⟩
      · have hr := u_hs_rng (hQ.2.2.2.2.resolve_left y)
        have eq : B 34 = (((B 34).toNat : Nat) : Int) := by omega
        have eL : cy_L w h (B 34) = cy_cl w h (B 34).toNat 5 0 := (if_neg y).trans (cy_eq w (by have := hN.1.1; omega) h (by have := hN.1.2.1; omega) (B 34).toNat (by omega)).symm
        obtain ⟨m1, a1, a2, a3, a4⟩ := lp (B 34).toNat eq (by omega) 5 0 (9, 0) (9, 0) (9, 0) m acc (by decide) hv (fun _ _ => rfl) (fun _ _ => rfl) (fun x hx => by rw [eL]; exact hx)
        rw [← eq] at a1
        rw [if_neg y, eL]
        exact ⟨m1, a1, a2, a3, a4⟩
    rw [cy_gfU0 (by omega) _ _ (by have := hv.2.1; omega)]
    by_cases y : m 153 6 = -1
    · rw [if_pos y]
      exact main
    · rw [if_neg y]
      by_cases z : s < m 153 6
      · rw [if_pos z]
        exact main
      · rw [if_neg z]
        have e6 := hv.2.2.1
        have ea : acc.1 ≤ s := by
          by_cases x : acc.1 = 1000000
          · rw [if_pos x] at e6
            exact absurd e6 y
          · rw [if_neg x] at e6
            omega
        have es := cy_skip (cy_Q_ok (price := price) (cs := cs) hN) (j + 1) k B s way acc (by omega) hQ ea
        show ∃ m1, _ ∧ cy_iC w h n heat price D A c U kn KS cs N (cy_g (cy_St w h n heat price cs D) (cy_ml w h n heat cs D) (cy_L w h) (j + 1) k B s way acc) m1 ∧ _
        rw [es]
        exact ⟨m, rfl, hv, fun _ _ => rfl, fun _ _ => rfl⟩
theorem cy_add1 {N : Nat} (hN5 : N ≤ 5) {l : Int} : ∀ (f x : Nat) (m : z_M), x + f = N → m 0 13 = (x : Int) → m 153 6 = l → C_is w h n heat price D A c U kn KS cs m → ∃ m1, z_R 129 (m, 44, [(2, 0), (0, (N : Int)), (0, (x : Int))], []) = some (m1, some (0, l)) ∧ C_is w h n heat price D A c U kn KS cs m1 := by
  intro f
  induction f with
  | zero =>
    intro x m hx h13 hl hi
    rw [cy_car_44, if_pos (by omega), hl]
    exact ⟨m, rfl, hi⟩
  | succ f ih =>
    intro x m hx h13 hl hi
    rw [cy_car_44, if_neg (by omega), if_pos (by omega), c_add (j := x) m _ (by omega) h13, zb_n, cy_car_63, z_add_eq (x := (x : Int)) (y := 1) (by omega) (by omega), tc1]
    exact ih (x + 1) _ (by omega) zu_self (by rw [zu_p (by decide), zu_p (by decide)]; exact hl) (C_upn (C_upn hi (by unfold C_hit; exact decide_eq_false (by omega))) (by decide))
theorem C_carry (hi : C_is w h n heat price D A c U kn KS cs m) (hN : w_N w h n heat D) (hok : hr_ok n A) (ht : 0 ≤ A 35 ∧ A 35 ≤ 1073741824) (hw : wi w h n A) (k9 : z_w (m 24 9) = m 24 9) (a : Int) : ∃ m1, z_R 129 (m, 0, [(2, 0), (0, a), (9, 0)], []) = some (m1, some (0, cy_A w h n heat price cs D A a)) ∧ C_is w h n heat price D A c U kn KS cs m1 := by
  have e34 : m 12 6 = A 34 := by
    rw [← hi.2.2.1]
    exact (cS_at0 (s := 12) (j := 6) (by decide)).symm
  rw [cy_car_0]
  by_cases c1 : a < 1
  · have e : cy_A w h n heat price cs D A a = -1 := if_pos (by omega)
    rw [if_pos c1, e]
    exact ⟨m, rfl, hi⟩
  rw [if_neg c1]
  by_cases c2 : a ≤ 5
  · rw [if_pos c2, e34]
    by_cases c3 : A 34 = -1
    · have e : cy_A w h n heat price cs D A a = -2 := (if_neg (by omega)).trans (if_pos c3)
      rw [if_pos c3, e]
      exact ⟨m, rfl, hi⟩
    · have e : cy_A w h n heat price cs D A a = (cy_G w h n heat price cs D a.toNat 0 A 0 (fun _ => 0) (1000000, fun _ => 0)).1 := (if_neg (by omega)).trans (if_neg c3)
      obtain ⟨N, rfl⟩ : ∃ N : Nat, a = (N : Int) := ⟨a.toNat, by omega⟩
      rw [Int.toNat_natCast] at e
      rw [if_neg c3, cy_sea_0, if_neg (show ¬ (5 : Int) < (N : Int) by omega)]
      have hi0 : C_is w h n heat price D A c U kn KS cs (z_up (z_up m 153 5 (N : Int)) 153 6 (-1)) := C_upn (C_upn hi (by decide)) (by decide)
      have g5 : (z_up (z_up m 153 5 (N : Int)) 153 6 (-1)) 153 5 = (N : Int) := by rw [zu_k (by decide), zu_self]
      have g6 : (z_up (z_up m 153 5 (N : Int)) 153 6 (-1)) 153 6 = -1 := zu_self
      have g9 : (z_up (z_up m 153 5 (N : Int)) 153 6 (-1)) 24 9 = m 24 9 := by rw [zu_p (by decide), zu_p (by decide)]
      generalize z_up (z_up m 153 5 (N : Int)) 153 6 (-1) = m0 at hi0 g5 g6 g9 ⊢
      obtain ⟨m3, b1, b2, b3⟩ := c_become z_st_12 (cy_zst (k := 0) (by decide)) (by decide) m0
      have b1 : z_R 61 (m0, 0, [(2, 157), (2, 12)], []) = some (m3, none) := b1
      have hi3 : C_is w h n heat price D A c U kn KS cs m3 := C_fr hi0 fun p k hk => by
        have hk' := hk
        unfold C_hit at hk'
        have hk' := of_decide_eq_true hk'
        exact b3.of (by (try unfold r_LHs); (repeat' (first | exact trivial | refine z_of_c ?_ ?_)) <;> omega)
      have hv : cy_iC w h n heat price D A c U kn KS cs N (1000000, fun _ => 0) m3 := ⟨hi3, (b3.of (by (try unfold r_LHs); (repeat' (first | exact trivial | refine z_of_c ?_ ?_)) <;> omega)).trans g5, ((b3.of (by (try unfold r_LHs); (repeat' (first | exact trivial | refine z_of_c ?_ ?_)) <;> omega)).trans g6).trans (if_pos rfl).symm, ⟨by decide, by decide⟩, Or.inl rfl, by rw [show m3 24 9 = m0 24 9 from b3.of (by (try unfold r_LHs); (repeat' (first | exact trivial | refine z_of_c ?_ ?_)) <;> omega), g9]; exact k9⟩
      have hQ : cy_Q w h n 0 A := ⟨hok, ⟨ht.1, by omega⟩, hw⟩
      obtain ⟨m4, d1, d2, -, -⟩ := cy_gf (N := N) (by omega) hN N 0 (by omega) 0 m3 A (fun _ => 0) (1000000, fun _ => 0) (by decide) (by decide) hv ((cS_cR b2).trans hi0.2.2.1) hQ (fun i hi => absurd hi (Nat.not_lt_zero i))
      have d1 : z_R 131 (m3, 0, [(2, 153), (0, 0), (0, 0), (9, 0), (9, 0), (9, 0), (9, 0), (9, 0)], []) = some (m4, none) := d1
      have hfin : (cy_G w h n heat price cs D N 0 A 0 (fun _ => 0) (1000000, fun _ => 0)).1 ≤ 0 + 891 * (N : Int) := cy_fin (cy_Q_ok (price := price) (cs := cs) hN) (cy_Q_ne hN) N 0 A 0 (fun _ => 0) (1000000, fun _ => 0) (by omega) hQ
      have e6 : m4 153 6 = (if (cy_G w h n heat price cs D N 0 A 0 (fun _ => 0) (1000000, fun _ => 0)).1 = 1000000 then -1 else (cy_G w h n heat price cs D N 0 A 0 (fun _ => 0) (1000000, fun _ => 0)).1) := d2.2.2.1
      rw [if_neg (show ¬ (cy_G w h n heat price cs D N 0 A 0 (fun _ => 0) (1000000, fun _ => 0)).1 = 1000000 from fun z => by
        rw [z] at hfin
        omega)] at e6
      rw [b1, zb_n, cy_sea_24, d1, zb_n, cy_sea_30, zb_n, cy_car_38, s_tell0_0, zb_n, cy_car_42, e]
      exact cy_add1 (by omega) N 0 _ (by omega) zu_self ((zu_p (by decide)).trans e6) (C_upn d2.1 (by decide))
  · have e : cy_A w h n heat price cs D A a = -1 := if_pos (by omega)
    rw [if_neg c2, e]
    exact ⟨m, rfl, hi⟩
/-! the reference -/
theorem cy_gcU0 {k : Nat} (hk : k < 6) (m : z_M) (n s : Int) : z_R 246 (m, 0, [(2, 251), (0, (k : Int)), (0, n), (0, s), (9, 0), (9, 0), (9, 0), (9, 0)], []) = if (k : Int) = n then if s < m 251 49 then z_R 246 (z_up m 251 49 s, 22, [(2, 251), (0, (k : Int)), (0, n), (0, s), (0, 0), (9, 0), (9, 0), (9, 0)], []) else some (m, none) else (z_R 198 (m, 0, [(2, 264), (2, 270), (0, ((37 * k : Nat) : Int)), (9, 0)], [])).bind fun qq => z_R 246 (qq.1, 64, [(2, 251), (0, (k : Int)), (0, n), (0, s), (9, 0), (9, 0), (9, 0), (9, 0)], qq.2.toList ++ []) := by
  rcases (show k = 0 ∨ k = 1 ∨ k = 2 ∨ k = 3 ∨ k = 4 ∨ k = 5 by omega) with rfl | rfl | rfl | rfl | rfl | rfl
  · exact cy_gc0_0 m n s
  · exact cy_gc1_0 m n s
  · exact cy_gc2_0 m n s
  · exact cy_gc3_0 m n s
  · exact cy_gc4_0 m n s
  · exact cy_gc5_0 m n s
theorem cy_bw {N : Nat} (hN5 : N ≤ 5) {x1 x3 : Int} : ∀ (f i : Nat) (m : z_M), i + f = N → ∃ m1, z_R 246 (m, 22, [(2, 251), (0, x1), (0, (N : Int)), (0, x3), (0, (i : Int)), (9, 0), (9, 0), (9, 0)], []) = some (m1, none) ∧ (∀ q, i ≤ q → q < N → m1 272 q = m 271 q) ∧ ∀ p q, ¬ (p = 272 ∧ i ≤ q) → m1 p q = m p q := by
  intro f
  induction f with
  | zero =>
    intro i m hi
    rw [cy_gc0_22, if_pos (by omega)]
    exact ⟨m, rfl, fun q h1 h2 => by omega, fun _ _ _ => rfl⟩
  | succ f ih =>
    intro i m hi
    rw [cy_gc0_22, if_neg (by omega), if_pos (by omega), tc1, Int.toNat_natCast]
    obtain ⟨m1, a1, a2, a3⟩ := ih (i + 1) (z_up m 272 i (m 271 i)) (by omega)
    refine ⟨m1, a1, fun q h1 h2 => ?_, fun p q hp => (a3 p q (by omega)).trans ?_⟩
    · by_cases e : q = i
      · rw [a3 272 q (by omega), e, zu_self]
      · rw [a2 q (by omega) h2, zu_p (by decide)]
    · by_cases e : p = 272
      · subst e
        exact zu_k (by omega)
      · exact zu_p e
theorem cy_cp {k : Nat} (hk : k < 5) {N s q r x6 : Int} : ∀ (f i : Nat) (m : z_M), i + f = 37 → ∃ m1, z_R 246 (m, 142, [(2, 251), (0, (k : Int)), (0, N), (0, s), (0, q), (0, r), (0, x6), (0, (i : Int))], []) = z_R 246 (m1, 142, [(2, 251), (0, (k : Int)), (0, N), (0, s), (0, q), (0, r), (0, x6), (0, 37)], []) ∧ (∀ j, i ≤ j → j < 37 → m1 264 j = m 270 (37 * k + j)) ∧ ∀ p j, ¬ (p = 264 ∧ i ≤ j) → m1 p j = m p j := by
  intro f
  induction f with
  | zero =>
    intro i m hi
    obtain rfl : i = 37 := by omega
    exact ⟨m, rfl, fun j h1 h2 => by omega, fun _ _ _ => rfl⟩
  | succ f ih =>
    intro i m hi
    rw [cy_gc0_142, if_neg (by omega), z_mul_eq (x := 37) (y := (k : Int)) (by omega) (by omega), z_add_eq (x := 37 * (k : Int)) (y := (i : Int)) (by omega) (by omega), if_pos (by omega), if_pos (by omega), tc1, Int.toNat_natCast, show (37 * (k : Int) + (i : Int)).toNat = 37 * k + i by omega]
    obtain ⟨m1, a1, a2, a3⟩ := ih (i + 1) (z_up m 264 i (m 270 (37 * k + i))) (by omega)
    refine ⟨m1, a1, fun j h1 h2 => ?_, fun p j hp => (a3 p j (by omega)).trans ?_⟩
    · by_cases e : j = i
      · rw [a3 264 j (by omega), e, zu_self]
      · rw [a2 j (by omega) h2, zu_p (by decide)]
    · by_cases e : p = 264
      · subst e
        exact zu_k (by omega)
      · exact zu_p e
theorem cy_besR {q r : Nat} (hq : q < 9) (hr : r < 9) (m : z_M) : z_R 247 (m, 0, [(2, 251), (0, (q : Int)), (0, (r : Int))], []) = some (m, some (0, if cy_bes q r = true then 1 else 0)) := by
  have e : ∀ q, q < 9 → ∀ r, r < 9 → (1 < z_add (if 0 ≤ (((q : Nat) : Int) % 3) - (((r : Nat) : Int) % 3) then (((q : Nat) : Int) % 3) - (((r : Nat) : Int) % 3) else z_sub 0 ((((q : Nat) : Int) % 3) - (((r : Nat) : Int) % 3))) (if 0 ≤ (((q : Nat) : Int) / 3) - (((r : Nat) : Int) / 3) then (((q : Nat) : Int) / 3) - (((r : Nat) : Int) / 3) else z_sub 0 ((((q : Nat) : Int) / 3) - (((r : Nat) : Int) / 3))) ↔ ¬ cy_bes q r = true) := by decide +kernel
  have e := e q hq r hr
  rw [cy_bes_0 m _ _ ⟨by omega, by omega⟩ ⟨by omega, by omega⟩]
  by_cases z : cy_bes q r = true
  · rw [if_neg (fun y => (e.mp y) z), if_pos z]
  · rw [if_pos (e.mpr z), if_neg z]
def cy_iR (w h n : Nat) (heat price : Int) (D A : Nat → Int) (c : Nat) (U : Nat → Nat → Int) (kn : Nat → Int) (KS : Nat → Nat → Int) (cs : List Int) (N : Nat) (acc : Int × (Nat → Int)) (m : z_M) : Prop := R_is w h n heat price D A c U kn KS cs m ∧ m 251 49 = acc.1 ∧ (acc.1 = 1000000 ∨ ∀ i, i < N → m 272 i = acc.2 i)
theorem cy_iR_fr {N : Nat} {acc : Int × (Nat → Int)} {m m' : z_M} (hi : cy_iR w h n heat price D A c U kn KS cs N acc m) (hf : ∀ p k, R_hit p k k = true → m' p k = m p k) (h1 : m' 251 49 = m 251 49) (h2 : ∀ k, m' 272 k = m 272 k) : cy_iR w h n heat price D A c U kn KS cs N acc m' := by
  obtain ⟨a, b1, b2⟩ := hi
  exact ⟨R_fr a hf, h1.trans b1, b2.imp id (fun z i hi => (h2 i).trans (z i hi))⟩
theorem cy_vis {N : Nat} (hN5 : N ≤ 5) (hN : w_N w h n heat D) {j k : Nat} (hk : k < 5) (IH : ∀ (s : Int) (m : z_M) (B way : Nat → Int) (acc : Int × (Nat → Int)), 0 ≤ s → s ≤ 891 * ((k + 1 : Nat) : Int) → cy_iR w h n heat price D A c U kn KS cs N acc m → rS m 264 n = B → cy_Q w h n (k + 1) B → (∀ i, i < k + 1 → m 271 i = way i) → ∃ m1, z_R 246 (m, 0, [(2, 251), (0, ((k + 1 : Nat) : Int)), (0, (N : Int)), (0, s), (9, 0), (9, 0), (9, 0), (9, 0)], []) = some (m1, none) ∧ cy_iR w h n heat price D A c U kn KS cs N (cy_G w h n heat price cs D j (k + 1) B s way acc) m1 ∧ (∀ i, i < k + 1 → m1 271 i = m 271 i) ∧ ∀ i, i < 37 * (k + 1) → m1 270 i = m 270 i) (v s : Int) (m : z_M) (B way : Nat → Int) (acc : Int × (Nat → Int)) (h0 : 0 ≤ s) (h1 : s ≤ 891 * (k : Int)) (hv : cy_iR w h n heat price D A c U kn KS cs N acc m) (hB : uR m 270 k n = B) (hQ : cy_Q w h n k B) (hr : v ∈ cy_L w h (B 34)) (h34 : B 34 = -1 ↔ v = -1) (hw : ∀ i, i < k → m 271 i = way i) : ∃ m1, z_R 246 (m, 142, [(2, 251), (0, (k : Int)), (0, (N : Int)), (0, s), (0, B 34), (0, cy_to v), (0, 1), (0, 0)], []) = z_R 246 (m1, 76, [(2, 251), (0, (k : Int)), (0, (N : Int)), (0, s), (0, B 34), (0, z_add (cy_to v) 1), (0, 1), (0, 37)], []) ∧ cy_iR w h n heat price D A c U kn KS cs N (cy_G w h n heat price cs D j (k + 1) (cy_St w h n heat price cs D B v) (s + cy_ml w h n heat cs D B v) (u_up way k (cy_to v)) acc) m1 ∧ (∀ i, i < k → m1 271 i = m 271 i) ∧ ∀ i, i < 37 * (k + 1) → m1 270 i = m 270 i := by
  obtain ⟨q1, q2, q3⟩ := cy_Q_ok (price := price) (cs := cs) hN k B v (by omega) hQ hr
  obtain ⟨m2, a1, a2, a3⟩ := cy_cp hk (N := (N : Int)) (s := s) (q := B 34) (r := cy_to v) (x6 := 1) 37 0 m (by decide)
  have a1 : z_R 246 (m, 142, [(2, 251), (0, (k : Int)), (0, (N : Int)), (0, s), (0, B 34), (0, cy_to v), (0, 1), (0, 0)], []) = z_R 246 (m2, 142, [(2, 251), (0, (k : Int)), (0, (N : Int)), (0, s), (0, B 34), (0, cy_to v), (0, 1), (0, 37)], []) := a1
  have hB2 : rS m2 264 n = B := (rS_is (j := k) (fun i hi => a2 i (Nat.zero_le i) hi)).trans hB
  have e142 : z_R 246 (m2, 142, [(2, 251), (0, (k : Int)), (0, (N : Int)), (0, s), (0, B 34), (0, cy_to v), (0, 1), (0, 37)], []) = (z_R 208 (z_up (z_up m2 264 34 v) 271 k (cy_to v), 0, [(2, 251), (2, 264), (9, 0), (9, 0), (9, 0)], [])).bind fun qq => z_R 246 (qq.1, 209, [(2, 251), (0, (k : Int)), (0, (N : Int)), (0, s), (0, B 34), (0, cy_to v), (0, 1), (0, 37)], qq.2.toList ++ []) := by
    rw [cy_gc0_142, if_pos (Int.le_refl _)]
    by_cases y : B 34 = -1
    · rw [if_pos y, if_pos (by omega), Int.toNat_natCast, h34.mp y]
    · have e : cy_to v = v := if_neg (fun z => y (h34.mpr z))
      rw [if_neg y, if_pos (by omega), Int.toNat_natCast, e]
  rw [a1, e142]
  have hR2 : R_is w h n heat price D A c U kn KS cs m2 := R_fr hv.1 fun p j hk => a3 p j fun z => by
    have hk' := hk
    unfold R_hit at hk'
    have hk' := of_decide_eq_true hk'
    omega
  have hR3 : R_is w h n heat price D A c U kn KS cs (z_up (z_up m2 264 34 v) 271 k (cy_to v)) := R_fr (R_upn (p0 := 264) (k0 := 34) (v := v) hR2 (by decide)) fun p j hk => zu_p fun z => by
    have hk' := hk
    unfold R_hit at hk'
    have hk' := of_decide_eq_true hk'
    omega
  have hA3 : rS (z_up (z_up m2 264 34 v) 271 k (cy_to v)) 264 n = u_up B 34 v := by rw [rS_row (zu_rowne (by decide)), rS_up (by decide) (a_vis_hi (by decide)), hB2]
  have g3 : ∀ p j, ¬ p = 264 → ¬ p = 271 → (z_up (z_up m2 264 34 v) 271 k (cy_to v)) p j = m p j := fun p j h1 h2 => by rw [zu_p h2, zu_p h1]; exact a3 p j (fun z => h1 z.1)
  have g271 : ∀ i, ¬ i = k → (z_up (z_up m2 264 34 v) 271 k (cy_to v)) 271 i = m 271 i := fun i hi => by rw [zu_k hi, zu_p (by decide)]; exact a3 271 i (fun z => absurd z.1 (by decide))
  have g271k : (z_up (z_up m2 264 34 v) 271 k (cy_to v)) 271 k = cy_to v := zu_self
  generalize z_up (z_up m2 264 34 v) 271 k (cy_to v) = m3 at hR3 hA3 g3 g271 g271k ⊢
  obtain ⟨qk, qt, qw⟩ := hQ
  have h35 : u_up B 34 v 35 = B 35 := u_up_ne (by decide)
  have hok3 : hr_ok n (u_up B 34 v) := hr_ok_up qk (by decide) (fun z => absurd z (by decide)) (fun p h1 h2 => by have := hN.1.2.2; omega)
  obtain ⟨m4, c1, c2, c3, -, -, -, c7⟩ := r_hour (a := 264) z_A_264 (Or.inr rfl) hN.1.1 hN.1.2.1 (price := price) ⟨hN.1.2.2, hN.2.1, c_ml_ok cs, hN.2.2⟩ m3 (R_cfg hR3) hA3 hok3 (by rw [h35]; exact qt.1) (by rw [h35]; omega)
  have c1 : z_R 208 (m3, 0, [(2, 251), (2, 264), (9, 0), (9, 0), (9, 0)], []) = some (m4, none) := c1
  rw [h35] at c2 c3
  have c2 : rS m4 264 n = cy_St w h n heat price cs D B v := c2
  have c3 : m4 251 28 = cy_ml w h n heat cs D B v := c3
  have s1 : z_same (r_LHs 264) m3 m4 := c7.subo (by (try unfold r_LHs); (repeat' (first | exact trivial | refine z_sbo_c ?_ ?_)) <;> (intro k h1 h2; first | exact z_on_h rfl (by omega) (by omega) | exact z_on_t (z_on_h rfl (by omega) (by omega)) | exact z_on_t (z_on_t (z_on_h rfl (by omega) (by omega))) | exact z_on_t (z_on_t (z_on_t (z_on_h rfl (by omega) (by omega)))) | exact z_on_t (z_on_t (z_on_t (z_on_t (z_on_h rfl (by omega) (by omega))))) | exact z_on_t (z_on_t (z_on_t (z_on_t (z_on_t (z_on_h rfl (by omega) (by omega)))))) | exact z_on_t (z_on_t (z_on_t (z_on_t (z_on_t (z_on_t (z_on_h rfl (by omega) (by omega))))))) | exact z_on_t (z_on_t (z_on_t (z_on_t (z_on_t (z_on_t (z_on_t (z_on_h rfl (by omega) (by omega)))))))) | exact z_on_t (z_on_t (z_on_t (z_on_t (z_on_t (z_on_t (z_on_t (z_on_t (z_on_h rfl (by omega) (by omega))))))))) | exact z_on_t (z_on_t (z_on_t (z_on_t (z_on_t (z_on_t (z_on_t (z_on_t (z_on_t (z_on_h rfl (by omega) (by omega)))))))))) | exact z_on_t (z_on_t (z_on_t (z_on_t (z_on_t (z_on_t (z_on_t (z_on_t (z_on_t (z_on_t (z_on_h rfl (by omega) (by omega))))))))))) | exact z_on_t (z_on_t (z_on_t (z_on_t (z_on_t (z_on_t (z_on_t (z_on_t (z_on_t (z_on_t (z_on_t (z_on_h rfl (by omega) (by omega)))))))))))) | exact z_on_t (z_on_t (z_on_t (z_on_t (z_on_t (z_on_t (z_on_t (z_on_t (z_on_t (z_on_t (z_on_t (z_on_t (z_on_h rfl (by omega) (by omega)))))))))))))))
  have hv4 : cy_iR w h n heat price D A c U kn KS cs N acc m4 := ⟨R_off264 hR3 s1, ((s1.of (by (try unfold r_LHs); (repeat' (first | exact trivial | refine z_of_c ?_ ?_)) <;> omega)).trans (g3 251 49 (by decide) (by decide))).trans hv.2.1, hv.2.2.imp id (fun z i hi => ((s1.of (by (try unfold r_LHs); (repeat' (first | exact trivial | refine z_of_c ?_ ?_)) <;> omega)).trans (g3 272 i (by decide) (by decide))).trans (z i hi))⟩
  have w4 : ∀ i, i < k + 1 → m4 271 i = u_up way k (cy_to v) i := fun i hi => by
    rw [show m4 271 i = m3 271 i from s1.of (by (try unfold r_LHs); (repeat' (first | exact trivial | refine z_of_c ?_ ?_)) <;> omega)]
    by_cases e : i = k
    · rw [e, g271k, u_up_self]
    · rw [g271 i e, u_up_ne e, hw i (by omega)]
  have u4 : ∀ i, m4 270 i = m 270 i := fun i => (s1.of (by (try unfold r_LHs); (repeat' (first | exact trivial | refine z_of_c ?_ ?_)) <;> omega)).trans (g3 270 i (by decide) (by decide))
  rw [c1, zb_n, cy_gc0_209, c3, z_add_eq (x := (k : Int)) (y := 1) (by omega) (by omega), tc1, z_add_eq (x := s) (by omega) (by omega)]
  obtain ⟨m5, d1, d2, d3, d4⟩ := IH (s + cy_ml w h n heat cs D B v) m4 (cy_St w h n heat price cs D B v) (u_up way k (cy_to v)) acc (by omega) (by omega) hv4 c2 q1 w4
  rw [d1, zb_n, cy_gc0_223]
  refine ⟨m5, rfl, d2, fun i hi => ?_, fun i hi => (d4 i hi).trans (u4 i)⟩
  rw [d3 i (by omega), show m4 271 i = m3 271 i from s1.of (by (try unfold r_LHs); (repeat' (first | exact trivial | refine z_of_c ?_ ?_)) <;> omega)]
  exact g271 i (by omega)
theorem cy_gc {N : Nat} (hN5 : N ≤ 5) (hN : w_N w h n heat D) : ∀ (j k : Nat), k + j = N → ∀ (s : Int) (m : z_M) (B way : Nat → Int) (acc : Int × (Nat → Int)), 0 ≤ s → s ≤ 891 * (k : Int) → cy_iR w h n heat price D A c U kn KS cs N acc m → rS m 264 n = B → cy_Q w h n k B → (∀ i, i < k → m 271 i = way i) → ∃ m1, z_R 246 (m, 0, [(2, 251), (0, (k : Int)), (0, (N : Int)), (0, s), (9, 0), (9, 0), (9, 0), (9, 0)], []) = some (m1, none) ∧ cy_iR w h n heat price D A c U kn KS cs N (cy_G w h n heat price cs D j k B s way acc) m1 ∧ (∀ i, i < k → m1 271 i = m 271 i) ∧ ∀ i, i < 37 * k → m1 270 i = m 270 i := by
  intro j
  induction j with
  | zero =>
    intro k hk s m B way acc h0 h1 hv hB hQ hw
    obtain rfl : k = N := by omega
    rw [cy_gcU0 (by omega), if_pos rfl, hv.2.1]
    show ∃ m1, _ ∧ cy_iR w h n heat price D A c U kn KS cs k (if s < acc.1 then (s, way) else acc) m1 ∧ _
    by_cases z : s < acc.1
    · rw [if_pos z, if_pos z]
      obtain ⟨m1, a1, a2, a3⟩ := cy_bw hN5 (x1 := (k : Int)) (x3 := s) k 0 (z_up m 251 49 s) (by omega)
      have a1 : z_R 246 (z_up m 251 49 s, 22, [(2, 251), (0, (k : Int)), (0, (k : Int)), (0, s), (0, 0), (9, 0), (9, 0), (9, 0)], []) = some (m1, none) := a1
      refine ⟨m1, a1, ⟨R_fr (R_upn (p0 := 251) (k0 := 49) (v := s) hv.1 (by decide)) fun p j hk => a3 p j fun z => ?_, ?_, Or.inr fun i hi => ?_⟩, fun i _ => ?_, fun i _ => ?_⟩
      · have hk' := hk
        unfold R_hit at hk'
        have hk' := of_decide_eq_true hk'
        omega
      · exact (a3 251 49 (by omega)).trans zu_self
      · rw [a2 i (Nat.zero_le i) hi, zu_p (by decide)]
        exact hw i hi
      · exact (a3 271 i (by omega)).trans (zu_p (by decide))
      · exact (a3 270 i (by omega)).trans (zu_p (by decide))
    · rw [if_neg z, if_neg z]
      exact ⟨m, rfl, hv, fun _ _ => rfl, fun _ _ => rfl⟩
  | succ j ih =>
    intro k hk s m B way acc h0 h1 hv hB hQ hw
    have IH := ih (k + 1) (by omega)
    obtain ⟨m0, b1, b2, b3⟩ := t_layd (a := 264) (q := 270) (B := 148) cy_lay_0 cy_lay_2 (by decide) (b := 37 * k) (by omega) m
    have b1 : z_R 198 (m, 0, [(2, 264), (2, 270), (0, ((37 * k : Nat) : Int)), (9, 0)], []) = some (m0, none) := b1
    have hB0 : uR m0 270 k n = B := (uR_is (fun i hi => b2 i hi)).trans hB
    have f0 : ∀ p q, ¬ p = 270 → m0 p q = m p q := fun p q hp => b3 p q (fun z => hp z.1)
    have e34 : m0 264 34 = B 34 := by
      rw [f0 264 34 (by decide), ← hB]
      exact (rS_at (by decide) (a_vis_hi (by decide))).symm
    have hv0 : cy_iR w h n heat price D A c U kn KS cs N acc m0 := cy_iR_fr hv (fun p q hk => f0 p q fun z => by
      have hk' := hk
      unfold R_hit at hk'
      have hk' := of_decide_eq_true hk'
      omega) (f0 251 49 (by decide)) (fun q => f0 272 q (by decide))
    have hgo := cy_vis (j := j) hN5 hN (show k < 5 by omega) IH
    rw [cy_gcU0 (by omega), if_neg (by omega), b1, zb_n, cy_gc0_64, e34]
    show ∃ m1, _ ∧ cy_iR w h n heat price D A c U kn KS cs N ((cy_L w h (B 34)).foldl (fun a r => cy_G w h n heat price cs D j (k + 1) (cy_St w h n heat price cs D B r) (s + cy_ml w h n heat cs D B r) (u_up way k (cy_to r)) a) acc) m1 ∧ _
    have hrow : ∀ m' : z_M, (∀ i, i < 37 * (k + 1) → m' 270 i = m0 270 i) → uR m' 270 k n = B := fun m' hm => (uR_row (fun i hi => hm _ (by omega))).trans hB0
    have hlow : ∀ i, i < 37 * k → m0 270 i = m 270 i := fun i hi => b3 270 i (by omega)
    by_cases y : B 34 = -1
    · have eL : cy_L w h (B 34) = [-1] := if_pos y
      have sk : ∀ (f r : Nat) (v6 v7 : z_V), r + f = 9 → ∃ v6', z_R 246 (m0, 76, [(2, 251), (0, (k : Int)), (0, (N : Int)), (0, s), (0, B 34), (0, (r : Int)), v6, v7], []) = z_R 246 (m0, 76, [(2, 251), (0, (k : Int)), (0, (N : Int)), (0, s), (0, B 34), (0, 9), v6', v7], []) := by
        intro f
        induction f with
        | zero =>
          intro r v6 v7 hr
          obtain rfl : r = 9 := by omega
          exact ⟨v6, rfl⟩
        | succ f ihf =>
          intro r v6 v7 hr
          rw [cy_gc0_76, if_neg (by omega), if_pos y, if_neg (by omega), z_add_eq (x := (r : Int)) (y := 1) (by omega) (by omega), tc1]
          exact ihf (r + 1) _ _ (by omega)
      obtain ⟨v6', e0⟩ := sk 9 0 (9, 0) (9, 0) (by decide)
      have e0 : z_R 246 (m0, 76, [(2, 251), (0, (k : Int)), (0, (N : Int)), (0, s), (0, B 34), (0, 0), (9, 0), (9, 0)], []) = z_R 246 (m0, 76, [(2, 251), (0, (k : Int)), (0, (N : Int)), (0, s), (0, B 34), (0, 9), v6', (9, 0)], []) := e0
      obtain ⟨m2, a1, a2, a3, a4⟩ := hgo (-1) s m0 B way acc h0 h1 hv0 hB0 hQ (by rw [eL]; exact List.mem_cons_self) ⟨fun _ => rfl, fun _ => y⟩ (fun i hi => (f0 271 i (by decide)).trans (hw i hi))
      have a1 : z_R 246 (m0, 142, [(2, 251), (0, (k : Int)), (0, (N : Int)), (0, s), (0, B 34), (0, 9), (0, 1), (0, 0)], []) = z_R 246 (m2, 76, [(2, 251), (0, (k : Int)), (0, (N : Int)), (0, s), (0, B 34), (0, z_add 9 1), (0, 1), (0, 37)], []) := a1
      rw [e0, cy_gc0_76, if_neg (by decide), if_pos y, if_pos rfl, a1, cy_gc0_76, if_pos (by decide +kernel), eL]
      exact ⟨m2, rfl, a2, fun i hi => (a3 i hi).trans (f0 271 i (by decide)), fun i hi => (a4 i (by omega)).trans (hlow i hi)⟩
    · have hr := u_hs_rng (hQ.2.2.2.2.resolve_left y)
      obtain ⟨q, hq⟩ : ∃ q : Nat, B 34 = (q : Int) := ⟨(B 34).toNat, by omega⟩
      have eL : cy_L w h (B 34) = cy_rl w h q 10 0 := (if_neg y).trans (by rw [hq, Int.toNat_natCast])
      have lp : ∀ (f r : Nat) (v6 v7 : z_V) (m' : z_M) (acc' : Int × (Nat → Int)), r + f = 10 → cy_iR w h n heat price D A c U kn KS cs N acc' m' → (∀ i, i < k → m' 271 i = m0 271 i) → (∀ i, i < 37 * (k + 1) → m' 270 i = m0 270 i) → (∀ x ∈ cy_rl w h q f r, x ∈ cy_L w h (B 34)) → ∃ m1, z_R 246 (m', 76, [(2, 251), (0, (k : Int)), (0, (N : Int)), (0, s), (0, B 34), (0, (r : Int)), v6, v7], []) = some (m1, none) ∧ cy_iR w h n heat price D A c U kn KS cs N ((cy_rl w h q f r).foldl (fun a r => cy_G w h n heat price cs D j (k + 1) (cy_St w h n heat price cs D B r) (s + cy_ml w h n heat cs D B r) (u_up way k (cy_to r)) a) acc') m1 ∧ (∀ i, i < k → m1 271 i = m0 271 i) ∧ ∀ i, i < 37 * (k + 1) → m1 270 i = m0 270 i := by
        intro f
        induction f with
        | zero =>
          intro r v6 v7 m' acc' hr' hv' hw' hs' hL
          rw [cy_gc0_76, if_pos (by omega)]
          exact ⟨m', rfl, hv', hw', hs'⟩
        | succ f ihf =>
          intro r v6 v7 m' acc' hr' hv' hw' hs' hL
          rw [cy_gc0_76, if_neg (by omega), if_neg y, hv'.1.1.1, hv'.1.1.2.1, z_add_eq (x := (r : Int)) (y := 1) (by omega) (by omega), tc1]
          unfold cy_rl at hL ⊢
          by_cases cu : u_hs (w : Int) (h : Int) (r : Int) = 0
          · have cn : ¬ ((¬ u_hs (w : Int) (h : Int) (r : Int) = 0) ∧ cy_bes q r = true) := fun z => z.1 cu
            rw [if_neg cn] at hL ⊢
            rw [if_neg (not_not_intro cu)]
            exact ihf (r + 1) _ _ m' acc' (by omega) hv' hw' hs' hL
          · have hr9 := u_hs_rng cu
            have eb := cy_besR (q := q) (r := r) (by omega) (by omega) m'
            rw [if_pos cu, hq, eb, zb_v, cy_gc0_121, z_add_eq (x := (r : Int)) (y := 1) (by omega) (by omega), tc1]
            by_cases cb : cy_bes q r = true
            · have cy : (¬ u_hs (w : Int) (h : Int) (r : Int) = 0) ∧ cy_bes q r = true := ⟨cu, cb⟩
              rw [if_pos cy] at hL ⊢
              rw [if_pos cb, if_neg (show ¬ (1 : Int) = 0 by decide)]
              have er : cy_to (r : Int) = (r : Int) := if_neg (by omega)
              obtain ⟨m2, a1, a2, a3, a4⟩ := hgo (r : Int) s m' B way acc' h0 h1 hv' (hrow m' hs') hQ (hL _ List.mem_cons_self) ⟨fun z => absurd z y, fun z => by omega⟩ (fun i hi => (hw' i hi).trans ((f0 271 i (by decide)).trans (hw i hi)))
              rw [er, hq, z_add_eq (x := (r : Int)) (y := 1) (by omega) (by omega), tc1] at a1
              rw [a1, ← hq]
              rw [show (List.foldl (fun a r => cy_G w h n heat price cs D j (k + 1) (cy_St w h n heat price cs D B r) (s + cy_ml w h n heat cs D B r) (u_up way k (cy_to r)) a) acc' ((r : Int) :: cy_rl w h q f (r + 1))) = List.foldl (fun a r => cy_G w h n heat price cs D j (k + 1) (cy_St w h n heat price cs D B r) (s + cy_ml w h n heat cs D B r) (u_up way k (cy_to r)) a) (cy_G w h n heat price cs D j (k + 1) (cy_St w h n heat price cs D B (r : Int)) (s + cy_ml w h n heat cs D B (r : Int)) (u_up way k (cy_to (r : Int))) acc') (cy_rl w h q f (r + 1)) from rfl]
              exact ihf (r + 1) _ _ m2 _ (by omega) a2 (fun i hi => (a3 i hi).trans (hw' i hi)) (fun i hi => (a4 i hi).trans (hs' i hi)) (fun x hx => hL x (List.mem_cons_of_mem _ hx))
            · have cn : ¬ ((¬ u_hs (w : Int) (h : Int) (r : Int) = 0) ∧ cy_bes q r = true) := fun z => cb z.2
              rw [if_neg cn] at hL ⊢
              rw [if_neg cb, if_pos (show (0 : Int) = 0 from rfl), ← hq]
              exact ihf (r + 1) _ _ m' acc' (by omega) hv' hw' hs' hL
      obtain ⟨m1, a1, a2, a3, a4⟩ := lp 10 0 (9, 0) (9, 0) m0 acc (by decide) hv0 (fun _ _ => rfl) (fun _ _ => rfl) (fun x hx => by rw [eL]; exact hx)
      rw [eL]
      exact ⟨m1, a1, a2, fun i hi => (a3 i hi).trans (f0 271 i (by decide)), fun i hi => (a4 i (by omega)).trans (hlow i hi)⟩
theorem cy_tel {N : Nat} (hN5 : N ≤ 5) {l : Int} : ∀ (f x : Nat) (m : z_M), x + f = N → m 251 10 = (x : Int) → m 251 49 = l → R_is w h n heat price D A c U kn KS cs m → ∃ m1, z_R 245 (m, 55, [(2, 251), (0, (N : Int)), (0, (x : Int))], []) = some (m1, some (0, l)) ∧ R_is w h n heat price D A c U kn KS cs m1 := by
  intro f
  induction f with
  | zero =>
    intro x m hx h10 hl hi
    rw [cy_tca_55, if_pos (by omega), hl]
    exact ⟨m, rfl, hi⟩
  | succ f ih =>
    intro x m hx h10 hl hi
    rw [cy_tca_55, if_neg (by omega), if_pos (by omega), t_tell (j := x) m _ (by omega) h10, zb_n, cy_tca_71, z_add_eq (x := (x : Int)) (y := 1) (by omega) (by omega), tc1]
    exact ih (x + 1) _ (by omega) zu_self (by rw [zu_k (by decide), zu_p (by decide)]; exact hl) (R_upn (R_upn hi (by unfold R_hit; exact decide_eq_false (by omega))) (by decide))
theorem R_carry (hi : R_is w h n heat price D A c U kn KS cs m) (hN : w_N w h n heat D) (hok : hr_ok n A) (ht : 0 ≤ A 35 ∧ A 35 ≤ 1073741824) (hw : wi w h n A) (a : Int) : ∃ m1, z_R 245 (m, 0, [(2, 251), (0, a), (9, 0)], []) = some (m1, some (0, cy_A w h n heat price cs D A a)) ∧ R_is w h n heat price D A c U kn KS cs m1 := by
  have e34 : m 252 34 = A 34 := R_A hi (by decide) (a_vis_hi (by decide))
  have hu := R_upn (p0 := 251) (k0 := 11) (v := 0) hi (by decide)
  rw [cy_tca_0, e34]
  generalize z_up m 251 11 0 = m0 at hu ⊢
  by_cases c1 : 1 ≤ a ∧ a ≤ 5
  · rw [if_pos c1]
    by_cases c3 : A 34 = -1
    · have e : cy_A w h n heat price cs D A a = -2 := (if_neg (not_not_intro c1)).trans (if_pos c3)
      rw [if_pos c3, e]
      exact ⟨_, rfl, hu⟩
    · have e : cy_A w h n heat price cs D A a = (cy_G w h n heat price cs D a.toNat 0 A 0 (fun _ => 0) (1000000, fun _ => 0)).1 := (if_neg (not_not_intro c1)).trans (if_neg c3)
      obtain ⟨N, rfl⟩ : ∃ N : Nat, a = (N : Int) := ⟨a.toNat, by omega⟩
      rw [Int.toNat_natCast] at e
      obtain ⟨m1, b1, b2, b3⟩ := R_lt hu
      have hQ : cy_Q w h n 0 A := ⟨hok, ⟨ht.1, by omega⟩, hw⟩
      have hv : cy_iR w h n heat price D A c U kn KS cs N (1000000, fun _ => 0) (z_up m1 251 49 1000000) := ⟨R_upn b2 (by decide), zu_self, Or.inl rfl⟩
      obtain ⟨m4, d1, d2, -, -⟩ := cy_gc (N := N) (by omega) hN N 0 (by omega) 0 (z_up m1 251 49 1000000) A (fun _ => 0) (1000000, fun _ => 0) (by decide) (by decide) hv ((rS_row (zu_rowne (by decide))).trans b3) hQ (fun i hi => absurd hi (Nat.not_lt_zero i))
      have d1 : z_R 246 (z_up m1 251 49 1000000, 0, [(2, 251), (0, 0), (0, (N : Int)), (0, 0), (9, 0), (9, 0), (9, 0), (9, 0)], []) = some (m4, none) := d1
      rw [if_neg c3, b1, zb_n, cy_tca_34, d1, zb_n, cy_tca_48, e]
      exact cy_tel (by omega) N 0 _ (by omega) zu_self ((zu_k (by decide)).trans d2.2.1) (R_upn d2.1 (by decide))
  · have e : cy_A w h n heat price cs D A a = -1 := if_pos c1
    rw [if_neg c1, e]
    exact ⟨_, rfl, hu⟩
end
theorem core_carry : l_rel2 Rel_C (974, 148, 129, 1, false, 985, 151, 245) := by
  intro M1 M2 M3 σ σ1 σ2 as v1 v2 C1 C2 ρ1 ρ2 ha hR hh hM1 hC1 hp1 hE1 hC2 hp2 hE2
  obtain ⟨a, rfl⟩ := as_one ha
  have hE1 : z_R 129 (z_m σ, 0, [(2, 0), (0, a.toInt), (9, 0)], []) = some (z_m σ1, some (0, v1.toInt)) := z_R_iff.mpr hE1
  have hE2 : z_R 245 (z_m σ1, 0, [(2, 251), (0, a.toInt), (9, 0)], []) = some (z_m σ2, some (0, v2.toInt)) := z_R_iff.mpr hE2
  have hT := T_two (y1 := 129) (y2 := 245) (by decide +kernel) (by decide +kernel) hC1 hC2 hp1 hp2 hR.1
  obtain ⟨w, h, n, heat, price, D, A, c, U, kn, KS, cs, cC, cR, cW⟩ := hR.2
  obtain ⟨b1, b2, -, -, hok, b35, -, b7⟩ := core_b hh hM1 cR
  have hN : w_N w h n heat D := ⟨b1, b2, b7⟩
  have kk := core_24 hh
  have f1 := R_off2_ok (y := 129) (by decide +kernel) hC1 hp1
  have f2 := C_off_ok (y := 245) (by decide +kernel) hC2 hp2
  have cR1 := R_fr cR f1
  have z := core_do cR1 (fun q => C_fr q f2) (C_carry cC hN hok b35 cW.2.1 kk.2 a.toInt) (fun q => R_carry q hN hok b35 cW.2.1 a.toInt) hE1 hE2
  exact ⟨⟨hT, Core_mk z.1.1 z.1.2 cW⟩, fun _ => z.2⟩
end
section
/-! COLUMNS: what happens in one depends on no other -/
def zb (a : Int) (k : Nat) : Bool := (Int32.ofInt a).toBitVec.getLsbD k
theorem zb_or (a b : Int) (k : Nat) : zb (z_or a b) k = (zb a k || zb b k) := by
  unfold zb z_or
  rw [Int32.ofInt_toInt, Int32.toBitVec_or, BitVec.getLsbD_or]
theorem zb_and (a b : Int) (k : Nat) : zb (z_and a b) k = (zb a k && zb b k) := by
  unfold zb z_and
  rw [Int32.ofInt_toInt, Int32.toBitVec_and, BitVec.getLsbD_and]
theorem zb_0 (k : Nat) : zb 0 k = false := by
  unfold zb
  show (0#32).getLsbD k = false
  exact BitVec.getLsbD_zero
theorem zb_32 {a : Int} {k : Nat} (hk : 32 ≤ k) : zb a k = false := BitVec.getLsbD_of_ge _ _ hk
theorem zb_ext {a b : Int} (ha : z_w a = a) (hb : z_w b = b) (h : ∀ k, k < 32 → zb a k = zb b k) : a = b := by
  have e : Int32.ofInt a = Int32.ofInt b := by
    apply Int32.toBitVec_inj.mp
    exact BitVec.eq_of_getLsbD_eq fun i hi => h i hi
  rw [← ha, ← hb]
  unfold z_w
  rw [e]
theorem z_and_w {a b : Int} : z_w (z_and a b) = z_and a b := by
  unfold z_w z_and
  rw [Int32.ofInt_toInt]
theorem z_and_0 {a b : Int} : z_and a b = 0 ↔ ∀ k, k < 32 → ¬ (zb a k = true ∧ zb b k = true) := by
  constructor
  · intro z k hk ⟨h1, h2⟩
    have e := zb_and a b k
    rw [z, zb_0, h1, h2] at e
    cases e
  · intro z
    refine zb_ext z_and_w (by decide +kernel) fun k hk => ?_
    rw [zb_and, zb_0]
    cases h1 : zb a k <;> cases h2 : zb b k <;> first | rfl | exact absurd ⟨h1, h2⟩ (z k hk)
theorem zb_shl {x k : Nat} (hx : x < 32) (hk : k < 32) : zb (z_shl 1 (x : Int)) k = decide (k = x) := by
  have : ∀ x, x < 32 → ∀ k, k < 32 → zb (z_shl 1 ((x : Nat) : Int)) k = decide (k = x) := by decide +kernel
  exact this x hx k hk
theorem b_amt32 {x : Nat} (hx : x < 32) : (((Int32.ofInt (x : Int)) &&& 31).toBitVec.smod 32).toNat = x := by
  have : ∀ x, x < 32 → (((Int32.ofInt ((x : Nat) : Int)) &&& 31).toBitVec.smod 32).toNat = x := by decide +kernel
  exact this x hx
theorem zb_test32 {a : Int} {k : Nat} (hk : k < 32) : z_and (z_shr a (k : Int)) 1 = 0 ↔ zb a k = false := by
  have e0 : ∀ i, zb (z_and (z_shr a (k : Int)) 1) i = (zb a (k + i) && decide (i = 0)) ∨ 32 ≤ i := fun i => by
    by_cases hi : 32 ≤ i
    · exact Or.inr hi
    refine Or.inl ?_
    rw [zb_and]
    have e1 : zb 1 i = decide (i = 0) := by
      have : ∀ i, i < 32 → zb 1 i = decide (i = 0) := by decide +kernel
      exact this i (by omega)
    rw [e1]
    by_cases hz : i = 0
    · subst hz
      congr 1
      unfold zb z_shr
      rw [Int32.ofInt_toInt, Int32.toBitVec_shiftRight, BitVec.sshiftRight_eq', b_amt32 hk, BitVec.getLsbD_sshiftRight, Nat.add_zero, if_pos (by omega)]
      simp
    · rw [decide_eq_false hz, Bool.and_false, Bool.and_false]
  constructor
  · intro z
    rcases e0 0 with e | e
    · rw [z, zb_0, Nat.add_zero, decide_eq_true rfl, Bool.and_true] at e
      exact e.symm
    · omega
  · intro z
    refine zb_ext z_and_w (by decide +kernel) fun i hi => ?_
    rcases e0 i with e | e
    · rw [e, zb_0]
      by_cases hz : i = 0
      · rw [hz, Nat.add_zero, z]
        rfl
      · rw [decide_eq_false hz, Bool.and_false]
    · omega
theorem zb_test {a : Int} {k : Nat} (hk : k < 9) : z_and (z_shr a (k : Int)) 1 = 0 ↔ zb a k = false := zb_test32 (by omega)
theorem zb_bt {P : Nat → Bool} {k : Nat} (hk : k < 32) : ∀ (f x : Nat) (b : Int), x + f ≤ 9 → zb (s_bt P f x b) k = (zb b k || (decide (x ≤ k ∧ k < x + f) && P k)) := by
  intro f
  induction f with
  | zero =>
    intro x b hx
    rw [decide_eq_false (by omega), Bool.false_and, Bool.or_false]
    rfl
  | succ f ih =>
    intro x b hx
    unfold s_bt
    rw [ih (x + 1) _ (by omega)]
    by_cases e : k = x
    · rw [decide_eq_false (show ¬ (x + 1 ≤ k ∧ k < x + 1 + f) by omega), decide_eq_true (show x ≤ k ∧ k < x + (f + 1) by omega), Bool.false_and, Bool.or_false, Bool.true_and]
      by_cases c : P x = true
      · rw [if_pos c, zb_or, zb_shl (by omega) hk, decide_eq_true e, e, c]
      · rw [if_neg c]
        have c' : P x = false := by
          cases h : P x
          · rfl
          · exact absurd h c
        rw [e, c', Bool.or_false]
    · have ed : decide (x + 1 ≤ k ∧ k < x + 1 + f) = decide (x ≤ k ∧ k < x + (f + 1)) := decide_eq_decide.mpr ⟨fun z => by omega, fun z => by omega⟩
      rw [ed]
      by_cases c : P x = true
      · rw [if_pos c, zb_or, zb_shl (by omega) hk, decide_eq_false e, Bool.or_false]
      · rw [if_neg c]
theorem bt_and {P Q : Nat → Bool} : z_and (s_bt P 9 0 0) (s_bt Q 9 0 0) = 0 ↔ ∀ k, k < 9 → ¬ (P k = true ∧ Q k = true) := by
  rw [z_and_0]
  have e : ∀ (P : Nat → Bool) k, k < 32 → zb (s_bt P 9 0 0) k = (decide (k < 9) && P k) := fun P k hk => by
    rw [zb_bt hk 9 0 0 (by decide), zb_0, Bool.false_or]
    congr 1
    exact decide_eq_decide.mpr ⟨fun z => by omega, fun z => by omega⟩
  constructor
  · intro z k hk ⟨h1, h2⟩
    refine z k (by omega) ⟨?_, ?_⟩
    · rw [e P k (by omega), decide_eq_true hk, h1]
      rfl
    · rw [e Q k (by omega), decide_eq_true hk, h2]
      rfl
  · intro z k hk ⟨h1, h2⟩
    rw [e P k hk] at h1
    rw [e Q k hk] at h2
    obtain ⟨a1, a2⟩ := Bool.and_eq_true _ _ |>.mp h1
    obtain ⟨b1, b2⟩ := Bool.and_eq_true _ _ |>.mp h2
    exact z k (of_decide_eq_true a1) ⟨a2, b2⟩
/-! alike in a column -/
def agN (c : Nat) (A B : Nat → Int) : Prop := ∀ r : Nat, r < 9 → r % 3 = c → A r = B r ∧ A (r + 9) = B (r + 9)
def ag (c n : Nat) (A B : Nat → Int) : Prop := agN c A B ∧ (∀ p, p < n → ∀ r : Nat, r < 9 → r % 3 = c → (A (p + 18) = (r : Int) ↔ B (p + 18) = (r : Int))) ∧ (∀ r : Nat, r < 9 → r % 3 = c → (A 34 = (r : Int) ↔ B 34 = (r : Int))) ∧ A 35 = B 35 ∧ A 36 = B 36
theorem ag_rf {c n : Nat} {A : Nat → Int} : ag c n A A := ⟨fun _ _ _ => ⟨rfl, rfl⟩, fun _ _ _ _ _ => Iff.rfl, fun _ _ _ => Iff.rfl, rfl, rfl⟩
theorem ag_sy {c n : Nat} {A B : Nat → Int} (h : ag c n A B) : ag c n B A := ⟨fun r h1 h2 => ⟨(h.1 r h1 h2).1.symm, (h.1 r h1 h2).2.symm⟩, fun p hp r h1 h2 => (h.2.1 p hp r h1 h2).symm, fun r h1 h2 => (h.2.2.1 r h1 h2).symm, h.2.2.2.1.symm, h.2.2.2.2.symm⟩
theorem ag_tr {c n : Nat} {A B C : Nat → Int} (h : ag c n A B) (k : ag c n B C) : ag c n A C := ⟨fun r h1 h2 => ⟨(h.1 r h1 h2).1.trans (k.1 r h1 h2).1, (h.1 r h1 h2).2.trans (k.1 r h1 h2).2⟩, fun p hp r h1 h2 => (h.2.1 p hp r h1 h2).trans (k.2.1 p hp r h1 h2), fun r h1 h2 => (h.2.2.1 r h1 h2).trans (k.2.2.1 r h1 h2), h.2.2.2.1.trans k.2.2.2.1, h.2.2.2.2.trans k.2.2.2.2⟩
/-! who is where: warmth, heads -/
def gw (v A : Nat → Int) (r : Nat) : Nat → Nat → Int → Int
  | 0, _, a => a
  | f + 1, x, a => gw v A r f (x + 1) (if A (x + 18) = (r : Int) then z_add a (v x) else a)
theorem gw_cg {v v' A A' : Nat → Int} {r : Nat} : ∀ (f x : Nat) (a : Int), (∀ p, x ≤ p → p < x + f → (A (p + 18) = (r : Int) ↔ A' (p + 18) = (r : Int)) ∧ (A (p + 18) = (r : Int) → v p = v' p)) → gw v A r f x a = gw v' A' r f x a
  | 0, _, _, _ => rfl
  | f + 1, x, a, h => by
    obtain ⟨h1, h2⟩ := h x (Nat.le_refl _) (by omega)
    unfold gw
    by_cases c : A (x + 18) = (r : Int)
    · rw [if_pos c, if_pos (h1.mp c), h2 c]
      exact gw_cg f (x + 1) _ (fun p a b => h p (by omega) (by omega))
    · rw [if_neg c, if_neg (fun z => c (h1.mpr z))]
      exact gw_cg f (x + 1) _ (fun p a b => h p (by omega) (by omega))
theorem hr_g_w {wm : Nat → Int} {price : Int} : ∀ (f x : Nat) (W C A : Nat → Int), x + f ≤ 5 → (∀ r : Nat, r < 9 → (hr_g wm price f x W C A).1 r = gw wm A r f x (W r) ∧ (hr_g wm price f x W C A).2.1 r = gw (fun _ => 1) A r f x (C r)) ∧ ∀ j, (j < 23 ∨ 28 ≤ j) → (hr_g wm price f x W C A).2.2 j = A j := by
  intro f
  induction f with
  | zero => intro x W C A hx; exact ⟨fun r hr => ⟨rfl, rfl⟩, fun j _ => rfl⟩
  | succ f ih =>
    intro x W C A hx
    unfold hr_g gw
    by_cases c1 : A (x + 18) < 0
    · rw [if_pos c1]
      obtain ⟨i1, i2⟩ := ih (x + 1) W C A (by omega)
      refine ⟨fun r hr => ?_, i2⟩
      rw [if_neg (show ¬ A (x + 18) = (r : Int) by omega), if_neg (show ¬ A (x + 18) = (r : Int) by omega)]
      exact i1 r hr
    rw [if_neg c1]
    by_cases c2 : 9 ≤ A (x + 18)
    · rw [if_pos c2]
      obtain ⟨i1, i2⟩ := ih (x + 1) W C A (by omega)
      refine ⟨fun r hr => ?_, i2⟩
      rw [if_neg (show ¬ A (x + 18) = (r : Int) by omega), if_neg (show ¬ A (x + 18) = (r : Int) by omega)]
      exact i1 r hr
    rw [if_neg c2]
    obtain ⟨i1, i2⟩ := ih (x + 1) (u_up W (A (x + 18)).toNat (z_add (W (A (x + 18)).toNat) (wm x))) (u_up C (A (x + 18)).toNat (z_add (C (A (x + 18)).toNat) 1)) (u_up A (x + 23) (z_add (A (x + 23)) (z_mul price (wm x)))) (by omega)
    have eg : ∀ (v : Nat → Int) (r : Nat) (a : Int), gw v (u_up A (x + 23) (z_add (A (x + 23)) (z_mul price (wm x)))) r f (x + 1) a = gw v A r f (x + 1) a := fun v r a => gw_cg f (x + 1) a (fun p h1 h2 => by
      rw [u_up_ne (by omega)]
      exact ⟨Iff.rfl, fun _ => rfl⟩)
    refine ⟨fun r hr => ?_, fun j hj => (i2 j hj).trans (u_up_ne (by omega))⟩
    obtain ⟨k1, k2⟩ := i1 r hr
    rw [k1, k2, eg, eg]
    by_cases e : A (x + 18) = (r : Int)
    · have e2 : (A (x + 18)).toNat = r := by omega
      rw [if_pos e, if_pos e, e2, u_up_self, u_up_self]
      exact ⟨rfl, rfl⟩
    · have e2 : ¬ r = (A (x + 18)).toNat := by omega
      rw [if_neg e, if_neg e, u_up_ne e2, u_up_ne e2]
      exact ⟨rfl, rfl⟩
theorem hr_sv_at {heat v : Int} {W : Nat → Int} {r : Nat} (hr : r < 9) : hr_sv heat v W r = if v = (r : Int) then z_add (W r) heat else W r := by
  unfold hr_sv
  by_cases c1 : v < 0
  · rw [if_pos c1, if_neg (by omega)]
  rw [if_neg c1]
  by_cases c2 : 9 ≤ v
  · rw [if_pos c2, if_neg (by omega)]
  rw [if_neg c2]
  by_cases e : v = (r : Int)
  · rw [if_pos e, show v.toNat = r by omega, u_up_self]
  · rw [if_neg e, u_up_ne (by omega)]
/-! melting, dripping -/
theorem hr_d1_hi {u e : Int} {r j : Nat} {A : Nat → Int} (hu : u = 0 ∨ r + 3 < 9) (hr : r < 9) (hj : 18 ≤ j) (h33 : ¬ j = 33) : hr_d1 u e r A j = A j := by
  unfold hr_d1
  rw [u_up_ne (by omega), u_up_ne (by omega)]
  by_cases c : u = 0
  · rw [if_pos c, u_up_ne h33]
  · rw [if_neg c, u_up_ne (by omega)]
theorem hr_d1_off {u e : Int} {r q c : Nat} {A : Nat → Int} (hu : u = 0 ∨ r + 3 < 9) (hr : r < 9) (hc : ¬ r % 3 = c) (hq : q < 9) (hqc : q % 3 = c) : hr_d1 u e r A q = A q ∧ hr_d1 u e r A (q + 9) = A (q + 9) := by
  unfold hr_d1
  rw [u_up_ne (by omega), u_up_ne (by omega), u_up_ne (by omega), u_up_ne (by omega)]
  by_cases c0 : u = 0
  · rw [if_pos c0, u_up_ne (by omega), u_up_ne (by omega)]
    exact ⟨rfl, rfl⟩
  · rw [if_neg c0, u_up_ne (by omega), u_up_ne (by omega)]
    exact ⟨rfl, rfl⟩
theorem hr_d1_on {u e : Int} {r c : Nat} {A B : Nat → Int} (hu : u = 0 ∨ r + 3 < 9) (hr : r < 9) (hc : r % 3 = c) (h : agN c A B) : agN c (hr_d1 u e r A) (hr_d1 u e r B) := by
  intro q hq hqc
  obtain ⟨r1, r2⟩ := h r hr hc
  obtain ⟨q1, q2⟩ := h q hq hqc
  have base : (if u = 0 then u_up A 33 (z_add (A 33) (A (r + 9))) else u_up A (r + 12) (z_add (A (r + 12)) (A (r + 9)))) q = (if u = 0 then u_up B 33 (z_add (B 33) (B (r + 9))) else u_up B (r + 12) (z_add (B (r + 12)) (B (r + 9)))) q ∧ (if u = 0 then u_up A 33 (z_add (A 33) (A (r + 9))) else u_up A (r + 12) (z_add (A (r + 12)) (A (r + 9)))) (q + 9) = (if u = 0 then u_up B 33 (z_add (B 33) (B (r + 9))) else u_up B (r + 12) (z_add (B (r + 12)) (B (r + 9)))) (q + 9) := by
    by_cases c0 : u = 0
    · rw [if_pos c0, if_pos c0, u_up_ne (by omega), u_up_ne (by omega), u_up_ne (by omega), u_up_ne (by omega)]
      exact ⟨q1, q2⟩
    · have h3 : r + 3 < 9 := hu.resolve_left c0
      obtain ⟨s1, s2⟩ := h (r + 3) h3 (by omega)
      rw [if_neg c0, if_neg c0, u_up_ne (by omega), u_up_ne (by omega)]
      refine ⟨q1, ?_⟩
      by_cases e : q = r + 3
      · rw [e, show r + 3 + 9 = r + 12 by omega, u_up_self, u_up_self, r2]
        rw [show r + 3 + 9 = r + 12 by omega] at s2
        rw [s2]
      · rw [u_up_ne (by omega), u_up_ne (by omega)]
        exact q2
  unfold hr_d1
  by_cases e : q = r
  · subst e
    refine ⟨?_, ?_⟩
    · rw [u_up_self, u_up_self, r1]
    · rw [u_up_ne (show ¬ q + 9 = q by omega), u_up_ne (show ¬ q + 9 = q by omega), u_up_self, u_up_self]
  · rw [u_up_ne (by omega), u_up_ne (by omega), u_up_ne (by omega), u_up_ne (by omega), u_up_ne (by omega), u_up_ne (by omega), u_up_ne (by omega), u_up_ne (by omega)]
    exact base
theorem hs_lo {w h : Nat} {r : Nat} : u_hs (w : Int) (h : Int) ((r : Int) + 3) = 0 ∨ r + 3 < 9 := by
  by_cases c : u_hs (w : Int) (h : Int) ((r : Int) + 3) = 0
  · exact Or.inl c
  · have := u_hs_rng c
    exact Or.inr (by omega)
theorem hr_d_hi {w h : Nat} {b : Int} {ml : hr_M} {W C : Nat → Int} {j : Nat} (hj : 18 ≤ j) (h33 : ¬ j = 33) : ∀ (f : Nat) (A : Nat → Int) (t : Int), f ≤ 9 → (hr_d (w : Int) (h : Int) b ml W C f A t).1 j = A j := by
  intro f
  induction f with
  | zero => intro A t hf; rfl
  | succ f ih =>
    intro A t hf
    unfold hr_d
    by_cases c : z_and (z_shr b (f : Int)) 1 = 0
    · rw [if_pos c]
      exact ih A t (by omega)
    · rw [if_neg c, ih _ _ (by omega)]
      exact hr_d1_hi hs_lo (by omega) hj h33
theorem ag_d {w h c : Nat} {b b' : Int} {ml : hr_M} {W C W' C' : Nat → Int} (hb : ∀ r : Nat, r < 9 → r % 3 = c → (z_and (z_shr b (r : Int)) 1 = 0 ↔ z_and (z_shr b' (r : Int)) 1 = 0)) (hW : ∀ r : Nat, r < 9 → r % 3 = c → W r = W' r ∧ C r = C' r) : ∀ (f : Nat) (A B : Nat → Int) (t t' : Int), f ≤ 9 → agN c A B → A 35 = B 35 → A 36 = B 36 → agN c (hr_d (w : Int) (h : Int) b ml W C f A t).1 (hr_d (w : Int) (h : Int) b' ml W' C' f B t').1 := by
  intro f
  induction f with
  | zero => intro A B t t' hf h1 h5 h6; exact h1
  | succ f ih =>
    intro A B t t' hf h1 h5 h6
    unfold hr_d
    by_cases hc : f % 3 = c
    · have hbf := hb f (by omega) hc
      by_cases z : z_and (z_shr b (f : Int)) 1 = 0
      · rw [if_pos z, if_pos (hbf.mp z)]
        exact ih A B t t' (by omega) h1 h5 h6
      · have ee : hr_e ml W C f A = hr_e ml W' C' f B := by
          obtain ⟨r1, r2⟩ := h1 f (by omega) hc
          obtain ⟨w1, w2⟩ := hW f (by omega) hc
          unfold hr_e
          rw [r1, r2, w1, w2, h5, h6]
        rw [if_neg z, if_neg (fun y => z (hbf.mpr y)), ee]
        exact ih _ _ _ _ (by omega) (hr_d1_on hs_lo (by omega) hc h1) (by rw [hr_d1_hi hs_lo (by omega) (by decide) (by decide), hr_d1_hi hs_lo (by omega) (by decide) (by decide)]; exact h5) (by rw [hr_d1_hi hs_lo (by omega) (by decide) (by decide), hr_d1_hi hs_lo (by omega) (by decide) (by decide)]; exact h6)
    · have one : ∀ (W C : Nat → Int) (A : Nat → Int), agN c (hr_d1 (u_hs (w : Int) (h : Int) ((f : Int) + 3)) (hr_e ml W C f A) f A) A ∧ hr_d1 (u_hs (w : Int) (h : Int) ((f : Int) + 3)) (hr_e ml W C f A) f A 35 = A 35 ∧ hr_d1 (u_hs (w : Int) (h : Int) ((f : Int) + 3)) (hr_e ml W C f A) f A 36 = A 36 := fun W C A => ⟨fun q hq hqc => hr_d1_off hs_lo (by omega) hc hq hqc, hr_d1_hi hs_lo (by omega) (by decide) (by decide), hr_d1_hi hs_lo (by omega) (by decide) (by decide)⟩
      have tr : ∀ {A B C : Nat → Int}, agN c A B → agN c B C → agN c A C := fun h k r h1 h2 => ⟨(h r h1 h2).1.trans (k r h1 h2).1, (h r h1 h2).2.trans (k r h1 h2).2⟩
      have sy : ∀ {A B : Nat → Int}, agN c A B → agN c B A := fun h r h1 h2 => ⟨(h r h1 h2).1.symm, (h r h1 h2).2.symm⟩
      obtain ⟨a1, a2, a3⟩ := one W C A
      obtain ⟨b1, b2, b3⟩ := one W' C' B
      by_cases z : z_and (z_shr b (f : Int)) 1 = 0
      · rw [if_pos z]
        by_cases z' : z_and (z_shr b' (f : Int)) 1 = 0
        · rw [if_pos z']
          exact ih A B _ _ (by omega) h1 h5 h6
        · rw [if_neg z']
          exact ih A _ _ _ (by omega) (tr h1 (sy b1)) (h5.trans b2.symm) (h6.trans b3.symm)
      · rw [if_neg z]
        by_cases z' : z_and (z_shr b' (f : Int)) 1 = 0
        · rw [if_pos z']
          exact ih _ B _ _ (by omega) (tr a1 h1) (a2.trans h5) (a3.trans h6)
        · rw [if_neg z']
          exact ih _ _ _ _ (by omega) (tr (tr a1 h1) (sy b1)) ((a2.trans h5).trans b2.symm) ((a3.trans h6).trans b3.symm)
/-! freezing, giving, falling -/
theorem hr_f_hi {r j : Nat} {A : Nat → Int} (hr : r < 9) (hj : 18 ≤ j) : hr_f r A j = A j := by
  unfold hr_f
  rw [u_up_ne (by omega), u_up_ne (by omega)]
theorem hr_f_nn {r q : Nat} {A : Nat → Int} (hr : r < 9) (hq : q < 9) (hn : ¬ q = r) : hr_f r A q = A q ∧ hr_f r A (q + 9) = A (q + 9) := by
  unfold hr_f
  rw [u_up_ne hn, u_up_ne (by omega), u_up_ne (by omega), u_up_ne (by omega)]
  exact ⟨rfl, rfl⟩
theorem hr_f_eq {r : Nat} {A B : Nat → Int} (hr : r < 9) (h1 : A r = B r) (h2 : A (r + 9) = B (r + 9)) (h3 : A 36 = B 36) : hr_f r A r = hr_f r B r ∧ hr_f r A (r + 9) = hr_f r B (r + 9) := by
  unfold hr_f
  refine ⟨?_, ?_⟩
  · rw [u_up_self, u_up_self, h1, h2, h3]
  · rw [u_up_ne (show ¬ r + 9 = r by omega), u_up_ne (show ¬ r + 9 = r by omega), u_up_self, u_up_self, h1, h2, h3]
theorem hr_p_at {r to : Int} {q : Nat} (hq : q < 5) : ∀ (f x : Nat) (A : Nat → Int) (fb fm : Int), x + f ≤ 5 → (hr_p r to f x A fb fm).1 (q + 18) = if (x ≤ q ∧ q < x + f) ∧ A (q + 18) = r then to else A (q + 18) := by
  intro f
  induction f with
  | zero =>
    intro x A fb fm hx
    rw [if_neg (by omega)]
    rfl
  | succ f ih =>
    intro x A fb fm hx
    unfold hr_p
    by_cases c : A (x + 18) = r
    · rw [if_pos c, ih (x + 1) _ _ _ (by omega)]
      by_cases e : q = x
      · rw [if_neg (by omega), if_pos ⟨by omega, by rw [e]; exact c⟩, u_up_ne (by omega), e, u_up_self]
      · rw [u_up_ne (by omega), u_up_ne (by omega)]
        by_cases y : A (q + 18) = r
        · by_cases z : x ≤ q ∧ q < x + (f + 1)
          · rw [if_pos ⟨by omega, y⟩, if_pos ⟨z, y⟩]
          · rw [if_neg (fun k => z (by omega)), if_neg (fun k => z k.1)]
        · rw [if_neg (fun k => y k.2), if_neg (fun k => y k.2)]
    · rw [if_neg c, ih (x + 1) _ _ _ (by omega)]
      by_cases y : A (q + 18) = r
      · have e : ¬ q = x := fun k => c (by rw [← k]; exact y)
        by_cases z : x ≤ q ∧ q < x + (f + 1)
        · rw [if_pos ⟨by omega, y⟩, if_pos ⟨z, y⟩]
        · rw [if_neg (fun k => z (by omega)), if_neg (fun k => z k.1)]
      · rw [if_neg (fun k => y k.2), if_neg (fun k => y k.2)]
theorem hr_p_n {r to : Int} {q n : Nat} (n5 : n ≤ 5) (hq : q < n) (A : Nat → Int) (fb fm : Int) : (hr_p r to n 0 A fb fm).1 (q + 18) = if A (q + 18) = r then to else A (q + 18) := by
  rw [hr_p_at (by omega) n 0 A fb fm (by omega)]
  by_cases y : A (q + 18) = r
  · rw [if_pos ⟨by omega, y⟩, if_pos y]
  · rw [if_neg (fun k => y k.2), if_neg y]
theorem hr_st_at {r to : Int} {A : Nat → Int} : hr_st r to A 34 = if A 34 = r then to else A 34 := by
  unfold hr_st
  by_cases c : A 34 = r
  · rw [if_pos c, if_pos c, u_up_self]
  · rw [if_neg c, if_neg c]
theorem hr_to_is {w h : Nat} {x : Nat} : hr_to (w : Int) (h : Int) x = -1 ∨ hr_to (w : Int) (h : Int) x = (x : Int) + 3 := by
  unfold hr_to
  split
  · exact Or.inl rfl
  · exact Or.inr rfl
/-- one room's turn -/
def hr_z (w h : Nat) (b : Int) (n x : Nat) (A : Nat → Int) (fb fm : Int) : Nat → Int := if z_and (z_shr b (x : Int)) 1 = 0 then A else if hr_f x A x = 0 then hr_st x (hr_to (w : Int) (h : Int) x) (hr_p x (hr_to (w : Int) (h : Int) x) n 0 (hr_f x A) fb fm).1 else hr_f x A
theorem hr_q_z {w h n : Nat} {b : Int} (f x : Nat) (A : Nat → Int) (g fb fm : Int) : ∃ g' fb' fm', hr_q (w : Int) (h : Int) b n (f + 1) x A g fb fm = hr_q (w : Int) (h : Int) b n f (x + 1) (hr_z w h b n x A fb fm) g' fb' fm' := by
  have e : hr_q (w : Int) (h : Int) b n (f + 1) x A g fb fm = if z_and (z_shr b (x : Int)) 1 = 0 then hr_q (w : Int) (h : Int) b n f (x + 1) A g fb fm else if hr_f x A x = 0 then hr_q (w : Int) (h : Int) b n f (x + 1) (hr_st x (hr_to (w : Int) (h : Int) x) (hr_p x (hr_to (w : Int) (h : Int) x) n 0 (hr_f x A) fb fm).1) (z_or g (z_shl 1 (x : Int))) (hr_p x (hr_to (w : Int) (h : Int) x) n 0 (hr_f x A) fb fm).2.1 (hr_p x (hr_to (w : Int) (h : Int) x) n 0 (hr_f x A) fb fm).2.2 else hr_q (w : Int) (h : Int) b n f (x + 1) (hr_f x A) g fb fm := rfl
  rw [e]
  unfold hr_z
  by_cases c : z_and (z_shr b (x : Int)) 1 = 0
  · rw [if_pos c, if_pos c]
    exact ⟨_, _, _, rfl⟩
  rw [if_neg c, if_neg c]
  by_cases d : hr_f x A x = 0
  · rw [if_pos d, if_pos d]
    exact ⟨_, _, _, rfl⟩
  · rw [if_neg d, if_neg d]
    exact ⟨_, _, _, rfl⟩
theorem hr_g_f {x j : Nat} {A : Nat → Int} {n : Nat} {fb fm t : Int} (n5 : n ≤ 5) (hx : x < 9) (hj : j < 18 ∨ 35 ≤ j) : hr_st (x : Int) t (hr_p (x : Int) t n 0 (hr_f x A) fb fm).1 j = hr_f x A j := by
  rw [hr_st_18 (by omega), hr_p_hi (by omega) n 0 _ _ _ (by omega)]
theorem ag_off {w h n c x : Nat} {b fb fm : Int} {A : Nat → Int} (n5 : n ≤ 5) (hx : x < 9) (hc : ¬ x % 3 = c) : ag c n (hr_z w h b n x A fb fm) A := by
  unfold hr_z
  by_cases c0 : z_and (z_shr b (x : Int)) 1 = 0
  · rw [if_pos c0]
    exact ag_rf
  rw [if_neg c0]
  have lo : ∀ r : Nat, r < 9 → r % 3 = c → hr_f x A r = A r ∧ hr_f x A (r + 9) = A (r + 9) := fun r h1 h2 => hr_f_nn hx h1 (fun z => hc (by rw [← z]; exact h2))
  by_cases d : hr_f x A x = 0
  · rw [if_pos d]
    have ht := hr_to_is (w := w) (h := h) (x := x)
    generalize hr_to (w : Int) (h : Int) x = t at ht ⊢
    refine ⟨fun r h1 h2 => ?_, fun p hp r h1 h2 => ?_, fun r h1 h2 => ?_, ?_, ?_⟩
    · rw [hr_g_f n5 hx (by omega), hr_g_f n5 hx (by omega)]
      exact lo r h1 h2
    · rw [hr_st_18 (by omega), hr_p_n n5 hp, hr_f_hi hx (by omega)]
      by_cases e : A (p + 18) = (x : Int)
      · rw [if_pos e]
        exact ⟨fun z => by omega, fun z => by omega⟩
      · rw [if_neg e]
    · rw [hr_st_at, hr_p_hi (by omega) n 0 _ _ _ (by omega), hr_f_hi hx (by decide)]
      by_cases e : A 34 = (x : Int)
      · rw [if_pos e]
        exact ⟨fun z => by omega, fun z => by omega⟩
      · rw [if_neg e]
    · rw [hr_g_f n5 hx (by omega), hr_f_hi hx (by decide)]
    · rw [hr_g_f n5 hx (by omega), hr_f_hi hx (by decide)]
  · rw [if_neg d]
    refine ⟨lo, fun p hp r h1 h2 => ?_, fun r h1 h2 => ?_, hr_f_hi hx (by decide), hr_f_hi hx (by decide)⟩
    · rw [hr_f_hi hx (by omega)]
    · rw [hr_f_hi hx (by decide)]
theorem ag_on {w h n c x : Nat} {b b' fb fm fb' fm' : Int} {A B : Nat → Int} (n5 : n ≤ 5) (hx : x < 9) (hc : x % 3 = c) (hb : z_and (z_shr b (x : Int)) 1 = 0 ↔ z_and (z_shr b' (x : Int)) 1 = 0) (hA : ag c n A B) : ag c n (hr_z w h b n x A fb fm) (hr_z w h b' n x B fb' fm') := by
  obtain ⟨a1, a2, a3, a4, a5⟩ := hA
  have lo : agN c (hr_f x A) (hr_f x B) := fun r h1 h2 => by
    by_cases e : r = x
    · subst e
      exact hr_f_eq hx (a1 r h1 h2).1 (a1 r h1 h2).2 a5
    · obtain ⟨e1, e2⟩ := hr_f_nn (A := A) hx h1 e
      obtain ⟨e3, e4⟩ := hr_f_nn (A := B) hx h1 e
      rw [e1, e2, e3, e4]
      exact a1 r h1 h2
  unfold hr_z
  by_cases c0 : z_and (z_shr b (x : Int)) 1 = 0
  · rw [if_pos c0, if_pos (hb.mp c0)]
    exact ⟨a1, a2, a3, a4, a5⟩
  rw [if_neg c0, if_neg (fun z => c0 (hb.mpr z))]
  have ex := (lo x hx hc).1
  by_cases d : hr_f x A x = 0
  · rw [if_pos d, if_pos (by rw [← ex]; exact d)]
    generalize hr_to (w : Int) (h : Int) x = t
    refine ⟨fun r h1 h2 => ?_, fun p hp r h1 h2 => ?_, fun r h1 h2 => ?_, ?_, ?_⟩
    · rw [hr_g_f n5 hx (by omega), hr_g_f n5 hx (by omega), hr_g_f n5 hx (by omega), hr_g_f n5 hx (by omega)]
      exact lo r h1 h2
    · rw [hr_st_18 (by omega), hr_st_18 (by omega), hr_p_n n5 hp, hr_p_n n5 hp, hr_f_hi hx (by omega), hr_f_hi hx (by omega)]
      have q := a2 p hp x hx hc
      by_cases e : A (p + 18) = (x : Int)
      · rw [if_pos e, if_pos (q.mp e)]
      · rw [if_neg e, if_neg (fun z => e (q.mpr z))]
        exact a2 p hp r h1 h2
    · rw [hr_st_at, hr_st_at, hr_p_hi (by omega) n 0 _ _ _ (by omega), hr_p_hi (by omega) n 0 _ _ _ (by omega), hr_f_hi hx (by decide), hr_f_hi hx (by decide)]
      have q := a3 x hx hc
      by_cases e : A 34 = (x : Int)
      · rw [if_pos e, if_pos (q.mp e)]
      · rw [if_neg e, if_neg (fun z => e (q.mpr z))]
        exact a3 r h1 h2
    · rw [hr_g_f n5 hx (by omega), hr_g_f n5 hx (by omega), hr_f_hi hx (by decide), hr_f_hi hx (by decide)]
      exact a4
    · rw [hr_g_f n5 hx (by omega), hr_g_f n5 hx (by omega), hr_f_hi hx (by decide), hr_f_hi hx (by decide)]
      exact a5
  · rw [if_neg d, if_neg (by rw [← ex]; exact d)]
    refine ⟨lo, fun p hp r h1 h2 => ?_, fun r h1 h2 => ?_, ?_, ?_⟩
    · rw [hr_f_hi hx (by omega), hr_f_hi hx (by omega)]
      exact a2 p hp r h1 h2
    · rw [hr_f_hi hx (by decide), hr_f_hi hx (by decide)]
      exact a3 r h1 h2
    · rw [hr_f_hi hx (by decide), hr_f_hi hx (by decide)]
      exact a4
    · rw [hr_f_hi hx (by decide), hr_f_hi hx (by decide)]
      exact a5
theorem ag_q {w h n c : Nat} {b b' : Int} (n5 : n ≤ 5) (hb : ∀ r : Nat, r < 9 → r % 3 = c → (z_and (z_shr b (r : Int)) 1 = 0 ↔ z_and (z_shr b' (r : Int)) 1 = 0)) : ∀ (f x : Nat) (A B : Nat → Int) (g fb fm g' fb' fm' : Int), x + f = 9 → ag c n A B → ag c n (hr_q (w : Int) (h : Int) b n f x A g fb fm).1 (hr_q (w : Int) (h : Int) b' n f x B g' fb' fm').1 := by
  intro f
  induction f with
  | zero => intro x A B g fb fm g' fb' fm' hx hA; exact hA
  | succ f ih =>
    intro x A B g fb fm g' fb' fm' hx hA
    obtain ⟨g1, g2, g3, e1⟩ := hr_q_z (w := w) (h := h) (n := n) (b := b) f x A g fb fm
    obtain ⟨k1, k2, k3, e2⟩ := hr_q_z (w := w) (h := h) (n := n) (b := b') f x B g' fb' fm'
    rw [e1, e2]
    refine ih (x + 1) _ _ _ _ _ _ _ _ (by omega) ?_
    by_cases hc : x % 3 = c
    · exact ag_on n5 (by omega) hc (hb x (by omega) hc) hA
    · exact ag_tr (ag_off n5 (by omega) hc) (ag_tr hA (ag_sy (ag_off n5 (by omega) hc)))
/-- who is in a column behind an HOUR, was in it ahead -/
def inC (c : Nat) (v : Int) : Prop := ∃ r : Nat, r < 9 ∧ r % 3 = c ∧ v = (r : Int)
theorem hr_z_in {w h n c x p : Nat} {b fb fm : Int} {A : Nat → Int} (n5 : n ≤ 5) (hx : x < 9) (hp : p < n) (hi : inC c (hr_z w h b n x A fb fm (p + 18))) : inC c (A (p + 18)) := by
  unfold hr_z at hi
  by_cases c0 : z_and (z_shr b (x : Int)) 1 = 0
  · rw [if_pos c0] at hi
    exact hi
  rw [if_neg c0] at hi
  by_cases d : hr_f x A x = 0
  · rw [if_pos d, hr_st_18 (by omega), hr_p_n n5 hp, hr_f_hi hx (by omega)] at hi
    by_cases e : A (p + 18) = (x : Int)
    · rw [if_pos e] at hi
      obtain ⟨r, r1, r2, r3⟩ := hi
      have ht := hr_to_is (w := w) (h := h) (x := x)
      exact ⟨x, hx, by omega, e⟩
    · rw [if_neg e] at hi
      exact hi
  · rw [if_neg d, hr_f_hi hx (by omega)] at hi
    exact hi
theorem hr_q_in {w h n c p : Nat} {b : Int} (n5 : n ≤ 5) (hp : p < n) : ∀ (f x : Nat) (A : Nat → Int) (g fb fm : Int), x + f = 9 → inC c ((hr_q (w : Int) (h : Int) b n f x A g fb fm).1 (p + 18)) → inC c (A (p + 18)) := by
  intro f
  induction f with
  | zero => intro x A g fb fm hx hi; exact hi
  | succ f ih =>
    intro x A g fb fm hx hi
    obtain ⟨g1, g2, g3, e1⟩ := hr_q_z (w := w) (h := h) (n := n) (b := b) f x A g fb fm
    rw [e1] at hi
    exact hr_z_in n5 (by omega) hp (ih (x + 1) _ _ _ _ (by omega) hi)
/-- the rooms that gave, as bits; what ICE they have behind it -/
theorem hr_q_gb {w h n : Nat} {b : Int} (n5 : n ≤ 5) : ∀ (f x : Nat) (A : Nat → Int) (g fb fm : Int), x + f = 9 → (hr_q (w : Int) (h : Int) b n f x A g fb fm).2.1 = s_bt (fun k => decide (¬ z_and (z_shr b (k : Int)) 1 = 0 ∧ hr_f k A k = 0)) f x g ∧ (∀ k, x ≤ k → k < 9 → (hr_q (w : Int) (h : Int) b n f x A g fb fm).1 k = if z_and (z_shr b (k : Int)) 1 = 0 then A k else hr_f k A k) ∧ ∀ k, k < x → (hr_q (w : Int) (h : Int) b n f x A g fb fm).1 k = A k := by
  intro f
  induction f with
  | zero => intro x A g fb fm hx; exact ⟨rfl, fun k h1 h2 => by omega, fun k _ => rfl⟩
  | succ f ih =>
    intro x A g fb fm hx
    have key : ∀ (A' : Nat → Int) (g' fb' fm' : Int), (∀ j, (j < 18 ∨ 35 ≤ j) → A' j = if z_and (z_shr b (x : Int)) 1 = 0 then A j else hr_f x A j) → g' = (if (decide (¬ z_and (z_shr b (x : Int)) 1 = 0 ∧ hr_f x A x = 0)) = true then z_or g (z_shl 1 (x : Int)) else g) → (hr_q (w : Int) (h : Int) b n f (x + 1) A' g' fb' fm').2.1 = s_bt (fun k => decide (¬ z_and (z_shr b (k : Int)) 1 = 0 ∧ hr_f k A k = 0)) (f + 1) x g ∧ (∀ k, x ≤ k → k < 9 → (hr_q (w : Int) (h : Int) b n f (x + 1) A' g' fb' fm').1 k = if z_and (z_shr b (k : Int)) 1 = 0 then A k else hr_f k A k) ∧ ∀ k, k < x → (hr_q (w : Int) (h : Int) b n f (x + 1) A' g' fb' fm').1 k = A k := by
      intro A' g' fb' fm' hA' hg'
      obtain ⟨i1, i2, i3⟩ := ih (x + 1) A' g' fb' fm' (by omega)
      have eo : ∀ k, k < 9 → ¬ k = x → A' k = A k ∧ A' (k + 9) = A (k + 9) := fun k hk hn => by
        rw [hA' k (by omega), hA' (k + 9) (by omega)]
        by_cases z : z_and (z_shr b (x : Int)) 1 = 0
        · rw [if_pos z, if_pos z]
          exact ⟨rfl, rfl⟩
        · rw [if_neg z, if_neg z]
          exact hr_f_nn (by omega) hk hn
      have e36 : A' 36 = A 36 := by
        rw [hA' 36 (by omega)]
        by_cases z : z_and (z_shr b (x : Int)) 1 = 0
        · rw [if_pos z]
        · rw [if_neg z, hr_f_hi (by omega) (by decide)]
      refine ⟨?_, fun k h1 h2 => ?_, fun k h1 => ?_⟩
      · rw [i1, hg']
        show _ = s_bt _ f (x + 1) _
        exact s_bt_cg f (x + 1) _ (fun y h1 h2 => by rw [(hr_f_eq (A := A') (B := A) (by omega) (eo y (by omega) (by omega)).1 (eo y (by omega) (by omega)).2 e36).1])
      · by_cases e : k = x
        · rw [e, i3 x (by omega), hA' x (by omega)]
        · rw [i2 k (by omega) h2, (eo k h2 e).1, (hr_f_eq (A := A') (B := A) h2 (eo k h2 e).1 (eo k h2 e).2 e36).1]
      · rw [i3 k (by omega)]
        exact (eo k (by omega) (by omega)).1
    unfold hr_q
    by_cases c : z_and (z_shr b (x : Int)) 1 = 0
    · rw [if_pos c]
      exact key A g fb fm (fun j _ => (if_pos c).symm) (if_neg (fun z => (of_decide_eq_true z).1 c)).symm
    rw [if_neg c]
    by_cases d : hr_f x A x = 0
    · rw [if_pos d]
      exact key _ _ _ _ (fun j hj => (hr_g_f n5 (by omega) hj).trans (if_neg c).symm) (if_pos (decide_eq_true ⟨c, d⟩)).symm
    · rw [if_neg d]
      exact key _ _ _ _ (fun j hj => (if_neg c).symm) (if_neg (fun z => d (of_decide_eq_true z).2)).symm
end
section
/-! STRETCHES of standing in a column, with bounds done -/
theorem sc_flo_0 {s : Nat} (hs : z_st s) (m : z_M) : z_R 92 (m, 0, [(2, 3), (2, ((s : Nat) : Int)), (9, 0), (9, 0)], []) = z_R 92 (m, 4, [(2, 3), (2, ((s : Nat) : Int)), (0, 0), (0, 0)], []) :=
  have hK : kt_at 92 = kt_92 := rfl
  (z_R_run hK (n := 4) (g' := (m, 4, [(2, 3), (2, ((s : Nat) : Int)), (0, 0), (0, 0)], [])) rfl).trans (rfl)
theorem sc_flo_4 {s : Nat} (hs : z_st s) (m : z_M) (x2 : Int) (x3 : Int) : z_R 92 (m, 4, [(2, 3), (2, ((s : Nat) : Int)), (0, x2), (0, x3)], []) = if 9 ≤ x3 then some (m, some (0, x2)) else if ¬ u_hs (m 3 8) (m 3 9) x3 = 0 then if m (s + 1) (x3).toNat ≤ 0 then z_R 92 (m, 4, [(2, 3), (2, ((s : Nat) : Int)), (0, x2), (0, x3 + 1)], []) else z_R 92 (m, 4, [(2, 3), (2, ((s : Nat) : Int)), (0, z_or x2 (z_shl 1 x3)), (0, x3 + 1)], []) else z_R 92 (m, 4, [(2, 3), (2, ((s : Nat) : Int)), (0, x2), (0, z_add x3 1)], []) :=
  have hK : kt_at 92 = kt_92 := rfl
  (z_R_run hK (n := 2) (g' := (m, 7, [(2, 3), (2, ((s : Nat) : Int)), (0, x2), (0, x3)], [(0, 9), (0, x3)])) rfl).trans (z_R_ifd hK (c := 9 ≤ x3) (p1 := 39) (p2 := 10) rfl rfl rfl (fun h1 => (z_R_run hK (n := 1) (g' := (m, 40, [(2, 3), (2, ((s : Nat) : Int)), (0, x2), (0, x3)], [(0, x2)])) rfl).trans (z_R_ret hK rfl rfl rfl)) (fun h1 => (z_R_run hK (n := 2) (g' := (m, 12, [(2, 3), (2, ((s : Nat) : Int)), (0, x2), (0, x3)], [(0, x3), (2, 3)])) rfl).trans (z_R_cif hK rfl rfl rfl rfl rfl (c_ifhas _ _ rfl rfl) (fun h2 => have h4 := u_hs_rng h2; (z_R_run hK (n := 2) (g' := (m, 19, [(2, 3), (2, ((s : Nat) : Int)), (0, x2), (0, x3)], [(2, ((s : Nat) : Int))])) rfl).trans (z_R_gf hK rfl rfl rfl (st_ga hs 0 (by decide)) ((z_R_run hK (n := 1) (g' := (m, 23, [(2, 3), (2, ((s : Nat) : Int)), (0, x2), (0, x3)], [(0, x3), (2, ((s + 1 : Nat) : Int))])) rfl).trans (z_R_ixTS hK  rfl rfl rfl (st_ln hs 1 (by decide) (by decide)) (st_rd hs 1 (by decide) (by decide)) (show 0 ≤ x3 ∧ x3 < 9 by omega) (z_R_ifd hK (c := m (s + 1) (x3).toNat ≤ 0) (p1 := 33) (p2 := 27) rfl rfl rfl (fun h3 => (z_R_run hK (n := 1) (g' := (m, 36, [(2, 3), (2, ((s : Nat) : Int)), (0, x2), (0, z_add x3 1)], [])) rfl).trans ((congrArg (fun vv => z_R 92 (m, 36, [(2, 3), (2, ((s : Nat) : Int)), (0, x2), (0, vv)], [])) (z_add_eq (by omega) (by omega))).trans ((z_R_run hK (n := 1) (g' := (m, 4, [(2, 3), (2, ((s : Nat) : Int)), (0, x2), (0, x3 + 1)], [])) rfl).trans (rfl)))) (fun h3 => (z_R_run hK (n := 7) (g' := (m, 36, [(2, 3), (2, ((s : Nat) : Int)), (0, z_or x2 (z_shl 1 x3)), (0, z_add x3 1)], [])) rfl).trans ((congrArg (fun vv => z_R 92 (m, 36, [(2, 3), (2, ((s : Nat) : Int)), (0, z_or x2 (z_shl 1 x3)), (0, vv)], [])) (z_add_eq (by omega) (by omega))).trans ((z_R_run hK (n := 1) (g' := (m, 4, [(2, 3), (2, ((s : Nat) : Int)), (0, z_or x2 (z_shl 1 x3)), (0, x3 + 1)], [])) rfl).trans (rfl))))))))) (fun h2 => (z_R_run hK (n := 3) (g' := (m, 4, [(2, 3), (2, ((s : Nat) : Int)), (0, x2), (0, z_add x3 1)], [])) rfl).trans (rfl)))))
theorem sc_st3_0 {s : Nat} (hs : z_st s) (m : z_M) (n : Int) (b : Int) : z_R 97 (m, 0, [(2, 24), (2, ((s : Nat) : Int)), (0, n), (0, b), (9, 0), (9, 0)], []) = (z_R 92 (m, 0, [(2, 3), (2, ((s : Nat) : Int)), (9, 0), (9, 0)], [])).bind fun qq => z_R 97 (qq.1, 8, [(2, 24), (2, ((s : Nat) : Int)), (0, n), (0, b), (9, 0), (9, 0)], qq.2.toList ++ []) :=
  have hK : kt_at 97 = kt_97 := rfl
  (z_R_run hK (n := 2) (g' := (m, 4, [(2, 24), (2, ((s : Nat) : Int)), (0, n), (0, b), (9, 0), (9, 0)], [(2, 3)])) rfl).trans ((z_R_run hK (n := 1) (g' := (m, 5, [(2, 24), (2, ((s : Nat) : Int)), (0, n), (0, b), (9, 0), (9, 0)], [(2, ((s : Nat) : Int)), (2, 3)])) rfl).trans (z_R_call hK rfl rfl rfl rfl rfl))
theorem sc_st3_8 {s : Nat} (hs : z_st s) (m : z_M) (x2 : Int) (x3 : Int) (u : Int) : z_R 97 (m, 8, [(2, 24), (2, ((s : Nat) : Int)), (0, x2), (0, x3), (9, 0), (9, 0)], [(0, u)]) = z_R 97 (m, 15, [(2, 24), (2, ((s : Nat) : Int)), (0, x2), (0, x3), (0, z_and u x3), (0, 0)], []) :=
  have hK : kt_at 97 = kt_97 := rfl
  (z_R_run hK (n := 5) (g' := (m, 15, [(2, 24), (2, ((s : Nat) : Int)), (0, x2), (0, x3), (0, z_and u x3), (0, 0)], [])) rfl).trans (rfl)
theorem sc_st3_15 {s : Nat} (hs : z_st s) (m : z_M) (x2 : Int) (x3 : Int) (x4 : Int) (x5 : Int) : z_R 97 (m, 15, [(2, 24), (2, ((s : Nat) : Int)), (0, x2), (0, x3), (0, x4), (0, x5)], []) = if x2 ≤ x5 then some (m, some (0, x2)) else (z_R 68 (m, 0, [(2, 24), (2, ((s : Nat) : Int)), (0, x3), (9, 0), (9, 0), (9, 0)], [])).bind fun qq => z_R 97 (qq.1, 27, [(2, 24), (2, ((s : Nat) : Int)), (0, x2), (0, x3), (0, x4), (0, x5)], qq.2.toList ++ []) :=
  have hK : kt_at 97 = kt_97 := rfl
  (z_R_run hK (n := 2) (g' := (m, 18, [(2, 24), (2, ((s : Nat) : Int)), (0, x2), (0, x3), (0, x4), (0, x5)], [(0, x2), (0, x5)])) rfl).trans (z_R_ifd hK (c := x2 ≤ x5) (p1 := 46) (p2 := 21) rfl rfl rfl (fun h1 => (z_R_run hK (n := 1) (g' := (m, 47, [(2, 24), (2, ((s : Nat) : Int)), (0, x2), (0, x3), (0, x4), (0, x5)], [(0, x2)])) rfl).trans (z_R_ret hK rfl rfl rfl)) (fun h1 => (z_R_run hK (n := 3) (g' := (m, 24, [(2, 24), (2, ((s : Nat) : Int)), (0, x2), (0, x3), (0, x4), (0, x5)], [(0, x3), (2, ((s : Nat) : Int)), (2, 24)])) rfl).trans (z_R_call hK rfl rfl rfl rfl rfl)))
theorem sc_st3_27 {s : Nat} (hs : z_st s) (m : z_M) (x2 : Int) (x3 : Int) (x4 : Int) (x5 : Int) : z_R 97 (m, 27, [(2, 24), (2, ((s : Nat) : Int)), (0, x2), (0, x3), (0, x4), (0, x5)], []) = if z_and (m 24 10) x4 = 0 then z_R 97 (m, 15, [(2, 24), (2, ((s : Nat) : Int)), (0, x2), (0, x3), (0, x4), (0, z_add x5 1)], []) else some (m, some (0, x5)) :=
  have hK : kt_at 97 = kt_97 := rfl
  (z_R_run hK (n := 4) (g' := (m, 34, [(2, 24), (2, ((s : Nat) : Int)), (0, x2), (0, x3), (0, x4), (0, x5)], [(0, z_and (m 24 10) x4)])) rfl).trans (z_R_ifd hK (c := z_and (m 24 10) x4 = 0) (p1 := 40) (p2 := 37) rfl rfl rfl (fun h1 => (z_R_run hK (n := 2) (g' := (m, 15, [(2, 24), (2, ((s : Nat) : Int)), (0, x2), (0, x3), (0, x4), (0, z_add x5 1)], [])) rfl).trans (rfl)) (fun h1 => (z_R_run hK (n := 1) (g' := (m, 39, [(2, 24), (2, ((s : Nat) : Int)), (0, x2), (0, x3), (0, x4), (0, x5)], [(0, x5)])) rfl).trans (z_R_ret hK rfl rfl rfl)))
theorem sc_roc_0  (m : z_M) (c : Int) : z_R 105 (m, 0, [(2, 3), (0, c)], []) = some (m, some (0, z_and (m 3 10) (z_shl 73 c))) :=
  have hK : kt_at 105 = kt_105 := rfl
  (z_R_run hK (n := 6) (g' := (m, 9, [(2, 3), (0, c)], [(0, z_and (m 3 10) (z_shl 73 c))])) rfl).trans (z_R_ret hK rfl rfl rfl)
end
section
/-! HOURS IN A COLUMN: for how many its floors stand -/
theorem hr_A_Q {w h n : Nat} {heat price : Int} {ml : hr_M} {wm : Nat → Int} {R : Int} {W0 C0 : Nat → Int} (hw : w ≤ 3) (hh : h ≤ 3) (n5 : n ≤ 5) (bwm : ∀ p, p < 5 → 0 ≤ wm p ∧ wm p ≤ 9) (hheat : 0 ≤ heat ∧ heat ≤ 9) (hml : hr_mlok ml) {A : Nat → Int} (hok : hr_ok n A) (b2 : ∀ k, k < 9 → W0 k = 0 ∧ C0 k = 0) (a8 : ∀ r : Nat, r < 9 → (z_and (z_shr R (r : Int)) 1 = 0 ↔ u_hs (w : Int) (h : Int) (r : Int) = 0)) : hr_Q (w : Int) (h : Int) R n heat price ml wm W0 C0 A 0 = hr_K w h heat price ml wm n A := by
  have he : ∀ r : Nat, r < 9 → ¬ u_hs (w : Int) (h : Int) (r : Int) = 0 → hr_e ml (hr_sv heat (A 34) (hr_g wm price n 0 W0 C0 A).1) (hr_g wm price n 0 W0 C0 A).2.1 r (hr_g wm price n 0 W0 C0 A).2.2 = hr_mN heat ml wm n A r := fun r hr _ => hr_e_eq n5 bwm hheat hml hok.2.2.1 b2 hr
  have hv' : ∀ p, p < 5 → -1 ≤ (if p < n then A (p + 18) else 0) ∧ (if p < n then A (p + 18) else 0) ≤ 8 := fun p _ => by
    by_cases c : p < n
    · rw [if_pos c]; exact hok.2.2.1 p c
    · rw [if_neg c]; omega
  have eo := (hr_g_eq (v := fun p => if p < n then A (p + 18) else 0) (price := price) hv' bwm n 0 W0 C0 A (by omega) (fun p hp => by rw [if_pos (by omega)]) (fun k hk => by rw [(b2 k hk).1]; omega) (fun k hk => by rw [(b2 k hk).2]; omega)).2
  have eD : hr_D (w : Int) (h : Int) R n heat price ml wm W0 C0 A 0 = (hr_y w h (hr_me (w : Int) (h : Int) heat ml wm n A) h (hr_o wm price n 0 A), hr_dm (w : Int) (h : Int) (hr_mN heat ml wm n A) 9 0) := by
    unfold hr_D
    rw [hr_d_eq a8 he 9 _ 0 (by decide) (fun k hk => ⟨rfl, rfl⟩) rfl rfl, hr_dc_q hw hh 9 _ (by decide), hr_dq_y hw hh, eo]
    congr 1
    exact hr_y_cg hw hh (fun r hr hq => by unfold hr_me; rw [if_neg hq]) _
  unfold hr_Q
  rw [eD]
  exact hr_q_k n5 a8 9 0 _ 0 0 0 (by decide)
theorem ag_Q {w h n c : Nat} {heat price : Int} {ml : hr_M} {wm wm' : Nat → Int} {b b' : Int} {W0 C0 W0' C0' : Nat → Int} (n5 : n ≤ 5) (b2 : ∀ k, k < 9 → W0 k = 0 ∧ C0 k = 0) (b2' : ∀ k, k < 9 → W0' k = 0 ∧ C0' k = 0) (hb : ∀ r : Nat, r < 9 → r % 3 = c → (z_and (z_shr b (r : Int)) 1 = 0 ↔ z_and (z_shr b' (r : Int)) 1 = 0)) {A B : Nat → Int} (fm fm' : Int) (hA : ag c n A B) (hwm : ∀ p, p < n → inC c (A (p + 18)) → wm p = wm' p) : ag c n (hr_Q (w : Int) (h : Int) b n heat price ml wm W0 C0 A fm).1 (hr_Q (w : Int) (h : Int) b' n heat price ml wm' W0' C0' B fm').1 := by
  unfold hr_Q hr_D
  obtain ⟨g1, g2⟩ := hr_g_w (wm := wm) (price := price) n 0 W0 C0 A (by omega)
  obtain ⟨k1, k2⟩ := hr_g_w (wm := wm') (price := price) n 0 W0' C0' B (by omega)
  have eg : ∀ (v v' : Nat → Int), (∀ p, p < n → inC c (A (p + 18)) → v p = v' p) → ∀ r : Nat, r < 9 → r % 3 = c → ∀ a : Int, gw v A r n 0 a = gw v' B r n 0 a := fun v v' hv r h1 h2 a => gw_cg n 0 a (fun p _ hp => ⟨hA.2.1 p (by omega) r h1 h2, fun z => hv p (by omega) ⟨r, h1, h2, z⟩⟩)
  have hW : ∀ r : Nat, r < 9 → r % 3 = c → hr_sv heat (A 34) (hr_g wm price n 0 W0 C0 A).1 r = hr_sv heat (B 34) (hr_g wm' price n 0 W0' C0' B).1 r ∧ (hr_g wm price n 0 W0 C0 A).2.1 r = (hr_g wm' price n 0 W0' C0' B).2.1 r := fun r h1 h2 => by
    rw [hr_sv_at h1, hr_sv_at h1, (g1 r h1).1, (k1 r h1).1, (g1 r h1).2, (k1 r h1).2, (b2 r h1).1, (b2' r h1).1, (b2 r h1).2, (b2' r h1).2, eg wm wm' hwm r h1 h2, eg (fun _ => 1) (fun _ => 1) (fun _ _ _ => rfl) r h1 h2]
    refine ⟨?_, rfl⟩
    by_cases e : A 34 = (r : Int)
    · rw [if_pos e, if_pos ((hA.2.2.1 r h1 h2).mp e)]
    · rw [if_neg e, if_neg (fun z => e ((hA.2.2.1 r h1 h2).mpr z))]
  have e35 : (hr_g wm price n 0 W0 C0 A).2.2 35 = (hr_g wm' price n 0 W0' C0' B).2.2 35 := by rw [g2 35 (by omega), k2 35 (by omega)]; exact hA.2.2.2.1
  have e36 : (hr_g wm price n 0 W0 C0 A).2.2 36 = (hr_g wm' price n 0 W0' C0' B).2.2 36 := by rw [g2 36 (by omega), k2 36 (by omega)]; exact hA.2.2.2.2
  have d := ag_d (w := w) (h := h) (ml := ml) hb hW 9 (hr_g wm price n 0 W0 C0 A).2.2 (hr_g wm' price n 0 W0' C0' B).2.2 0 0 (by decide) (fun r h1 h2 => by
    rw [g2 r (by omega), g2 (r + 9) (by omega), k2 r (by omega), k2 (r + 9) (by omega)]
    exact hA.1 r h1 h2) e35 e36
  refine ag_q n5 hb 9 0 _ _ _ _ _ _ _ _ (by decide) ⟨d, fun p hp r h1 h2 => ?_, fun r h1 h2 => ?_, ?_, ?_⟩
  · rw [hr_d_hi (by omega) (by omega) 9 _ _ (by decide), hr_d_hi (by omega) (by omega) 9 _ _ (by decide), g2 (p + 18) (by omega), k2 (p + 18) (by omega)]
    exact hA.2.1 p hp r h1 h2
  · rw [hr_d_hi (by decide) (by decide) 9 _ _ (by decide), hr_d_hi (by decide) (by decide) 9 _ _ (by decide), g2 34 (by omega), k2 34 (by omega)]
    exact hA.2.2.1 r h1 h2
  · rw [hr_d_hi (by decide) (by decide) 9 _ _ (by decide), hr_d_hi (by decide) (by decide) 9 _ _ (by decide)]
    exact e35
  · rw [hr_d_hi (by decide) (by decide) 9 _ _ (by decide), hr_d_hi (by decide) (by decide) 9 _ _ (by decide)]
    exact e36
theorem hr_Q_in {w h n c p : Nat} {heat price : Int} {ml : hr_M} {wm : Nat → Int} {b : Int} {W0 C0 : Nat → Int} (n5 : n ≤ 5) (hp : p < n) {A : Nat → Int} (fm : Int) (hi : inC c ((hr_Q (w : Int) (h : Int) b n heat price ml wm W0 C0 A fm).1 (p + 18))) : inC c (A (p + 18)) := by
  unfold hr_Q hr_D at hi
  have h1 := hr_q_in n5 hp 9 0 _ _ _ _ (by decide) hi
  rw [hr_d_hi (by omega) (by omega) 9 _ _ (by decide), (hr_g_w (wm := wm) (price := price) n 0 W0 C0 A (by omega)).2 (p + 18) (by omega)] at h1
  exact h1
/-- all rooms, as bits -/
def rB (w h : Nat) : Int := s_bt (fun k => decide (¬ u_hs (w : Int) (h : Int) (k : Int) = 0)) 9 0 0
theorem rB_ok {w h : Nat} : ∀ r : Nat, r < 9 → (z_and (z_shr (rB w h) (r : Int)) 1 = 0 ↔ u_hs (w : Int) (h : Int) (r : Int) = 0) := fun r hr => by
  rw [zb_test hr]
  unfold rB
  rw [zb_bt (by omega) 9 0 0 (by decide), zb_0, Bool.false_or, decide_eq_true (show 0 ≤ r ∧ r < 0 + 9 by omega), Bool.true_and]
  constructor
  · intro z
    exact Decidable.byContradiction fun y => of_decide_eq_false z y
  · intro z
    exact decide_eq_false (not_not_intro z)
theorem ag_up {c n : Nat} {A B : Nat → Int} (hA : ag c n A B) {x y : Int} (hxy : x = y) (n5 : n ≤ 5) : ag c n (u_up A 35 x) (u_up B 35 y) := by
  refine ⟨fun r h1 h2 => ?_, fun p hp r h1 h2 => ?_, fun r h1 h2 => ?_, ?_, ?_⟩
  · rw [u_up_ne (by omega), u_up_ne (by omega), u_up_ne (by omega), u_up_ne (by omega)]
    exact hA.1 r h1 h2
  · rw [u_up_ne (by omega), u_up_ne (by omega)]
    exact hA.2.1 p hp r h1 h2
  · rw [u_up_ne (by decide), u_up_ne (by decide)]
    exact hA.2.2.1 r h1 h2
  · rw [u_up_self, u_up_self, hxy]
  · rw [u_up_ne (by decide), u_up_ne (by decide)]
    exact hA.2.2.2.2
/-- an HOUR in all rooms, and one in those of a column at least -/
theorem ag_B {w h n c : Nat} {heat price : Int} {ml : hr_M} {wm wm' : Nat → Int} {b : Int} {W0 C0 : Nat → Int} (hw : w ≤ 3) (hh : h ≤ 3) (n5 : n ≤ 5) (bwm : ∀ p, p < 5 → 0 ≤ wm p ∧ wm p ≤ 9) (hheat : 0 ≤ heat ∧ heat ≤ 9) (hml : hr_mlok ml) {A B : Nat → Int} (hok : hr_ok n A) (b2 : ∀ k, k < 9 → W0 k = 0 ∧ C0 k = 0) (hb : ∀ r : Nat, r < 9 → r % 3 = c → (z_and (z_shr b (r : Int)) 1 = 0 ↔ u_hs (w : Int) (h : Int) (r : Int) = 0)) (fm : Int) (hA : ag c n A B) (hwm : ∀ p, p < n → inC c (A (p + 18)) → wm p = wm' p) : ag c n (hr_A w h heat price ml wm n A) (u_up (hr_Q (w : Int) (h : Int) b n heat price ml wm' W0 C0 B fm).1 35 (z_add ((hr_Q (w : Int) (h : Int) b n heat price ml wm' W0 C0 B fm).1 35) 1)) := by
  have e := hr_A_Q (price := price) hw hh n5 bwm hheat hml hok (W0 := fun _ => 0) (C0 := fun _ => 0) (fun _ _ => ⟨rfl, rfl⟩) (rB_ok (w := w) (h := h))
  have q := ag_Q (w := w) (h := h) (heat := heat) (price := price) (ml := ml) (b := rB w h) (b' := b) n5 (W0 := fun _ => 0) (C0 := fun _ => 0) (fun _ _ => ⟨rfl, rfl⟩) b2 (fun r h1 h2 => (rB_ok r h1).trans (hb r h1 h2).symm) 0 fm hA hwm
  unfold hr_A
  rw [e] at q
  exact ag_up q (by rw [q.2.2.2.1]) n5
theorem ag_A {w h n c : Nat} {heat price : Int} {ml : hr_M} {wm wm' : Nat → Int} (hw : w ≤ 3) (hh : h ≤ 3) (n5 : n ≤ 5) (bwm : ∀ p, p < 5 → 0 ≤ wm p ∧ wm p ≤ 9) (bwm' : ∀ p, p < 5 → 0 ≤ wm' p ∧ wm' p ≤ 9) (hheat : 0 ≤ heat ∧ heat ≤ 9) (hml : hr_mlok ml) {A B : Nat → Int} (hok : hr_ok n A) (hok' : hr_ok n B) (hA : ag c n A B) (hwm : ∀ p, p < n → inC c (A (p + 18)) → wm p = wm' p) : ag c n (hr_A w h heat price ml wm n A) (hr_A w h heat price ml wm' n B) := by
  have q := ag_B (price := price) (b := rB w h) (W0 := fun _ => 0) (C0 := fun _ => 0) hw hh n5 bwm hheat hml hok (fun _ _ => ⟨rfl, rfl⟩) (fun r h1 _ => rB_ok r h1) 0 hA hwm
  rw [hr_A_Q (price := price) hw hh n5 bwm' hheat hml hok' (fun _ _ => ⟨rfl, rfl⟩) (rB_ok (w := w) (h := h))] at q
  exact q
theorem hr_A_in {w h n c p : Nat} {heat price : Int} {ml : hr_M} {wm : Nat → Int} (hw : w ≤ 3) (hh : h ≤ 3) (n5 : n ≤ 5) (bwm : ∀ p, p < 5 → 0 ≤ wm p ∧ wm p ≤ 9) (hheat : 0 ≤ heat ∧ heat ≤ 9) (hml : hr_mlok ml) {A : Nat → Int} (hok : hr_ok n A) (hp : p < n) (hi : inC c (hr_A w h heat price ml wm n A (p + 18))) : inC c (A (p + 18)) := by
  have e := hr_A_Q (price := price) hw hh n5 bwm hheat hml hok (W0 := fun _ => 0) (C0 := fun _ => 0) (fun _ _ => ⟨rfl, rfl⟩) (rB_ok (w := w) (h := h))
  unfold hr_A at hi
  rw [u_up_ne (by omega), ← e] at hi
  exact hr_Q_in n5 hp 0 hi
/-! which floors give -/
def s_vio (w h : Nat) (F : Nat → Bool) (c : Nat) (A : Nat → Int) : Bool := (List.range 9).any (fun r => decide (r % 3 = c) && (decide (¬ u_hs (w : Int) (h : Int) (r : Int) = 0) && (decide (A r = 0) && F r)))
theorem s_vio_iff {w h : Nat} {F : Nat → Bool} {c : Nat} {A : Nat → Int} : s_vio w h F c A = true ↔ ∃ r : Nat, r < 9 ∧ r % 3 = c ∧ (¬ u_hs (w : Int) (h : Int) (r : Int) = 0) ∧ A r = 0 ∧ F r = true := by
  unfold s_vio
  rw [List.any_eq_true]
  constructor
  · rintro ⟨r, h1, h2⟩
    obtain ⟨a1, h2⟩ := Bool.and_eq_true _ _ |>.mp h2
    obtain ⟨a2, h2⟩ := Bool.and_eq_true _ _ |>.mp h2
    obtain ⟨a3, a4⟩ := Bool.and_eq_true _ _ |>.mp h2
    exact ⟨r, List.mem_range.mp h1, of_decide_eq_true a1, of_decide_eq_true a2, of_decide_eq_true a3, a4⟩
  · rintro ⟨r, h1, h2, h3, h4, h5⟩
    refine ⟨r, List.mem_range.mpr h1, ?_⟩
    rw [decide_eq_true h2, decide_eq_true h3, decide_eq_true h4, h5]
    rfl
theorem s_vio_cg {w h : Nat} {F F' : Nat → Bool} {c n : Nat} {A B : Nat → Int} (hF : ∀ r : Nat, r < 9 → r % 3 = c → (¬ u_hs (w : Int) (h : Int) (r : Int) = 0) → F r = F' r) (hA : ag c n A B) : s_vio w h F c A = s_vio w h F' c B := by
  have key : ∀ {F F' : Nat → Bool} {A B : Nat → Int}, (∀ r : Nat, r < 9 → r % 3 = c → (¬ u_hs (w : Int) (h : Int) (r : Int) = 0) → F r = F' r) → ag c n A B → s_vio w h F c A = true → s_vio w h F' c B = true := fun hF hA z => by
    obtain ⟨r, h1, h2, h3, h4, h5⟩ := s_vio_iff.mp z
    exact s_vio_iff.mpr ⟨r, h1, h2, h3, by rw [← (hA.1 r h1 h2).1]; exact h4, by rw [← hF r h1 h2 h3]; exact h5⟩
  cases h1 : s_vio w h F c A <;> cases h2 : s_vio w h F' c B
  · rfl
  · have := key (fun r a b d => (hF r a b d).symm) (ag_sy hA) h2
    rw [h1] at this
    cases this
  · have := key hF hA h1
    rw [h2] at this
    cases this
  · rfl
def s_fl (A : Nat → Int) (r : Nat) : Bool := decide (0 < A r)
theorem s_vio_all {w h : Nat} {A B : Nat → Int} : z_and (s_G w h B) (s_F w h A) = 0 ↔ s_vio w h (s_fl A) 0 B = false ∧ s_vio w h (s_fl A) 1 B = false ∧ s_vio w h (s_fl A) 2 B = false := by
  unfold s_G s_F
  rw [bt_and]
  constructor
  · intro z
    have no : ∀ c, s_vio w h (s_fl A) c B = false := fun c => by
      cases e : s_vio w h (s_fl A) c B
      · rfl
      · obtain ⟨r, h1, h2, h3, h4, h5⟩ := s_vio_iff.mp e
        exact absurd ⟨decide_eq_true ⟨h3, h4⟩, decide_eq_true ⟨h3, of_decide_eq_true h5⟩⟩ (z r h1)
    exact ⟨no 0, no 1, no 2⟩
  · intro ⟨z0, z1, z2⟩ k hk ⟨p1, p2⟩
    obtain ⟨a1, a2⟩ := of_decide_eq_true p1
    obtain ⟨b1, b2⟩ := of_decide_eq_true p2
    have y : s_vio w h (s_fl A) (k % 3) B = true := s_vio_iff.mpr ⟨k, hk, rfl, a1, a2, decide_eq_true b2⟩
    rcases (show k % 3 = 0 ∨ k % 3 = 1 ∨ k % 3 = 2 by omega) with e | e | e
    · rw [e, z0] at y
      cases y
    · rw [e, z1] at y
      cases y
    · rw [e, z2] at y
      cases y
/-- for how many hours a column stands -/
def s_stc (w h n : Nat) (heat price : Int) (cs : List Int) (D : Nat → Int) (F : Nat → Bool) (c N : Nat) : Nat → Nat → (Nat → Int) → Int
  | 0, _, _ => (N : Int)
  | f + 1, x, B => if s_vio w h F c (hr_A w h heat price (c_ml cs) (wmD D (B 35)) n B) = true then (x : Int) else s_stc w h n heat price cs D F c N f (x + 1) (hr_A w h heat price (c_ml cs) (wmD D (B 35)) n B)
theorem s_stc_x {w h n : Nat} {heat price : Int} {cs : List Int} {D : Nat → Int} {F : Nat → Bool} {c N : Nat} : ∀ (f x : Nat) (B : Nat → Int), x + f = N → (x : Int) ≤ s_stc w h n heat price cs D F c N f x B ∧ s_stc w h n heat price cs D F c N f x B ≤ (N : Int) := by
  intro f
  induction f with
  | zero => intro x B hx; exact ⟨by show (x : Int) ≤ (N : Int); omega, Int.le_refl _⟩
  | succ f ih =>
    intro x B hx
    unfold s_stc
    by_cases c1 : s_vio w h F c (hr_A w h heat price (c_ml cs) (wmD D (B 35)) n B) = true
    · rw [if_pos c1]
      omega
    · rw [if_neg c1]
      have := ih (x + 1) (hr_A w h heat price (c_ml cs) (wmD D (B 35)) n B) (by omega)
      omega
def i_mn (a b : Int) : Int := if b < a then b else a
/-- it stands as long as the least of its columns -/
theorem s_sta_min {w h n : Nat} {heat price : Int} {cs : List Int} {D A : Nat → Int} {N : Nat} : ∀ (f x : Nat) (B : Nat → Int), x + f = N → s_sta w h n heat price cs D (s_F w h A) N f x B = i_mn (i_mn (s_stc w h n heat price cs D (s_fl A) 0 N f x B) (s_stc w h n heat price cs D (s_fl A) 1 N f x B)) (s_stc w h n heat price cs D (s_fl A) 2 N f x B) := by
  intro f
  induction f with
  | zero =>
    intro x B hx
    show (N : Int) = i_mn (i_mn (N : Int) (N : Int)) (N : Int)
    unfold i_mn
    rw [if_neg (by omega), if_neg (by omega)]
  | succ f ih =>
    intro x B hx
    unfold s_sta s_stc
    have e := s_vio_all (w := w) (h := h) (A := A) (B := hr_A w h heat price (c_ml cs) (wmD D (B 35)) n B)
    have lo : ∀ c, (x : Int) + 1 ≤ s_stc w h n heat price cs D (s_fl A) c N f (x + 1) (hr_A w h heat price (c_ml cs) (wmD D (B 35)) n B) := fun c => by
      have := (s_stc_x (w := w) (h := h) (n := n) (heat := heat) (price := price) (cs := cs) (D := D) (F := s_fl A) (c := c) (N := N) f (x + 1) (hr_A w h heat price (c_ml cs) (wmD D (B 35)) n B) (by omega)).1
      omega
    by_cases z : z_and (s_G w h (hr_A w h heat price (c_ml cs) (wmD D (B 35)) n B)) (s_F w h A) = 0
    · obtain ⟨z0, z1, z2⟩ := e.mp z
      rw [if_pos z, z0, z1, z2, if_neg Bool.false_ne_true, if_neg Bool.false_ne_true, if_neg Bool.false_ne_true]
      exact ih (x + 1) _ (by omega)
    · rw [if_neg z]
      have l0 := lo 0
      have l1 := lo 1
      have l2 := lo 2
      cases z0 : s_vio w h (s_fl A) 0 (hr_A w h heat price (c_ml cs) (wmD D (B 35)) n B) <;> cases z1 : s_vio w h (s_fl A) 1 (hr_A w h heat price (c_ml cs) (wmD D (B 35)) n B) <;> cases z2 : s_vio w h (s_fl A) 2 (hr_A w h heat price (c_ml cs) (wmD D (B 35)) n B)
      · exact absurd (e.mpr ⟨z0, z1, z2⟩) z
      all_goals
        simp only [if_pos, if_neg, Bool.false_eq_true, if_false, if_true]
        unfold i_mn
        (repeat' split) <;> omega
theorem s_stc_ag {w h n c : Nat} {heat price : Int} {cs : List Int} {D D' : Nat → Int} {F F' : Nat → Bool} {N : Nat} (hN : w_N w h n heat D) (hN' : w_N w h n heat D') (hF : ∀ r : Nat, r < 9 → r % 3 = c → (¬ u_hs (w : Int) (h : Int) (r : Int) = 0) → F r = F' r) : ∀ (f x : Nat) (A B : Nat → Int), ag c n A B → hr_ok n A → hr_ok n B → 0 ≤ A 35 → A 35 + (f : Int) ≤ 2147483647 → (∀ p, p < n → inC c (A (p + 18)) → ∀ k : Nat, k < f → wmD D (A 35 + (k : Int)) p = wmD D' (A 35 + (k : Int)) p) → s_stc w h n heat price cs D F c N f x A = s_stc w h n heat price cs D' F' c N f x B := by
  intro f
  induction f with
  | zero => intro x A B hA h1 h2 ht ht2 hw; rfl
  | succ f ih =>
    intro x A B hA h1 h2 ht ht2 hw
    have e35 : A 35 = B 35 := hA.2.2.2.1
    have hwm : ∀ p, p < n → inC c (A (p + 18)) → wmD D (A 35) p = wmD D' (A 35) p := fun p hp hi => by
      have := hw p hp hi 0 (by omega)
      rw [show A 35 + ((0 : Nat) : Int) = A 35 by omega] at this
      exact this
    have a := ag_A (price := price) hN.1.1 hN.1.2.1 hN.1.2.2 (hN.2.2 (A 35) ht) (hN'.2.2 (A 35) ht) hN.2.1 (c_ml_ok cs) h1 h2 hA hwm
    unfold s_stc
    rw [← e35, s_vio_cg hF a]
    by_cases z : s_vio w h F' c (hr_A w h heat price (c_ml cs) (wmD D' (A 35)) n B) = true
    · rw [if_pos z, if_pos z]
    · rw [if_neg z, if_neg z]
      have t35 : hr_A w h heat price (c_ml cs) (wmD D (A 35)) n A 35 = A 35 + 1 := by rw [hr_A_35 hN.1.1 hN.1.2.1 hN.1.2.2, z_add_eq (by omega) (by omega)]
      refine ih (x + 1) _ _ a (hr_A_ok (price := price) hN.1.1 hN.1.2.1 hN.1.2.2 hN.2.1 (c_ml_ok cs) (hN.2.2 (A 35) ht) h1) (hr_A_ok (price := price) hN.1.1 hN.1.2.1 hN.1.2.2 hN.2.1 (c_ml_ok cs) (hN'.2.2 (A 35) ht) h2) (by omega) (by omega) (fun p hp hi k hk => ?_)
      have := hw p hp (hr_A_in (price := price) hN.1.1 hN.1.2.1 hN.1.2.2 (hN.2.2 (A 35) ht) hN.2.1 (c_ml_ok cs) h1 hp hi) (k + 1) (by omega)
      rw [t35, show A 35 + 1 + (k : Int) = A 35 + ((k + 1 : Nat) : Int) by omega]
      exact this
/-! as the class goes through one column -/
theorem sc_floC {w h n s : Nat} {m : z_M} {B : Nat → Int} (hs : z_st s) (h8 : m 3 8 = (w : Int)) (h9 : m 3 9 = (h : Int)) (hB : cS m s n = B) : ∀ (f x : Nat) (b : Int), x + f = 9 → z_R 92 (m, 4, [(2, 3), (2, ((s : Nat) : Int)), (0, b), (0, (x : Int))], []) = some (m, some (0, s_bt (fun k => decide (¬ u_hs (w : Int) (h : Int) (k : Int) = 0 ∧ 0 < B k)) f x b)) := by
  intro f
  induction f with
  | zero =>
    intro x b hx
    rw [sc_flo_4 hs, if_pos (by omega)]
    rfl
  | succ f ih =>
    intro x b hx
    have eB : m (s + 1) x = B x := by
      rw [← hB]
      exact (cS_at1 (s := s) (by omega)).symm
    rw [sc_flo_4 hs, if_neg (show ¬ (9 : Int) ≤ (x : Int) by omega), h8, h9, z_add_eq (x := (x : Int)) (y := 1) (by omega) (by omega), tc1, Int.toNat_natCast, eB]
    unfold s_bt
    by_cases c1 : u_hs (w : Int) (h : Int) (x : Int) = 0
    · rw [if_neg (not_not_intro c1), if_neg (fun z => (of_decide_eq_true z).1 c1)]
      exact ih (x + 1) b (by omega)
    · rw [if_pos c1]
      by_cases c2 : B x ≤ 0
      · rw [if_pos c2, if_neg (fun z => by have := (of_decide_eq_true z).2; omega)]
        exact ih (x + 1) b (by omega)
      · rw [if_neg c2, if_pos (decide_eq_true ⟨c1, by omega⟩)]
        exact ih (x + 1) _ (by omega)
/-- the rooms of a column, as bits -/
theorem rc_bits {R : Int} {c r : Nat} (hc : c < 3) (hr : r < 9) : z_and (z_shr (z_and R (z_shl 73 (c : Int))) (r : Int)) 1 = 0 ↔ (z_and (z_shr R (r : Int)) 1 = 0 ∨ ¬ r % 3 = c) := by
  have e : zb (z_shl 73 (c : Int)) r = decide (r % 3 = c) := by
    have : ∀ c, c < 3 → ∀ r, r < 9 → zb (z_shl 73 ((c : Nat) : Int)) r = decide (r % 3 = c) := by decide +kernel
    exact this c hc r hr
  rw [zb_test hr, zb_test hr, zb_and, e]
  cases zb R r
  · exact ⟨fun _ => Or.inl rfl, fun _ => rfl⟩
  · rw [Bool.true_and]
    exact ⟨fun z => Or.inr (of_decide_eq_false z), fun z => decide_eq_false (z.resolve_left (by decide))⟩
theorem sc_st1 {w h n s c : Nat} {heat price : Int} {cs : List Int} {D D' : Nat → Int} {F : Nat → Bool} {N : Nat} (hs : z_st s) (hc3 : c < 3) (hN6 : N ≤ 1000) (hN : w_N w h n heat D) {R Rc x4 : Int} (hR : ∀ r : Nat, r < 9 → (z_and (z_shr R (r : Int)) 1 = 0 ↔ u_hs (w : Int) (h : Int) (r : Int) = 0)) (hRc : Rc = z_and R (z_shl 73 (c : Int))) (hx4 : ∀ r : Nat, r < 9 → zb x4 r = ((decide (¬ u_hs (w : Int) (h : Int) (r : Int) = 0) && F r) && zb Rc r)) : ∀ (f x : Nat) (m : z_M) (A B : Nat → Int), x + f = N → c_cfg w h n heat price (c_ml cs) (wmD D') m → cS m s n = B → ag c n A B → hr_ok n A → 0 ≤ A 35 → A 35 + (f : Int) ≤ 2147483647 → (∀ p, p < n → inC c (A (p + 18)) → ∀ k : Nat, k < f → wmD D (A 35 + (k : Int)) p = wmD D' (A 35 + (k : Int)) p) → ∃ m1, z_R 97 (m, 15, [(2, 24), (2, ((s : Nat) : Int)), (0, (N : Int)), (0, Rc), (0, x4), (0, (x : Int))], []) = some (m1, some (0, s_stc w h n heat price cs D F c N f x A)) ∧ z_same (c_LH s) m m1 := by
  have n5 := hN.1.2.2
  have hbc : ∀ r : Nat, r < 9 → r % 3 = c → (z_and (z_shr Rc (r : Int)) 1 = 0 ↔ u_hs (w : Int) (h : Int) (r : Int) = 0) := fun r h1 h2 => by
    rw [hRc, rc_bits hc3 h1, hR r h1]
    exact ⟨fun z => z.resolve_right (not_not_intro h2), Or.inl⟩
  intro f
  induction f with
  | zero =>
    intro x m A B hx hcf hB hA hok ht ht2 hw
    rw [sc_st3_15 hs, if_pos (by omega)]
    exact ⟨m, rfl, z_same.rf⟩
  | succ f ih =>
    intro x m A B hx hcf hB hA hok ht ht2 hw
    have hcf' := hcf
    obtain ⟨a1, a2, a3, a4, a5, a6, a7, a8⟩ := hcf
    have e35 : A 35 = B 35 := hA.2.2.2.1
    have hwm : ∀ p, p < n → inC c (A (p + 18)) → wmD D (A 35) p = wmD D' (A 35) p := fun p hp hi => by
      have := hw p hp hi 0 (by omega)
      rw [show A 35 + ((0 : Nat) : Int) = A 35 by omega] at this
      exact this
    have em : m s 7 = A 35 := by rw [e35, ← hB]; exact cS_nowv.symm
    obtain ⟨m1, W0, C0, b1, b2, b3, b4, b5, b6, b7, b8, b9, b10⟩ := c_pass hs n5 (ml := c_ml cs) (wm := wmD D' (A 35)) (b := Rc) (w := (w : Int)) (h := (h : Int)) ht (by omega) m a3 a5 a4 em (a6 (A 35) ht) a1 a2 a7
    rw [hB] at b3 b8
    have hA1 := ag_B (price := price) hN.1.1 hN.1.2.1 n5 (hN.2.2 (A 35) ht) hN.2.1 (c_ml_ok cs) hok b2 hbc (m 24 9) hA hwm
    have hgb := hr_q_gb (w := w) (h := h) (n := n) (b := Rc) n5 9 0 (hr_D (w : Int) (h : Int) Rc n heat price (c_ml cs) (wmD D' (A 35)) W0 C0 B 0).1 0 0 (m 24 9) (by decide)
    have hfin : ∀ r : Nat, r < 9 → ¬ z_and (z_shr Rc (r : Int)) 1 = 0 → hr_f r (hr_D (w : Int) (h : Int) Rc n heat price (c_ml cs) (wmD D' (A 35)) W0 C0 B 0).1 r = hr_A w h heat price (c_ml cs) (wmD D (A 35)) n A r := fun r hr hz => by
      have e := hgb.2.1 r (Nat.zero_le r) hr
      rw [if_neg hz] at e
      have hrc : r % 3 = c := Decidable.byContradiction fun y => hz (by rw [hRc]; exact (rc_bits hc3 hr).mpr (Or.inr y))
      have g := (hA1.1 r hr hrc).1
      rw [u_up_ne (show ¬ r = 35 by omega)] at g
      rw [g, ← e]
      rfl
    have ev : z_and (m1 24 10) x4 = 0 ↔ s_vio w h F c (hr_A w h heat price (c_ml cs) (wmD D (A 35)) n A) = false := by
      have e10 : m1 24 10 = s_bt (fun k => decide (¬ z_and (z_shr Rc (k : Int)) 1 = 0 ∧ hr_f k (hr_D (w : Int) (h : Int) Rc n heat price (c_ml cs) (wmD D' (A 35)) W0 C0 B 0).1 k = 0)) 9 0 0 := b8.trans hgb.1
      rw [e10, z_and_0]
      have zbk : ∀ k, k < 32 → zb (s_bt (fun k => decide (¬ z_and (z_shr Rc (k : Int)) 1 = 0 ∧ hr_f k (hr_D (w : Int) (h : Int) Rc n heat price (c_ml cs) (wmD D' (A 35)) W0 C0 B 0).1 k = 0)) 9 0 0) k = (decide (0 ≤ k ∧ k < 0 + 9) && decide (¬ z_and (z_shr Rc (k : Int)) 1 = 0 ∧ hr_f k (hr_D (w : Int) (h : Int) Rc n heat price (c_ml cs) (wmD D' (A 35)) W0 C0 B 0).1 k = 0)) := fun k hk => by
        rw [zb_bt hk 9 0 0 (by decide), zb_0, Bool.false_or]
      constructor
      · intro z
        cases e : s_vio w h F c (hr_A w h heat price (c_ml cs) (wmD D (A 35)) n A)
        · rfl
        · obtain ⟨r, h1, h2, h3, h4, h5⟩ := s_vio_iff.mp e
          have hz : ¬ z_and (z_shr Rc (r : Int)) 1 = 0 := fun y => h3 ((hbc r h1 h2).mp y)
          refine absurd ⟨?_, ?_⟩ (z r (by omega))
          · rw [zbk r (by omega), decide_eq_true (show 0 ≤ r ∧ r < 0 + 9 by omega), Bool.true_and]
            exact decide_eq_true ⟨hz, by rw [hfin r h1 hz]; exact h4⟩
          · rw [hx4 r h1, decide_eq_true h3, h5, Bool.and_self, Bool.true_and]
            cases y : zb Rc r
            · exact absurd ((zb_test h1).mpr y) hz
            · rfl
      · intro z k hk ⟨p1, p2⟩
        rw [zbk k hk] at p1
        obtain ⟨q1, q2⟩ := Bool.and_eq_true _ _ |>.mp p1
        have q1 := of_decide_eq_true q1
        obtain ⟨q2, q3⟩ := of_decide_eq_true q2
        have hk9 : k < 9 := by omega
        rw [hx4 k hk9] at p2
        obtain ⟨r1, -⟩ := Bool.and_eq_true _ _ |>.mp p2
        obtain ⟨r1, r2⟩ := Bool.and_eq_true _ _ |>.mp r1
        have hkc : k % 3 = c := Decidable.byContradiction fun y => q2 (by rw [hRc]; exact (rc_bits hc3 hk9).mpr (Or.inr y))
        have : s_vio w h F c (hr_A w h heat price (c_ml cs) (wmD D (A 35)) n A) = true := s_vio_iff.mpr ⟨k, hk9, hkc, of_decide_eq_true r1, by rw [← hfin k hk9 q2]; exact q3, r2⟩
        rw [z] at this
        cases this
    rw [sc_st3_15 hs, if_neg (by omega), b1, zb_n, sc_st3_27 hs, z_add_eq (x := (x : Int)) (y := 1) (by omega) (by omega), tc1]
    unfold s_stc
    by_cases z : z_and (m1 24 10) x4 = 0
    · rw [if_pos z, ev.mp z, if_neg Bool.false_ne_true]
      have t35 : hr_A w h heat price (c_ml cs) (wmD D (A 35)) n A 35 = A 35 + 1 := by rw [hr_A_35 hN.1.1 hN.1.2.1 n5, z_add_eq (by omega) (by omega)]
      obtain ⟨m2, d1, d2⟩ := ih (x + 1) m1 (hr_A w h heat price (c_ml cs) (wmD D (A 35)) n A) _ (by omega) (c_cfg_LH hs hcf' b10) b3 hA1 (hr_A_ok (price := price) hN.1.1 hN.1.2.1 n5 hN.2.1 (c_ml_ok cs) (hN.2.2 (A 35) ht) hok) (by omega) (by omega) (fun p hp hi k hk => by
        have := hw p hp (hr_A_in (price := price) hN.1.1 hN.1.2.1 n5 (hN.2.2 (A 35) ht) hN.2.1 (c_ml_ok cs) hok hp hi) (k + 1) (by omega)
        rw [t35, show A 35 + 1 + (k : Int) = A 35 + ((k + 1 : Nat) : Int) by omega]
        exact this)
      exact ⟨m2, d1, b10.tr d2⟩
    · have zt : s_vio w h F c (hr_A w h heat price (c_ml cs) (wmD D (A 35)) n A) = true := by
        cases e : s_vio w h F c (hr_A w h heat price (c_ml cs) (wmD D (A 35)) n A)
        · exact absurd (ev.mpr e) z
        · rfl
      rw [if_neg z, if_pos zt]
      exact ⟨m1, rfl, b10⟩
/-- standing of a column's floors, from the State at s on -/
theorem sc_st {w h n s c : Nat} {heat price : Int} {cs : List Int} {D D' : Nat → Int} {N : Nat} (hs : z_st s) (hc3 : c < 3) (hN6 : N ≤ 1000) (hN : w_N w h n heat D) {m : z_M} {A B : Nat → Int} (hcf : c_cfg w h n heat price (c_ml cs) (wmD D') m) (hB : cS m s n = B) (hA : ag c n A B) (hok : hr_ok n A) (ht : 0 ≤ A 35) (ht2 : A 35 + (N : Int) ≤ 2147483647) (hw : ∀ p, p < n → inC c (A (p + 18)) → ∀ k : Nat, k < N → wmD D (A 35 + (k : Int)) p = wmD D' (A 35 + (k : Int)) p) : ∃ m1, z_R 97 (m, 0, [(2, 24), (2, ((s : Nat) : Int)), (0, (N : Int)), (0, z_and (m 3 10) (z_shl 73 (c : Int))), (9, 0), (9, 0)], []) = some (m1, some (0, s_stc w h n heat price cs D (s_fl A) c N N 0 A)) ∧ z_same (c_LH s) m m1 := by
  have e := sc_floC (n := n) hs hcf.1 hcf.2.1 hB 9 0 0 (by decide)
  have e : z_R 92 (m, 4, [(2, 3), (2, ((s : Nat) : Int)), (0, 0), (0, 0)], []) = some (m, some (0, s_F w h B)) := e
  obtain ⟨m1, a1, a2⟩ := sc_st1 (F := s_fl A) (x4 := z_and (s_F w h B) (z_and (m 3 10) (z_shl 73 (c : Int)))) hs hc3 hN6 hN hcf.2.2.2.2.2.2.2 rfl (fun r hr => by
    rw [zb_and]
    by_cases hrc : r % 3 = c
    · congr 1
      have eA : A r = B r := (hA.1 r hr hrc).1
      unfold s_F s_fl
      rw [zb_bt (by omega) 9 0 0 (by decide), zb_0, Bool.false_or, decide_eq_true (show 0 ≤ r ∧ r < 0 + 9 by omega), Bool.true_and, eA]
      by_cases z1 : u_hs (w : Int) (h : Int) (r : Int) = 0
      · rw [decide_eq_false (fun y => y.1 z1), decide_eq_false (not_not_intro z1), Bool.false_and]
      · rw [decide_eq_true z1, Bool.true_and]
        exact decide_eq_decide.mpr ⟨fun y => y.2, fun y => ⟨z1, y⟩⟩
    · have z : zb (z_and (m 3 10) (z_shl 73 (c : Int))) r = false := (zb_test hr).mp ((rc_bits hc3 hr).mpr (Or.inr hrc))
      rw [z, Bool.and_false, Bool.and_false]) N 0 m A B (by omega) hcf hB hA hok ht ht2 hw
  have a1 : z_R 97 (m, 15, [(2, 24), (2, ((s : Nat) : Int)), (0, (N : Int)), (0, z_and (m 3 10) (z_shl 73 (c : Int))), (0, z_and (s_F w h B) (z_and (m 3 10) (z_shl 73 (c : Int)))), (0, 0)], []) = some (m1, some (0, s_stc w h n heat price cs D (s_fl A) c N N 0 A)) := a1
  rw [sc_st3_0 hs, sc_flo_0 hs, e, zb_v, sc_st3_8 hs, a1]
  exact ⟨m1, rfl, a2⟩
end
section
/-! STRETCHES of quiet, with bounds done -/
theorem qt_qui_0  (m : z_M) (n : Int) : z_R 110 (m, 0, [(2, 0), (0, n), (9, 0)], []) = if n < 1 then some (m, some (0, (-1))) else if n ≤ 40 then (z_R 111 (m, 0, [(2, 140), (2, 12), (0, n), (9, 0), (9, 0), (9, 0), (9, 0)], [])).bind fun qq => z_R 110 (qq.1, 25, [(2, 0), (0, n), (9, 0)], qq.2.toList ++ []) else some (m, some (0, (-1))) :=
  have hK : kt_at 110 = kt_110 := rfl
  (z_R_run hK (n := 2) (g' := (m, 2, [(2, 0), (0, n), (9, 0)], [(0, 1), (0, n)])) rfl).trans (z_R_ifd hK (c := n < 1) (p1 := 11) (p2 := 5) rfl rfl rfl (fun h1 => (z_R_run hK (n := 1) (g' := (m, 12, [(2, 0), (0, n), (9, 0)], [(0, (-1))])) rfl).trans (z_R_ret hK rfl rfl rfl)) (fun h1 => (z_R_run hK (n := 2) (g' := (m, 8, [(2, 0), (0, n), (9, 0)], [(0, 40), (0, n)])) rfl).trans (z_R_ifd hK (c := n ≤ 40) (p1 := 13) (p2 := 11) rfl rfl rfl (fun h2 => (z_R_run hK (n := 2) (g' := (m, 17, [(2, 0), (0, n), (9, 0)], [(2, 140)])) rfl).trans ((z_R_run hK (n := 2) (g' := (m, 21, [(2, 0), (0, n), (9, 0)], [(2, 12), (2, 140)])) rfl).trans ((z_R_run hK (n := 1) (g' := (m, 22, [(2, 0), (0, n), (9, 0)], [(0, n), (2, 12), (2, 140)])) rfl).trans (z_R_call hK rfl rfl rfl rfl rfl)))) (fun h2 => (z_R_run hK (n := 1) (g' := (m, 12, [(2, 0), (0, n), (9, 0)], [(0, (-1))])) rfl).trans (z_R_ret hK rfl rfl rfl)))))
theorem qt_qui_25  (m : z_M) (x1 : Int) (u : Int) : z_R 110 (m, 25, [(2, 0), (0, x1), (9, 0)], [(0, u)]) = if u = 0 then some (m, some (0, (-2))) else (z_R 78 (m, 0, [(2, 0)], [])).bind fun qq => z_R 110 (qq.1, 35, [(2, 0), (0, x1), (9, 0)], qq.2.toList ++ []) :=
  have hK : kt_at 110 = kt_110 := rfl
  z_R_ifnd hK (c := u = 0) (p1 := 31) (p2 := 28) rfl rfl rfl (fun h1 => (z_R_run hK (n := 1) (g' := (m, 32, [(2, 0), (0, x1), (9, 0)], [(2, 0)])) rfl).trans (z_R_call hK rfl rfl rfl rfl rfl)) (fun h1 => (z_R_run hK (n := 1) (g' := (m, 30, [(2, 0), (0, x1), (9, 0)], [(0, (-2))])) rfl).trans (z_R_ret hK rfl rfl rfl))
theorem qt_qui_35  (m : z_M) (x1 : Int) : z_R 110 (m, 35, [(2, 0), (0, x1), (9, 0)], []) = z_R 110 (m, 37, [(2, 0), (0, x1), (0, 0)], []) :=
  have hK : kt_at 110 = kt_110 := rfl
  (z_R_run hK (n := 2) (g' := (m, 37, [(2, 0), (0, x1), (0, 0)], [])) rfl).trans (rfl)
theorem qt_qui_37  (m : z_M) (x1 : Int) (x2 : Int) : z_R 110 (m, 37, [(2, 0), (0, x1), (0, x2)], []) = if 30 ≤ x2 then (z_R 101 (m, 0, [(0, m 140 5)], [])).bind fun qq => z_R 110 (qq.1, 79, [(2, 0), (0, x1), (0, x2)], qq.2.toList ++ []) else if z_and (z_shr (m 140 5) x2) 1 = 0 then z_R 110 (m, 37, [(2, 0), (0, x1), (0, z_add x2 1)], []) else (z_R 79 (m, 0, [(2, 0), (1, z_i2l x2), (9, 0)], [])).bind fun qq => z_R 110 (qq.1, 63, [(2, 0), (0, x1), (0, x2)], qq.2.toList ++ []) :=
  have hK : kt_at 110 = kt_110 := rfl
  (z_R_run hK (n := 2) (g' := (m, 40, [(2, 0), (0, x1), (0, x2)], [(0, 30), (0, x2)])) rfl).trans (z_R_ifd hK (c := 30 ≤ x2) (p1 := 69) (p2 := 43) rfl rfl rfl (fun h1 => (z_R_run hK (n := 2) (g' := (m, 73, [(2, 0), (0, x1), (0, x2)], [(2, 140)])) rfl).trans ((z_R_run hK (n := 1) (g' := (m, 76, [(2, 0), (0, x1), (0, x2)], [(0, m 140 5)])) rfl).trans (z_R_call hK rfl rfl rfl rfl rfl))) (fun h1 => (z_R_run hK (n := 2) (g' := (m, 47, [(2, 0), (0, x1), (0, x2)], [(2, 140)])) rfl).trans ((z_R_run hK (n := 5) (g' := (m, 54, [(2, 0), (0, x1), (0, x2)], [(0, z_and (z_shr (m 140 5) x2) 1)])) rfl).trans (z_R_ifd hK (c := z_and (z_shr (m 140 5) x2) 1 = 0) (p1 := 63) (p2 := 57) rfl rfl rfl (fun h2 => (z_R_run hK (n := 2) (g' := (m, 37, [(2, 0), (0, x1), (0, z_add x2 1)], [])) rfl).trans (rfl)) (fun h2 => (z_R_run hK (n := 3) (g' := (m, 60, [(2, 0), (0, x1), (0, x2)], [(1, z_i2l x2), (2, 0)])) rfl).trans (z_R_call hK rfl rfl rfl rfl rfl))))))
theorem qt_qui_63  (m : z_M) (x1 : Int) (x2 : Int) : z_R 110 (m, 63, [(2, 0), (0, x1), (0, x2)], []) = z_R 110 (m, 37, [(2, 0), (0, x1), (0, z_add x2 1)], []) :=
  have hK : kt_at 110 = kt_110 := rfl
  (z_R_run hK (n := 2) (g' := (m, 37, [(2, 0), (0, x1), (0, z_add x2 1)], [])) rfl).trans (rfl)
theorem qt_qui_79  (m : z_M) (x1 : Int) (x2 : Int) (u : Int) : z_R 110 (m, 79, [(2, 0), (0, x1), (0, x2)], [(0, u)]) = some (m, some (0, u)) :=
  have hK : kt_at 110 = kt_110 := rfl
  z_R_ret hK rfl rfl rfl
theorem qt_sea_0  (m : z_M) (n : Int) : z_R 111 (m, 0, [(2, 140), (2, 12), (0, n), (9, 0), (9, 0), (9, 0), (9, 0)], []) = (z_R 61 (m, 0, [(2, 141), (2, 12)], [])).bind fun qq => z_R 111 (qq.1, 8, [(2, 140), (2, 12), (0, n), (9, 0), (9, 0), (9, 0), (9, 0)], qq.2.toList ++ []) :=
  have hK : kt_at 111 = kt_111 := rfl
  (z_R_run hK (n := 2) (g' := (m, 4, [(2, 140), (2, 12), (0, n), (9, 0), (9, 0), (9, 0), (9, 0)], [(2, 141)])) rfl).trans ((z_R_run hK (n := 1) (g' := (m, 5, [(2, 140), (2, 12), (0, n), (9, 0), (9, 0), (9, 0), (9, 0)], [(2, 12), (2, 141)])) rfl).trans (z_R_call hK rfl rfl rfl rfl rfl))
theorem qt_sea_8  (m : z_M) (x2 : Int) : z_R 111 (m, 8, [(2, 140), (2, 12), (0, x2), (9, 0), (9, 0), (9, 0), (9, 0)], []) = z_R 111 (z_up (z_up m 140 4 x2) 140 5 0, 23, [(2, 140), (2, 12), (0, x2), (0, 1), (0, 0), (9, 0), (9, 0)], []) :=
  have hK : kt_at 111 = kt_111 := rfl
  (z_R_run hK (n := 10) (g' := (z_up (z_up m 140 4 x2) 140 5 0, 23, [(2, 140), (2, 12), (0, x2), (0, 1), (0, 0), (9, 0), (9, 0)], [])) rfl).trans (rfl)
theorem qt_sea_23  (m : z_M) (x2 : Int) (x3 : Int) (x4 : Int) (v5 : z_V) (v6 : z_V) : z_R 111 (m, 23, [(2, 140), (2, 12), (0, x2), (0, x3), (0, x4), v5, v6], []) = if m 3 8 ≤ x4 then some (z_up m 24 5 0, some (0, x3)) else if x3 = 0 then some (z_up m 24 5 0, some (0, x3)) else (z_R 101 (m, 0, [(0, m 140 5)], [])).bind fun qq => z_R 111 (qq.1, 49, [(2, 140), (2, 12), (0, x2), (0, 0), (0, x4), v5, v6], qq.2.toList ++ [(0, 3)]) :=
  have hK : kt_at 111 = kt_111 := rfl
  (z_R_run hK (n := 3) (g' := (m, 29, [(2, 140), (2, 12), (0, x2), (0, x3), (0, x4), v5, v6], [(2, 3), (0, x4)])) rfl).trans ((z_R_run hK (n := 1) (g' := (m, 32, [(2, 140), (2, 12), (0, x2), (0, x3), (0, x4), v5, v6], [(0, m 3 8), (0, x4)])) rfl).trans (z_R_ifd hK (c := m 3 8 ≤ x4) (p1 := 88) (p2 := 35) rfl rfl rfl (fun h1 => (z_R_run hK (n := 2) (g' := (m, 92, [(2, 140), (2, 12), (0, x2), (0, x3), (0, x4), v5, v6], [(2, 24)])) rfl).trans ((z_R_run hK (n := 3) (g' := (z_up m 24 5 0, 97, [(2, 140), (2, 12), (0, x2), (0, x3), (0, x4), v5, v6], [(0, x3)])) rfl).trans (z_R_ret hK rfl rfl rfl))) (fun h1 => (z_R_run hK (n := 1) (g' := (m, 36, [(2, 140), (2, 12), (0, x2), (0, x3), (0, x4), v5, v6], [(0, x3)])) rfl).trans (z_R_ifd hK (c := x3 = 0) (p1 := 88) (p2 := 39) rfl rfl rfl (fun h2 => (z_R_run hK (n := 2) (g' := (m, 92, [(2, 140), (2, 12), (0, x2), (0, x3), (0, x4), v5, v6], [(2, 24)])) rfl).trans ((z_R_run hK (n := 3) (g' := (z_up m 24 5 0, 97, [(2, 140), (2, 12), (0, x2), (0, x3), (0, x4), v5, v6], [(0, x3)])) rfl).trans (z_R_ret hK rfl rfl rfl))) (fun h2 => (z_R_run hK (n := 5) (g' := (m, 46, [(2, 140), (2, 12), (0, x2), (0, 0), (0, x4), v5, v6], [(0, m 140 5), (0, 3)])) rfl).trans (z_R_call hK rfl rfl rfl rfl rfl))))))
theorem qt_sea_49  (m : z_M) (x2 : Int) (x3 : Int) (x4 : Int) (v5 : z_V) (v6 : z_V) (s0 : Int) (u : Int) : z_R 111 (m, 49, [(2, 140), (2, 12), (0, x2), (0, x3), (0, x4), v5, v6], [(0, u), (0, s0)]) = z_R 111 (m, 55, [(2, 140), (2, 12), (0, x2), (0, x3), (0, x4), (0, z_sub s0 u), (0, 0)], []) :=
  have hK : kt_at 111 = kt_111 := rfl
  (z_R_run hK (n := 4) (g' := (m, 55, [(2, 140), (2, 12), (0, x2), (0, x3), (0, x4), (0, z_sub s0 u), (0, 0)], [])) rfl).trans (rfl)
theorem qt_sea_55  (m : z_M) (x2 : Int) (x3 : Int) (x4 : Int) (x5 : Int) (x6 : Int) : z_R 111 (m, 55, [(2, 140), (2, 12), (0, x2), (0, x3), (0, x4), (0, x5), (0, x6)], []) = if x5 < x6 then z_R 111 (m, 23, [(2, 140), (2, 12), (0, x2), (0, x3), (0, z_add x4 1), (0, x5), (0, x6)], []) else if x3 = 0 then (z_R 112 (m, 0, [(2, 140), (0, x4), (0, 0), (0, x6), (9, 0)], [])).bind fun qq => z_R 111 (qq.1, 75, [(2, 140), (2, 12), (0, x2), (0, x3), (0, x4), (0, x5), (0, x6)], qq.2.toList ++ []) else z_R 111 (m, 23, [(2, 140), (2, 12), (0, x2), (0, x3), (0, z_add x4 1), (0, x5), (0, x6)], []) :=
  have hK : kt_at 111 = kt_111 := rfl
  (z_R_run hK (n := 2) (g' := (m, 59, [(2, 140), (2, 12), (0, x2), (0, x3), (0, x4), (0, x5), (0, x6)], [(0, x5), (0, x6)])) rfl).trans (z_R_ifd hK (c := x5 < x6) (p1 := 82) (p2 := 62) rfl rfl rfl (fun h1 => (z_R_run hK (n := 2) (g' := (m, 23, [(2, 140), (2, 12), (0, x2), (0, x3), (0, z_add x4 1), (0, x5), (0, x6)], [])) rfl).trans (rfl)) (fun h1 => (z_R_run hK (n := 1) (g' := (m, 63, [(2, 140), (2, 12), (0, x2), (0, x3), (0, x4), (0, x5), (0, x6)], [(0, x3)])) rfl).trans (z_R_ifnd hK (c := x3 = 0) (p1 := 82) (p2 := 66) rfl rfl rfl (fun h2 => (z_R_run hK (n := 2) (g' := (m, 23, [(2, 140), (2, 12), (0, x2), (0, x3), (0, z_add x4 1), (0, x5), (0, x6)], [])) rfl).trans (rfl)) (fun h2 => (z_R_run hK (n := 4) (g' := (m, 72, [(2, 140), (2, 12), (0, x2), (0, x3), (0, x4), (0, x5), (0, x6)], [(0, x6), (0, 0), (0, x4), (2, 140)])) rfl).trans (z_R_call hK rfl rfl rfl rfl rfl)))))
theorem qt_sea_75  (m : z_M) (x2 : Int) (x3 : Int) (x4 : Int) (x5 : Int) (x6 : Int) (u : Int) : z_R 111 (m, 75, [(2, 140), (2, 12), (0, x2), (0, x3), (0, x4), (0, x5), (0, x6)], [(0, u)]) = z_R 111 (m, 55, [(2, 140), (2, 12), (0, x2), (0, u), (0, x4), (0, x5), (0, z_add x6 1)], []) :=
  have hK : kt_at 111 = kt_111 := rfl
  (z_R_run hK (n := 3) (g' := (m, 55, [(2, 140), (2, 12), (0, x2), (0, u), (0, x4), (0, x5), (0, z_add x6 1)], [])) rfl).trans (rfl)
theorem qt_cho_0  (m : z_M) (c : Int) (a : Int) (k : Int) : z_R 112 (m, 0, [(2, 140), (0, c), (0, a), (0, k), (9, 0)], []) = if 0 < k then z_R 112 (m, 65, [(2, 140), (0, c), (0, a), (0, k), (0, a)], []) else (z_R 61 (m, 0, [(2, 147), (2, 141)], [])).bind fun qq => z_R 112 (qq.1, 15, [(2, 140), (0, c), (0, a), (0, k), (9, 0)], qq.2.toList ++ []) :=
  have hK : kt_at 112 = kt_112 := rfl
  (z_R_run hK (n := 1) (g' := (m, 1, [(2, 140), (0, c), (0, a), (0, k), (9, 0)], [(0, k)])) rfl).trans (z_R_ifd hK (c := 0 < k) (p1 := 62) (p2 := 4) rfl rfl rfl (fun h1 => (z_R_run hK (n := 2) (g' := (m, 65, [(2, 140), (0, c), (0, a), (0, k), (0, a)], [])) rfl).trans (rfl)) (fun h1 => (z_R_run hK (n := 2) (g' := (m, 8, [(2, 140), (0, c), (0, a), (0, k), (9, 0)], [(2, 147)])) rfl).trans ((z_R_run hK (n := 2) (g' := (m, 12, [(2, 140), (0, c), (0, a), (0, k), (9, 0)], [(2, 141), (2, 147)])) rfl).trans (z_R_call hK rfl rfl rfl rfl rfl))))
theorem qt_cho_15  (m : z_M) (x1 : Int) (x2 : Int) (x3 : Int) : z_R 112 (m, 15, [(2, 140), (0, x1), (0, x2), (0, x3), (9, 0)], []) = (z_R 105 (z_up m 24 5 (m 140 5), 0, [(2, 3), (0, x1)], [])).bind fun qq => z_R 112 (qq.1, 46, [(2, 140), (0, x1), (0, x2), (0, x3), (9, 0)], qq.2.toList ++ [(0, m 140 4), (2, 147), (2, 24)]) :=
  have hK : kt_at 112 = kt_112 := rfl
  (z_R_run hK (n := 2) (g' := (m, 19, [(2, 140), (0, x1), (0, x2), (0, x3), (9, 0)], [(2, 24)])) rfl).trans ((z_R_run hK (n := 5) (g' := (z_up m 24 5 (m 140 5), 30, [(2, 140), (0, x1), (0, x2), (0, x3), (9, 0)], [(2, 24)])) rfl).trans ((z_R_run hK (n := 2) (g' := (z_up m 24 5 (m 140 5), 34, [(2, 140), (0, x1), (0, x2), (0, x3), (9, 0)], [(2, 147), (2, 24)])) rfl).trans ((z_R_run hK (n := 2) (g' := (z_up m 24 5 (m 140 5), 38, [(2, 140), (0, x1), (0, x2), (0, x3), (9, 0)], [(0, (z_up m 24 5 (m 140 5)) 140 4), (2, 147), (2, 24)])) rfl).trans ((congrArg (fun vv => z_R 112 (z_up m 24 5 (m 140 5), 38, [(2, 140), (0, x1), (0, x2), (0, x3), (9, 0)], [(0, vv), (2, 147), (2, 24)])) (zu_p (by decide))).trans ((z_R_run hK (n := 2) (g' := (z_up m 24 5 (m 140 5), 42, [(2, 140), (0, x1), (0, x2), (0, x3), (9, 0)], [(2, 3), (0, m 140 4), (2, 147), (2, 24)])) rfl).trans ((z_R_run hK (n := 1) (g' := (z_up m 24 5 (m 140 5), 43, [(2, 140), (0, x1), (0, x2), (0, x3), (9, 0)], [(0, x1), (2, 3), (0, m 140 4), (2, 147), (2, 24)])) rfl).trans (z_R_call hK rfl rfl rfl rfl rfl)))))))
theorem qt_cho_46  (m : z_M) (x1 : Int) (x2 : Int) (x3 : Int) (s0 : Int) (u : Int) : z_R 112 (m, 46, [(2, 140), (0, x1), (0, x2), (0, x3), (9, 0)], [(0, u), (0, s0), (2, 147), (2, 24)]) = (z_R 97 (m, 0, [(2, 24), (2, 147), (0, s0), (0, u), (9, 0), (9, 0)], [])).bind fun qq => z_R 112 (qq.1, 49, [(2, 140), (0, x1), (0, x2), (0, x3), (9, 0)], qq.2.toList ++ []) :=
  have hK : kt_at 112 = kt_112 := rfl
  z_R_call hK rfl rfl rfl rfl rfl
theorem qt_cho_49  (m : z_M) (x1 : Int) (x2 : Int) (x3 : Int) (u : Int) : z_R 112 (m, 49, [(2, 140), (0, x1), (0, x2), (0, x3), (9, 0)], [(0, u)]) = if u = m 140 4 then some (m, some (0, 1)) else some (m, some (0, 0)) :=
  have hK : kt_at 112 = kt_112 := rfl
  (z_R_run hK (n := 2) (g' := (m, 53, [(2, 140), (0, x1), (0, x2), (0, x3), (9, 0)], [(0, m 140 4), (0, u)])) rfl).trans (z_R_ifnd hK (c := u = m 140 4) (p1 := 60) (p2 := 56) rfl rfl rfl (fun h1 => (z_R_run hK (n := 1) (g' := (m, 61, [(2, 140), (0, x1), (0, x2), (0, x3), (9, 0)], [(0, 0)])) rfl).trans (z_R_ret hK rfl rfl rfl)) (fun h1 => (z_R_run hK (n := 2) (g' := (m, 61, [(2, 140), (0, x1), (0, x2), (0, x3), (9, 0)], [(0, 1)])) rfl).trans (z_R_ret hK rfl rfl rfl)))
theorem qt_cho_65  (m : z_M) (x1 : Int) (x2 : Int) (x3 : Int) (x4 : Int) : z_R 112 (m, 65, [(2, 140), (0, x1), (0, x2), (0, x3), (0, x4)], []) = if 30 ≤ x4 then some (m, some (0, 0)) else (z_R 113 (m, 0, [(2, 140), (0, x1), (0, x4), (9, 0), (9, 0)], [])).bind fun qq => z_R 112 (qq.1, 79, [(2, 140), (0, x1), (0, x2), (0, x3), (0, x4)], qq.2.toList ++ []) :=
  have hK : kt_at 112 = kt_112 := rfl
  (z_R_run hK (n := 2) (g' := (m, 69, [(2, 140), (0, x1), (0, x2), (0, x3), (0, x4)], [(0, 30), (0, x4)])) rfl).trans (z_R_ifd hK (c := 30 ≤ x4) (p1 := 133) (p2 := 72) rfl rfl rfl (fun h1 => (z_R_run hK (n := 1) (g' := (m, 134, [(2, 140), (0, x1), (0, x2), (0, x3), (0, x4)], [(0, 0)])) rfl).trans (z_R_ret hK rfl rfl rfl)) (fun h1 => (z_R_run hK (n := 3) (g' := (m, 76, [(2, 140), (0, x1), (0, x2), (0, x3), (0, x4)], [(0, x4), (0, x1), (2, 140)])) rfl).trans (z_R_call hK rfl rfl rfl rfl rfl)))
theorem qt_cho_79  (m : z_M) (x1 : Int) (x2 : Int) (x3 : Int) (x4 : Int) (u : Int) : z_R 112 (m, 79, [(2, 140), (0, x1), (0, x2), (0, x3), (0, x4)], [(0, u)]) = if u = 0 then z_R 112 (m, 65, [(2, 140), (0, x1), (0, x2), (0, x3), (0, z_add x4 1)], []) else (z_R 112 (z_up m 140 5 (z_or (m 140 5) (z_shl 1 x4)), 0, [(2, 140), (0, x1), (0, z_add x4 1), (0, z_sub x3 1), (9, 0)], [])).bind fun qq => z_R 112 (qq.1, 107, [(2, 140), (0, x1), (0, x2), (0, x3), (0, x4)], qq.2.toList ++ []) :=
  have hK : kt_at 112 = kt_112 := rfl
  z_R_ifd hK (c := u = 0) (p1 := 127) (p2 := 82) rfl rfl rfl (fun h1 => (z_R_run hK (n := 2) (g' := (m, 65, [(2, 140), (0, x1), (0, x2), (0, x3), (0, z_add x4 1)], [])) rfl).trans (rfl)) (fun h1 => (z_R_run hK (n := 12) (g' := (z_up m 140 5 (z_or (m 140 5) (z_shl 1 x4)), 100, [(2, 140), (0, x1), (0, x2), (0, x3), (0, x4)], [(0, 1), (0, x4), (0, x1), (2, 140)])) rfl).trans ((z_R_run hK (n := 4) (g' := (z_up m 140 5 (z_or (m 140 5) (z_shl 1 x4)), 104, [(2, 140), (0, x1), (0, x2), (0, x3), (0, x4)], [(0, z_sub x3 1), (0, z_add x4 1), (0, x1), (2, 140)])) rfl).trans (z_R_call hK rfl rfl rfl rfl rfl)))
theorem qt_cho_107  (m : z_M) (x1 : Int) (x2 : Int) (x3 : Int) (x4 : Int) (u : Int) : z_R 112 (m, 107, [(2, 140), (0, x1), (0, x2), (0, x3), (0, x4)], [(0, u)]) = if u = 0 then z_R 112 (z_up m 140 5 (z_and (m 140 5) (z_xor (z_shl 1 x4) (-1))), 65, [(2, 140), (0, x1), (0, x2), (0, x3), (0, z_add x4 1)], []) else some (m, some (0, 1)) :=
  have hK : kt_at 112 = kt_112 := rfl
  z_R_ifd hK (c := u = 0) (p1 := 112) (p2 := 110) rfl rfl rfl (fun h1 => (z_R_run hK (n := 12) (g' := (z_up m 140 5 (z_and (m 140 5) (z_xor (z_shl 1 x4) (-1))), 65, [(2, 140), (0, x1), (0, x2), (0, x3), (0, z_add x4 1)], [])) rfl).trans (rfl)) (fun h1 => (z_R_run hK (n := 1) (g' := (m, 111, [(2, 140), (0, x1), (0, x2), (0, x3), (0, x4)], [(0, 1)])) rfl).trans (z_R_ret hK rfl rfl rfl))
theorem qt_mat_0  (m : z_M) (c : Int) (d : Int) (h_d : 0 ≤ d ∧ d ≤ 29) (h_t : 0 ≤ m 141 7 ∧ m 141 7 ≤ 1073741824) (h_n : 0 ≤ m 3 11 ∧ m 3 11 ≤ 5) : z_R 113 (m, 0, [(2, 140), (0, c), (0, d), (9, 0), (9, 0)], []) = if m 3 11 ≤ d / 6 then some (m, some (0, 0)) else if m 8 (d).toNat = 0 then some (m, some (0, 0)) else (z_R 114 (m, 0, [(0, (d % 6) - m 141 7), (0, 6), (9, 0)], [])).bind fun qq => z_R 113 (qq.1, 51, [(2, 140), (0, c), (0, d), (0, d / 6), (9, 0)], qq.2.toList ++ []) :=
  have hK : kt_at 113 = kt_113 := rfl
  (z_R_run hK (n := 3) (g' := (m, 4, [(2, 140), (0, c), (0, d), (9, 0), (9, 0)], [(0, z_div d 6)])) rfl).trans ((congrArg (fun vv => z_R 113 (m, 4, [(2, 140), (0, c), (0, d), (9, 0), (9, 0)], [(0, vv)])) (z_div_nn (by omega) (by omega) (by decide) (by decide))).trans ((z_R_run hK (n := 4) (g' := (m, 10, [(2, 140), (0, c), (0, d), (0, d / 6), (9, 0)], [(2, 3), (0, d / 6)])) rfl).trans ((z_R_run hK (n := 1) (g' := (m, 13, [(2, 140), (0, c), (0, d), (0, d / 6), (9, 0)], [(0, m 3 11), (0, d / 6)])) rfl).trans (z_R_ifd hK (c := m 3 11 ≤ d / 6) (p1 := 32) (p2 := 16) rfl rfl rfl (fun h1 => (z_R_run hK (n := 1) (g' := (m, 33, [(2, 140), (0, c), (0, d), (0, d / 6), (9, 0)], [(0, 0)])) rfl).trans (z_R_ret hK rfl rfl rfl)) (fun h1 => (z_R_run hK (n := 1) (g' := (m, 17, [(2, 140), (0, c), (0, d), (0, d / 6), (9, 0)], [(0, d)])) rfl).trans (z_R_if0 hK (c := d < 0) (p1 := 32) (p2 := 20) rfl rfl rfl (show ¬ (d < 0) by omega) ((z_R_run hK (n := 2) (g' := (m, 24, [(2, 140), (0, c), (0, d), (0, d / 6), (9, 0)], [(2, 3)])) rfl).trans ((z_R_run hK (n := 1) (g' := (m, 27, [(2, 140), (0, c), (0, d), (0, d / 6), (9, 0)], [(2, 8)])) rfl).trans ((z_R_run hK (n := 1) (g' := (m, 28, [(2, 140), (0, c), (0, d), (0, d / 6), (9, 0)], [(0, d), (2, 8)])) rfl).trans (z_R_ixT hK (n := 30) (g' := (m, 29, [(2, 140), (0, c), (0, d), (0, d / 6), (9, 0)], [(0, m 8 (d).toNat)])) rfl rfl rfl  (show 0 ≤ d ∧ d < 30 by omega) (z_R_ifnd hK (c := m 8 (d).toNat = 0) (p1 := 34) (p2 := 32) rfl rfl rfl (fun h2 => (z_R_run hK (n := 3) (g' := (m, 38, [(2, 140), (0, c), (0, d), (0, d / 6), (9, 0)], [(0, z_rem d 6)])) rfl).trans ((congrArg (fun vv => z_R 113 (m, 38, [(2, 140), (0, c), (0, d), (0, d / 6), (9, 0)], [(0, vv)])) (z_rem_nn (by omega) (by omega) (by decide) (by decide))).trans ((z_R_run hK (n := 2) (g' := (m, 42, [(2, 140), (0, c), (0, d), (0, d / 6), (9, 0)], [(2, 141), (0, d % 6)])) rfl).trans ((z_R_run hK (n := 2) (g' := (m, 46, [(2, 140), (0, c), (0, d), (0, d / 6), (9, 0)], [(0, z_sub (d % 6) (m 141 7))])) rfl).trans ((congrArg (fun vv => z_R 113 (m, 46, [(2, 140), (0, c), (0, d), (0, d / 6), (9, 0)], [(0, vv)])) ((z_sub_eq (by omega) (by omega)).trans (by omega))).trans ((z_R_run hK (n := 1) (g' := (m, 48, [(2, 140), (0, c), (0, d), (0, d / 6), (9, 0)], [(0, 6), (0, (d % 6) - m 141 7)])) rfl).trans (z_R_call hK rfl rfl rfl rfl rfl))))))) (fun h2 => (z_R_run hK (n := 1) (g' := (m, 33, [(2, 140), (0, c), (0, d), (0, d / 6), (9, 0)], [(0, 0)])) rfl).trans (z_R_ret hK rfl rfl rfl)))))))))))))
theorem qt_mat_51  (m : z_M) (x1 : Int) (x2 : Int) (x3 : Int) (u : Int) : z_R 113 (m, 51, [(2, 140), (0, x1), (0, x2), (0, x3), (9, 0)], [(0, u)]) = if 0 ≤ x3 ∧ x3 < 5 then if m 144 (x3).toNat = (-1) then some (m, some (0, 0)) else if z_rem (m 144 (x3).toNat) 3 = x1 then if m 140 4 ≤ u then some (m, some (0, 0)) else some (m, some (0, 1)) else some (m, some (0, 0)) else none :=
  have hK : kt_at 113 = kt_113 := rfl
  (z_R_run hK (n := 3) (g' := (m, 57, [(2, 140), (0, x1), (0, x2), (0, x3), (0, u)], [(2, 141)])) rfl).trans ((z_R_run hK (n := 1) (g' := (m, 60, [(2, 140), (0, x1), (0, x2), (0, x3), (0, u)], [(2, 144)])) rfl).trans ((z_R_run hK (n := 1) (g' := (m, 61, [(2, 140), (0, x1), (0, x2), (0, x3), (0, u)], [(0, x3), (2, 144)])) rfl).trans (z_R_ixD hK (n := 5) (g' := (m, 62, [(2, 140), (0, x1), (0, x2), (0, x3), (0, u)], [(0, m 144 (x3).toNat)])) rfl rfl rfl  (fun h1 => (z_R_run hK (n := 1) (g' := (m, 63, [(2, 140), (0, x1), (0, x2), (0, x3), (0, u)], [(0, (-1)), (0, m 144 (x3).toNat)])) rfl).trans (z_R_ifd hK (c := m 144 (x3).toNat = (-1)) (p1 := 94) (p2 := 66) rfl rfl rfl (fun h2 => (z_R_run hK (n := 1) (g' := (m, 95, [(2, 140), (0, x1), (0, x2), (0, x3), (0, u)], [(0, 0)])) rfl).trans (z_R_ret hK rfl rfl rfl)) (fun h2 => (z_R_run hK (n := 2) (g' := (m, 70, [(2, 140), (0, x1), (0, x2), (0, x3), (0, u)], [(2, 141)])) rfl).trans ((z_R_run hK (n := 1) (g' := (m, 73, [(2, 140), (0, x1), (0, x2), (0, x3), (0, u)], [(2, 144)])) rfl).trans ((z_R_run hK (n := 1) (g' := (m, 74, [(2, 140), (0, x1), (0, x2), (0, x3), (0, u)], [(0, x3), (2, 144)])) rfl).trans (z_R_ixT hK (n := 5) (g' := (m, 75, [(2, 140), (0, x1), (0, x2), (0, x3), (0, u)], [(0, m 144 (x3).toNat)])) rfl rfl rfl  (show 0 ≤ x3 ∧ x3 < 5 by omega) ((z_R_run hK (n := 3) (g' := (m, 78, [(2, 140), (0, x1), (0, x2), (0, x3), (0, u)], [(0, x1), (0, z_rem (m 144 (x3).toNat) 3)])) rfl).trans (z_R_ifnd hK (c := z_rem (m 144 (x3).toNat) 3 = x1) (p1 := 94) (p2 := 81) rfl rfl rfl (fun h3 => (z_R_run hK (n := 1) (g' := (m, 95, [(2, 140), (0, x1), (0, x2), (0, x3), (0, u)], [(0, 0)])) rfl).trans (z_R_ret hK rfl rfl rfl)) (fun h3 => (z_R_run hK (n := 3) (g' := (m, 87, [(2, 140), (0, x1), (0, x2), (0, x3), (0, u)], [(0, m 140 4), (0, u)])) rfl).trans (z_R_ifd hK (c := m 140 4 ≤ u) (p1 := 94) (p2 := 90) rfl rfl rfl (fun h4 => (z_R_run hK (n := 1) (g' := (m, 95, [(2, 140), (0, x1), (0, x2), (0, x3), (0, u)], [(0, 0)])) rfl).trans (z_R_ret hK rfl rfl rfl)) (fun h4 => (z_R_run hK (n := 2) (g' := (m, 95, [(2, 140), (0, x1), (0, x2), (0, x3), (0, u)], [(0, 1)])) rfl).trans (z_R_ret hK rfl rfl rfl)))))))))))))))
theorem qt_flm_0  (m : z_M) (a : Int) (b : Int) : z_R 114 (m, 0, [(0, a), (0, b), (9, 0)], []) = if b = 0 then none else if 0 ≤ z_xor a b then some (m, some (0, z_rem a b)) else if z_rem a b = 0 then some (m, some (0, z_rem a b)) else some (m, some (0, z_add (z_rem a b) b)) :=
  have hK : kt_at 114 = kt_114 := rfl
  (z_R_run hK (n := 2) (g' := (m, 2, [(0, a), (0, b), (9, 0)], [(0, b), (0, a)])) rfl).trans (z_R_dvD hK (d := b) rfl rfl rfl (fun h1 => (z_R_run hK (n := 4) (g' := (m, 7, [(0, a), (0, b), (0, z_rem a b)], [(0, z_xor a b)])) rfl).trans (z_R_ifd hK (c := 0 ≤ z_xor a b) (p1 := 18) (p2 := 10) rfl rfl rfl (fun h2 => (z_R_run hK (n := 1) (g' := (m, 19, [(0, a), (0, b), (0, z_rem a b)], [(0, z_rem a b)])) rfl).trans (z_R_ret hK rfl rfl rfl)) (fun h2 => (z_R_run hK (n := 1) (g' := (m, 11, [(0, a), (0, b), (0, z_rem a b)], [(0, z_rem a b)])) rfl).trans (z_R_ifd hK (c := z_rem a b = 0) (p1 := 18) (p2 := 14) rfl rfl rfl (fun h3 => (z_R_run hK (n := 1) (g' := (m, 19, [(0, a), (0, b), (0, z_rem a b)], [(0, z_rem a b)])) rfl).trans (z_R_ret hK rfl rfl rfl)) (fun h3 => (z_R_run hK (n := 3) (g' := (m, 17, [(0, a), (0, b), (0, z_rem a b)], [(0, z_add (z_rem a b) b)])) rfl).trans (z_R_ret hK rfl rfl rfl)))))))
end
section
/-! QUIET: the fewest doings to be left off; sets of doings -/
def qS (D : Nat → Int) (S : Nat → Bool) : Nat → Int := fun j => if S j = true then 0 else D j
def qc (S : Nat → Bool) : Nat → Nat
  | 0 => 0
  | f + 1 => qc S f + (if S f = true then 1 else 0)
theorem qc_cg {S S' : Nat → Bool} : ∀ f, (∀ j, j < f → S j = S' j) → qc S f = qc S' f
  | 0, _ => rfl
  | f + 1, h => by
    unfold qc
    rw [qc_cg f (fun j hj => h j (by omega)), h f (by omega)]
theorem qc_le {S S' : Nat → Bool} : ∀ f, (∀ j, j < f → S j = true → S' j = true) → qc S f ≤ qc S' f
  | 0, _ => Nat.le_refl _
  | f + 1, h => by
    have := qc_le f (fun j hj => h j (by omega))
    unfold qc
    by_cases c : S f = true
    · rw [if_pos c, if_pos (h f (by omega) c)]
      omega
    · rw [if_neg c]
      split <;> omega
theorem qc_or {a b : Nat → Bool} : ∀ f, (∀ j, j < f → ¬ (a j = true ∧ b j = true)) → qc (fun j => a j || b j) f = qc a f + qc b f
  | 0, _ => rfl
  | f + 1, h => by
    have := qc_or f (fun j hj => h j (by omega))
    have hf := h f (by omega)
    show qc (fun j => a j || b j) f + (if (a f || b f) = true then 1 else 0) = (qc a f + (if a f = true then 1 else 0)) + (qc b f + (if b f = true then 1 else 0))
    cases c1 : a f <;> cases c2 : b f
    · simp; omega
    · simp; omega
    · simp; omega
    · exact absurd ⟨c1, c2⟩ hf
theorem qc_0 : ∀ f, qc (fun _ => false) f = 0
  | 0 => rfl
  | f + 1 => by
    show qc (fun _ => false) f + (if false = true then 1 else 0) = 0
    rw [qc_0 f, if_neg Bool.false_ne_true]
theorem qc_no {S : Nat → Bool} : ∀ f, qc S f = 0 → ∀ j, j < f → S j = false
  | 0, _, _, h => absurd h (Nat.not_lt_zero _)
  | f + 1, h, j, hj => by
    unfold qc at h
    by_cases c : S f = true
    · rw [if_pos c] at h
      omega
    · rw [if_neg c] at h
      by_cases e : j = f
      · rw [e]
        cases y : S f
        · rfl
        · exact absurd y c
      · exact qc_no f (by omega) j (by omega)
def q_1 (a : Int) (j : Nat) : Bool := decide ((j : Int) = a)
theorem qc_1 {a : Nat} : ∀ f, qc (q_1 (a : Int)) f = if a < f then 1 else 0
  | 0 => rfl
  | f + 1 => by
    have := qc_1 (a := a) f
    unfold qc
    rw [this]
    unfold q_1
    by_cases e : f = a
    · rw [e, if_neg (by omega), if_pos (decide_eq_true rfl), if_pos (by omega)]
    · rw [decide_eq_false (show ¬ (f : Int) = (a : Int) by omega), if_neg Bool.false_ne_true]
      by_cases c : a < f
      · rw [if_pos c, if_pos (by omega)]
      · rw [if_neg c, if_neg (by omega)]
/-- one of a set taken out -/
theorem qc_out {S : Nat → Bool} {a : Nat} (ha : a < 30) (hS : S a = true) : qc S 30 = qc (fun j => S j && !(q_1 (a : Int) j)) 30 + 1 := by
  have e : qc S 30 = qc (fun j => (S j && !(q_1 (a : Int) j)) || q_1 (a : Int) j) 30 := qc_cg 30 fun j _ => by
    by_cases c : j = a
    · have : q_1 (a : Int) j = true := decide_eq_true (by omega)
      rw [this, Bool.or_true, c, hS]
    · have : q_1 (a : Int) j = false := decide_eq_false (by omega)
      rw [this, Bool.or_false, Bool.not_false, Bool.and_true]
  rw [e, qc_or 30 (fun j _ ⟨h1, h2⟩ => by rw [h2] at h1; simp at h1), qc_1, if_pos ha]
theorem qc_top {S : Nat → Bool} {k : Nat} : ∀ f, qc S f = k + 1 → ∃ a, a < f ∧ S a = true ∧ ∀ j, j < f → S j = true → j ≤ a
  | 0, h => by cases h
  | f + 1, h => by
    by_cases c : S f = true
    · exact ⟨f, by omega, c, fun j hj _ => by omega⟩
    · unfold qc at h
      rw [if_neg c] at h
      obtain ⟨a, a1, a2, a3⟩ := qc_top f h
      refine ⟨a, by omega, a2, fun j hj hS => ?_⟩
      by_cases e : j = f
      · rw [e] at hS
        exact absurd hS c
      · exact a3 j (by omega) hS
def q_3 (a b d : Int) (j : Nat) : Bool := q_1 a j || (q_1 b j || q_1 d j)
theorem q_1_no (j : Nat) : q_1 (-1) j = false := decide_eq_false (by omega)
/-- sets of one, of two, of three -/
theorem qc_is1 {S : Nat → Bool} {L : Nat} (hL : L ≤ 30) (hS : ∀ j, S j = true → j < L) (h : qc S 30 = 1) : ∃ a : Nat, a < L ∧ S = q_3 (a : Int) (-1) (-1) := by
  obtain ⟨a, a1, a2, a3⟩ := qc_top 30 h
  have h0 := qc_out a1 a2
  have hn := qc_no (S := fun j => S j && !(q_1 (a : Int) j)) 30 (by omega)
  refine ⟨a, hS a a2, funext fun j => ?_⟩
  unfold q_3
  rw [q_1_no, Bool.or_false, Bool.or_false]
  by_cases hj : j < 30
  · have := hn j hj
    by_cases e : j = a
    · rw [e, a2]
      exact (decide_eq_true rfl).symm
    · have eq : q_1 (a : Int) j = false := decide_eq_false (by omega)
      have this : (S j && !(q_1 (a : Int) j)) = false := this
      rw [eq, Bool.not_false, Bool.and_true] at this
      rw [this, eq]
  · have e1 : S j = false := by
      cases y : S j
      · rfl
      · have := hS j y
        omega
    rw [e1]
    exact (decide_eq_false (by omega)).symm
theorem qc_isS {S : Nat → Bool} {L k : Nat} (hL : L ≤ 30) (hS : ∀ j, S j = true → j < L) (h : qc S 30 = k + 1) : ∃ (a : Nat) (T : Nat → Bool), a < L ∧ (∀ j, T j = true → j < a) ∧ qc T 30 = k ∧ S = fun j => T j || q_1 (a : Int) j := by
  obtain ⟨a, a1, a2, a3⟩ := qc_top 30 h
  have h0 := qc_out a1 a2
  refine ⟨a, fun j => S j && !(q_1 (a : Int) j), hS a a2, fun j hj => ?_, by omega, funext fun j => ?_⟩
  · obtain ⟨y1, y2⟩ := Bool.and_eq_true _ _ |>.mp hj
    have := a3 j (by have := hS j y1; omega) y1
    have y2 : q_1 (a : Int) j = false := by
      cases y : q_1 (a : Int) j
      · rfl
      · rw [y] at y2
        cases y2
    have := of_decide_eq_false y2
    omega
  · show S j = ((S j && !(q_1 (a : Int) j)) || q_1 (a : Int) j)
    by_cases e : j = a
    · have : q_1 (a : Int) j = true := decide_eq_true (by omega)
      rw [this, Bool.or_true, e, a2]
    · have : q_1 (a : Int) j = false := decide_eq_false (by omega)
      rw [this, Bool.or_false, Bool.not_false, Bool.and_true]
theorem qc_is2 {S : Nat → Bool} {L : Nat} (hL : L ≤ 30) (hS : ∀ j, S j = true → j < L) (h : qc S 30 = 2) : ∃ a b : Nat, a < b ∧ b < L ∧ S = q_3 (a : Int) (b : Int) (-1) := by
  obtain ⟨b, T, b1, b2, b3, b4⟩ := qc_isS hL hS h
  obtain ⟨a, a1, a2⟩ := qc_is1 (L := b) (by omega) b2 b3
  refine ⟨a, b, a1, b1, ?_⟩
  rw [b4, a2]
  funext j
  unfold q_3
  rw [q_1_no, Bool.or_false, Bool.or_false, Bool.or_false]
theorem qc_is3 {S : Nat → Bool} {L : Nat} (hL : L ≤ 30) (hS : ∀ j, S j = true → j < L) (h : qc S 30 = 3) : ∃ a b d : Nat, a < b ∧ b < d ∧ d < L ∧ S = q_3 (a : Int) (b : Int) (d : Int) := by
  obtain ⟨d, T, d1, d2, d3, d4⟩ := qc_isS hL hS h
  obtain ⟨a, b, a1, a2, a3⟩ := qc_is2 (L := d) (by omega) d2 d3
  refine ⟨a, b, d, a1, a2, d1, ?_⟩
  rw [d4, a3]
  funext j
  unfold q_3
  rw [q_1_no, Bool.or_false, Bool.or_assoc]
/-- how many bits an int has -/
def vv (x : Int) : Nat := (Int32.ofInt x).toBitVec.toNat
theorem pcN_qc : ∀ (f X : Nat), pcN f X = qc (fun j => X.testBit j) f := by
  have low : ∀ (f : Nat) (S : Nat → Bool), qc S (f + 1) = (if S 0 = true then 1 else 0) + qc (fun j => S (j + 1)) f := by
    intro f
    induction f with
    | zero =>
      intro S
      show 0 + (if S 0 = true then 1 else 0) = (if S 0 = true then 1 else 0) + 0
      rw [Nat.zero_add, Nat.add_zero]
    | succ f ih =>
      intro S
      show qc S (f + 1) + (if S (f + 1) = true then 1 else 0) = _ + (qc (fun j => S (j + 1)) f + (if S (f + 1) = true then 1 else 0))
      rw [ih S]
      omega
  intro f
  induction f with
  | zero => intro X; rfl
  | succ f ih =>
    intro X
    rw [low f (fun j => X.testBit j)]
    show X % 2 + pcN f (X / 2) = _
    rw [ih (X / 2), Nat.testBit_zero]
    have e : qc (fun j => (X / 2).testBit j) f = qc (fun j => X.testBit (j + 1)) f := qc_cg f fun j _ => (Nat.testBit_add_one X j).symm
    rw [e]
    by_cases c : X % 2 = 1
    · rw [if_pos (decide_eq_true c)]
      omega
    · rw [if_neg (by rw [decide_eq_false c]; exact Bool.false_ne_true)]
      omega
theorem vv_t (a : Int32) : vv a.toInt = a.toBitVec.toNat := by
  unfold vv
  rw [Int32.ofInt_toInt]
theorem vv_lt (x : Int) : vv x < 2 ^ 32 := (Int32.ofInt x).toBitVec.isLt
theorem vv_and (x y : Int) : vv (z_and x y) = vv x &&& vv y := by
  unfold z_and
  rw [vv_t]
  exact BitVec.toNat_and _ _
theorem vv_add (x y : Int) : vv (z_add x y) = (vv x + vv y) % 2 ^ 32 := by
  unfold z_add
  rw [vv_t]
  exact BitVec.toNat_add _ _
theorem vv_sub (x y : Int) : vv (z_sub x y) = (2 ^ 32 - vv y + vv x) % 2 ^ 32 := by
  unfold z_sub
  rw [vv_t]
  exact BitVec.toNat_sub _ _
theorem vv_ush (x : Int) : vv (z_ush x 1) = vv x / 2 ∧ vv (z_ush x 2) = vv x / 4 ∧ vv (z_ush x 4) = vv x / 16 ∧ vv (z_ush x 8) = vv x / 256 ∧ vv (z_ush x 16) = vv x / 65536 := by
  have e : ∀ n : Nat, n < 32 → vv (z_ush x (n : Int)) = vv x / 2 ^ n := fun n hn => by
    unfold z_ush
    rw [vv_t, i32_ushn (Int32.ofInt x) n hn]
    rfl
  exact ⟨e 1 (by decide), e 2 (by decide), e 4 (by decide), e 8 (by decide), e 16 (by decide)⟩
theorem vv_63 (x : Int) : z_and x 63 = ((vv x % 64 : Nat) : Int) := by
  have h1 : (Int32.ofInt x &&& Int32.ofInt 63).toBitVec.toNat = vv x % 64 := by
    show ((Int32.ofInt x).toBitVec &&& 63#32).toNat = _
    rw [BitVec.toNat_and]
    exact Nat.and_two_pow_sub_one_eq_mod _ 6
  unfold z_and
  rw [i32_ofNat (x := Int32.ofInt x &&& Int32.ofInt 63) (by rw [h1]; omega), h1]
def j_f1 (x : Int) : Int := z_sub x (z_and (z_ush x 1) 1431655765)
def j_f2 (x : Int) : Int := z_add (z_and x 858993459) (z_and (z_ush x 2) 858993459)
def j_f3 (x : Int) : Int := z_and (z_add x (z_ush x 4)) 252645135
def j_f4 (x : Int) : Int := z_add x (z_ush x 8)
def j_f5 (x : Int) : Int := z_add x (z_ush x 16)
theorem j_masks : vv 1431655765 = bk 85 4 ∧ vv 858993459 = bk 51 4 ∧ vv 252645135 = bk 15 4 := by decide +kernel
theorem j_f1_ok (x : Int) : vv (j_f1 x) = bm bf1 4 (vv x) := by
  have hx : vv x < 256 ^ 4 := vv_lt x
  have e := bk_sh (k := 2) (q := 128) (c := 85) rfl (by decide) (by decide) (by decide +kernel) 4 (vv x) hx
  obtain ⟨h1, h2⟩ := bm_sub (g := fun b => b / 2 &&& 85) (fun b hb => (bf_lt b hb).2.2.2) 4 (vv x) hx
  unfold j_f1
  rw [vv_sub, vv_and, (vv_ush x).1, j_masks.1, e, show 2 ^ 32 - bm (fun b => b / 2 &&& 85) 4 (vv x) + vv x = 2 ^ 32 + (vv x - bm (fun b => b / 2 &&& 85) 4 (vv x)) by omega, h2, Nat.add_mod_left]
  exact Nat.mod_eq_of_lt (bm_lt (g := bf1) (fun b hb => (bf_lt b hb).1) 4 (vv x))
theorem j_f2_ok {x : Int} {g : Nat → Nat} {X : Nat} (hx : vv x = bm g 4 X) (hg : ∀ b, b < 256 → g b < 256) (hs : ∀ b, b < 256 → bf2 (g b) < 256) : vv (j_f2 x) = bm (fun b => bf2 (g b)) 4 X := by
  have hX : bm g 4 X < 256 ^ 4 := bm_lt hg 4 X
  have e1 := bk_and (c := 51) (by decide) 4 _ hX
  have e2 := bk_sh (k := 4) (q := 64) (c := 51) rfl (by decide) (by decide) (by decide +kernel) 4 _ hX
  have h2 : bm (fun b => bf2 (g b)) 4 X < 2 ^ 32 := bm_lt hs 4 X
  unfold j_f2
  rw [vv_add, vv_and, vv_and, (vv_ush x).2.1, j_masks.2.1, hx, e1, e2, bm_bm hg, bm_bm hg, bm_add]
  exact Nat.mod_eq_of_lt h2
theorem bm_1 {g : Nat → Nat} {q : Nat} (hg : ∀ b, b < 256 → g b ≤ q) : ∀ n Y, bm g n Y ≤ q * bk 1 n
  | 0, _ => Nat.zero_le _
  | n + 1, Y => by
    have h1 := hg (Y % 256) (Nat.mod_lt _ (by decide))
    have h2 := bm_1 hg n (Y / 256)
    show g (Y % 256) + 256 * bm g n (Y / 256) ≤ q * (1 + 256 * bk 1 n)
    rw [Nat.mul_add, Nat.mul_one, ← Nat.mul_assoc, Nat.mul_comm q 256, Nat.mul_assoc]
    omega
theorem j_f3_ok {x : Int} {g : Nat → Nat} {X : Nat} (hx : vv x = bm g 4 X) (hg : ∀ b, b < 256 → g b % 16 ≤ 4 ∧ g b / 16 ≤ 4) : vv (j_f3 x) = bm (fun b => bf3 (g b)) 4 X := by
  have hX : bm g 4 X < 2 ^ 31 := by
    have h8 := bm_1 (g := g) (q := 68) (fun b hb => by have := hg b hb; omega) 4 X
    have h9 : 68 * bk 1 4 < 2 ^ 31 := by decide +kernel
    omega
  have e := (bm_nib hg 4 X).1
  unfold j_f3
  rw [vv_and, vv_add, (vv_ush x).2.2.1, j_masks.2.2, hx, Nat.mod_eq_of_lt (show bm g 4 X + bm g 4 X / 16 < 2 ^ 32 by omega), e]
  rfl
theorem pc_r4 {a b c d : Nat} : (a + 256 * b + (c + 256 * d)) % 64 = (a + c) % 64 := by omega
theorem pc_sum4 {Z : Nat} (X : Nat) (hZ : Z = bm (pcN 8) 4 X) : (Z + Z / 256 + (Z + Z / 256) / 65536) % 64 = pcN 32 X ∧ Z < 2 ^ 29 := by
  have e : pcN 32 X = pcN 8 (X % 256) + (pcN 8 (X / 256 % 256) + (pcN 8 (X / 256 / 256 % 256) + (pcN 8 (X / 256 / 256 / 256 % 256) + 0))) := by
    rw [pcN_8 24, pcN_8 16, pcN_8 8, pcN_8 0 (X / 256 / 256 / 256)]
    rfl
  have z : Z = pcN 8 (X % 256) + 256 * (pcN 8 (X / 256 % 256) + 256 * (pcN 8 (X / 256 / 256 % 256) + 256 * (pcN 8 (X / 256 / 256 / 256 % 256) + 256 * 0))) := hZ
  rw [e]
  have c0 := pc_le (b := X % 256) (Nat.mod_lt _ (by decide))
  have c1 := pc_le (b := X / 256 % 256) (Nat.mod_lt _ (by decide))
  have c2 := pc_le (b := X / 256 / 256 % 256) (Nat.mod_lt _ (by decide))
  have c3 := pc_le (b := X / 256 / 256 / 256 % 256) (Nat.mod_lt _ (by decide))
  clear e hZ
  generalize pcN 8 (X % 256) = d0 at *
  generalize pcN 8 (X / 256 % 256) = d1 at *
  generalize pcN 8 (X / 256 / 256 % 256) = d2 at *
  generalize pcN 8 (X / 256 / 256 / 256 % 256) = d3 at *
  have q1 : Z / 256 = d1 + 256 * (d2 + 256 * d3) := by omega
  have s1 : Z + Z / 256 = (d0 + d1) + 256 * ((d1 + d2) + 256 * ((d2 + d3) + 256 * d3)) := by omega
  have hz : Z < 2 ^ 29 := by omega
  refine ⟨?_, hz⟩
  rw [s1]
  clear s1 q1 hz z
  rw [show ((d0 + d1) + 256 * ((d1 + d2) + 256 * ((d2 + d3) + 256 * d3))) / 65536 = (d2 + d3) + 256 * d3 by omega, pc_r4]
  omega
theorem pc32 (x : Int) : hr_pc x = ((qc (zb x) 32 : Nat) : Int) := by
  have e0 : hr_pc x = z_and (j_f5 (j_f4 (j_f3 (j_f2 (j_f1 x))))) 63 := rfl
  have e1 := j_f1_ok x
  have e2 := j_f2_ok e1 (fun b hb => (bf_lt b hb).1) (fun b hb => by have := (bf_lt b hb).2.1; omega)
  have e3 := j_f3_ok e2 (fun b hb => (bf_lt b hb).2.1)
  have e3 : vv (j_f3 (j_f2 (j_f1 x))) = bm (pcN 8) 4 (vv x) := e3.trans (bm_cg (fun b hb => (bf_lt b hb).2.2.1) 4 (vv x))
  obtain ⟨p1, p2⟩ := pc_sum4 (vv x) e3
  rw [e0]
  generalize j_f3 (j_f2 (j_f1 x)) = y at e3 p1 p2 ⊢
  have a4 : vv (j_f4 y) = vv y + vv y / 256 := by
    unfold j_f4
    rw [vv_add, (vv_ush y).2.2.2.1]
    exact Nat.mod_eq_of_lt (by omega)
  have a5 : vv (j_f5 (j_f4 y)) = vv y + vv y / 256 + (vv y + vv y / 256) / 65536 := by
    unfold j_f5
    rw [vv_add, (vv_ush (j_f4 y)).2.2.2.2, a4]
    exact Nat.mod_eq_of_lt (by omega)
  rw [vv_63, a5, p1, pcN_qc]
  rfl
theorem qc_32 {S : Nat → Bool} (h : ∀ j, S j = true → j < 30) : qc S 32 = qc S 30 := by
  have e : ∀ j, 30 ≤ j → S j = false := fun j hj => by
    cases y : S j
    · rfl
    · have := h j y
      omega
  show qc S 30 + (if S 30 = true then 1 else 0) + (if S 31 = true then 1 else 0) = qc S 30
  rw [e 30 (by decide), e 31 (by decide), if_neg Bool.false_ne_true, Nat.add_zero]
/-! floorMod by 6 -/
theorem zx_neg {a : Int} (h1 : -2147483648 ≤ a) (h2 : a < 0) : z_xor a 6 < 0 := by
  have ha : (Int32.ofInt a).toBitVec.toInt = a := zr_of h1 (by omega)
  have m1 : (Int32.ofInt a).toBitVec.msb = true := by
    rw [BitVec.msb_eq_toInt, ha]
    exact decide_eq_true h2
  have m2 : (Int32.ofInt a ^^^ Int32.ofInt 6).toBitVec.msb = true := by
    rw [Int32.toBitVec_xor, BitVec.msb_xor, m1]
    rfl
  rw [BitVec.msb_eq_toInt] at m2
  exact of_decide_eq_true m2
theorem qt_fm (m : z_M) {a : Int} (h1 : -1073741824 ≤ a) (h2 : a ≤ 5) : z_R 114 (m, 0, [(0, a), (0, 6), (9, 0)], []) = some (m, some (0, a % 6)) := by
  rw [qt_flm_0, if_neg (by decide)]
  have er : z_rem a 6 = a.tmod 6 := z_rem_eq (by omega) (by omega) (by decide) (by decide)
  by_cases c : 0 ≤ a
  · have e : z_rem a 6 = a % 6 := z_rem_nn c (by omega) (by decide) (by decide)
    have ex : ∀ a, a < 6 → 0 ≤ z_xor ((a : Nat) : Int) 6 := by decide +kernel
    have ex := ex a.toNat (by omega)
    rw [show ((a.toNat : Nat) : Int) = a by omega] at ex
    rw [if_pos ex, e]
  · have ex := zx_neg (a := a) (by omega) (by omega)
    have et : a.tmod 6 = -((-a) % 6) := by
      have : (-(-a)).tmod 6 = -((-a).tmod 6) := Int.neg_tmod (-a) 6
      rw [Int.neg_neg, Int.tmod_eq_emod_of_nonneg (show 0 ≤ -a by omega)] at this
      exact this
    rw [if_neg (by omega), er, et]
    by_cases z : -((-a) % 6) = 0
    · rw [if_pos z, z]
      rw [show a % 6 = 0 by omega]
    · rw [if_neg z, z_add_eq (by omega) (by omega), show -((-a) % 6) + 6 = a % 6 by omega]
/-! what matters -/
def q_m0 (n : Nat) (D A : Nat → Int) (N d : Nat) : Bool := decide (d < 6 * n ∧ (¬ D d = 0) ∧ (¬ A (d / 6 + 18) = -1) ∧ (((d % 6 : Nat) : Int) - A 35) % 6 < (N : Int))
def q_M (n : Nat) (D A : Nat → Int) (N c d : Nat) : Bool := q_m0 n D A N d && decide (A (d / 6 + 18) % 3 = (c : Int))
def q_U (n : Nat) (D A : Nat → Int) (N c d : Nat) : Bool := q_m0 n D A N d && decide (A (d / 6 + 18) % 3 < (c : Int))
def q_full (w h n : Nat) (heat price : Int) (cs : List Int) (D A : Nat → Int) (N : Nat) (S : Nat → Bool) : Prop := s_sta w h n heat price cs (qS D S) (s_F w h A) N N 0 A = (N : Int)
def q_T (w h n : Nat) (heat price : Int) (cs : List Int) (D A : Nat → Int) (N c : Nat) (S : Nat → Bool) : Prop := s_stc w h n heat price cs (qS D S) (s_fl A) c N N 0 A = (N : Int)
theorem q_D_S {D : Nat → Int} (hD : q_D D) (S : Nat → Bool) : q_D (qS D S) := fun j hj => by
  have := hD j hj
  unfold qS
  split <;> omega
section
variable {w h n : Nat} {heat price : Int} {D A : Nat → Int} {c : Nat} {U : Nat → Nat → Int} {kn : Nat → Int} {KS : Nat → Nat → Int} {cs : List Int} {m : z_M}
theorem q_full_T {N : Nat} {S : Nat → Bool} : q_full w h n heat price cs D A N S ↔ q_T w h n heat price cs D A N 0 S ∧ q_T w h n heat price cs D A N 1 S ∧ q_T w h n heat price cs D A N 2 S := by
  have e := s_sta_min (w := w) (h := h) (n := n) (heat := heat) (price := price) (cs := cs) (D := qS D S) (A := A) (N := N) N 0 A (by omega)
  have b := fun c => (s_stc_x (w := w) (h := h) (n := n) (heat := heat) (price := price) (cs := cs) (D := qS D S) (F := s_fl A) (c := c) (N := N) N 0 A (by omega)).2
  have b0 := b 0
  have b1 := b 1
  have b2 := b 2
  unfold q_full q_T
  rw [e]
  unfold i_mn
  (repeat' split) <;> omega
theorem q_T_no {N c : Nat} {S : Nat → Bool} (hz : ∀ r : Nat, r < 9 → r % 3 = c → u_hs (w : Int) (h : Int) (r : Int) = 0) : q_T w h n heat price cs D A N c S := by
  have key : ∀ (f x : Nat) (B : Nat → Int), x + f = N → s_stc w h n heat price cs (qS D S) (s_fl A) c N f x B = (N : Int) := by
    intro f
    induction f with
    | zero => intro x B hx; rfl
    | succ f ih =>
      intro x B hx
      unfold s_stc
      have e : s_vio w h (s_fl A) c (hr_A w h heat price (c_ml cs) (wmD (qS D S) (B 35)) n B) = false := by
        cases y : s_vio w h (s_fl A) c (hr_A w h heat price (c_ml cs) (wmD (qS D S) (B 35)) n B)
        · rfl
        · obtain ⟨r, h1, h2, h3, -⟩ := s_vio_iff.mp y
          exact absurd (hz r h1 h2) h3
      rw [e, if_neg Bool.false_ne_true]
      exact ih (x + 1) _ (by omega)
  exact key N 0 A (by omega)
theorem q_T_cg {N c : Nat} {S S' : Nat → Bool} (hw : w ≤ 3 ∧ h ≤ 3 ∧ n ≤ 5) (hh : 0 ≤ heat ∧ heat ≤ 9) (hD : q_D D) (hok : hr_ok n A) (ht : 0 ≤ A 35 ∧ A 35 ≤ 1073741824) (hN : N ≤ 40) (he : ∀ d, d < 30 → q_M n D A N c d = true → S d = S' d) : q_T w h n heat price cs D A N c S ↔ q_T w h n heat price cs D A N c S' := by
  unfold q_T
  rw [s_stc_ag (price := price) (cs := cs) (c := c) (F := s_fl A) (F' := s_fl A) (N := N) (q_D_N hw hh (q_D_S hD S)) (q_D_N hw hh (q_D_S hD S')) (fun _ _ _ _ => rfl) N 0 A A ag_rf hok hok ht.1 (by omega) (fun p hp hi k hk => ?_)]
  obtain ⟨r, r1, r2, r3⟩ := hi
  have n5 := hw.2.2
  have hm : 0 ≤ (A 35 + (k : Int)) % 6 ∧ (A 35 + (k : Int)) % 6 < 6 := ⟨Int.emod_nonneg _ (by decide), Int.emod_lt_of_pos _ (by decide)⟩
  obtain ⟨q, hq⟩ : ∃ q : Nat, (A 35 + (k : Int)) % 6 = (q : Int) := ⟨((A 35 + (k : Int)) % 6).toNat, by omega⟩
  unfold wmD qS
  rw [hq, Int.toNat_natCast]
  by_cases z : D (6 * p + q) = 0
  · rw [z]
    (repeat' split) <;> rfl
  · have hM : q_M n D A N c (6 * p + q) = true := by
      unfold q_M q_m0
      have e1 : (6 * p + q) / 6 = p := by omega
      have e2 : (6 * p + q) % 6 = q := by omega
      rw [e1, e2, decide_eq_true (show 6 * p + q < 6 * n ∧ (¬ D (6 * p + q) = 0) ∧ (¬ A (p + 18) = -1) ∧ ((q : Int) - A 35) % 6 < (N : Int) from ⟨by omega, z, by omega, by omega⟩), Bool.true_and]
      exact decide_eq_true (by rw [r3]; omega)
    rw [he _ (by omega) hM]
theorem q_M_lt {N c d : Nat} (h : q_M n D A N c d = true) : d < 6 * n := by
  unfold q_M q_m0 at h
  exact (of_decide_eq_true (Bool.and_eq_true _ _ |>.mp h).1).1
theorem q_M_U {N c d : Nat} (h : q_M n D A N c d = true) : q_U n D A N (c + 1) d = true ∧ q_U n D A N c d = false := by
  unfold q_M at h
  obtain ⟨h1, h2⟩ := Bool.and_eq_true _ _ |>.mp h
  have h2 := of_decide_eq_true h2
  unfold q_U
  rw [h1, h2, Bool.true_and, Bool.true_and]
  exact ⟨decide_eq_true (by omega), decide_eq_false (by omega)⟩
theorem q_U_s {N c d : Nat} (hp : d < 6 * n → -1 ≤ A (d / 6 + 18)) : q_U n D A N (c + 1) d = (q_U n D A N c d || q_M n D A N c d) := by
  unfold q_U q_M
  cases h1 : q_m0 n D A N d
  · rfl
  · rw [Bool.true_and, Bool.true_and, Bool.true_and]
    by_cases e : A (d / 6 + 18) % 3 = (c : Int)
    · rw [decide_eq_true e, Bool.or_true]
      exact decide_eq_true (by omega)
    · rw [decide_eq_false e, Bool.or_false]
      exact decide_eq_decide.mpr ⟨fun z => by omega, fun z => by omega⟩
end
end
section
/-! QUIET: as the class searches, column by column -/
def q_I (m0 : z_M) (n N : Nat) (A : Nat → Int) (m : z_M) : Prop := (∀ p k, C_hit p k k = true → ¬ (p = 24 ∧ k = 5) → m p k = m0 p k) ∧ m 140 4 = (N : Int) ∧ cS m 141 n = A ∧ m 0 13 = m0 0 13 ∧ ∀ i, m 250 i = m0 250 i
theorem zb_m1 {k : Nat} (hk : k < 32) : zb (-1) k = true := by
  have : ∀ k, k < 32 → zb (-1) k = true := by decide +kernel
  exact this k hk
theorem zb_xor (a b : Int) (k : Nat) : zb (z_xor a b) k = (zb a k ^^ zb b k) := by
  unfold zb z_xor
  rw [Int32.ofInt_toInt, Int32.toBitVec_xor, BitVec.getLsbD_xor]
section
variable {w h n : Nat} {heat price : Int} {D A : Nat → Int} {c : Nat} {U : Nat → Nat → Int} {kn : Nat → Int} {KS : Nat → Nat → Int} {cs : List Int} {m m0 : z_M}
theorem q_I_n (hi : C_is w h n heat price D A c U kn KS cs m0) {N : Nat} {B : Nat → Int} (hv : q_I m0 n N B m) : m 3 8 = (w : Int) ∧ m 3 9 = (h : Int) ∧ m 3 11 = (n : Int) ∧ ∀ j, j < 30 → m 8 j = D j := by
  obtain ⟨⟨a1, a2, a3, -⟩, b, -⟩ := hi
  have e3 : ∀ k, 8 ≤ k → m 3 k = m0 3 k := fun k hk => hv.1 3 k (by
    unfold C_hit
    exact decide_eq_true (Or.inr (Or.inr (Or.inr (Or.inr (Or.inl ⟨rfl, hk⟩)))))) (by omega)
  exact ⟨(e3 8 (by decide)).trans a1, (e3 9 (by decide)).trans a2, (e3 11 (by decide)).trans a3, fun j hj => (hv.1 8 j hit_8 (by omega)).trans (b j hj)⟩
/-- what the class holds, while doings are left off -/
theorem q_cfg (hi : C_is w h n heat price D A c U kn KS cs m0) (hf : ∀ p k, C_hit p k k = true → ¬ (p = 24 ∧ k = 5) → m p k = m0 p k) {L : Int} (hL : m 24 5 = L) : c_cfg w h n heat price (c_ml cs) (wmD (qS D (zb L))) m := by
  have hc := C_cfg hi
  obtain ⟨a1, a2, a3, a4, a5, a6, a7, a8⟩ := hc
  have e3 : ∀ k, 8 ≤ k → m 3 k = m0 3 k := fun k hk => hf 3 k (by
    unfold C_hit
    exact decide_eq_true (Or.inr (Or.inr (Or.inr (Or.inr (Or.inl ⟨rfl, hk⟩)))))) (by omega)
  refine ⟨(e3 8 (by decide)).trans a1, (e3 9 (by decide)).trans a2, (e3 11 (by decide)).trans a3, (e3 12 (by decide)).trans a4, (e3 13 (by decide)).trans a5, fun t ht p hp => ?_, fun m2 z1 z2 => a7 m2 (z1.trans (funext fun k => hf 5 k (by unfold C_hit; exact decide_eq_true (Or.inr (Or.inr (Or.inr (Or.inl rfl))))) (by omega))) (z2.trans (hf 4 3 (by decide) (by decide))), fun r hr => by rw [e3 10 (by decide)]; exact a8 r hr⟩
  have hm : 0 ≤ t % 6 ∧ t % 6 < 6 := ⟨Int.emod_nonneg _ (by decide), Int.emod_lt_of_pos _ (by decide)⟩
  obtain ⟨q, hq⟩ : ∃ q : Nat, t % 6 = (q : Int) := ⟨(t % 6).toNat, by omega⟩
  have ej : (6 * (p : Int) + (q : Int)) = ((6 * p + q : Nat) : Int) := by omega
  have h4 : m 24 4 = -1 := (hf 24 4 (by decide) (by decide)).trans hi.1.2.2.2.2.2.2.1
  have h8 : m 8 (6 * p + q) = D (6 * p + q) := (hf 8 _ hit_8 (by omega)).trans (hi.2.1 _ (by omega))
  unfold cw wmD qS
  rw [hL, hq, ej, Int.toNat_natCast, Int.toNat_natCast, h4, h8, if_neg (show ¬ (p : Int) = -1 by omega)]
  have e := zb_test32 (a := L) (k := 6 * p + q) (by omega)
  cases y : zb L (6 * p + q)
  · rw [if_pos (e.mpr y), if_neg Bool.false_ne_true]
  · rw [if_neg (fun z => by rw [e.mp z] at y; cases y), if_pos rfl]
theorem q_mat (hi : C_is w h n heat price D A c U kn KS cs m0) (hw : w ≤ 3 ∧ h ≤ 3 ∧ n ≤ 5) (hok : hr_ok n A) (ht : 0 ≤ A 35 ∧ A 35 ≤ 1073741824) {N : Nat} (hN : N ≤ 40) (hv : q_I m0 n N A m) {b d : Nat} (hd : d < 30) : z_R 113 (m, 0, [(2, 140), (0, (b : Int)), (0, (d : Int)), (9, 0), (9, 0)], []) = some (m, some (0, if q_M n D A N b d = true then 1 else 0)) := by
  obtain ⟨k1, k2, k3, k4⟩ := q_I_n hi hv
  have n5 := hw.2.2
  have e7 : m 141 7 = A 35 := by
    rw [← hv.2.2.1]
    exact (cS_at0 (s := 141) (j := 7) (by decide)).symm
  have e8 := k4 d hd
  rw [qt_mat_0 m _ _ ⟨by omega, by omega⟩ (by rw [e7]; exact ht) (by rw [k3]; omega), k3, e7, Int.toNat_natCast, e8]
  have ed : ((d : Int) / 6) = ((d / 6 : Nat) : Int) := by omega
  have em : ((d : Int) % 6) = ((d % 6 : Nat) : Int) := by omega
  rw [ed, em]
  unfold q_M q_m0
  by_cases c1 : (n : Int) ≤ ((d / 6 : Nat) : Int)
  · rw [if_pos c1, decide_eq_false (show ¬ (d < 6 * n ∧ _) by omega), Bool.false_and, if_neg Bool.false_ne_true]
  rw [if_neg c1]
  by_cases c2 : D d = 0
  · rw [if_pos c2, decide_eq_false (fun z => z.2.1 c2), Bool.false_and, if_neg Bool.false_ne_true]
  rw [if_neg c2, qt_fm m (by omega) (by omega), zb_v, qt_mat_51, if_pos (by omega), Int.toNat_natCast]
  have e3 : m 144 (d / 6) = A (d / 6 + 18) := by
    rw [← hv.2.2.1]
    exact (cS_at3 (s := 141) (j := d / 6) (by omega) (by omega)).symm
  rw [e3, hv.2.1]
  by_cases c3 : A (d / 6 + 18) = -1
  · rw [if_pos c3, decide_eq_false (fun z => z.2.2.1 c3), Bool.false_and, if_neg Bool.false_ne_true]
  have hp := hok.2.2.1 (d / 6) (by omega)
  rw [if_neg c3, z_rem_nn (by omega) (by omega) (by decide) (by decide)]
  by_cases c4 : A (d / 6 + 18) % 3 = (b : Int)
  · rw [if_pos c4, decide_eq_true c4, Bool.and_true]
    by_cases c5 : (N : Int) ≤ (((d % 6 : Nat) : Int) - A 35) % 6
    · rw [if_pos c5, decide_eq_false (fun z => by omega), if_neg Bool.false_ne_true]
    · rw [if_neg c5, decide_eq_true ⟨by omega, c2, c3, by omega⟩, if_pos rfl]
  · rw [if_neg c4, decide_eq_false c4, Bool.and_false, if_neg Bool.false_ne_true]
/-- the last step: does it stand -/
theorem q_cho0 (hi : C_is w h n heat price D A c U kn KS cs m0) (hw : w ≤ 3 ∧ h ≤ 3 ∧ n ≤ 5) (hh : 0 ≤ heat ∧ heat ≤ 9) (hD : q_D D) (hok : hr_ok n A) (ht : 0 ≤ A 35 ∧ A 35 ≤ 1073741824) {N : Nat} (hN : N ≤ 40) (hv : q_I m0 n N A m) {b : Nat} (hb : b < 3) {x2 x3 : Int} (hx : ¬ 0 < x3) : ∃ m1 v, z_R 112 (m, 0, [(2, 140), (0, (b : Int)), (0, x2), (0, x3), (9, 0)], []) = some (m1, some (0, v)) ∧ q_I m0 n N A m1 ∧ m1 140 5 = m 140 5 ∧ ((v = 1 ∧ q_T w h n heat price cs D A N b (zb (m 140 5))) ∨ (v = 0 ∧ ¬ q_T w h n heat price cs D A N b (zb (m 140 5)))) := by
  have hs1 : z_st 141 := ⟨by decide, by omega⟩
  have hs2 : z_st 147 := ⟨by decide, by omega⟩
  obtain ⟨m2, b1, b2, b3⟩ := c_become hs1 hs2 (by decide) m
  have b1 : z_R 61 (m, 0, [(2, 147), (2, 141)], []) = some (m2, none) := b1
  rw [qt_cho_0, if_neg hx, b1, zb_n, qt_cho_15]
  have e140 : ∀ k, m2 140 k = m 140 k := fun k => b3.of (by (repeat' (first | exact trivial | refine z_of_c ?_ ?_)) <;> omega)
  have f2 : ∀ p k, C_hit p k k = true → ¬ (p = 24 ∧ k = 5) → (z_up m2 24 5 (m2 140 5)) p k = m0 p k := fun p k hk hn => by
    have hk' := hk
    unfold C_hit at hk'
    have hk' := of_decide_eq_true hk'
    rw [show (z_up m2 24 5 (m2 140 5)) p k = m2 p k from if_neg hn]
    exact (show m2 p k = m p k from b3.of (by (repeat' (first | exact trivial | refine z_of_c ?_ ?_)) <;> omega)).trans (hv.1 p k hk hn)
  have g140 : ∀ k, (z_up m2 24 5 (m2 140 5)) 140 k = m 140 k := fun k => (zu_p (by decide)).trans (e140 k)
  have g5 : (z_up m2 24 5 (m2 140 5)) 24 5 = m 140 5 := zu_self.trans (e140 5)
  have gA : cS (z_up m2 24 5 (m2 140 5)) 147 n = A := by
    rw [cS_fr (m := m2) (fun j k hj _ => zu_p (by omega))]
    exact (cS_cR b2).trans hv.2.2.1
  have gA1 : cS (z_up m2 24 5 (m2 140 5)) 141 n = A := by
    rw [cS_fr (m := m) (fun j k hj hk => ?_)]
    · exact hv.2.2.1
    · rw [zu_p (by omega)]
      exact b3.of (by (repeat' (first | exact trivial | refine z_of_c ?_ ?_)) <;> omega)
  have g4 : m2 140 4 = m 140 4 := b3.of (by (repeat' (first | exact trivial | refine z_of_c ?_ ?_)) <;> omega)
  have g13 : (z_up m2 24 5 (m2 140 5)) 0 13 = m0 0 13 ∧ ∀ i, (z_up m2 24 5 (m2 140 5)) 250 i = m0 250 i := ⟨(zu_p (by decide)).trans ((b3.of (by (repeat' (first | exact trivial | refine z_of_c ?_ ?_)) <;> omega)).trans hv.2.2.2.1), fun i => (zu_p (by decide)).trans ((b3.of (by (repeat' (first | exact trivial | refine z_of_c ?_ ?_)) <;> omega)).trans (hv.2.2.2.2 i))⟩
  generalize z_up m2 24 5 (m2 140 5) = m3 at f2 g140 g5 gA gA1 g13 ⊢
  have hcf := q_cfg hi f2 g5
  obtain ⟨m4, d1, d2⟩ := sc_st (A := A) (D := qS D (zb (m 140 5))) (N := N) hs2 hb (by omega) (q_D_N hw hh (q_D_S hD (zb (m 140 5)))) hcf gA ag_rf hok ht.1 (by omega) (fun _ _ _ _ _ => rfl)
  have d1 : z_R 97 (m3, 0, [(2, 24), (2, 147), (0, (N : Int)), (0, z_and (m3 3 10) (z_shl 73 (b : Int))), (9, 0), (9, 0)], []) = some (m4, some (0, s_stc w h n heat price cs (qS D (zb (m 140 5))) (s_fl A) b N N 0 A)) := d1
  have k4 : ∀ k, m4 140 k = m 140 k := fun k => (d2.of (by (repeat' (first | exact trivial | refine z_of_c ?_ ?_)) <;> omega)).trans (g140 k)
  have hv4 : q_I m0 n N A m4 := by
    refine ⟨fun p k hk hn => ?_, (k4 4).trans hv.2.1, ?_, ⟨(d2.of (by (repeat' (first | exact trivial | refine z_of_c ?_ ?_)) <;> omega)).trans g13.1, fun i => (d2.of (by (repeat' (first | exact trivial | refine z_of_c ?_ ?_)) <;> omega)).trans (g13.2 i)⟩⟩
    · have hk' := hk
      unfold C_hit at hk'
      have hk' := of_decide_eq_true hk'
      exact (show m4 p k = m3 p k from d2.of (by (repeat' (first | exact trivial | refine z_of_c ?_ ?_)) <;> omega)).trans (f2 p k hk hn)
    · rw [cS_fr (m := m3) (fun j k hj hk => d2.of (by (repeat' (first | exact trivial | refine z_of_c ?_ ?_)) <;> omega))]
      exact gA1
  rw [sc_roc_0, zb_v, qt_cho_46, g4, hv.2.1, d1, zb_v, qt_cho_49, k4 4, hv.2.1]
  unfold q_T
  by_cases z : s_stc w h n heat price cs (qS D (zb (m 140 5))) (s_fl A) b N N 0 A = (N : Int)
  · rw [if_pos z]
    exact ⟨m4, 1, rfl, hv4, k4 5, Or.inl ⟨rfl, z⟩⟩
  · rw [if_neg z]
    exact ⟨m4, 0, rfl, hv4, k4 5, Or.inr ⟨rfl, z⟩⟩
/-- so many doings of a column, from one on -/
def q_X (n : Nat) (D A : Nat → Int) (N b a k : Nat) (X : Nat → Bool) : Prop := (∀ j, X j = true → a ≤ j ∧ j < 30 ∧ q_M n D A N b j = true) ∧ qc X 30 = k
theorem q_cho (hi : C_is w h n heat price D A c U kn KS cs m0) (hw : w ≤ 3 ∧ h ≤ 3 ∧ n ≤ 5) (hh : 0 ≤ heat ∧ heat ≤ 9) (hD : q_D D) (hok : hr_ok n A) (ht : 0 ≤ A 35 ∧ A 35 ≤ 1073741824) {N : Nat} (hN : N ≤ 40) {b : Nat} (hb : b < 3) : ∀ (k : Nat), k ≤ 3 → ∀ (a : Nat) (m : z_M), a ≤ 30 → q_I m0 n N A m → z_w (m 140 5) = m 140 5 → (∀ j, a ≤ j → q_M n D A N b j = true → zb (m 140 5) j = false) → ∃ m1 v, z_R 112 (m, 0, [(2, 140), (0, (b : Int)), (0, (a : Int)), (0, (k : Int)), (9, 0)], []) = some (m1, some (0, v)) ∧ q_I m0 n N A m1 ∧ z_w (m1 140 5) = m1 140 5 ∧ ((v = 1 ∧ ∃ X, q_X n D A N b a k X ∧ (∀ j, zb (m1 140 5) j = (zb (m 140 5) j || X j)) ∧ q_T w h n heat price cs D A N b (zb (m1 140 5))) ∨ (v = 0 ∧ m1 140 5 = m 140 5 ∧ ∀ X, q_X n D A N b a k X → ¬ q_T w h n heat price cs D A N b (fun j => zb (m 140 5) j || X j))) := by
  intro k
  induction k with
  | zero =>
    intro hk a m ha hv hL hM
    obtain ⟨m1, v, a1, a2, a3, a4⟩ := q_cho0 hi hw hh hD hok ht hN hv hb (x2 := (a : Int)) (x3 := ((0 : Nat) : Int)) (by omega)
    refine ⟨m1, v, a1, a2, by rw [a3]; exact hL, ?_⟩
    rcases a4 with ⟨v1, t⟩ | ⟨v0, t⟩
    · refine Or.inl ⟨v1, fun _ => false, ⟨fun j hj => (by cases hj), qc_0 30⟩, fun j => by rw [a3, Bool.or_false], ?_⟩
      rw [a3]
      exact t
    · refine Or.inr ⟨v0, a3, fun X hX z => t ?_⟩
      refine (q_T_cg hw hh hD hok ht hN (fun d hd _ => ?_)).mp z
      rw [qc_no 30 hX.2 d hd, Bool.or_false]
  | succ k ih =>
    intro hk a m ha hv hL hM
    have lp : ∀ (f d : Nat) (m : z_M), d + f = 30 → a ≤ d → q_I m0 n N A m → z_w (m 140 5) = m 140 5 → (∀ j, a ≤ j → q_M n D A N b j = true → zb (m 140 5) j = false) → ∃ m1 v, z_R 112 (m, 65, [(2, 140), (0, (b : Int)), (0, (a : Int)), (0, ((k + 1 : Nat) : Int)), (0, (d : Int))], []) = some (m1, some (0, v)) ∧ q_I m0 n N A m1 ∧ z_w (m1 140 5) = m1 140 5 ∧ ((v = 1 ∧ ∃ X, q_X n D A N b d (k + 1) X ∧ (∀ j, zb (m1 140 5) j = (zb (m 140 5) j || X j)) ∧ q_T w h n heat price cs D A N b (zb (m1 140 5))) ∨ (v = 0 ∧ m1 140 5 = m 140 5 ∧ ∀ X, q_X n D A N b d (k + 1) X → ¬ q_T w h n heat price cs D A N b (fun j => zb (m 140 5) j || X j))) := by
      intro f
      induction f with
      | zero =>
        intro d m hd had hv hL hM
        rw [qt_cho_65, if_pos (by omega)]
        refine ⟨m, 0, rfl, hv, hL, Or.inr ⟨rfl, rfl, fun X hX _ => ?_⟩⟩
        have e : qc X 30 = 0 := by
          rw [qc_cg (S' := fun _ => false) 30 (fun j hj => by
            cases y : X j
            · rfl
            · have := hX.1 j y
              omega)]
          exact qc_0 30
        have := hX.2
        omega
      | succ f ihf =>
        intro d m hd had hv hL hM
        rw [qt_cho_65, if_neg (by omega), q_mat hi hw hok ht hN hv (by omega), zb_v, qt_cho_79, z_add_eq (x := (d : Int)) (y := 1) (by omega) (by omega), tc1]
        by_cases y : q_M n D A N b d = true
        · have n5 := hw.2.2
          have hz : zb (m 140 5) d = false := hM d had y
          rw [if_pos y, if_neg (show ¬ (1 : Int) = 0 by decide), z_sub_eq (x := ((k + 1 : Nat) : Int)) (y := 1) (by omega) (by omega), show ((k + 1 : Nat) : Int) - 1 = (k : Int) by omega]
          have bl : ∀ j, zb (z_or (m 140 5) (z_shl 1 (d : Int))) j = (zb (m 140 5) j || q_1 (d : Int) j) := fun j => by
            by_cases hj : j < 32
            · rw [zb_or, zb_shl (by omega) hj]
              congr 1
              exact decide_eq_decide.mpr ⟨fun z => by omega, fun z => by omega⟩
            · rw [zb_32 (by omega), zb_32 (a := m 140 5) (by omega)]
              exact (decide_eq_false (by omega)).symm
          have hv2 : q_I m0 n N A (z_up m 140 5 (z_or (m 140 5) (z_shl 1 (d : Int)))) := ⟨fun p q hk hn => by
            have hk' := hk
            unfold C_hit at hk'
            have hk' := of_decide_eq_true hk'
            rw [zu_p (by omega)]
            exact hv.1 p q hk hn, (zu_k (by decide)).trans hv.2.1, (by rw [cS_fr (m := m) (fun j q hj _ => zu_p (by omega))]; exact hv.2.2.1), ⟨(zu_p (by decide)).trans hv.2.2.2.1, fun i => (zu_p (by decide)).trans (hv.2.2.2.2 i)⟩⟩
          have g5 : (z_up m 140 5 (z_or (m 140 5) (z_shl 1 (d : Int)))) 140 5 = z_or (m 140 5) (z_shl 1 (d : Int)) := zu_self
          generalize z_up m 140 5 (z_or (m 140 5) (z_shl 1 (d : Int))) = m2 at hv2 g5 ⊢
          obtain ⟨m3, v, a1, a2, a3, a4⟩ := ih (by omega) (d + 1) m2 (by omega) hv2 (by rw [g5]; exact z_or_w) (fun j hj hjM => by
            rw [g5, bl, hM j (by omega) hjM, Bool.false_or]
            exact decide_eq_false (by omega))
          rw [a1, zb_v, qt_cho_107]
          have un : ∀ X, q_X n D A N b (d + 1) k X → q_X n D A N b d (k + 1) (fun j => X j || q_1 (d : Int) j) := fun X hX => by
            refine ⟨fun j hj => ?_, ?_⟩
            · rcases Bool.or_eq_true _ _ |>.mp hj with z | z
              · have := hX.1 j z
                exact ⟨by omega, this.2⟩
              · have := of_decide_eq_true z
                obtain rfl : j = d := by omega
                exact ⟨Nat.le_refl _, by omega, y⟩
            · rw [qc_or 30 (fun j _ ⟨z1, z2⟩ => by
                have := (hX.1 j z1).1
                have := of_decide_eq_true z2
                omega), hX.2, qc_1, if_pos (by omega)]
          rcases a4 with ⟨v1, X, x1, x2, x3⟩ | ⟨v0, e3, t⟩
          · rw [v1, if_neg (show ¬ (1 : Int) = 0 by decide)]
            refine ⟨m3, 1, rfl, a2, a3, Or.inl ⟨rfl, _, un X x1, fun j => ?_, x3⟩⟩
            rw [x2 j, g5, bl, Bool.or_assoc, Bool.or_comm (q_1 (d : Int) j)]
          · have e5 : z_and (m3 140 5) (z_xor (z_shl 1 (d : Int)) (-1)) = m 140 5 := by
              rw [e3, g5]
              refine zb_ext z_and_w hL fun j hj => ?_
              rw [zb_and, bl, zb_xor, zb_shl (by omega) hj, zb_m1 hj]
              by_cases e : j = d
              · rw [decide_eq_true e, e, hz]
                simp
              · rw [decide_eq_false e, show q_1 (d : Int) j = false from decide_eq_false (by omega)]
                simp
            rw [v0, if_pos (show (0 : Int) = 0 from rfl), e5, z_add_eq (x := (d : Int)) (y := 1) (by omega) (by omega), tc1]
            have hv4 : q_I m0 n N A (z_up m3 140 5 (m 140 5)) := ⟨fun p q hk hn => by
              have hk' := hk
              unfold C_hit at hk'
              have hk' := of_decide_eq_true hk'
              rw [zu_p (by omega)]
              exact a2.1 p q hk hn, (zu_k (by decide)).trans a2.2.1, (by rw [cS_fr (m := m3) (fun j q hj _ => zu_p (by omega))]; exact a2.2.2.1), ⟨(zu_p (by decide)).trans a2.2.2.2.1, fun i => (zu_p (by decide)).trans (a2.2.2.2.2 i)⟩⟩
            have k5 : (z_up m3 140 5 (m 140 5)) 140 5 = m 140 5 := zu_self
            obtain ⟨m4, v', c1, c2, c3, c4⟩ := ihf (d + 1) (z_up m3 140 5 (m 140 5)) (by omega) (by omega) hv4 (by rw [k5]; exact hL) (by rw [k5]; exact hM)
            refine ⟨m4, v', c1, c2, c3, ?_⟩
            rw [k5] at c4
            rcases c4 with ⟨v1, X, x1, x2, x3⟩ | ⟨v0', e4, t4⟩
            · exact Or.inl ⟨v1, X, ⟨fun j hj => ⟨by have := (x1.1 j hj).1; omega, (x1.1 j hj).2⟩, x1.2⟩, x2, x3⟩
            · refine Or.inr ⟨v0', e4, fun X hX z => ?_⟩
              by_cases hXd : X d = true
              · refine t (fun j => X j && !(q_1 (d : Int) j)) ⟨fun j hj => ?_, ?_⟩ ?_
                · obtain ⟨y1, y2⟩ := Bool.and_eq_true _ _ |>.mp hj
                  have := hX.1 j y1
                  have y2 : q_1 (d : Int) j = false := by
                    cases yy : q_1 (d : Int) j
                    · rfl
                    · rw [yy] at y2
                      cases y2
                  have y2 := of_decide_eq_false y2
                  exact ⟨by omega, this.2⟩
                · have e1 := qc_out (S := X) (a := d) (by omega) hXd
                  have e2 := hX.2
                  omega
                · refine (q_T_cg hw hh hD hok ht hN (fun j hj _ => ?_)).mp z
                  show (zb (m 140 5) j || X j) = (zb (m2 140 5) j || (X j && !(q_1 (d : Int) j)))
                  rw [g5, bl]
                  by_cases e : j = d
                  · have : q_1 (d : Int) j = true := decide_eq_true (by omega)
                    rw [this, e, hXd]
                    simp
                  · have : q_1 (d : Int) j = false := decide_eq_false (by omega)
                    rw [this]
                    simp
              · refine t4 X ⟨fun j hj => ?_, hX.2⟩ z
                have := hX.1 j hj
                have e : ¬ j = d := fun e => hXd (by rw [← e]; exact hj)
                exact ⟨by omega, this.2⟩
        · rw [if_neg y, if_pos (show (0 : Int) = 0 from rfl)]
          obtain ⟨m4, v', c1, c2, c3, c4⟩ := ihf (d + 1) m (by omega) (by omega) hv hL hM
          refine ⟨m4, v', c1, c2, c3, ?_⟩
          rcases c4 with ⟨v1, X, x1, x2, x3⟩ | ⟨v0, e4, t4⟩
          · exact Or.inl ⟨v1, X, ⟨fun j hj => ⟨by have := (x1.1 j hj).1; omega, (x1.1 j hj).2⟩, x1.2⟩, x2, x3⟩
          · refine Or.inr ⟨v0, e4, fun X hX => t4 X ⟨fun j hj => ?_, hX.2⟩⟩
            have := hX.1 j hj
            have e : ¬ j = d := fun e => y (by rw [← e]; exact this.2.2)
            exact ⟨by omega, this.2⟩
    rw [qt_cho_0, if_pos (by omega)]
    exact lp (30 - a) a m (by omega) (Nat.le_refl a) hv hL hM
/-- what is found, up to a column: the fewest -/
def q_W (w h n : Nat) (heat price : Int) (cs : List Int) (D A : Nat → Int) (N b : Nat) (L : Int) : Prop := (∀ j, zb L j = true → j < 30 ∧ q_U n D A N b j = true) ∧ (∀ b', b' < b → q_T w h n heat price cs D A N b' (zb L)) ∧ qc (zb L) 30 ≤ 3 ∧ ∀ S, (∀ b', b' < b → q_T w h n heat price cs D A N b' S) → qc (zb L) 30 ≤ qc (fun j => S j && q_U n D A N b j) 30
/-- one column more -/
theorem q_W_s (hw : w ≤ 3 ∧ h ≤ 3 ∧ n ≤ 5) (hh : 0 ≤ heat ∧ heat ≤ 9) (hD : q_D D) (hok : hr_ok n A) (ht : 0 ≤ A 35 ∧ A 35 ≤ 1073741824) {N b : Nat} (hN : N ≤ 40) {L L1 : Int} (hW : q_W w h n heat price cs D A N b L) {X : Nat → Bool} {k : Nat} (hX : q_X n D A N b 0 k X) (hk : qc (zb L) 30 + k ≤ 3) (hL1 : ∀ j, zb L1 j = (zb L j || X j)) (hT : q_T w h n heat price cs D A N b (zb L1)) (hmin : ∀ k', k' < k → ∀ Y, q_X n D A N b 0 k' Y → ¬ q_T w h n heat price cs D A N b (fun j => zb L j || Y j)) : q_W w h n heat price cs D A N (b + 1) L1 := by
  obtain ⟨w1, w2, w3, w4⟩ := hW
  have n5 := hw.2.2
  have hU : ∀ d, q_U n D A N (b + 1) d = (q_U n D A N b d || q_M n D A N b d) := fun d => q_U_s (fun hd => (hok.2.2.1 (d / 6) (by omega)).1)
  have eL1 : zb L1 = fun j => zb L j || X j := funext hL1
  have dis : ∀ j, j < 30 → ¬ (zb L j = true ∧ X j = true) := fun j _ ⟨z1, z2⟩ => by
    have e1 := (w1 j z1).2
    have e2 := (q_M_U (hX.1 j z2).2.2).2
    rw [e1] at e2
    cases e2
  have ec : qc (zb L1) 30 = qc (zb L) 30 + k := by
    rw [eL1, qc_or 30 dis, hX.2]
  refine ⟨fun j hj => ?_, fun b' hb' => ?_, by omega, fun S hS => ?_⟩
  · rw [hL1] at hj
    rw [hU]
    rcases Bool.or_eq_true _ _ |>.mp hj with z | z
    · exact ⟨(w1 j z).1, by rw [(w1 j z).2]; rfl⟩
    · exact ⟨(hX.1 j z).2.1, by rw [(hX.1 j z).2.2, Bool.or_true]⟩
  · by_cases e : b' = b
    · rw [e]
      exact hT
    · refine (q_T_cg hw hh hD hok ht hN (fun d hd hM => ?_)).mp (w2 b' (by omega))
      rw [hL1]
      cases y : X d
      · rw [Bool.or_false]
      · have m1 := (hX.1 d y).2.2
        unfold q_M at hM m1
        have z1 := of_decide_eq_true (Bool.and_eq_true _ _ |>.mp hM).2
        have z2 := of_decide_eq_true (Bool.and_eq_true _ _ |>.mp m1).2
        omega
  · have h1 := w4 S (fun b' hb' => hS b' (by omega))
    have e : qc (fun j => S j && q_U n D A N (b + 1) j) 30 = qc (fun j => S j && q_U n D A N b j) 30 + qc (fun j => (S j && q_M n D A N b j) && decide (j < 30)) 30 := by
      rw [← qc_or 30 (fun j _ ⟨z1, z2⟩ => by
        have y1 := (Bool.and_eq_true _ _ |>.mp z1).2
        have y2 := (q_M_U (Bool.and_eq_true _ _ |>.mp (Bool.and_eq_true _ _ |>.mp z2).1).2).2
        rw [y1] at y2
        cases y2)]
      refine qc_cg 30 fun j hj => ?_
      show (S j && q_U n D A N (b + 1) j) = ((S j && q_U n D A N b j) || ((S j && q_M n D A N b j) && decide (j < 30)))
      rw [hU, decide_eq_true hj, Bool.and_true]
      cases S j <;> simp
    have hk2 : k ≤ qc (fun j => (S j && q_M n D A N b j) && decide (j < 30)) 30 := Decidable.byContradiction fun y => by
      refine hmin (qc (fun j => (S j && q_M n D A N b j) && decide (j < 30)) 30) (by omega) (fun j => (S j && q_M n D A N b j) && decide (j < 30)) ⟨fun j hj => ?_, rfl⟩ ?_
      · obtain ⟨y1, y2⟩ := Bool.and_eq_true _ _ |>.mp hj
        exact ⟨Nat.zero_le j, of_decide_eq_true y2, (Bool.and_eq_true _ _ |>.mp y1).2⟩
      · refine (q_T_cg hw hh hD hok ht hN (fun d hd hM => ?_)).mp (hS b (by omega))
        have e0 : zb L d = false := by
          cases z : zb L d
          · rfl
          · have := (w1 d z).2
            rw [(q_M_U hM).2] at this
            cases this
        show S d = (zb L d || ((S d && q_M n D A N b d) && decide (d < 30)))
        rw [e0, hM, decide_eq_true hd]
        simp
    omega
end
end
section
/-! QUIET: what both answer -/
/-- what is to be answered -/
def q_an (w h n : Nat) (heat price : Int) (cs : List Int) (D A : Nat → Int) (N : Nat) (v : Int) : Prop := (v = -2 ∧ ∀ S, (∀ j, S j = true → j < 6 * n) → q_full w h n heat price cs D A N S → 3 < qc S 30) ∨ ∃ S, (∀ j, S j = true → j < 6 * n) ∧ q_full w h n heat price cs D A N S ∧ qc S 30 ≤ 3 ∧ v = ((qc S 30 : Nat) : Int) ∧ ∀ S', (∀ j, S' j = true → j < 6 * n) → q_full w h n heat price cs D A N S' → qc S 30 ≤ qc S' 30
theorem q_an_1 {w h n : Nat} {heat price : Int} {cs : List Int} {D A : Nat → Int} {N : Nat} {v v' : Int} (h1 : q_an w h n heat price cs D A N v) (h2 : q_an w h n heat price cs D A N v') : v = v' := by
  rcases h1 with ⟨a1, a2⟩ | ⟨S, a1, a2, a3, a4, a5⟩
  · rcases h2 with ⟨b1, b2⟩ | ⟨S', b1, b2, b3, b4, b5⟩
    · rw [a1, b1]
    · have := a2 S' b1 b2
      omega
  · rcases h2 with ⟨b1, b2⟩ | ⟨S', b1, b2, b3, b4, b5⟩
    · have := b2 S a1 a2
      omega
    · have := a5 S' b1 b2
      have := b5 S a1 a2
      omega
section
variable {w h n : Nat} {heat price : Int} {D A : Nat → Int} {c : Nat} {U : Nat → Nat → Int} {kn : Nat → Int} {KS : Nat → Nat → Int} {cs : List Int} {m m0 : z_M}
/-- the fewest of a column -/
theorem q_few (hi : C_is w h n heat price D A c U kn KS cs m0) (hw : w ≤ 3 ∧ h ≤ 3 ∧ n ≤ 5) (hh : 0 ≤ heat ∧ heat ≤ 9) (hD : q_D D) (hok : hr_ok n A) (ht : 0 ≤ A 35 ∧ A 35 ≤ 1073741824) {N : Nat} (hN : N ≤ 40) {b : Nat} (hb : b < 3) {L : Int} (hL : z_w L = L) (hW : q_W w h n heat price cs D A N b L) {left : Nat} (hl : left + qc (zb L) 30 = 3) : ∀ (f few : Nat) (m : z_M), few + f = left + 1 → q_I m0 n N A m → m 140 5 = L → (∀ k', k' < few → ∀ Y, q_X n D A N b 0 k' Y → ¬ q_T w h n heat price cs D A N b (fun j => zb L j || Y j)) → ∃ m1 v v5 v6, z_R 111 (m, 55, [(2, 140), (2, 12), (0, (N : Int)), (0, 0), (0, (b : Int)), (0, (left : Int)), (0, (few : Int))], []) = z_R 111 (m1, 23, [(2, 140), (2, 12), (0, (N : Int)), (0, v), (0, ((b + 1 : Nat) : Int)), v5, v6], []) ∧ q_I m0 n N A m1 ∧ ((v = 1 ∧ z_w (m1 140 5) = m1 140 5 ∧ q_W w h n heat price cs D A N (b + 1) (m1 140 5)) ∨ (v = 0 ∧ ∀ k', k' ≤ left → ∀ Y, q_X n D A N b 0 k' Y → ¬ q_T w h n heat price cs D A N b (fun j => zb L j || Y j))) := by
  intro f
  induction f with
  | zero =>
    intro few m hf hv h5 hno
    rw [qt_sea_55, if_pos (by omega), z_add_eq (x := (b : Int)) (y := 1) (by omega) (by omega), tc1]
    exact ⟨m, 0, _, _, rfl, hv, Or.inr ⟨rfl, fun k' hk' => hno k' (by omega)⟩⟩
  | succ f ih =>
    intro few m hf hv h5 hno
    obtain ⟨m1, v, a1, a2, a3, a4⟩ := q_cho (cs := cs) hi hw hh hD hok ht hN hb few (by omega) 0 m (by decide) hv (by rw [h5]; exact hL) (fun j _ hM => by
      rw [h5]
      cases y : zb L j
      · rfl
      · have := (hW.1 j y).2
        rw [(q_M_U hM).2] at this
        cases this)
    have a1 : z_R 112 (m, 0, [(2, 140), (0, (b : Int)), (0, 0), (0, (few : Int)), (9, 0)], []) = some (m1, some (0, v)) := a1
    rw [qt_sea_55, if_neg (by omega), if_pos (show (0 : Int) = 0 from rfl), a1, zb_v, qt_sea_75, z_add_eq (x := (few : Int)) (y := 1) (by omega) (by omega), tc1]
    rw [h5] at a4
    rcases a4 with ⟨v1, X, x1, x2, x3⟩ | ⟨v0, e5, t⟩
    · have hW1 := q_W_s hw hh hD hok ht hN hW x1 (by omega) x2 x3 hno
      rw [v1, qt_sea_55, z_add_eq (x := (b : Int)) (y := 1) (by omega) (by omega), tc1]
      by_cases y : (left : Int) < ((few + 1 : Nat) : Int)
      · rw [if_pos y]
        exact ⟨m1, 1, _, _, rfl, a2, Or.inl ⟨rfl, a3, hW1⟩⟩
      · rw [if_neg y, if_neg (show ¬ (1 : Int) = 0 by decide)]
        exact ⟨m1, 1, _, _, rfl, a2, Or.inl ⟨rfl, a3, hW1⟩⟩
    · rw [v0]
      refine ih (few + 1) m1 (by omega) a2 e5 (fun k' hk' => ?_)
      by_cases e : k' = few
      · rw [e]
        exact t
      · exact hno k' (by omega)
theorem q_seaL (hi : C_is w h n heat price D A c U kn KS cs m0) (hw : w ≤ 3 ∧ h ≤ 3 ∧ n ≤ 5) (hh : 0 ≤ heat ∧ heat ≤ 9) (hD : q_D D) (hok : hr_ok n A) (ht : 0 ≤ A 35 ∧ A 35 ≤ 1073741824) {N : Nat} (hN : N ≤ 40) : ∀ (f b : Nat) (v5 v6 : z_V) (m : z_M), b + f = w → q_I m0 n N A m → z_w (m 140 5) = m 140 5 → q_W w h n heat price cs D A N b (m 140 5) → ∃ m1 v, z_R 111 (m, 23, [(2, 140), (2, 12), (0, (N : Int)), (0, 1), (0, (b : Int)), v5, v6], []) = some (m1, some (0, v)) ∧ C_is w h n heat price D A c U kn KS cs m1 ∧ ((v = 1 ∧ q_W w h n heat price cs D A N w (m1 140 5)) ∨ (v = 0 ∧ ∀ S, q_full w h n heat price cs D A N S → 3 < qc S 30)) ∧ m1 0 13 = m0 0 13 ∧ ∀ i, m1 250 i = m0 250 i := by
  have fin : ∀ m : z_M, q_I m0 n N A m → C_is w h n heat price D A c U kn KS cs (z_up m 24 5 0) := fun m hv => C_frq hi zu_self (fun p k hk hn => (if_neg hn).trans (hv.1 p k hk hn))
  intro f
  induction f with
  | zero =>
    intro b v5 v6 m hb hv hL hW
    obtain rfl : b = w := by omega
    rw [qt_sea_23, (q_I_n hi hv).1, if_pos (Int.le_refl _)]
    refine ⟨_, 1, rfl, fin m hv, Or.inl ⟨rfl, ?_⟩, (zu_p (by decide)).trans hv.2.2.2.1, fun i => (zu_p (by decide)).trans (hv.2.2.2.2 i)⟩
    rw [show (z_up m 24 5 0) 140 5 = m 140 5 from zu_p (by decide)]
    exact hW
  | succ f ih =>
    intro b v5 v6 m hb hv hL hW
    have e32 : qc (zb (m 140 5)) 32 = qc (zb (m 140 5)) 30 := qc_32 (fun j hj => (hW.1 j hj).1)
    have h3 := hW.2.2.1
    rw [qt_sea_23, (q_I_n hi hv).1, if_neg (by omega), if_neg (show ¬ (1 : Int) = 0 by decide), t_bc_0, zb_v, qt_sea_49, pc32, e32, z_sub_eq (x := 3) (by omega) (by omega), show (3 : Int) - ((qc (zb (m 140 5)) 30 : Nat) : Int) = ((3 - qc (zb (m 140 5)) 30 : Nat) : Int) by omega]
    obtain ⟨m1, v, w5, w6, a1, a2, a3⟩ := q_few (cs := cs) hi hw hh hD hok ht hN (b := b) (by omega) hL hW (left := 3 - qc (zb (m 140 5)) 30) (by omega) (3 - qc (zb (m 140 5)) 30 + 1) 0 m (by omega) hv rfl (fun k' hk' => absurd hk' (Nat.not_lt_zero k'))
    have a1 : z_R 111 (m, 55, [(2, 140), (2, 12), (0, (N : Int)), (0, 0), (0, (b : Int)), (0, ((3 - qc (zb (m 140 5)) 30 : Nat) : Int)), (0, 0)], []) = z_R 111 (m1, 23, [(2, 140), (2, 12), (0, (N : Int)), (0, v), (0, ((b + 1 : Nat) : Int)), w5, w6], []) := a1
    rw [a1]
    rcases a3 with ⟨v1, hL1, hW1⟩ | ⟨v0, hno⟩
    · rw [v1]
      exact ih (b + 1) w5 w6 m1 (by omega) a2 hL1 hW1
    · have e : z_R 111 (m1, 23, [(2, 140), (2, 12), (0, (N : Int)), (0, v), (0, ((b + 1 : Nat) : Int)), w5, w6], []) = some (z_up m1 24 5 0, some (0, 0)) := by
        rw [v0, qt_sea_23]
        by_cases y : m1 3 8 ≤ ((b + 1 : Nat) : Int)
        · rw [if_pos y]
        · rw [if_neg y, if_pos (show (0 : Int) = 0 from rfl)]
      rw [e]
      refine ⟨_, 0, rfl, fin m1 a2, Or.inr ⟨rfl, fun S hS => ?_⟩, (zu_p (by decide)).trans a2.2.2.2.1, fun i => (zu_p (by decide)).trans (a2.2.2.2.2 i)⟩
      obtain ⟨t0, t1, t2⟩ := q_full_T.mp hS
      have tb : ∀ b', b' < 3 → q_T w h n heat price cs D A N b' S := fun b' hb' => by
        rcases (show b' = 0 ∨ b' = 1 ∨ b' = 2 by omega) with rfl | rfl | rfl
        · exact t0
        · exact t1
        · exact t2
      have h1 := hW.2.2.2 S (fun b' hb' => tb b' (by omega))
      have hq : 3 - qc (zb (m 140 5)) 30 < qc (fun j => (S j && q_M n D A N b j) && decide (j < 30)) 30 := Decidable.byContradiction fun y => by
        refine hno (qc (fun j => (S j && q_M n D A N b j) && decide (j < 30)) 30) (by omega) (fun j => (S j && q_M n D A N b j) && decide (j < 30)) ⟨fun j hj => ?_, rfl⟩ ?_
        · obtain ⟨y1, y2⟩ := Bool.and_eq_true _ _ |>.mp hj
          exact ⟨Nat.zero_le j, of_decide_eq_true y2, (Bool.and_eq_true _ _ |>.mp y1).2⟩
        · refine (q_T_cg hw hh hD hok ht hN (fun d hd hM => ?_)).mp (tb b (by omega))
          have e0 : zb (m 140 5) d = false := by
            cases z : zb (m 140 5) d
            · rfl
            · have := (hW.1 d z).2
              rw [(q_M_U hM).2] at this
              cases this
          show S d = (zb (m 140 5) d || ((S d && q_M n D A N b d) && decide (d < 30)))
          rw [e0, hM, decide_eq_true hd]
          simp
      have e2 : qc (fun j => S j && q_U n D A N b j) 30 + qc (fun j => (S j && q_M n D A N b j) && decide (j < 30)) 30 ≤ qc S 30 := by
        rw [← qc_or 30 (fun j _ ⟨z1, z2⟩ => by
          have y1 := (Bool.and_eq_true _ _ |>.mp z1).2
          have y2 := (q_M_U (Bool.and_eq_true _ _ |>.mp (Bool.and_eq_true _ _ |>.mp z2).1).2).2
          rw [y1] at y2
          cases y2)]
        refine qc_le 30 fun j _ hj => ?_
        rcases Bool.or_eq_true _ _ |>.mp hj with z | z
        · exact (Bool.and_eq_true _ _ |>.mp z).1
        · exact (Bool.and_eq_true _ _ |>.mp (Bool.and_eq_true _ _ |>.mp z).1).1
      omega
theorem q_rowC {L : Int} {N : Int} (hL3 : qc (zb L) 30 ≤ 3) (hLj : ∀ j, zb L j = true → j < 30) : ∀ (f d : Nat) (m : z_M), d + f = 30 → m 0 13 = ((qc (zb L) d : Nat) : Int) → m 140 5 = L → C_is w h n heat price D A c U kn KS cs m → ∃ m1, z_R 110 (m, 37, [(2, 0), (0, N), (0, (d : Int))], []) = some (m1, some (0, ((qc (zb L) 30 : Nat) : Int))) ∧ C_is w h n heat price D A c U kn KS cs m1 ∧ m1 0 13 = ((qc (zb L) 30 : Nat) : Int) := by
  have mono : ∀ d, d ≤ 30 → qc (zb L) d ≤ qc (zb L) 30 := fun d hd => by
    have : ∀ e, qc (zb L) d ≤ qc (zb L) (d + e) := fun e => by
      induction e with
      | zero => exact Nat.le_refl _
      | succ e ih => exact Nat.le_trans ih (Nat.le_add_right _ _)
    have := this (30 - d)
    rw [show d + (30 - d) = 30 by omega] at this
    exact this
  intro f
  induction f with
  | zero =>
    intro d m hd h13 h5 hi
    rw [qt_qui_37, if_pos (by omega), h5, t_bc_0, zb_v, qt_qui_79, pc32, qc_32 hLj]
    have ed : d = 30 := by omega
    exact ⟨m, rfl, hi, by rw [h13, ed]⟩
  | succ f ih =>
    intro d m hd h13 h5 hi
    have e := zb_test32 (a := L) (k := d) (by omega)
    have hm := mono d (by omega)
    rw [qt_qui_37, if_neg (by omega), h5, z_add_eq (x := (d : Int)) (y := 1) (by omega) (by omega), tc1]
    cases y : zb L d
    · rw [if_pos (e.mpr y)]
      refine ih (d + 1) m (by omega) ?_ h5 hi
      rw [h13]
      show _ = ((qc (zb L) d + (if zb L d = true then 1 else 0) : Nat) : Int)
      rw [y, if_neg Bool.false_ne_true, Nat.add_zero]
    · rw [if_neg (fun z => by rw [e.mp z] at y; cases y), c_add (j := qc (zb L) d) m _ (by omega) h13, zb_n, qt_qui_63, z_add_eq (x := (d : Int)) (y := 1) (by omega) (by omega), tc1]
      refine ih (d + 1) _ (by omega) ?_ (by rw [zu_p (by decide), zu_p (by decide)]; exact h5) (C_upn (C_upn hi (by unfold C_hit; exact decide_eq_false (by omega))) (by decide))
      rw [zu_self]
      show _ = ((qc (zb L) d + (if zb L d = true then 1 else 0) : Nat) : Int)
      rw [y, if_pos rfl]
theorem C_quiet (hi : C_is w h n heat price D A c U kn KS cs m) (hw : w ≤ 3 ∧ h ≤ 3 ∧ n ≤ 5) (hh : 0 ≤ heat ∧ heat ≤ 9) (hD : q_D D) (hok : hr_ok n A) (ht : 0 ≤ A 35 ∧ A 35 ≤ 1073741824) (a : Int) : ∃ m1 v, z_R 110 (m, 0, [(2, 0), (0, a), (9, 0)], []) = some (m1, some (0, v)) ∧ C_is w h n heat price D A c U kn KS cs m1 ∧ ((¬ (1 ≤ a ∧ a ≤ 40) ∧ v = -1) ∨ ((1 ≤ a ∧ a ≤ 40) ∧ q_an w h n heat price cs D A a.toNat v)) ∧ m1 0 13 = (if v < 0 then m 0 13 else v) := by
  rw [qt_qui_0]
  by_cases c1 : a < 1
  · rw [if_pos c1]
    exact ⟨m, -1, rfl, hi, Or.inl ⟨by omega, rfl⟩, (if_pos (by decide)).symm⟩
  rw [if_neg c1]
  by_cases c2 : a ≤ 40
  · obtain ⟨N, rfl⟩ : ∃ N : Nat, a = (N : Int) := ⟨a.toNat, by omega⟩
    have hs1 : z_st 141 := ⟨by decide, by omega⟩
    obtain ⟨m2, b1, b2, b3⟩ := c_become z_st_12 hs1 (by decide) m
    have b1 : z_R 61 (m, 0, [(2, 141), (2, 12)], []) = some (m2, none) := b1
    have hC2 : C_is w h n heat price D A c U kn KS cs m2 := C_fr hi fun p k hk => by
      have hk' := hk
      unfold C_hit at hk'
      have hk' := of_decide_eq_true hk'
      exact b3.of (by (repeat' (first | exact trivial | refine z_of_c ?_ ?_)) <;> omega)
    rw [if_pos c2, qt_sea_0, b1, zb_n, qt_sea_8, Int.toNat_natCast]
    have hv : q_I m2 n N A (z_up (z_up m2 140 4 (N : Int)) 140 5 0) := ⟨fun p k hk _ => by
      have hk' := hk
      unfold C_hit at hk'
      have hk' := of_decide_eq_true hk'
      rw [zu_p (by omega), zu_p (by omega)], by rw [zu_k (by decide), zu_self], by
      rw [cS_fr (m := m2) (fun j k hj _ => by rw [zu_p (by omega), zu_p (by omega)])]
      exact (cS_cR b2).trans hi.2.2.1, by rw [zu_p (by decide), zu_p (by decide)], fun i => by rw [zu_p (by decide), zu_p (by decide)]⟩
    have g5 : (z_up (z_up m2 140 4 (N : Int)) 140 5 0) 140 5 = 0 := zu_self
    have z0 : zb 0 = fun _ => false := funext zb_0
    have hW : q_W w h n heat price cs D A N 0 ((z_up (z_up m2 140 4 (N : Int)) 140 5 0) 140 5) := by
      rw [g5]
      unfold q_W
      rw [z0, qc_0]
      exact ⟨fun j hj => (by cases hj), fun b' hb' => absurd hb' (Nat.not_lt_zero b'), by decide, fun S _ => Nat.zero_le _⟩
    obtain ⟨m3, v, d1, d2, d3, d4⟩ := q_seaL (cs := cs) hC2 hw hh hD hok ht (N := N) (by omega) w 0 (9, 0) (9, 0) (z_up (z_up m2 140 4 (N : Int)) 140 5 0) (by omega) hv (by rw [g5]; decide +kernel) hW
    have d1 : z_R 111 (z_up (z_up m2 140 4 (N : Int)) 140 5 0, 23, [(2, 140), (2, 12), (0, (N : Int)), (0, 1), (0, 0), (9, 0), (9, 0)], []) = some (m3, some (0, v)) := d1
    rw [d1, zb_v, qt_qui_25]
    rcases d3 with ⟨v1, hW3⟩ | ⟨v0, hno⟩
    · rw [v1, if_neg (show ¬ (1 : Int) = 0 by decide), s_tell0_0, zb_n, qt_qui_35]
      obtain ⟨m4, e1, e2, e3⟩ := q_rowC (L := m3 140 5) (N := (N : Int)) hW3.2.2.1 (fun j hj => (hW3.1 j hj).1) 30 0 (z_up m3 0 13 0) (by decide) zu_self (zu_p (by decide)) (C_upn d2 (by decide))
      have e1 : z_R 110 (z_up m3 0 13 0, 37, [(2, 0), (0, (N : Int)), (0, 0)], []) = some (m4, some (0, ((qc (zb (m3 140 5)) 30 : Nat) : Int))) := e1
      rw [e1]
      refine ⟨m4, _, rfl, e2, Or.inr ⟨by omega, Or.inr ⟨zb (m3 140 5), fun j hj => ?_, ?_, hW3.2.2.1, rfl, fun S' _ hS' => ?_⟩⟩, e3.trans (if_neg (by omega)).symm⟩
      · have := (hW3.1 j hj).2
        unfold q_U q_m0 at this
        exact (of_decide_eq_true (Bool.and_eq_true _ _ |>.mp this).1).1
      · have tb : ∀ b', b' < 3 → q_T w h n heat price cs D A N b' (zb (m3 140 5)) := fun b' hb' => by
          by_cases y : b' < w
          · exact hW3.2.1 b' y
          · refine q_T_no (fun r hr hrc => ?_)
            rw [u_hs_eq hw.1 hw.2.1 (by omega), if_neg (by omega)]
        exact q_full_T.mpr ⟨tb 0 (by decide), tb 1 (by decide), tb 2 (by decide)⟩
      · obtain ⟨t0, t1, t2⟩ := q_full_T.mp hS'
        refine Nat.le_trans (hW3.2.2.2 S' (fun b' hb' => ?_)) (qc_le 30 fun j _ hj => (Bool.and_eq_true _ _ |>.mp hj).1)
        have hw3 := hw.1
        rcases (show b' = 0 ∨ b' = 1 ∨ b' = 2 by omega) with rfl | rfl | rfl
        · exact t0
        · exact t1
        · exact t2
    · rw [v0, if_pos (show (0 : Int) = 0 from rfl)]
      exact ⟨m3, -2, rfl, d2, Or.inr ⟨by omega, Or.inl ⟨rfl, fun S _ hS => hno S hS⟩⟩, (d4.1.trans (b3.of (by (repeat' (first | exact trivial | refine z_of_c ?_ ?_)) <;> omega))).trans (if_pos (by decide)).symm⟩
  · rw [if_neg c2]
    exact ⟨m, -1, rfl, hi, Or.inl ⟨by omega, rfl⟩, (if_pos (by decide)).symm⟩
/-! the reference -/
/-- the numbers told stay -/
def qf (m m' : z_M) : Prop := m' 251 10 = m 251 10 ∧ ∀ i, m' 255 i = m 255 i
theorem qf_rf {m : z_M} : qf m m := ⟨rfl, fun _ => rfl⟩
theorem qf_tr {m m' m2 : z_M} (h1 : qf m m') (h2 : qf m' m2) : qf m m2 := ⟨h2.1.trans h1.1, fun i => (h2.2 i).trans (h1.2 i)⟩
theorem qf_up {m : z_M} {p k : Nat} {v : Int} (h1 : ¬ 251 = p) (h2 : ¬ 255 = p) : qf m (z_up m p k v) := ⟨zu_p h1, fun _ => zu_p h2⟩
theorem qS_or {D : Nat → Int} {S S' : Nat → Bool} : qS (qS D S) S' = qS D (fun j => S j || S' j) := by
  funext j
  unfold qS
  show _ = (if (S j || S' j) = true then 0 else D j)
  cases S j <;> cases S' j <;> rfl
theorem R_lo2 (hi : R_is w h n heat price D A c U kn KS cs m) {a : Int} (ha : a = -1 ∨ (0 ≤ a ∧ a < 30)) : ∃ m1 v, z_R 235 (m, 0, [(2, 251), (0, a), (9, 0)], []) = some (m1, some (0, v)) ∧ R_is w h n heat price (qS D (q_1 a)) A c U kn KS cs m1 ∧ (∀ m2, R_is w h n heat price (qS D (q_1 a)) A c U kn KS cs m2 → ∃ m3, z_R 236 (m2, 0, [(2, 251), (0, a), (0, v)], []) = some (m3, none) ∧ R_is w h n heat price D A c U kn KS cs m3 ∧ qf m2 m3) ∧ qf m m1 := by
  rw [q_lo_0]
  by_cases c1 : a = -1
  · have e : ∀ j, j < 30 → D j = qS D (q_1 a) j := fun j _ => by
      unfold qS
      rw [c1, q_1_no, if_neg Bool.false_ne_true]
    rw [if_pos c1]
    exact ⟨m, 0, rfl, R_Dcg hi e, fun m2 h2 => ⟨m2, by rw [q_tu_0, if_pos c1], R_Dcg h2 (fun j hj => (e j hj).symm), qf_rf⟩, qf_rf⟩
  · have hb : 0 ≤ a ∧ a < 30 := by omega
    have e : ∀ j, j < 30 → u_up D a.toNat 0 j = qS D (q_1 a) j := fun j _ => by
      unfold u_up qS q_1
      by_cases y : j = a.toNat
      · rw [if_pos y, decide_eq_true (show (j : Int) = a by omega), if_pos rfl]
      · rw [if_neg y, decide_eq_false (show ¬ (j : Int) = a by omega), if_neg Bool.false_ne_true]
    rw [if_neg c1, if_pos hb]
    refine ⟨_, _, rfl, R_Dcg (R_dz hi (by omega) 0) e, fun m2 h2 => ?_, qf_up (by decide) (by decide)⟩
    rw [q_tu_0, if_neg c1, if_pos hb]
    refine ⟨_, rfl, R_Dcg (R_dz h2 (a := a.toNat) (by omega) (m 253 a.toNat)) (fun j hj => ?_), qf_up (by decide) (by decide)⟩
    unfold u_up
    by_cases y : j = a.toNat
    · rw [if_pos y, y]
      exact hi.2.1 a.toNat (by omega)
    · rw [if_neg y]
      unfold qS q_1
      rw [decide_eq_false (show ¬ (j : Int) = a by omega), if_neg Bool.false_ne_true]
theorem q_ltf {m2 : z_M} (b1 : z_R 219 (m, 0, [(2, 251)], []) = some (m2, none)) : qf m m2 := by
  obtain ⟨m2', d1, -, d3⟩ := t_layd (a := 252) (q := 264) (B := 0) t_lay264_0 t_lay264_2 (by decide) (b := 0) (by decide) m
  have d1 : z_R 198 (m, 0, [(2, 252), (2, 264), (0, 0), (9, 0)], []) = some (m2', none) := d1
  have e : z_R 219 (m, 0, [(2, 251)], []) = some (m2', none) := by rw [q_lt_0, d1, zb_n, q_lt_12]
  rw [b1] at e
  have e := congrArg Prod.fst (Option.some.inj e)
  have e : m2 = m2' := e
  rw [e]
  exact ⟨d3 251 10 (by omega), fun i => d3 255 i (by omega)⟩
theorem R_stand2 {B : Nat → Int} (hN : w_N w h n heat D) (hok : hr_ok n B) (ht : 0 ≤ B 35 ∧ B 35 ≤ 1073741824) (hi : R_is w h n heat price D A c U kn KS cs m) (hB : rS m 264 n = B) {N : Nat} (hN6 : N ≤ 1000) : ∃ m1, z_R 221 (m, 0, [(2, 251), (0, (N : Int)), (9, 0), (9, 0)], []) = some (m1, some (0, s_sta w h n heat price cs D (s_F w h A) N N 0 B)) ∧ R_is w h n heat price D A c U kn KS cs m1 ∧ qf m m1 := by
  have hv := R_ice (w := w) (h := h) (n := n) hi.1.1 hi.1.2.1 hi.2.2.1 9 0 0 (by decide) (by decide +kernel)
  have hv : z_R 222 (m, 4, [(2, 251), (0, 0), (0, 0)], []) = some (m, some (0, s_F w h A)) := hv
  obtain ⟨m1, a1, a2⟩ := R_sta1 (F := s_F w h A) hN6 hN N 0 m B (by omega) hi hB hok ht.1 (by omega)
  have a1 : z_R 221 (m, 7, [(2, 251), (0, (N : Int)), (0, s_F w h A), (0, 0)], []) = some (m1, some (0, s_sta w h n heat price cs D (s_F w h A) N N 0 B)) := a1
  rw [q_sta_0, q_ice_0, hv, zb_v, q_sta_4, a1]
  exact ⟨m1, rfl, R_off264 hi a2, a2.of (by (repeat' (first | exact trivial | refine z_of_c ?_ ?_)) <;> omega), fun i => a2.of (by (repeat' (first | exact trivial | refine z_of_c ?_ ?_)) <;> omega)⟩
theorem R_tq2 (hi : R_is w h n heat price D A c U kn KS cs m) {q : Int} (hq : 0 ≤ q ∧ q ≤ 3) (a b d : Int) : ∃ m1, z_R 237 (m, 0, [(2, 251), (0, q), (0, a), (0, b), (0, d)], []) = some (m1, some (0, q)) ∧ R_is w h n heat price D A c U kn KS cs m1 ∧ m1 251 10 = q := by
  rw [q_tq_0 m q a b d hq]
  by_cases c0 : q ≤ 0
  · rw [if_pos c0]
    exact ⟨_, rfl, R_upn hi (by decide), zu_self.trans (by omega)⟩
  have h1 := R_upn (p0 := 255) (k0 := 0) (v := z_i2l a) (R_upn (p0 := 251) (k0 := 10) (v := 0) hi (by decide)) (by decide)
  rw [if_neg c0, t_tell0, zb_n, q_tq_15]
  by_cases c1 : q ≤ 1
  · rw [if_pos c1]
    exact ⟨_, rfl, R_upn h1 (by decide), zu_self.trans (by omega)⟩
  rw [if_neg c1, t_tell1, zb_n, q_tq_26]
  by_cases c2 : q ≤ 2
  · rw [if_pos c2]
    exact ⟨_, rfl, R_upn (R_upn (R_upn h1 (by decide)) (by decide)) (by decide), zu_self.trans (by omega)⟩
  rw [if_neg c2, t_tell2, zb_n, q_tq_38]
  exact ⟨_, rfl, R_upn (R_upn (R_upn (R_upn (R_upn h1 (by decide)) (by decide)) (by decide)) (by decide)) (by decide), zu_self.trans (by omega)⟩
theorem R_isq2 (hw : w ≤ 3 ∧ h ≤ 3 ∧ n ≤ 5) (hh : 0 ≤ heat ∧ heat ≤ 9) (hD : q_D D) (hok : hr_ok n A) (ht : 0 ≤ A 35 ∧ A 35 ≤ 1073741824) (hi : R_is w h n heat price D A c U kn KS cs m) {N : Nat} (hN6 : N ≤ 40) {a b d : Int} (ha : a = -1 ∨ (0 ≤ a ∧ a < 30)) (hb : b = -1 ∨ (0 ≤ b ∧ b < 30)) (hd : d = -1 ∨ (0 ≤ d ∧ d < 30)) : ∃ m1 v, z_R 234 (m, 0, [(2, 251), (0, (N : Int)), (0, a), (0, b), (0, d), (9, 0), (9, 0), (9, 0), (9, 0)], []) = some (m1, some (0, v)) ∧ R_is w h n heat price D A c U kn KS cs m1 ∧ ((v = 1 ∧ q_full w h n heat price cs D A N (q_3 a b d)) ∨ (v = 0 ∧ ¬ q_full w h n heat price cs D A N (q_3 a b d))) ∧ qf m m1 := by
  obtain ⟨m1, v1, a1, a3, a4, a5⟩ := R_lo2 hi ha
  obtain ⟨m2, v2, b1, b3, b4, b5⟩ := R_lo2 a3 hb
  obtain ⟨m3, v3, c1, c3, c4, c5⟩ := R_lo2 b3 hd
  obtain ⟨m4, d1, d2, d3⟩ := R_lt c3
  have eD : qS (qS (qS D (q_1 a)) (q_1 b)) (q_1 d) = qS D (q_3 a b d) := by
    rw [qS_or, qS_or]
    congr 1
  have hq : q_D (qS (qS (qS D (q_1 a)) (q_1 b)) (q_1 d)) := q_D_S (q_D_S (q_D_S hD _) _) _
  obtain ⟨m5, e1, e2, e3⟩ := R_stand2 (q_D_N hw hh hq) hok ht d2 d3 (N := N) (by omega)
  obtain ⟨m6, f1, f2, f3⟩ := c4 m5 e2
  obtain ⟨m7, g1, g2, g3⟩ := b4 m6 f2
  obtain ⟨m8, k1, k2, k3⟩ := a4 m7 g2
  have fr : qf m m8 := qf_tr (qf_tr (qf_tr (qf_tr (qf_tr (qf_tr (qf_tr a5 b5) c5) (q_ltf d1)) e3) f3) g3) k3
  rw [eD] at e1
  rw [q_isq_0, a1, zb_v, q_isq_5, b1, zb_v, q_isq_12, c1, zb_v, q_isq_20, d1, zb_n, q_isq_26, e1, zb_v, q_isq_31]
  unfold q_full
  by_cases z : s_sta w h n heat price cs (qS D (q_3 a b d)) (s_F w h A) N N 0 A = (N : Int)
  · rw [if_pos z, f1, zb_n, q_isq_50, g1, zb_n, q_isq_57, k1, zb_n, q_isq_64]
    exact ⟨m8, _, rfl, k2, Or.inl ⟨rfl, z⟩, fr⟩
  · rw [if_neg z, f1, zb_n, q_isq_50, g1, zb_n, q_isq_57, k1, zb_n, q_isq_64]
    exact ⟨m8, _, rfl, k2, Or.inr ⟨rfl, z⟩, fr⟩
/-- with how many numbers were told before -/
def Rq (w h n : Nat) (heat price : Int) (D A : Nat → Int) (c : Nat) (U : Nat → Nat → Int) (kn : Nat → Int) (KS : Nat → Nat → Int) (cs : List Int) (l0 : z_M) (m : z_M) : Prop := R_is w h n heat price D A c U kn KS cs m ∧ qf l0 m
theorem R_isq3 {l0 : z_M} (hw : w ≤ 3 ∧ h ≤ 3 ∧ n ≤ 5) (hh : 0 ≤ heat ∧ heat ≤ 9) (hD : q_D D) (hok : hr_ok n A) (ht : 0 ≤ A 35 ∧ A 35 ≤ 1073741824) (hi : Rq w h n heat price D A c U kn KS cs l0 m) {N : Nat} (hN6 : N ≤ 40) {a b d : Int} (ha : a = -1 ∨ (0 ≤ a ∧ a < 30)) (hb : b = -1 ∨ (0 ≤ b ∧ b < 30)) (hd : d = -1 ∨ (0 ≤ d ∧ d < 30)) : ∃ m1 v, z_R 234 (m, 0, [(2, 251), (0, (N : Int)), (0, a), (0, b), (0, d), (9, 0), (9, 0), (9, 0), (9, 0)], []) = some (m1, some (0, v)) ∧ Rq w h n heat price D A c U kn KS cs l0 m1 ∧ ((v = 1 ∧ q_full w h n heat price cs D A N (q_3 a b d)) ∨ (v = 0 ∧ ¬ q_full w h n heat price cs D A N (q_3 a b d))) := by
  obtain ⟨m1, v, a1, a2, a3, a4⟩ := R_isq2 (cs := cs) hw hh hD hok ht hi.1 hN6 ha hb hd
  exact ⟨m1, v, a1, ⟨a2, qf_tr hi.2 a4⟩, a3⟩
theorem qc_31 {a : Nat} (ha : a < 30) : qc (q_3 (a : Int) (-1) (-1)) 30 = 1 := by
  rw [qc_cg (S' := q_1 (a : Int)) 30 (fun j _ => by unfold q_3; rw [q_1_no, Bool.or_false, Bool.or_false]), qc_1, if_pos ha]
theorem qc_32b {a b : Nat} (hab : a < b) (hb : b < 30) : qc (q_3 (a : Int) (b : Int) (-1)) 30 = 2 := by
  rw [qc_cg (S' := fun j => q_1 (a : Int) j || q_1 (b : Int) j) 30 (fun j _ => by unfold q_3; rw [q_1_no, Bool.or_false]), qc_or 30 (fun j _ ⟨z1, z2⟩ => by
    have := of_decide_eq_true z1
    have := of_decide_eq_true z2
    omega), qc_1, qc_1, if_pos (by omega), if_pos hb]
theorem qc_33 {a b d : Nat} (hab : a < b) (hb : b < d) (hd : d < 30) : qc (q_3 (a : Int) (b : Int) (d : Int)) 30 = 3 := by
  show qc (fun j => q_1 (a : Int) j || (fun j => q_1 (b : Int) j || q_1 (d : Int) j) j) 30 = 3
  rw [qc_or 30 (fun j _ ⟨z1, z2⟩ => by
    have := of_decide_eq_true z1
    rcases Bool.or_eq_true _ _ |>.mp z2 with z | z
    · have := of_decide_eq_true z
      omega
    · have := of_decide_eq_true z
      omega), qc_or 30 (fun j _ ⟨z1, z2⟩ => by
    have := of_decide_eq_true z1
    have := of_decide_eq_true z2
    omega), qc_1, qc_1, qc_1, if_pos (by omega), if_pos (by omega), if_pos hd]
theorem q_3_lt {a b d : Int} {L : Nat} (ha : a < (L : Int)) (hb : b < (L : Int)) (hd : d < (L : Int)) : ∀ j, q_3 a b d j = true → j < L := fun j hj => by
  unfold q_3 at hj
  rcases Bool.or_eq_true _ _ |>.mp hj with z | z
  · have := of_decide_eq_true z
    omega
  · rcases Bool.or_eq_true _ _ |>.mp z with z | z
    · have := of_decide_eq_true z
      omega
    · have := of_decide_eq_true z
      omega
def q_res (w h n : Nat) (heat price : Int) (D A : Nat → Int) (c : Nat) (U : Nat → Nat → Int) (kn : Nat → Int) (KS : Nat → Nat → Int) (cs : List Int) (l0 : z_M) (N : Nat) (X : Option z_Q) : Prop := ∃ m1 v, X = some (m1, some (0, v)) ∧ R_is w h n heat price D A c U kn KS cs m1 ∧ q_an w h n heat price cs D A N v ∧ m1 251 10 = (if v < 0 then l0 251 10 else v)
theorem R_quiet2 (hw : w ≤ 3 ∧ h ≤ 3 ∧ n ≤ 5) (hh : 0 ≤ heat ∧ heat ≤ 9) (hD : q_D D) (hok : hr_ok n A) (ht : 0 ≤ A 35 ∧ A 35 ≤ 1073741824) (hi : R_is w h n heat price D A c U kn KS cs m) (a : Int) : ∃ m1 v, z_R 233 (m, 0, [(2, 251), (0, a), (9, 0), (9, 0), (9, 0), (9, 0)], []) = some (m1, some (0, v)) ∧ R_is w h n heat price D A c U kn KS cs m1 ∧ ((¬ (1 ≤ a ∧ a ≤ 40) ∧ v = -1) ∨ ((1 ≤ a ∧ a ≤ 40) ∧ q_an w h n heat price cs D A a.toNat v)) ∧ m1 251 10 = (if v < 0 then m 251 10 else v) := by
  rw [q_tqu_0]
  have hu := R_upn (p0 := 251) (k0 := 11) (v := 0) hi (by decide)
  by_cases ok : ¬ (1 ≤ a ∧ a ≤ 40)
  · rw [if_neg ok]
    exact ⟨_, _, rfl, hu, Or.inl ⟨ok, rfl⟩, (zu_k (by decide)).trans (if_pos (by decide)).symm⟩
  have ok : 1 ≤ a ∧ a ≤ 40 := Decidable.not_not.mp ok
  obtain ⟨N, rfl⟩ : ∃ N : Nat, a = (N : Int) := ⟨a.toNat, by omega⟩
  have hN6 : N ≤ 40 := by omega
  have n5 := hw.2.2
  have e3 : m 251 3 = (n : Int) := hi.1.2.2.1
  have hL : z_mul 6 (m 251 3) = ((6 * n : Nat) : Int) := by rw [e3, z_mul_eq (by omega) (by omega)]; omega
  rw [if_pos ok, hL, Int.toNat_natCast]
  have h10 : qf m (z_up m 251 11 0) := ⟨zu_k (by decide), fun _ => zu_p (by decide)⟩
  generalize z_up m 251 11 0 = m0 at hu h10 ⊢
  obtain ⟨l0, hl0⟩ : ∃ l0 : z_M, l0 = m := ⟨m, rfl⟩
  rw [← hl0] at h10 ⊢
  have hq0 : Rq w h n heat price D A c U kn KS cs l0 m0 := ⟨hu, h10⟩
  obtain ⟨L, hLn⟩ : ∃ L : Nat, 6 * n = L := ⟨_, rfl⟩
  have hL30 : L ≤ 30 := by omega
  suffices hs : q_res w h n heat price D A c U kn KS cs l0 N ((z_R 234 (m0, 0, [(2, 251), (0, (N : Int)), (0, (-1)), (0, (-1)), (0, (-1)), (9, 0), (9, 0), (9, 0), (9, 0)], [])).bind fun qq => z_R 233 (qq.1, 33, [(2, 251), (0, (N : Int)), (0, ((6 * n : Nat) : Int)), (9, 0), (9, 0), (9, 0)], qq.2.toList ++ [])) by
    obtain ⟨m1, v, a1, a2, a3, a4⟩ := hs
    exact ⟨m1, v, a1, a2, Or.inr ⟨ok, a3⟩, a4⟩
  have found : ∀ (q : Int) (k : Nat) (x y z : Int) (m1 : z_M), q = (k : Int) → k ≤ 3 → (∀ j, q_3 x y z j = true → j < 6 * n) → qc (q_3 x y z) 30 = k → q_full w h n heat price cs D A N (q_3 x y z) → (∀ S, (∀ j, S j = true → j < 6 * n) → q_full w h n heat price cs D A N S → k ≤ qc S 30) → q_an w h n heat price cs D A N q := fun q k x y z m1 hq hk h1 h2 h3 h4 => Or.inr ⟨q_3 x y z, h1, h3, by omega, by rw [h2]; exact hq, fun S' s1 s2 => by rw [h2]; exact h4 S' s1 s2⟩
  rw [hLn] at found ⊢
  -- sets of three
  have l154 : ∀ (x y : Nat), x < y → y < L → (∀ S, (∀ j, S j = true → j < L) → q_full w h n heat price cs D A N S → 3 ≤ qc S 30) → (∀ m x5, Rq w h n heat price D A c U kn KS cs l0 m → (∀ z, y < z → z < L → ¬ q_full w h n heat price cs D A N (q_3 (x : Int) (y : Int) (z : Int))) → q_res w h n heat price D A c U kn KS cs l0 N (z_R 233 (m, 142, [(2, 251), (0, (N : Int)), (0, (L : Int)), (0, (x : Int)), (0, ((y + 1 : Nat) : Int)), (0, x5)], []))) → ∀ (f z : Nat) (m : z_M), z + f = L → y < z → Rq w h n heat price D A c U kn KS cs l0 m → (∀ z', y < z' → z' < z → ¬ q_full w h n heat price cs D A N (q_3 (x : Int) (y : Int) (z' : Int))) → q_res w h n heat price D A c U kn KS cs l0 N (z_R 233 (m, 154, [(2, 251), (0, (N : Int)), (0, (L : Int)), (0, (x : Int)), (0, (y : Int)), (0, (z : Int))], [])) := by
    intro x y hx hy h3 nx f
    induction f with
    | zero =>
      intro z m hz hyz hi hno
      rw [q_tqu_154, if_pos (by omega), z_add_eq (by omega) (by omega), tc1]
      exact nx m _ hi (fun z' h1 h2 => hno z' h1 (by omega))
    | succ f ih =>
      intro z m hz hyz hi hno
      obtain ⟨m1, v, a1, a2, a3⟩ := R_isq3 hw hh hD hok ht hi hN6 (a := (x : Int)) (b := (y : Int)) (d := (z : Int)) (Or.inr (by omega)) (Or.inr (by omega)) (Or.inr (by omega))
      rw [q_tqu_154, if_neg (by omega), a1, zb_v, q_tqu_170]
      rcases a3 with ⟨v1, t⟩ | ⟨v0, t⟩
      · obtain ⟨m2, b1, b2, b3⟩ := R_tq2 a2.1 (q := 3) (by decide) (x : Int) (y : Int) (z : Int)
        rw [v1, if_neg (show ¬ (1 : Int) = 0 by decide), b1, zb_v, q_tqu_183]
        exact ⟨m2, _, rfl, b2, found 3 3 x y z m2 rfl (by decide) (q_3_lt (by omega) (by omega) (by omega)) (qc_33 hx hyz (by omega)) t h3, b3.trans (if_neg (by decide)).symm⟩
      · rw [v0, if_pos (show (0 : Int) = 0 from rfl), z_add_eq (by omega) (by omega), tc1]
        refine ih (z + 1) m1 (by omega) (by omega) a2 (fun z' h1 h2 => ?_)
        by_cases e : z' = z
        · rw [e]
          exact t
        · exact hno z' h1 (by omega)
  have l142 : ∀ (x : Nat), x < L → (∀ S, (∀ j, S j = true → j < L) → q_full w h n heat price cs D A N S → 3 ≤ qc S 30) → (∀ m v4 v5, Rq w h n heat price D A c U kn KS cs l0 m → (∀ y z, x < y → y < z → z < L → ¬ q_full w h n heat price cs D A N (q_3 (x : Int) (y : Int) (z : Int))) → q_res w h n heat price D A c U kn KS cs l0 N (z_R 233 (m, 132, [(2, 251), (0, (N : Int)), (0, (L : Int)), (0, ((x + 1 : Nat) : Int)), v4, v5], []))) → ∀ (f y : Nat) (v5 : z_V) (m : z_M), y + f = L → x < y → Rq w h n heat price D A c U kn KS cs l0 m → (∀ y' z, x < y' → y' < y → y' < z → z < L → ¬ q_full w h n heat price cs D A N (q_3 (x : Int) (y' : Int) (z : Int))) → q_res w h n heat price D A c U kn KS cs l0 N (z_R 233 (m, 142, [(2, 251), (0, (N : Int)), (0, (L : Int)), (0, (x : Int)), (0, (y : Int)), v5], [])) := by
    intro x hx h3 nx f
    induction f with
    | zero =>
      intro y v5 m hy hxy hi hno
      rw [q_tqu_142, if_pos (by omega), z_add_eq (by omega) (by omega), tc1]
      exact nx m _ _ hi (fun y' z h1 h2 h4 => hno y' z h1 (by omega) h2 h4)
    | succ f ih =>
      intro y v5 m hy hxy hi hno
      rw [q_tqu_142, if_neg (by omega), z_add_eq (x := (y : Int)) (by omega) (by omega), tc1]
      refine l154 x y hxy (by omega) h3 (fun m x5 hm hz => ih (y + 1) _ m (by omega) (by omega) hm (fun y' z h1 h2 h4 h5 => ?_)) (L - (y + 1)) (y + 1) m (by omega) (by omega) hi (fun z' h1 h2 => by omega)
      by_cases e : y' = y
      · rw [e]
        exact hz z (by omega) h5
      · exact hno y' z h1 (by omega) h4 h5
  have l132 : (∀ S, (∀ j, S j = true → j < L) → q_full w h n heat price cs D A N S → 3 ≤ qc S 30) → ∀ (f x : Nat) (v4 v5 : z_V) (m : z_M), x + f = L → Rq w h n heat price D A c U kn KS cs l0 m → (∀ x' y z, x' < x → x' < y → y < z → z < L → ¬ q_full w h n heat price cs D A N (q_3 (x' : Int) (y : Int) (z : Int))) → q_res w h n heat price D A c U kn KS cs l0 N (z_R 233 (m, 132, [(2, 251), (0, (N : Int)), (0, (L : Int)), (0, (x : Int)), v4, v5], [])) := by
    intro h3 f
    induction f with
    | zero =>
      intro x v4 v5 m hx hi hno
      rw [q_tqu_132, if_pos (by omega)]
      refine ⟨m, _, rfl, hi.1, Or.inl ⟨rfl, fun S s1 s2 => ?_⟩, hi.2.1.trans (if_pos (by decide)).symm⟩
      have s1 : ∀ j, S j = true → j < L := fun j hj => by have := s1 j hj; omega
      have := h3 S s1 s2
      refine Decidable.byContradiction fun y => ?_
      obtain ⟨a, b, d, h1, h2, h4, e⟩ := qc_is3 hL30 s1 (by omega)
      rw [e] at s2
      exact hno a b d (by omega) h1 h2 h4 s2
    | succ f ih =>
      intro x v4 v5 m hx hi hno
      rw [q_tqu_132, if_neg (by omega), z_add_eq (by omega) (by omega), tc1]
      refine l142 x (by omega) h3 (fun m v4 v5 hm hy => ih (x + 1) v4 v5 m (by omega) hm (fun x' y z h1 h2 h4 h5 => ?_)) (L - (x + 1)) (x + 1) _ m (by omega) (by omega) hi (fun y' z h1 h2 => by omega)
      by_cases e : x' = x
      · rw [e]
        exact hy y z (by omega) h4 h5
      · exact hno x' y z (by omega) h2 h4 h5
  -- sets of two
  have l90 : ∀ (x : Nat), x < L → (∀ S, (∀ j, S j = true → j < L) → q_full w h n heat price cs D A N S → 2 ≤ qc S 30) → (∀ m v4, Rq w h n heat price D A c U kn KS cs l0 m → (∀ y, x < y → y < L → ¬ q_full w h n heat price cs D A N (q_3 (x : Int) (y : Int) (-1))) → q_res w h n heat price D A c U kn KS cs l0 N (z_R 233 (m, 80, [(2, 251), (0, (N : Int)), (0, (L : Int)), (0, ((x + 1 : Nat) : Int)), v4, (9, 0)], []))) → ∀ (f y : Nat) (m : z_M), y + f = L → x < y → Rq w h n heat price D A c U kn KS cs l0 m → (∀ y', x < y' → y' < y → ¬ q_full w h n heat price cs D A N (q_3 (x : Int) (y' : Int) (-1))) → q_res w h n heat price D A c U kn KS cs l0 N (z_R 233 (m, 90, [(2, 251), (0, (N : Int)), (0, (L : Int)), (0, (x : Int)), (0, (y : Int)), (9, 0)], [])) := by
    intro x hx h2 nx f
    induction f with
    | zero =>
      intro y m hy hxy hi hno
      rw [q_tqu_90, if_pos (by omega), z_add_eq (by omega) (by omega), tc1]
      exact nx m _ hi (fun y' h1 h4 => hno y' h1 (by omega))
    | succ f ih =>
      intro y m hy hxy hi hno
      obtain ⟨m1, v, a1, a2, a3⟩ := R_isq3 hw hh hD hok ht hi hN6 (a := (x : Int)) (b := (y : Int)) (d := -1) (Or.inr (by omega)) (Or.inr (by omega)) (Or.inl rfl)
      rw [q_tqu_90, if_neg (by omega), a1, zb_v, q_tqu_105]
      rcases a3 with ⟨v1, t⟩ | ⟨v0, t⟩
      · obtain ⟨m2, b1, b2, b3⟩ := R_tq2 a2.1 (q := 2) (by decide) (x : Int) (y : Int) 0
        rw [v1, if_neg (show ¬ (1 : Int) = 0 by decide), b1, zb_v, q_tqu_117]
        exact ⟨m2, _, rfl, b2, found 2 2 x y (-1) m2 rfl (by decide) (q_3_lt (by omega) (by omega) (by omega)) (qc_32b hxy (by omega)) t h2, b3.trans (if_neg (by decide)).symm⟩
      · rw [v0, if_pos (show (0 : Int) = 0 from rfl), z_add_eq (by omega) (by omega), tc1]
        refine ih (y + 1) m1 (by omega) (by omega) a2 (fun y' h1 h4 => ?_)
        by_cases e : y' = y
        · rw [e]
          exact t
        · exact hno y' h1 (by omega)
  have l80 : (∀ S, (∀ j, S j = true → j < L) → q_full w h n heat price cs D A N S → 2 ≤ qc S 30) → ∀ (f x : Nat) (v4 : z_V) (m : z_M), x + f = L → Rq w h n heat price D A c U kn KS cs l0 m → (∀ x' y, x' < x → x' < y → y < L → ¬ q_full w h n heat price cs D A N (q_3 (x' : Int) (y : Int) (-1))) → q_res w h n heat price D A c U kn KS cs l0 N (z_R 233 (m, 80, [(2, 251), (0, (N : Int)), (0, (L : Int)), (0, (x : Int)), v4, (9, 0)], [])) := by
    intro h2 f
    induction f with
    | zero =>
      intro x v4 m hx hi hno
      rw [q_tqu_80, if_pos (by omega)]
      refine l132 (fun S s1 s2 => ?_) L 0 _ _ m (by omega) hi (fun x' y z h1 => absurd h1 (Nat.not_lt_zero x'))
      have := h2 S s1 s2
      refine Decidable.byContradiction fun y => ?_
      obtain ⟨a, b, h1, h4, e⟩ := qc_is2 hL30 s1 (by omega)
      rw [e] at s2
      exact hno a b (by omega) h1 h4 s2
    | succ f ih =>
      intro x v4 m hx hi hno
      rw [q_tqu_80, if_neg (by omega), z_add_eq (by omega) (by omega), tc1]
      refine l90 x (by omega) h2 (fun m v4 hm hy => ih (x + 1) v4 m (by omega) hm (fun x' y h1 h4 h5 => ?_)) (L - (x + 1)) (x + 1) m (by omega) (by omega) hi (fun y' h1 h4 => by omega)
      by_cases e : x' = x
      · rw [e]
        exact hy y (by omega) h5
      · exact hno x' y (by omega) h4 h5
  -- sets of one
  have l47 : (∀ S, (∀ j, S j = true → j < L) → q_full w h n heat price cs D A N S → 1 ≤ qc S 30) → ∀ (f x : Nat) (m : z_M), x + f = L → Rq w h n heat price D A c U kn KS cs l0 m → (∀ x', x' < x → ¬ q_full w h n heat price cs D A N (q_3 (x' : Int) (-1) (-1))) → q_res w h n heat price D A c U kn KS cs l0 N (z_R 233 (m, 47, [(2, 251), (0, (N : Int)), (0, (L : Int)), (0, (x : Int)), (9, 0), (9, 0)], [])) := by
    intro h1 f
    induction f with
    | zero =>
      intro x m hx hi hno
      rw [q_tqu_47, if_pos (by omega)]
      refine l80 (fun S s1 s2 => ?_) L 0 _ m (by omega) hi (fun x' y h1 => absurd h1 (Nat.not_lt_zero x'))
      have := h1 S s1 s2
      refine Decidable.byContradiction fun y => ?_
      obtain ⟨a, h4, e⟩ := qc_is1 hL30 s1 (by omega)
      rw [e] at s2
      exact hno a (by omega) s2
    | succ f ih =>
      intro x m hx hi hno
      obtain ⟨m1, v, a1, a2, a3⟩ := R_isq3 hw hh hD hok ht hi hN6 (a := (x : Int)) (b := -1) (d := -1) (Or.inr (by omega)) (Or.inl rfl) (Or.inl rfl)
      rw [q_tqu_47, if_neg (by omega), a1, zb_v, q_tqu_60]
      rcases a3 with ⟨v1, t⟩ | ⟨v0, t⟩
      · obtain ⟨m2, b1, b2, b3⟩ := R_tq2 a2.1 (q := 1) (by decide) (x : Int) 0 0
        rw [v1, if_neg (show ¬ (1 : Int) = 0 by decide), b1, zb_v, q_tqu_71]
        exact ⟨m2, _, rfl, b2, found 1 1 x (-1) (-1) m2 rfl (by decide) (q_3_lt (by omega) (by omega) (by omega)) (qc_31 (by omega)) t h1, b3.trans (if_neg (by decide)).symm⟩
      · rw [v0, if_pos (show (0 : Int) = 0 from rfl), z_add_eq (by omega) (by omega), tc1]
        refine ih (x + 1) m1 (by omega) a2 (fun x' h4 => ?_)
        by_cases e : x' = x
        · rw [e]
          exact t
        · exact hno x' (by omega)
  have e0 : q_3 (-1) (-1) (-1) = fun _ => false := funext fun j => by
    unfold q_3
    rw [q_1_no]
    rfl
  obtain ⟨m1, v, a1, a2, a3⟩ := R_isq3 hw hh hD hok ht hq0 hN6 (a := -1) (b := -1) (d := -1) (Or.inl rfl) (Or.inl rfl) (Or.inl rfl)
  rw [a1, zb_v, q_tqu_33]
  rcases a3 with ⟨v1, t⟩ | ⟨v0, t⟩
  · obtain ⟨m2, b1, b2, b3⟩ := R_tq2 a2.1 (q := 0) (by decide) 0 0 0
    rw [v1, if_neg (show ¬ (1 : Int) = 0 by decide), b1, zb_v, q_tqu_44]
    refine ⟨m2, _, rfl, b2, found 0 0 (-1) (-1) (-1) m2 rfl (by decide) (q_3_lt (by omega) (by omega) (by omega)) ?_ t (fun S _ _ => Nat.zero_le _), b3.trans (if_neg (by decide)).symm⟩
    rw [e0]
    exact qc_0 30
  · rw [v0, if_pos (show (0 : Int) = 0 from rfl)]
    refine l47 (fun S s1 s2 => ?_) L 0 m1 (by omega) a2 (fun x' h1 => absurd h1 (Nat.not_lt_zero x'))
    refine Decidable.byContradiction fun y => ?_
    have eS : S = q_3 (-1) (-1) (-1) := by
      rw [e0]
      funext j
      by_cases hj : j < 30
      · exact qc_no 30 (by omega) j hj
      · cases z : S j
        · rfl
        · have := s1 j z
          omega
    rw [eS] at s2
    exact t s2
end
theorem core_quiet2 : l_rel2 Rel_C (836, 124, 110, 1, false, 847, 127, 233) := by
  intro M1 M2 M3 σ σ1 σ2 as v1 v2 C1 C2 ρ1 ρ2 ha hR hh hM1 hC1 hp1 hE1 hC2 hp2 hE2
  obtain ⟨a, rfl⟩ := as_one ha
  have hE1 : z_R 110 (z_m σ, 0, [(2, 0), (0, a.toInt), (9, 0)], []) = some (z_m σ1, some (0, v1.toInt)) := z_R_iff.mpr hE1
  have hE2 : z_R 233 (z_m σ1, 0, [(2, 251), (0, a.toInt), (9, 0), (9, 0), (9, 0), (9, 0)], []) = some (z_m σ2, some (0, v2.toInt)) := z_R_iff.mpr hE2
  have hT := T_two (y1 := 110) (y2 := 233) (by decide +kernel) (by decide +kernel) hC1 hC2 hp1 hp2 hR.1
  obtain ⟨w, h, n, heat, price, D, A, c, U, kn, KS, cs, cC, cR, cW⟩ := hR.2
  obtain ⟨b1, b2, -, b4, hok, b35, -, -⟩ := core_b hh hM1 cR
  have f1 := R_off2_ok (y := 110) (by decide +kernel) hC1 hp1
  have f2 := C_off_ok (y := 233) (by decide +kernel) hC2 hp2
  have cR1 := R_fr cR f1
  obtain ⟨m1, v, d1, d2, d3, -⟩ := C_quiet cC b1 b2 b4 hok b35 a.toInt
  obtain ⟨e1, e2⟩ := R_inj d1 hE1
  subst e1
  obtain ⟨m2, v', g1, g2, g3, -⟩ := R_quiet2 b1 b2 b4 hok b35 cR1 a.toInt
  obtain ⟨k1, k2⟩ := R_inj g1 hE2
  subst k1
  refine ⟨⟨hT, Core_mk (C_fr d2 f2) g2 cW⟩, fun _ => Int32.toInt_inj.mp ?_⟩
  rw [← e2, ← k2]
  rcases d3 with ⟨n1, n2⟩ | ⟨n1, n2⟩
  · rcases g3 with ⟨o1, o2⟩ | ⟨o1, o2⟩
    · rw [n2, o2]
    · exact absurd o1 n1
  · rcases g3 with ⟨o1, o2⟩ | ⟨o1, o2⟩
    · exact absurd n1 o1
    · exact q_an_1 n2 o2
end
