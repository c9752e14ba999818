theorem and255 : ∀ k : Nat, k < 256 → ((Int32.ofInt ((k : Int) - 128)) &&& 255).toInt = (if k < 128 then (k : Int) + 128 else (k : Int) - 128) := by decide +kernel
theorem and255_of {x : Int32} (h1 : -128 ≤ x.toInt) (h2 : x.toInt ≤ 127) (h3 : (x &&& 255).toInt ≤ 127) : (x &&& 255).toInt = x.toInt := by
  have h := and255 (x.toInt + 128).toNat (by omega)
  have e : Int32.ofInt (((x.toInt + 128).toNat : Int) - 128) = x := by
    rw [show ((x.toInt + 128).toNat : Int) - 128 = x.toInt by omega]
    exact Int32.ofInt_toInt x
  rw [e] at h
  rw [h] at h3 ⊢
  split at h3 <;> rename_i hc
  · omega
  · rw [if_neg hc]; omega
section HS
variable {l : Launch} {X : Nat → Option (List Int32)} {Y : (Nat → Prop) → State → Heap → Prop} {xa : Nat → Nat}
theorem v_var {ρ : List Int} {i : Nat} {c : Int} {v : Value} (h : v_ok ρ (1, i, c) v) : ∃ (x : Int32) (r : Int), v = .int x ∧ ρ[i]? = some r ∧ x.toInt = r + c := h
theorem one_sem (hY : m_Yok Y) {d n : Nat} {E0 : A_E} {mnA : A_V} {ov0 : A_O} {iL iA iW q : Nat} {mh : Int} {F3 : A_F} (hn : E0.length = n) (hq : q = 254 ∨ (q = 258 ∧ ((251, 14), (0, 0, 40)) ∈ ov0))
    (o1 : ((251, 12), (2, q, 0)) ∈ ov0) (o2 : ((251, 13), (1, iL, 0)) ∈ ov0) (o4 : ((251, 15), (1, iA, 0)) ∈ ov0) (o5 : ((251, 16), (1, iW, 0)) ∈ ov0) (e0 : E0[0]? = some (0, 100, false)) (eL : E0[iL]? = some (0, 80, false)) (eA : E0[iA]? = some (0, 200, false))
    (hmn : (∃ c : Int, mnA = (0, 0, c) ∧ 0 ≤ c ∧ c ≤ 27 ∧ mh = c - 1 ∧ F3 = [(iA, true, iL, -1)]) ∨ (mnA = (1, 1, 0) ∧ E0[1]? = some (0, 27, false) ∧ mh = 26 ∧ F3 = [(n, true, 1, -1), (iA, true, iL, -1)])) :
    c_sem l X Y xa d (167, E0, [(2, 251, 0), (1, 0, 0), mnA], ov0, [(251, 15, 16)], (0, []), (4, []), [(E0, [], some (0, 0, 0), [((251, 15), (1, iA, 0)), ((251, 16), (1, iW, 0))]), (E0 ++ [(0, 200, false)], [], some (0, 0, 0), [((251, 16), (1, n, 0)), ((251, 15), (1, iA, 0))]), (E0 ++ [(0, mh, false)], F3, some (1, n, 0), [((251, 15), (1, iA, 1)), ((251, 16), (1, iW, 0))])], [], (1, [])) := by
  intro qq hqq ρ0 M z dz σ vs he hM hh htau hz hMz hdep hdz ho ha hv
  have hzz : (0 : Int) + 0 = z := Option.some.inj htau
  obtain rfl : z = 0 := by omega
  clear hzz
  have hdz : (4 : Int) ≤ (d : Int) := by
    have hdd : (4 : Int) + 0 = dz := Option.some.inj hdep
    omega
  have hM0 : M + 0 = M := by omega
  cases vs with
  | nil => exact absurd ha id
  | cons v1 t1 =>
  obtain ⟨hv1, ha1⟩ := ha
  have hv1 : v1 = .ref 251 := hv1
  subst hv1
  cases t1 with
  | nil => exact absurd ha1 id
  | cons v2 t2 =>
  obtain ⟨hv2, ha2⟩ := ha1
  obtain ⟨fi, rf, rfl, hrf, hfi⟩ := v_var hv2
  cases t2 with
  | nil => exact absurd ha2 id
  | cons v3 t3 =>
  obtain ⟨hv3, ha3⟩ := ha2
  cases t3 with
  | cons v4 t4 => exact absurd ha3 id
  | nil =>
  have hmv : ∃ mn : Int32, v3 = .int mn ∧ 0 ≤ mn.toInt ∧ mn.toInt ≤ 27 ∧ mn.toInt - 1 ≤ mh ∧ (F3 = [(iA, true, iL, -1)] ∨ (ρ0[1]? = some mn.toInt ∧ F3 = [(n, true, 1, -1), (iA, true, iL, -1)])) := by
    rcases hmn with ⟨c, rfl, c1, c2, rfl, hF⟩ | ⟨rfl, e1, rfl, hF⟩
    · obtain ⟨x, hx, hx2⟩ : ∃ x : Int32, v3 = .int x ∧ x.toInt = c := hv3
      exact ⟨x, hx, by omega, by omega, by omega, Or.inl hF⟩
    · obtain ⟨x, r, hx, hr, hx2⟩ := v_var hv3
      have hb := he.2 1 _ _ e1 hr
      have b1 : 0 ≤ r := hb.1
      have b2 : r ≤ 27 := hb.2.1
      exact ⟨x, hx, by omega, by omega, by omega, Or.inr ⟨by rw [hr, hx2]; simp, hF⟩⟩
  obtain ⟨mn, rfl, m0, m1, m2, hF⟩ := hmv
  have hbf := he.2 0 _ _ e0 hrf
  have f0 : 0 ≤ rf := hbf.1
  have f1 : rf ≤ 100 := hbf.2.1
  obtain ⟨fs, hσ, hfl, hfs⟩ := h_cell hh (p := 251) (by decide)
  have hk251 : h_kd 251 = .inr 13 := by decide +kernel
  have hl251 : h_ln 251 = 56 := by decide +kernel
  rw [hk251] at hσ
  rw [hl251] at hfl hfs
  have gat : ∀ {k : Nat} {a : A_V}, ((251, k), a) ∈ ov0 → ∃ v, fs[k]? = some v ∧ v_ok ρ0 a v := fun {k a} hm => by
    obtain ⟨v, w1, w2⟩ := ho _ hm
    exact ⟨v, by rw [← w1]; exact (c_at_eq hσ).symm, w2⟩
  obtain ⟨vq, hq1, hq2⟩ := gat o1
  have hq2 : vq = .ref q := hq2
  subst hq2
  obtain ⟨vL, hL1, hL2⟩ := gat o2
  obtain ⟨L, rL, rfl, hrL, hLe⟩ := v_var hL2
  obtain ⟨vA, hA1, hA2⟩ := gat o4
  obtain ⟨A, rA, rfl, hrA, hAe⟩ := v_var hA2
  have hbL := he.2 _ _ _ eL hrL
  have hbA := he.2 _ _ _ eA hrA
  have L0 : 0 ≤ rL := hbL.1
  have L1 : rL ≤ 80 := hbL.2.1
  have A0 : 0 ≤ rA := hbA.1
  have A1 : rA ≤ 200 := hbA.2.1
  obtain ⟨vT, hT1, hT2, -⟩ := hfs 14 (by decide)
  obtain ⟨T, rfl, -, -⟩ : ∃ x : Int32, vT = .int x ∧ _ ∧ _ := by
    have : h_ty 251 14 = (0, -2147483648, 2147483647) := by decide +kernel
    rw [this] at hT2; exact hT2
  obtain ⟨vW, hW1, hW2, -⟩ := hfs 16 (by decide)
  obtain ⟨w, rfl, -, -⟩ : ∃ x : Int32, vW = .int x ∧ _ ∧ _ := by
    have : h_ty 251 16 = (0, -1, 200) := by decide +kernel
    rw [this] at hW2; exact hW2
  have hqN : q < h_N := by rcases hq with rfl | ⟨rfl, -⟩ <;> decide
  obtain ⟨bs, hb1, hbl, hbs⟩ := h_cell hh hqN
  have hkq : h_kd q = .inl 1 := by rcases hq with rfl | ⟨rfl, -⟩ <;> decide +kernel
  have htq : ∀ k, h_ty q k = (0, -128, 127) := by
    have e1 : (h_at 254).2.2 = [(0, -128, 127)] := by decide +kernel
    have e2 : (h_at 258).2.2 = [(0, -128, 127)] := by decide +kernel
    intro k
    unfold h_ty t_at
    rcases hq with rfl | ⟨rfl, -⟩
    · rw [e1]; simp [Nat.mod_one]
    · rw [e2]; simp [Nat.mod_one]
  rw [hkq] at hb1
  have hTq : A < L → A < T → A.toInt < h_ln q := by
    intro h1 h2
    have h1 := i32_lt.mp h1
    have h2 := i32_lt.mp h2
    rcases hq with rfl | ⟨rfl, o3⟩
    · have : h_ln 254 = 80 := by decide +kernel
      omega
    · obtain ⟨v, w1, w2⟩ := gat o3
      obtain ⟨x, rfl, hx⟩ : ∃ x : Int32, v = .int x ∧ x.toInt = 40 := w2
      have : T = x := by
        have := hT1.symm.trans w1
        injection this with this
        injection this
      subst this
      have : h_ln 258 = 40 := by decide +kernel
      omega
  obtain ⟨x, hx, x0, x1⟩ : ∃ x : Int32, (A < L → A < T → vp_in A bs.length ∧ bs[A.toNatClampNeg]? = some (.int x)) ∧ -128 ≤ x.toInt ∧ x.toInt ≤ 127 := by
    by_cases hlt : A < L ∧ A < T
    · have h1 := hTq hlt.1 hlt.2
      obtain ⟨v, w1, w2, -⟩ := hbs A.toInt.toNat (by omega)
      rw [htq] at w2
      obtain ⟨x, rfl, y1, y2⟩ : ∃ x : Int32, v = .int x ∧ -128 ≤ x.toInt ∧ x.toInt ≤ 127 := w2
      exact ⟨x, fun _ _ => ⟨vp_in_iff.mpr ⟨by omega, by rw [hbl]; omega⟩, w1⟩, y1, y2⟩
    · exact ⟨0, fun h1 h2 => absurd ⟨h1, h2⟩ hlt, by decide, by decide⟩
  have hσl : σ.length = h_N := hh.1
  obtain ⟨d', rfl⟩ : ∃ d', d = d' + 2 := ⟨d - 2, by omega⟩
  have hm := e_oneOf (l := l) (X := X) (xa := xa) hY (d := d') (fi := fi) (mn := mn) (by rw [hσl]; decide) (by omega) hσ hW1 hA1 hL1 hT1 hq1 (by rw [hσl]; exact hqN) (by rcases hq with rfl | ⟨rfl, -⟩ <;> decide) hb1 hx (by omega) (by omega) (by omega) qq hqq
  have hin15 : d_in [(251, 15, 16)] 251 15 := ⟨_, List.mem_cons_self, rfl, by decide, by decide⟩
  have hin16 : d_in [(251, 15, 16)] 251 16 := ⟨_, List.mem_cons_self, rfl, by decide, by decide⟩
  have hat : ∀ y : Int, (ρ0 ++ [y])[n]? = some y := fun y => by
    rw [List.getElem?_append_right (by rw [he.1, hn]; exact Nat.le_refl _), he.1, hn]
    simp
  refine m_K_post hm (fun r σ' hQ => ?_)
  rw [hM0]
  rcases hQ with ⟨rfl, rfl⟩ | ⟨rfl, rfl⟩ | ⟨rfl, rfl, h1, h2⟩
  · exact ⟨_, List.mem_cons_self, ρ0, r_ext.rf, he, (fun q hq => by cases hq), ⟨0, rfl, rfl⟩, hh, (fun u hu => by
      rcases List.mem_cons.mp hu with rfl | hu
      · exact ho _ o4
      · obtain rfl := List.mem_singleton.mp hu
        exact ho _ o5), fun p k _ => rfl⟩
  · refine ⟨_, List.mem_cons_of_mem _ List.mem_cons_self, ρ0 ++ [A.toInt], r_ext.push _, e_ok_push he ⟨by show 0 ≤ A.toInt; omega, by show A.toInt ≤ 200; omega, fun y => by cases y⟩, (fun q hq => by cases hq), ⟨0, rfl, rfl⟩, ?_, ?_, ?_⟩
    · rw [← hk251]
      refine h_set hh (by rw [hk251]; exact hσ) ?_ trivial
      have : h_ty 251 16 = (0, -1, 200) := by decide +kernel
      rw [this]
      exact ⟨A, rfl, (show (-1 : Int) ≤ A.toInt by omega), (show A.toInt ≤ 200 by omega)⟩
    · intro u hu
      rcases List.mem_cons.mp hu with rfl | hu
      case inr =>
        obtain rfl := List.mem_singleton.mp hu
        obtain ⟨v, w1, w2⟩ := ho _ o4
        exact ⟨v, by rw [c_at_set hσ, if_neg (fun z => absurd (show (15 : Nat) = 16 from z.2.1) (by decide))]; exact w1, v_ok_ext (r_ext.push _) w2⟩
      exact ⟨.int A, by rw [c_at_set hσ, if_pos ⟨rfl, rfl, by omega⟩], A, A.toInt, rfl, hat _, (show A.toInt = A.toInt + 0 by omega)⟩
    · exact h_fr_set (fun p k _ => rfl) hσ hin16
  · have hfin : (fi + mn - 1).toInt = rf + mn.toInt - 1 := by
      have g1 : (fi + mn).toInt = fi.toInt + mn.toInt := i32_add (by unfold i_m; omega) (by unfold i_M; omega)
      have g2 : (fi + mn - 1).toInt = (fi + mn).toInt - 1 := i32_sub (y := 1) (by show i_m ≤ (fi + mn).toInt - 1; rw [g1]; unfold i_m; omega) (by show (fi + mn).toInt - 1 ≤ i_M; rw [g1]; unfold i_M; omega)
      rw [g2, g1]; omega
    have h1 := Int32.le_iff_toInt_le.mp h1
    have h2 := Int32.le_iff_toInt_le.mp h2
    rw [hfin] at h2
    by_cases hlt : A < L ∧ A < T
    · rw [if_pos hlt] at h1 h2
      have hx9 := and255_of x0 x1 (by omega)
      have hAL := i32_lt.mp hlt.1
      have hr : (x - fi).toInt = x.toInt - fi.toInt := i32_sub (by unfold i_m; omega) (by unfold i_M; omega)
      have hA9 : (A + 1).toInt = A.toInt + 1 := i32_add (y := 1) (by show i_m ≤ A.toInt + 1; unfold i_m; omega) (by show A.toInt + 1 ≤ i_M; unfold i_M; omega)
      refine ⟨_, List.mem_cons_of_mem _ (List.mem_cons_of_mem _ List.mem_cons_self), ρ0 ++ [(x - fi).toInt], r_ext.push _, e_ok_push he ⟨by show 0 ≤ (x - fi).toInt; omega, by show (x - fi).toInt ≤ mh; omega, fun y => by cases y⟩, ?_, ⟨x - fi, _, rfl, hat _, (show (x - fi).toInt = (x - fi).toInt + 0 by omega)⟩, ?_, ?_, ?_⟩
      · have fact : ∃ x' y' : Int, (ρ0 ++ [(x - fi).toInt])[iA]? = some x' ∧ (ρ0 ++ [(x - fi).toInt])[iL]? = some y' ∧ (true = true → x' ≤ y' + -1) ∧ (true = false → x' + y' ≤ -1) := ⟨rA, rL, r_ext.push _ _ _ hrA, r_ext.push _ _ _ hrL, fun _ => by omega, fun y => by cases y⟩
        rcases hF with rfl | ⟨hr1, rfl⟩
        · intro u hu
          obtain rfl := List.mem_singleton.mp hu
          exact fact
        · intro u hu
          rcases List.mem_cons.mp hu with rfl | hu
          · exact ⟨_, _, hat _, r_ext.push _ _ _ hr1, fun _ => by show (x - fi).toInt ≤ mn.toInt + -1; omega, fun y => by cases y⟩
          · obtain rfl := List.mem_singleton.mp hu
            exact fact
      · rw [← hk251]
        refine h_set hh (by rw [hk251]; exact hσ) ?_ trivial
        have : h_ty 251 15 = (0, 0, 200) := by decide +kernel
        rw [this]
        exact ⟨A + 1, rfl, (show (0 : Int) ≤ (A + 1).toInt by omega), (show (A + 1).toInt ≤ 200 by omega)⟩
      · intro u hu
        rcases List.mem_cons.mp hu with rfl | hu
        case inr =>
          obtain rfl := List.mem_singleton.mp hu
          obtain ⟨v, w1, w2⟩ := ho _ o5
          exact ⟨v, by rw [c_at_set hσ, if_neg (fun z => absurd (show (16 : Nat) = 15 from z.2.1) (by decide))]; exact w1, v_ok_ext (r_ext.push _) w2⟩
        exact ⟨.int (A + 1), by rw [c_at_set hσ, if_pos ⟨rfl, rfl, by omega⟩], A + 1, rA, rfl, r_ext.push _ _ _ hrA, (show (A + 1).toInt = rA + 1 by omega)⟩
      · exact h_fr_set (fun p k _ => rfl) hσ hin15
    · rw [if_neg hlt] at h1
      have : (-1 : Int32).toInt = -1 := by decide
      omega
end HS
