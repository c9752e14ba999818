/-! WINTER of the model keeps its contract -/
section WS
variable {l : Launch} {X : Nat → Option (List Int32)} {Y : (Nat → Prop) → State → Heap → Prop} {xa : Nat → Nat}
theorem ra_in {n : Nat} (h : n < 61) : ra_con (3 * n) ∈ cs_at 213 := by
  show ra_con (3 * n) ∈ ra_list
  exact List.mem_map.mpr ⟨n, List.mem_range.mpr h, rfl⟩
theorem act9_in : cn_act9 ∈ cs_at 215 := by
  have e : cs_at 215 = [cn_actS, cn_act9] := rfl
  rw [e]
  exact List.mem_cons_of_mem _ List.mem_cons_self
theorem actS_in : cn_actS ∈ cs_at 215 := by
  have e : cs_at 215 = [cn_actS, cn_act9] := rfl
  rw [e]
  exact List.mem_cons_self
theorem v_mk0 {ρ : List Int} {i : Nat} {x : Int32} {r : Int} (h : ρ[i]? = some r) (e : x.toInt = r) : v_ok ρ (1, i, 0) (.int x) := ⟨x, r, rfl, h, by show x.toInt = r + 0; omega⟩
theorem bool_rng {r : Int32} (h : r = 0 ∨ r = 1) : 0 ≤ r.toInt ∧ r.toInt ≤ 1 := by rcases h with rfl | rfl <;> decide
/-- an act done: what comes of it -/
theorem act_post {md : A_D} {T : Int} {ρ : List Int} {σ : m_H} {alts : List A_A} {r : Option Value} {σ' : m_H} (ha : ∀ q ∈ alts, q.2.2.1 = some (0, 0, 0) ∨ q.2.2.1 = some (0, 0, 1)) (h : c_post alts md T ρ σ r σ') : (∃ x : Int32, r = some (.int x) ∧ 0 ≤ x.toInt ∧ x.toInt ≤ 1) ∧ h_ok T σ' ∧ h_fr md σ σ' := by
  obtain ⟨q, hq, ρ', h1, h2, h3, h4, h5, h6, h7⟩ := h
  refine ⟨?_, h5, h7⟩
  cases r with
  | none => rcases ha q hq with e | e <;> (rw [e] at h4; exact absurd h4 id)
  | some v =>
    rcases ha q hq with e | e
    · rw [e] at h4
      obtain ⟨x, rfl, hx⟩ : ∃ x : Int32, v = .int x ∧ x.toInt = 0 := h4
      exact ⟨x, rfl, by omega, by omega⟩
    · rw [e] at h4
      obtain ⟨x, rfl, hx⟩ : ∃ x : Int32, v = .int x ∧ x.toInt = 1 := h4
      exact ⟨x, rfl, by omega, by omega⟩
theorem mul3 {x : Int32} {n : Int} (hx : x.toInt = n) (h0 : 0 ≤ n) (h1 : n ≤ 62) : (Int32.ofInt 3 * x).toInt = 3 * n := by
  have e3 : (Int32.ofInt 3).toInt = 3 := rfl
  have := i32_mul (x := Int32.ofInt 3) (y := x) (by rw [e3]; unfold i_m; omega) (by rw [e3]; unfold i_M; omega)
  rw [this, e3, hx]
theorem mul3k {x : Int32} {n : Int} {k : Int} (hx : x.toInt = n) (h0 : 0 ≤ n) (h1 : n ≤ 62) (k0 : 0 ≤ k) (k1 : k ≤ 2) : (Int32.ofInt 3 * x + Int32.ofInt k).toInt = 3 * n + k := by
  have e3 := mul3 hx h0 h1
  have ek : (Int32.ofInt k).toInt = k := by
    rcases (show k = 0 ∨ k = 1 ∨ k = 2 by omega) with rfl | rfl | rfl <;> rfl
  have := i32_add (x := Int32.ofInt 3 * x) (y := Int32.ofInt k) (by rw [e3, ek]; unfold i_m; omega) (by rw [e3, ek]; unfold i_M; omega)
  rw [this, e3, ek]
theorem w_row {B : Int} {σ : m_H} (hh : h_ok B σ) : ∃ vs, σ[263]? = some (.inl 0, vs) ∧ vs.length = 240 := by
  obtain ⟨vs, h1, h2, -⟩ := h_cell hh (p := 263) (by decide)
  rw [show h_kd 263 = .inl 0 by decide +kernel] at h1
  rw [show h_ln 263 = 240 by decide +kernel] at h2
  exact ⟨vs, h1, h2⟩
theorem w_obj {B : Int} {σ : m_H} (hh : h_ok B σ) : ∃ fs, σ[251]? = some (.inr 13, fs) ∧ fs.length = 56 ∧ fs[36]? = some (.ref 263) := by
  obtain ⟨fs, h1, h2, h3⟩ := h_cell hh (p := 251) (by decide)
  have hl : h_ln 251 = 56 := by decide +kernel
  rw [show h_kd 251 = .inr 13 by decide +kernel] at h1
  obtain ⟨v, v1, v2, -⟩ := h3 36 (by rw [hl]; decide)
  rw [show h_ty 251 36 = (1, 263, 0) by decide +kernel] at v2
  have v2 : v = .ref 263 := v2
  subst v2
  exact ⟨fs, h1, h2.trans hl, v1⟩
theorem w_ld {vs : List Value} {σ : m_H} {i : Int32} {k : Nat} {x : Int32} (h : σ[263]? = some (.inl 0, vs)) (hl : vs.length = 240) (hi : i.toInt = k) (hk : k < 240) (hx : c_at σ 263 k = some (.int x)) : vp_in i vs.length ∧ vs[i.toNatClampNeg]? = some (.int x) := by
  refine ⟨vp_in_iff.mpr ⟨by omega, by rw [hl]; omega⟩, ?_⟩
  have e : i.toNatClampNeg = k := by
    show i.toInt.toNat = k
    omega
  rw [e, ← c_at_eq h]
  exact hx
theorem w_subB : d_sub (c_md cn_act9) (c_md cn_w) = true ∧ d_sub (c_md cn_actS) (c_md cn_w) = true := by decide +kernel
theorem w_263 {md : A_D} (h : md.all (fun q => !(Nat.beq q.1 263)) = true) (k : Nat) : ¬ d_in md 263 k := by
  rintro ⟨q, hq, e1, -, -⟩
  have := List.all_eq_true.mp h q hq
  rw [e1] at this
  exact absurd this (by decide)
theorem w_actm : (c_md cn_act9).all (fun q => !(Nat.beq q.1 263)) = true ∧ (c_md cn_actS).all (fun q => !(Nat.beq q.1 263)) = true := by decide +kernel
theorem r_at {l : List Int} {i : Nat} {r : Int} (h : l[i]? = some r) : ∀ {x : Int}, l[i]? = some x → x = r := fun g => Option.some.inj (g.symm.trans h)
theorem cn_w_sem (hY : m_Yok Y) (hYS : ∀ A U H, Y A U H → y_str xa A U H) (hIx : ix_K l X Y xa) (hX : ∀ i, i < 2 → X i = some ((x_tab i).map Int32.ofInt)) {d : Nat} (hcy : ∀ y, ∀ C ∈ cs_at y, C.1 = y) (hcs : ∀ d', d = d' + 1 → ∀ y, ∀ C ∈ cs_at y, c_sem l X Y xa d' C) : c_sem l X Y xa d cn_w := by
  intro q hq ρ0 M z dz σ vs he hM hh htau hz hMz hdep hdz ho ha hv
  cases hq
  have hzz : (8000 : Int) + 0 = z := Option.some.inj htau
  obtain rfl : z = 8000 := by omega
  clear hzz
  have hdd : (190 : Int) + 0 = dz := Option.some.inj hdep
  obtain rfl : dz = 190 := by omega
  clear hdd
  have hz8 : (8000 : Int) + 0 = 8000 := rfl
  obtain ⟨d1, rfl⟩ : ∃ d1, d = d1 + 1 := ⟨d - 1, by omega⟩
  have hcs := hcs d1 rfl
  cases vs with
  | nil => exact absurd ha id
  | cons v1 t1 =>
  obtain ⟨hv1, ha1⟩ := ha
  have hv1 : v1 = .ref 251 := hv1
  subst hv1
  cases t1 with
  | cons v2 t2 => exact absurd ha1 id
  | nil =>
  have hT : M + 8000 ≤ 1073741824 := by omega
  have hσl : σ.length = h_N := hh.1
  refine m_K_of (K := kt_212) rfl (by decide +kernel) (Nat.le_of_ble_eq_true rfl) rfl (fun p e s m args below meth c dC dI aC ad sz hC hn hrt => ?_)
  have hk := k_all_ok (own := "LetByTheDegreeModel") rfl kt_212_ok
  have hdv : (190 : Int) ≤ ((d1 + 1 : Nat) : Int) := by omega
  obtain ⟨WW, hWW⟩ : ∃ WW : m_G → Prop, WW = fun g => mW kt_212 (z_Ev 212) p l e (m_rm (d1 + 1) 0 0) s m args below meth c (m_QZ below dC dI aC xa ad sz σ (c_post (w_alts [(0, 80, false)]) (c_md cn_w) (M + 8000) ρ0 σ) args s 0 0 (va_A (m_W ad aC σ) sz)) dC dI aC (va_A (m_W ad aC σ) sz) σ.length ad xa 4 g := ⟨_, rfl⟩
  have goal : WW (σ, 0, 0, 0, lv_args 0 [.ref 251], []) := ?_
  · rw [hWW] at goal
    exact goal
  have piece : ∀ (nr : Nat) (alts : List A_A) (S : A_S) (cuts : List A_S) (ρs : List Int) (σs : m_H) (B : Int) (g : m_G), a_go cs_at w_md w_dp 4 nr alts cuts w_rt kt_212 4000 1 S = true → ρs.length = nr → g_ok (M + 8000) 1 ρs σs w_md B ρs S g → (∀ r σ', c_post alts w_md (M + 8000) ρs σs r σ' → c_post (w_alts [(0, 80, false)]) (c_md cn_w) (M + 8000) ρ0 σ r σ') →
      (∀ U ∈ cuts, ∀ (fv' B : Int) (ρ : List Int) (g : m_G), fv' < 1 → 0 ≤ fv' → g_ok (M + 8000) fv' ρs σs w_md B ρ U g → WW g) → WW g := by
    intro nr alts S cuts ρs σs B g hchk hl hg hQ hcut
    rw [hWW] at hcut ⊢
    refine a_go_ok hC hY hYS hIx hX hT hl (by rw [hσl]; exact Nat.le_refl _) hk hcy (fun d' hd' => by
      obtain rfl : d' = d1 := by omega
      exact hcs) (show l_ev ρs w_dp = some 190 from rfl) hdv ⟨Nat.le_refl _, Nat.le_refl _⟩ (fun B ρ S g i n aux hg hd hr => a_rt_ok hT hQ hC hg hl hd hr) hcut 4000 1 S ?_ B ρs g hg
    rw [hrt]
    exact hchk
  -- the second loop
  have startL : ∀ (B nn dn : Int) (σ1 : m_H) (ls : List (Nat × Value)) (xn xd x8 : Int32), 0 ≤ B → B + (6500 - 102 * dn) ≤ M + 8000 → h_ok B σ1 → (∀ u ∈ ls, m_vOk h_N u.2) → m_ld 0 ls = some (.ref 251) → m_ld 1 ls = some (.int xn) → xn.toInt = nn → m_ld 3 ls = some (.int xd) → xd.toInt = dn → 0 ≤ dn → dn ≤ nn → nn ≤ 62 → c_at σ1 251 8 = some (.int x8) → x8.toInt = 0 → g_ok (M + 8000) 1 [nn, dn] σ1 w_md B [nn, dn] wL (σ1, 0, 0, 121, ls, []) := by
    intro B nn dn σ1 ls xn xd x8 hB0 hBT hh1 hls l0 l1 e1 l3 e3 b1 b2 b3 c8 e8
    refine ⟨r_ext.rf, ⟨rfl, ?_⟩, ?_, ⟨hB0, 6500 + -102 * dn, ?_, by omega, by omega⟩, rfl, hh1, rfl, rfl, rfl, ?_, hls, trivial, (fun v hv => by cases hv), ?_, fun p k _ => rfl⟩
    · intro i q r h1 h2
      match i, h1, h2 with
      | 0, h1, h2 => cases h1; cases h2; exact ⟨by show (0 : Int) ≤ nn; omega, b3, fun y => by cases y⟩
      | 1, h1, h2 => cases h1; cases h2; exact ⟨b1, by show dn ≤ 62; omega, fun y => by cases y⟩
    · intro u hu
      obtain rfl := List.mem_singleton.mp hu
      exact ⟨dn, nn, rfl, rfl, fun _ => by show dn ≤ nn + 0; omega, fun y => by cases y⟩
    · show (l_ev1 [nn, dn] [(-102, 1)]).map (fun s => (6500 : Int) + s) = _
      simp [l_ev1]
    · intro u hu
      rcases List.mem_cons.mp hu with rfl | hu
      · exact ⟨_, l0, rfl⟩
      rcases List.mem_cons.mp hu with rfl | hu
      · exact ⟨_, l1, v_mk0 (r := nn) rfl (by omega)⟩
      rcases List.mem_cons.mp hu with rfl | hu
      · exact ⟨_, l3, v_mk0 (r := dn) rfl (by omega)⟩
      · cases hu
    · intro u hu
      obtain rfl := List.mem_singleton.mp hu
      exact ⟨_, c8, x8, rfl, e8⟩
  have L2 : ∀ (k : Nat) (B nn dn : Int) (σ1 : m_H) (ls : List (Nat × Value)) (xn xd x8 : Int32), (nn - dn).toNat ≤ k → 0 ≤ B → B + (6500 - 102 * dn) ≤ M + 8000 → h_ok B σ1 → (∀ u ∈ ls, m_vOk h_N u.2) → m_ld 0 ls = some (.ref 251) → m_ld 1 ls = some (.int xn) → xn.toInt = nn → m_ld 3 ls = some (.int xd) → xd.toInt = dn → 0 ≤ dn → dn ≤ nn → nn ≤ 62 → c_at σ1 251 8 = some (.int x8) → x8.toInt = 0 → h_fr (c_md cn_w) σ σ1 → w_good σ1 nn → WW (σ1, 0, 0, 121, ls, []) := by
    intro k
    induction k with
    | zero =>
      intro B nn dn σ1 ls xn xd x8 hk0 hB0 hBT hh1 hls l0 l1 e1 l3 e3 b1 b2 b3 c8 e8 hfr hgood
      refine piece 2 (w_alts wE3) wL [wP] [nn, dn] σ1 B _ w_k4 rfl (startL B nn dn σ1 ls xn xd x8 hB0 hBT hh1 hls l0 l1 e1 l3 e3 b1 b2 b3 c8 e8) (fun r σ' => w_lift he (by omega) rfl hfr) ?_
      intro U hU fv' B' ρ g h1 h2 hg
      obtain rfl := List.mem_singleton.mp hU
      obtain ⟨x, y, hx, hy, hxy, -⟩ := hg.f _ List.mem_cons_self
      have ex : x = dn := r_at (hg.x0 1 dn rfl) hx
      have ey : y = nn := r_at (hg.x0 0 nn rfl) hy
      have : x ≤ y + -1 := hxy rfl
      omega
    | succ k ih =>
      intro B nn dn σ1 ls xn xd x8 hk0 hB0 hBT hh1 hls l0 l1 e1 l3 e3 b1 b2 b3 c8 e8 hfr hgood
      refine piece 2 (w_alts wE3) wL [wP] [nn, dn] σ1 B _ w_k4 rfl (startL B nn dn σ1 ls xn xd x8 hB0 hBT hh1 hls l0 l1 e1 l3 e3 b1 b2 b3 c8 e8) (fun r σ' => w_lift he (by omega) rfl hfr) ?_
      intro U hU fv' B' ρ g h1 h2 hg
      obtain rfl := List.mem_singleton.mp hU
      obtain ⟨x, y, hx, hy, hxy, -⟩ := hg.f _ List.mem_cons_self
      have r0 := hg.x0 0 nn rfl
      have r1 := hg.x0 1 dn rfl
      have ex : x = dn := r_at r1 hx
      have ey : y = nn := r_at r0 hy
      have hlt : x ≤ y + -1 := hxy rfl
      subst ex ey
      obtain ⟨σ2, ce, sl, pc, ls2, st2⟩ := g
      have hce : ce = 0 := hg.ce
      have hsl : sl = 0 := hg.sl
      have hpc : pc = 126 := hg.pc
      subst hce hsl hpc
      have hst : st2 = [] := by
        cases st2 with
        | nil => rfl
        | cons v t => exact absurd hg.s id
      subst hst
      obtain ⟨hB1, zz, z1, z2, z3⟩ := hg.bu
      have hz : zz = 6500 - 102 * x := by
        have z1 : (l_ev1 ρ [(-102, 1)]).map (fun s => 6500 + s) = some zz := z1
        simp [l_ev1, r1] at z1
        omega
      obtain ⟨v0, m0, w0⟩ := hg.l _ List.mem_cons_self
      have w0 : v0 = .ref 251 := w0
      subst w0
      obtain ⟨v1, m1, w1⟩ := hg.l _ (List.mem_cons_of_mem _ List.mem_cons_self)
      obtain ⟨xn2, rn, rfl, hrn, hxn⟩ := v_var w1
      have en : rn = y := r_at r0 hrn
      obtain ⟨v3, m3, w3⟩ := hg.l _ (List.mem_cons_of_mem _ (List.mem_cons_of_mem _ List.mem_cons_self))
      obtain ⟨xd2, rd, rfl, hrd, hxd⟩ := v_var w3
      have ed : rd = x := r_at r1 hrd
      obtain ⟨v8, c82, w8⟩ := hg.o _ List.mem_cons_self
      obtain ⟨x82, rfl, e82⟩ : ∃ z : Int32, v8 = .int z ∧ z.toInt = 0 := w8
      have hh2 : h_ok B' σ2 := hg.h
      have hls2 := hg.lv
      have hfr2 := h_fr_tr hfr hg.fr w_sub
      have hgood2 := w_good_fr hgood hg.fr (fun k => w_no)
      obtain ⟨fs, hσ2, hfl, hf36⟩ := w_obj hh2
      obtain ⟨vs, hrow, hvl⟩ := w_row hh2
      obtain ⟨xa1, xa2, g1, g2, g3⟩ := hgood2 x.toNat (by omega)
      obtain ⟨xa3, g4, -, -⟩ := h_int hh2 (p := 263) (k := 3 * x.toNat + 2) (by decide) (by rw [show h_ln 263 = 240 by decide +kernel]; omega) (show h_ty 263 (3 * x.toNat + 2) = (0, -2147483648, 2147483647) by
        unfold h_ty t_at
        rw [show (h_at 263).2.2 = [(0, -2147483648, 2147483647)] by decide +kernel]
        simp [Nat.mod_one])
      have hσl2 : σ2.length = h_N := hh2.1
      have hx62 : x ≤ 62 := by omega
      have i1 := w_ld hrow hvl (k := 3 * x.toNat) (by rw [mul3 (by omega : xd2.toInt = x) b1 hx62]; omega) (by omega) g1
      have i2 := w_ld hrow hvl (k := 3 * x.toNat + 1) (by rw [mul3k (k := 1) (by omega : xd2.toInt = x) b1 hx62 (by decide) (by decide)]; omega) (by omega) g2
      have i3 := w_ld hrow hvl (k := 3 * x.toNat + 2) (by rw [mul3k (k := 2) (by omega : xd2.toInt = x) b1 hx62 (by decide) (by decide)]; omega) (by omega) g4
      -- behind the call
      have after : ∀ (r : Int32) (B3 : Int) (σ3 : m_H) (md : A_D), 0 ≤ r.toInt → r.toInt ≤ 1 → B' ≤ B3 → B3 ≤ B' + 101 → h_ok B3 σ3 → h_fr md σ2 σ3 → d_sub md (c_md cn_w) = true → (∀ k, ¬ d_in md 263 k) → d_has md 251 8 8 = false → WW (σ3, 0, 0, 158, ls2, [.int r]) := by
        intro r B3 σ3 md q1 q2 q3 q4 hh3 hf3 hs3 hn3 h83
        refine piece 3 (w_alts wE4) wG [wG1] [y, x, r.toInt] σ3 B3 _ w_k5 rfl ?_ (fun r σ' => w_lift he (by omega) rfl (h_fr_tr hfr2 hf3 hs3)) ?_
        · refine ⟨r_ext.rf, ⟨rfl, ?_⟩, ?_, ⟨by omega, 6398 + -102 * x, ?_, by omega, by omega⟩, rfl, hh3, rfl, rfl, rfl, ?_, hls2, ⟨v_mk0 (r := r.toInt) rfl rfl, trivial⟩, (fun v hv => by obtain rfl := List.mem_singleton.mp hv; trivial), ?_, fun p k _ => rfl⟩
          · intro i q r h1 h2
            match i, h1, h2 with
            | 0, h1, h2 => cases h1; cases h2; exact ⟨by show (0 : Int) ≤ y; omega, b3, fun y => by cases y⟩
            | 1, h1, h2 => cases h1; cases h2; exact ⟨b1, by show x ≤ 61; omega, fun y => by cases y⟩
            | 2, h1, h2 => cases h1; cases h2; exact ⟨q1, q2, fun y => by cases y⟩
          · intro u hu
            obtain rfl := List.mem_singleton.mp hu
            exact ⟨x, y, rfl, rfl, fun _ => by show x ≤ y + -1; omega, fun y => by cases y⟩
          · show (l_ev1 [y, x, r.toInt] [(-102, 1)]).map (fun s => (6398 : Int) + s) = _
            simp [l_ev1]
          · intro u hu
            rcases List.mem_cons.mp hu with rfl | hu
            · exact ⟨_, m0, rfl⟩
            rcases List.mem_cons.mp hu with rfl | hu
            · exact ⟨_, m1, v_mk0 (r := y) rfl (by omega)⟩
            rcases List.mem_cons.mp hu with rfl | hu
            · exact ⟨_, m3, v_mk0 (r := x) rfl (by omega)⟩
            · cases hu
          · intro u hu
            obtain rfl := List.mem_singleton.mp hu
            exact ⟨_, by rw [hf3 _ _ (d_in_hasf h83)]; exact c82, x82, rfl, e82⟩
        · intro U hU fv2 B4 ρ4 g4 h41 h42 hg4
          obtain rfl := List.mem_singleton.mp hU
          have r0 := hg4.x0 0 y rfl
          have r1 := hg4.x0 1 x rfl
          obtain ⟨σ4, ce, sl, pc, ls4, st4⟩ := g4
          have hce : ce = 0 := hg4.ce
          have hsl : sl = 0 := hg4.sl
          have hpc : pc = 121 := hg4.pc
          subst hce hsl hpc
          have hst : st4 = [] := by
            cases st4 with
            | nil => rfl
            | cons v t => exact absurd hg4.s id
          subst hst
          obtain ⟨hB4, zz4, y1, y2, y3⟩ := hg4.bu
          have hz4 : zz4 = 6398 - 102 * x := by
            have y1 : (l_ev1 ρ4 [(-102, 1)]).map (fun s => 6398 + s) = some zz4 := y1
            simp [l_ev1, r1] at y1
            omega
          obtain ⟨v0, n0, w0⟩ := hg4.l _ List.mem_cons_self
          have w0 : v0 = .ref 251 := w0
          subst w0
          obtain ⟨v1, n1, w1⟩ := hg4.l _ (List.mem_cons_of_mem _ List.mem_cons_self)
          obtain ⟨xn4, rn4, rfl, hrn4, hxn4⟩ := v_var w1
          have en4 : rn4 = y := r_at r0 hrn4
          obtain ⟨v3, n3, w3⟩ := hg4.l _ (List.mem_cons_of_mem _ (List.mem_cons_of_mem _ List.mem_cons_self))
          obtain ⟨xd4, rd4, rfl, hrd4, hxd4⟩ := v_var w3
          have ed4 : rd4 = x := r_at r1 hrd4
          obtain ⟨v8, c84, w8⟩ := hg4.o _ List.mem_cons_self
          obtain ⟨x84, rfl, e84⟩ : ∃ z : Int32, v8 = .int z ∧ z.toInt = 0 := w8
          exact ih B4 y (x + 1) σ4 ls4 xn4 xd4 x84 (by omega) hB4 (by omega) hg4.h hg4.lv n0 n1 (by omega) n3 (by omega) (by omega) (by omega) b3 c84 e84 (h_fr_tr (h_fr_tr hfr2 hf3 hs3) hg4.fr w_sub) (w_good_fr (w_good_fr hgood2 hf3 hn3) hg4.fr (fun k => w_no))
      rw [hWW] at after ⊢
      refine mW_aload_n hC (kd hk (pc := 126) rfl).1 m0 ?_
      refine mW_aload_n hC (kd hk (pc := 127) rfl).1 m0 ?_
      refine mW_gf hC (kd hk (pc := 128) rfl) hσ2 hf36 ?_
      refine mW_iconst hC (kd hk (pc := 131) rfl).1 ?_
      refine mW_iload_n hC (kd hk (pc := 132) rfl).1 m3 ?_
      refine mW_imul hC (kd hk (pc := 133) rfl).1 ?_
      refine mW_iaload hC (kd hk (pc := 134) rfl).1 hrow i1.1 i1.2 ?_
      refine mW_aload_n hC (kd hk (pc := 135) rfl).1 m0 ?_
      refine mW_gf hC (kd hk (pc := 136) rfl) hσ2 hf36 ?_
      refine mW_iconst hC (kd hk (pc := 139) rfl).1 ?_
      refine mW_iload_n hC (kd hk (pc := 140) rfl).1 m3 ?_
      refine mW_imul hC (kd hk (pc := 141) rfl).1 ?_
      refine mW_iconst hC (kd hk (pc := 142) rfl).1 ?_
      refine mW_iadd hC (kd hk (pc := 143) rfl).1 ?_
      refine mW_iaload hC (kd hk (pc := 144) rfl).1 hrow i2.1 i2.2 ?_
      refine mW_aload_n hC (kd hk (pc := 145) rfl).1 m0 ?_
      refine mW_gf hC (kd hk (pc := 146) rfl) hσ2 hf36 ?_
      refine mW_iconst hC (kd hk (pc := 149) rfl).1 ?_
      refine mW_iload_n hC (kd hk (pc := 150) rfl).1 m3 ?_
      refine mW_imul hC (kd hk (pc := 151) rfl).1 ?_
      refine mW_iconst hC (kd hk (pc := 152) rfl).1 ?_
      refine mW_iadd hC (kd hk (pc := 153) rfl).1 ?_
      refine mW_iaload hC (kd hk (pc := 154) rfl).1 hrow i3.1 i3.2 ?_
      have hvv : ∀ v ∈ [Value.ref 251, .int xa1, .int xa2, .int xa3], m_vOk h_N v := fun v hv => by
        simp only [List.mem_cons, List.not_mem_nil, or_false] at hv
        rcases hv with rfl | rfl | rfl | rfl
        · exact vok_ref (by decide)
        · trivial
        · trivial
        · trivial
      rcases g3 with ⟨k1, k2⟩ | ⟨k1, k2, k3⟩
      · have b7 := i32_rng xa1
        have b8 := i32_rng xa3
        have hM9 := hcs 215 cn_act9 act9_in _ rfl [xa1.toInt, xa2.toInt, xa3.toInt] B' 101 175 σ2 [.ref 251, .int xa1, .int xa2, .int xa3] ⟨rfl, by
          intro i q r h1 h2
          match i, h1, h2 with
          | 0, h1, h2 => cases h1; cases h2; exact ⟨b7.1, b7.2, fun y => by cases y⟩
          | 1, h1, h2 => cases h1; cases h2; exact ⟨k1, k2, fun y => by cases y⟩
          | 2, h1, h2 => cases h1; cases h2; exact ⟨b8.1, b8.2, fun y => by cases y⟩⟩ hB1 hh2 rfl (by decide) (by omega) rfl (by omega) (fun q hq => by cases hq) ⟨rfl, v_mk0 (r := xa1.toInt) rfl rfl, v_mk0 (r := xa2.toInt) rfl rfl, v_mk0 (r := xa3.toInt) rfl rfl, trivial⟩ hvv
        refine mW_invV hY hC (as := [.int xa1, .int xa2, .int xa3]) (st := []) (kd hk (pc := 155) rfl) rfl rfl rfl hM9 hσ2 (by decide) rfl m_rm_ok (Nat.zero_le _) (Nat.zero_le _) (Nat.zero_le _) (by rw [hσl, hσl2]; exact Nat.le_refl _) (fun v hv => by cases hv) (by rw [hσl2]; exact hls2) (fun r σ3 hQ => ?_)
        obtain ⟨⟨rr, rfl, p1, p2⟩, p3, p4⟩ := act_post (by
          intro q hq
          rcases List.mem_cons.mp hq with rfl | hq
          · exact Or.inr rfl
          · obtain rfl := List.mem_singleton.mp hq
            exact Or.inl rfl) hQ
        exact after rr (B' + 101) σ3 _ p1 p2 (by omega) (by omega) p3 p4 w_subB.1 (w_263 w_actm.1) w_8.1
      · have b8 := i32_rng xa3
        have hMS := hcs 215 cn_actS actS_in _ rfl [xa2.toInt, xa3.toInt] B' 0 3 σ2 [.ref 251, .int xa1, .int xa2, .int xa3] ⟨rfl, by
          intro i q r h1 h2
          match i, h1, h2 with
          | 0, h1, h2 => cases h1; cases h2; exact ⟨k2, k3, fun y => by cases y⟩
          | 1, h1, h2 => cases h1; cases h2; exact ⟨b8.1, b8.2, fun y => by cases y⟩⟩ hB1 hh2 rfl (by decide) (by omega) rfl (by omega) (fun q hq => by cases hq) ⟨rfl, ⟨xa1, rfl, k1⟩, v_mk0 (r := xa2.toInt) rfl rfl, v_mk0 (r := xa3.toInt) rfl rfl, trivial⟩ hvv
        refine mW_invV hY hC (as := [.int xa1, .int xa2, .int xa3]) (st := []) (kd hk (pc := 155) rfl) rfl rfl rfl hMS hσ2 (by decide) rfl m_rm_ok (Nat.zero_le _) (Nat.zero_le _) (Nat.zero_le _) (by rw [hσl, hσl2]; exact Nat.le_refl _) (fun v hv => by cases hv) (by rw [hσl2]; exact hls2) (fun r σ3 hQ => ?_)
        obtain ⟨⟨rr, rfl, p1, p2⟩, p3, p4⟩ := act_post (by
          intro q hq
          rcases List.mem_cons.mp hq with rfl | hq
          · exact Or.inl rfl
          · obtain rfl := List.mem_singleton.mp hq
            exact Or.inr rfl) hQ
        exact after rr (B' + 0) σ3 _ p1 p2 (by omega) (by omega) p3 p4 w_subB.2 (w_263 w_actm.2) w_8.2
  -- the first loop
  have startA : ∀ (B nn a w mo : Int) (σ1 : m_H) (ls : List (Nat × Value)) (xn xm xo xw x8 x14 : Int32), 0 ≤ B → B ≤ M → h_ok B σ1 → (∀ u ∈ ls, m_vOk h_N u.2) → m_ld 0 ls = some (.ref 251) → m_ld 1 ls = some (.int xn) → xn.toInt = nn → m_ld 2 ls = some (.int xm) → xm.toInt = mo → 0 ≤ nn → nn ≤ 62 → 0 ≤ mo → mo ≤ 1 → 0 ≤ a → a ≤ 200 → -1 ≤ w → w ≤ 200 → c_at σ1 251 8 = some (.int x8) → x8.toInt = 0 → c_at σ1 251 12 = some (.ref 254) → c_at σ1 251 14 = some (.int x14) → x14.toInt = 60 → c_at σ1 251 15 = some (.int xo) → xo.toInt = a → c_at σ1 251 16 = some (.int xw) → xw.toInt = w → g_ok (M + 8000) 1 [nn, w, a, mo] σ1 w_md B [nn, w, a, mo] wA (σ1, 0, 0, 39, ls, []) := by
    intro B nn a w mo σ1 ls xn xm xo xw x8 x14 hB0 hBM hh1 hls l0 l1 e1 l2 e2 b1 b2 b3 b4 b5 b6 b7 b8 c8 e8 c12 c14 e14 c15 e15 c16 e16
    refine ⟨r_ext.rf, ⟨rfl, ?_⟩, (fun u hu => by cases hu), ⟨hB0, 8000, rfl, by omega, by omega⟩, rfl, hh1, rfl, rfl, rfl, ?_, hls, trivial, (fun v hv => by cases hv), ?_, fun p k _ => rfl⟩
    · intro i q r h1 h2
      match i, h1, h2 with
      | 0, h1, h2 => cases h1; cases h2; exact ⟨b1, b2, fun y => by cases y⟩
      | 1, h1, h2 => cases h1; cases h2; exact ⟨b7, b8, fun y => by cases y⟩
      | 2, h1, h2 => cases h1; cases h2; exact ⟨b5, b6, fun y => by cases y⟩
      | 3, h1, h2 => cases h1; cases h2; exact ⟨b3, b4, fun y => by cases y⟩
    · intro u hu
      rcases List.mem_cons.mp hu with rfl | hu
      · exact ⟨_, l0, rfl⟩
      rcases List.mem_cons.mp hu with rfl | hu
      · exact ⟨_, l1, v_mk0 (r := nn) rfl (by omega)⟩
      rcases List.mem_cons.mp hu with rfl | hu
      · exact ⟨_, l2, v_mk0 (r := mo) rfl (by omega)⟩
      · cases hu
    · intro u hu
      rcases List.mem_cons.mp hu with rfl | hu
      · exact ⟨_, c8, x8, rfl, e8⟩
      rcases List.mem_cons.mp hu with rfl | hu
      · exact ⟨_, c12, rfl⟩
      rcases List.mem_cons.mp hu with rfl | hu
      · exact ⟨_, c14, x14, rfl, e14⟩
      rcases List.mem_cons.mp hu with rfl | hu
      · exact ⟨_, c15, v_mk0 (r := a) rfl (by omega)⟩
      rcases List.mem_cons.mp hu with rfl | hu
      · exact ⟨_, c16, v_mk0 (r := w) rfl (by omega)⟩
      · cases hu
  have startD : ∀ (lim B nn a w : Int) (σ1 : m_H) (ls : List (Nat × Value)) (xn xo xw x8 x14 : Int32), 0 ≤ B → B ≤ M → h_ok B σ1 → (∀ u ∈ ls, m_vOk h_N u.2) → m_ld 0 ls = some (.ref 251) → m_ld 1 ls = some (.int xn) → xn.toInt = nn → 0 ≤ nn → nn ≤ 61 → 0 ≤ a → a ≤ lim → -1 ≤ w → w ≤ 200 → c_at σ1 251 8 = some (.int x8) → x8.toInt = 0 → c_at σ1 251 12 = some (.ref 254) → c_at σ1 251 14 = some (.int x14) → x14.toInt = 60 → c_at σ1 251 15 = some (.int xo) → xo.toInt = a → c_at σ1 251 16 = some (.int xw) → xw.toInt = w → g_ok (M + 8000) 1 [nn, w, a] σ1 w_md B [nn, w, a] (wD lim) (σ1, 0, 0, 57, ls, []) := by
    intro lim B nn a w σ1 ls xn xo xw x8 x14 hB0 hBM hh1 hls l0 l1 e1 b1 b2 b5 b6 b7 b8 c8 e8 c12 c14 e14 c15 e15 c16 e16
    refine ⟨r_ext.rf, ⟨rfl, ?_⟩, (fun u hu => by cases hu), ⟨hB0, 8000, rfl, by omega, by omega⟩, rfl, hh1, rfl, rfl, rfl, ?_, hls, trivial, (fun v hv => by cases hv), ?_, fun p k _ => rfl⟩
    · intro i q r h1 h2
      match i, h1, h2 with
      | 0, h1, h2 => cases h1; cases h2; exact ⟨b1, b2, fun y => by cases y⟩
      | 1, h1, h2 => cases h1; cases h2; exact ⟨b7, b8, fun y => by cases y⟩
      | 2, h1, h2 => cases h1; cases h2; exact ⟨b5, b6, fun y => by cases y⟩
    · intro u hu
      rcases List.mem_cons.mp hu with rfl | hu
      · exact ⟨_, l0, rfl⟩
      rcases List.mem_cons.mp hu with rfl | hu
      · exact ⟨_, l1, v_mk0 (r := nn) rfl (by omega)⟩
      · cases hu
    · intro u hu
      rcases List.mem_cons.mp hu with rfl | hu
      · exact ⟨_, c8, x8, rfl, e8⟩
      rcases List.mem_cons.mp hu with rfl | hu
      · exact ⟨_, c12, rfl⟩
      rcases List.mem_cons.mp hu with rfl | hu
      · exact ⟨_, c14, x14, rfl, e14⟩
      rcases List.mem_cons.mp hu with rfl | hu
      · exact ⟨_, c15, v_mk0 (r := a) rfl (by omega)⟩
      rcases List.mem_cons.mp hu with rfl | hu
      · exact ⟨_, c16, v_mk0 (r := w) rfl (by omega)⟩
      · cases hu
  have L1 : ∀ (k : Nat) (B nn a w mo : Int) (σ1 : m_H) (ls : List (Nat × Value)) (xn xm xo xw x8 x14 : Int32), (62 - nn).toNat ≤ k → 0 ≤ B → B ≤ M → h_ok B σ1 → (∀ u ∈ ls, m_vOk h_N u.2) → m_ld 0 ls = some (.ref 251) → m_ld 1 ls = some (.int xn) → xn.toInt = nn → m_ld 2 ls = some (.int xm) → xm.toInt = mo → 0 ≤ nn → nn ≤ 62 → 0 ≤ mo → mo ≤ 1 → 0 ≤ a → a ≤ 200 → -1 ≤ w → w ≤ 200 → c_at σ1 251 8 = some (.int x8) → x8.toInt = 0 → c_at σ1 251 12 = some (.ref 254) → c_at σ1 251 14 = some (.int x14) → x14.toInt = 60 → c_at σ1 251 15 = some (.int xo) → xo.toInt = a → c_at σ1 251 16 = some (.int xw) → xw.toInt = w → (w = -1 → nn ≤ a ∧ (mo = 1 → a ≤ 60) ∧ w_good σ1 nn) → h_fr (c_md cn_w) σ σ1 → WW (σ1, 0, 0, 39, ls, []) := by
    intro k
    induction k using Nat.strongRecOn with
    | _ k ih =>
      intro B nn a w mo σ1 ls xn xm xo xw x8 x14 hk0 hB0 hBM hh1 hls l0 l1 e1 l2 e2 b1 b2 b3 b4 b5 b6 b7 b8 c8 e8 c12 c14 e14 c15 e15 c16 e16 hJ hfr
      refine piece 4 (w_alts wE1) wA [wB, wL0] [nn, w, a, mo] σ1 B _ w_k1 rfl (startA B nn a w mo σ1 ls xn xm xo xw x8 x14 hB0 hBM hh1 hls l0 l1 e1 l2 e2 b1 b2 b3 b4 b5 b6 b7 b8 c8 e8 c12 c14 e14 c15 e15 c16 e16) (fun r σ' => w_lift he (by omega) rfl hfr) ?_
      intro U hU fv' B' ρ g h1 h2 hg
      rcases List.mem_cons.mp hU with rfl | hU
      · -- one more act to read
        obtain ⟨σ2, ce, sl, pc, ls2, st2⟩ := g
        have hce : ce = 0 := hg.ce
        have hsl : sl = 0 := hg.sl
        have hpc : pc = 50 := hg.pc
        subst hce hsl hpc
        have hst : st2 = [] := by
          cases st2 with
          | nil => rfl
          | cons v t => exact absurd hg.s id
        subst hst
        obtain ⟨hB1, zz, z1, z2, z3⟩ := hg.bu
        have hz : zz = 8000 := by
          have z1 : some ((8000 : Int) + 0) = some zz := z1
          have := Option.some.inj z1
          omega
        have r0 := hg.x0 0 nn rfl
        have r1 := hg.x0 1 w rfl
        have r2 := hg.x0 2 a rfl
        have r3 := hg.x0 3 mo rfl
        have hw1 := hg.e.2 1 (-1, -1, false) w rfl r1
        have hw2 : (-1 : Int) ≤ w := hw1.1
        have hw3 : w ≤ -1 := hw1.2.1
        have hm1 := hg.e.2 3 (1, 1, false) mo rfl r3
        have hm2 : (1 : Int) ≤ mo := hm1.1
        obtain ⟨j1, j2, j3⟩ := hJ (by omega)
        have j2 := j2 (by omega)
        have hh2 : h_ok B' σ2 := hg.h
        have hls2 := hg.lv
        have hfr2 := h_fr_tr hfr hg.fr w_sub
        have hgood2 := w_good_fr j3 hg.fr (fun k => w_no)
        obtain ⟨v0, m0, w0⟩ := hg.l _ List.mem_cons_self
        have w0 : v0 = .ref 251 := w0
        subst w0
        obtain ⟨v1, m1, w1⟩ := hg.l _ (List.mem_cons_of_mem _ List.mem_cons_self)
        obtain ⟨xn2, rn, rfl, hrn, hxn⟩ := v_var w1
        have en : rn = nn := r_at r0 hrn
        obtain ⟨v8, c82, w8⟩ := hg.o _ List.mem_cons_self
        obtain ⟨x82, rfl, e82⟩ : ∃ z : Int32, v8 = .int z ∧ z.toInt = 0 := w8
        obtain ⟨v12, c122, w12⟩ := hg.o _ (List.mem_cons_of_mem _ List.mem_cons_self)
        have w12 : v12 = .ref 254 := w12
        subst w12
        obtain ⟨v14, c142, w14⟩ := hg.o _ (List.mem_cons_of_mem _ (List.mem_cons_of_mem _ List.mem_cons_self))
        obtain ⟨x142, rfl, e142⟩ : ∃ z : Int32, v14 = .int z ∧ z.toInt = 60 := w14
        obtain ⟨v15, c152, w15⟩ := hg.o _ (List.mem_cons_of_mem _ (List.mem_cons_of_mem _ (List.mem_cons_of_mem _ List.mem_cons_self)))
        obtain ⟨xo2, ro2, rfl, hro2, hxo2⟩ := v_var w15
        have eo2 : ro2 = a := r_at r2 hro2
        obtain ⟨v16, c162, w16⟩ := hg.o _ (List.mem_cons_of_mem _ (List.mem_cons_of_mem _ (List.mem_cons_of_mem _ (List.mem_cons_of_mem _ List.mem_cons_self))))
        obtain ⟨xw2, rfl, ew2⟩ : ∃ z : Int32, v16 = .int z ∧ z.toInt = -1 := w16
        obtain ⟨fs, hσ2, hfl, hf36⟩ := w_obj hh2
        have hσl2 : σ2.length = h_N := hh2.1
        have hsR := w_subR nn.toNat (by omega)
        have after : ∀ (lim B3 a3 w3 : Int) (σ3 : m_H) (xo3 xw3 : Int32), a_go cs_at w_md w_dp 4 3 (w_alts (wE2 lim)) [wD0 lim, wD1 lim] w_rt kt_212 4000 1 (wD lim) = true → 0 ≤ B3 → B3 ≤ M → h_ok B3 σ3 → h_fr [(251, 15, 16), (263, 3 * nn.toNat, 3 * nn.toNat + 2)] σ2 σ3 → 0 ≤ a3 → a3 ≤ lim → lim ≤ 200 → -1 ≤ w3 → w3 ≤ 200 → c_at σ3 251 15 = some (.int xo3) → xo3.toInt = a3 → c_at σ3 251 16 = some (.int xw3) → xw3.toInt = w3 → (w3 = -1 → nn + 1 ≤ a3 ∧ w_good σ3 (nn + 1)) → WW (σ3, 0, 0, 57, ls2, []) := by
          intro lim B3 a3 w3 σ3 xo3 xw3 hck q1 q2 hh3 hf3 q3 q4 q5 q6 q7 c153 e153 c163 e163 hj
          have nin : ∀ k, k < 15 → ¬ d_in [(251, 15, 16), (263, 3 * nn.toNat, 3 * nn.toNat + 2)] 251 k := by
            rintro k hk15 ⟨q, hq, f1, f2, f3⟩
            rcases List.mem_cons.mp hq with rfl | hq
            · have f2 : 15 ≤ k := f2
              omega
            · obtain rfl := List.mem_singleton.mp hq
              exact absurd (show (263 : Nat) = 251 from f1) (by decide)
          refine piece 3 (w_alts (wE2 lim)) (wD lim) [wD0 lim, wD1 lim] [nn, w3, a3] σ3 B3 _ hck rfl (startD lim B3 nn a3 w3 σ3 ls2 xn2 xo3 xw3 x82 x142 q1 q2 hh3 hls2 m0 m1 (by omega) b1 (by omega) q3 q4 q6 q7 (by rw [hf3 _ _ (nin 8 (by decide))]; exact c82) e82 (by rw [hf3 _ _ (nin 12 (by decide))]; exact c122) (by rw [hf3 _ _ (nin 14 (by decide))]; exact c142) e142 c153 e153 c163 e163) (fun r σ' => w_lift he (by omega) rfl (h_fr_tr hfr2 hf3 hsR)) ?_
          intro U hU fv2 B4 ρ4 g4 h41 h42 hg4
          rcases List.mem_cons.mp hU with rfl | hU
          · have hone : True := trivial
            obtain ⟨σ4, ce, sl, pc, ls4, st4⟩ := g4
            have hce : ce = 0 := hg4.ce
            have hsl : sl = 0 := hg4.sl
            have hpc : pc = 39 := hg4.pc
            subst hce hsl hpc
            have hst : st4 = [] := by
              cases st4 with
              | nil => rfl
              | cons v t => exact absurd hg4.s id
            subst hst
            obtain ⟨hB4, zz4, y1, y2, y3⟩ := hg4.bu
            have hz4 : zz4 = 8000 := by
              have y1 : some ((8000 : Int) + 0) = some zz4 := y1
              have := Option.some.inj y1
              omega
            have r0 := hg4.x0 0 nn rfl
            have r1 := hg4.x0 1 w3 rfl
            have r2 := hg4.x0 2 a3 rfl
            obtain ⟨x, y, hx, hy, hxy, -⟩ := hg4.f _ List.mem_cons_self
            have ex : x = a3 := r_at r2 hx
            have hxy : x ≤ y + 0 := hxy rfl
            have hy1 := hg4.e.2 3 (0, lim, false) y rfl hy
            have hy2 : (0 : Int) ≤ y := hy1.1
            have hy3 : y ≤ lim := hy1.2.1
            subst ex
            obtain ⟨v0, n0, w0⟩ := hg4.l _ List.mem_cons_self
            have w0 : v0 = .ref 251 := w0
            subst w0
            obtain ⟨v1, n1, w1⟩ := hg4.l _ (List.mem_cons_of_mem _ List.mem_cons_self)
            obtain ⟨xn4, rn4, rfl, hrn4, hxn4⟩ := v_var w1
            have en4 : rn4 = nn := r_at r0 hrn4
            obtain ⟨v2, n2, w2⟩ := hg4.l _ (List.mem_cons_of_mem _ (List.mem_cons_of_mem _ List.mem_cons_self))
            obtain ⟨xm4, rfl, em4⟩ : ∃ z : Int32, v2 = .int z ∧ z.toInt = 0 := w2
            obtain ⟨v8, c84, w8⟩ := hg4.o _ List.mem_cons_self
            obtain ⟨x84, rfl, e84⟩ : ∃ z : Int32, v8 = .int z ∧ z.toInt = 0 := w8
            obtain ⟨v12, c124, w12⟩ := hg4.o _ (List.mem_cons_of_mem _ List.mem_cons_self)
            have w12 : v12 = .ref 254 := w12
            subst w12
            obtain ⟨v14, c144, w14⟩ := hg4.o _ (List.mem_cons_of_mem _ (List.mem_cons_of_mem _ List.mem_cons_self))
            obtain ⟨x144, rfl, e144⟩ : ∃ z : Int32, v14 = .int z ∧ z.toInt = 60 := w14
            obtain ⟨v15, c154, w15⟩ := hg4.o _ (List.mem_cons_of_mem _ (List.mem_cons_of_mem _ (List.mem_cons_of_mem _ List.mem_cons_self)))
            obtain ⟨xo4, ro4, rfl, hro4, hxo4⟩ := v_var w15
            have eo4 : ro4 = y := r_at hy hro4
            obtain ⟨v16, c164, w16⟩ := hg4.o _ (List.mem_cons_of_mem _ (List.mem_cons_of_mem _ (List.mem_cons_of_mem _ (List.mem_cons_of_mem _ List.mem_cons_self))))
            obtain ⟨xw4, rw4, rfl, hrw4, hxw4⟩ := v_var w16
            have ew4 : rw4 = w3 := r_at r1 hrw4
            exact ih (62 - (nn + 1)).toNat (by omega) B4 (nn + 1) y w3 0 σ4 ls4 xn4 xm4 xo4 xw4 x84 x144 (Nat.le_refl _) hB4 (by omega) hg4.h hg4.lv n0 n1 (by omega) n2 em4 (by omega) (by omega) (by decide) (by decide) hy2 (by omega) q6 q7 c84 e84 c124 c144 e144 c154 (by omega) c164 (by omega) (fun hw => by
              obtain ⟨k1, k2⟩ := hj hw
              exact ⟨by omega, fun k3 => by omega, w_good_fr k2 hg4.fr (fun k => w_no)⟩) (h_fr_tr (h_fr_tr hfr2 hf3 hsR) hg4.fr w_sub)
          · obtain rfl := List.mem_singleton.mp hU
            obtain ⟨σ4, ce, sl, pc, ls4, st4⟩ := g4
            have hce : ce = 0 := hg4.ce
            have hsl : sl = 0 := hg4.sl
            have hpc : pc = 39 := hg4.pc
            subst hce hsl hpc
            have hst : st4 = [] := by
              cases st4 with
              | nil => rfl
              | cons v t => exact absurd hg4.s id
            subst hst
            obtain ⟨hB4, zz4, y1, y2, y3⟩ := hg4.bu
            have hz4 : zz4 = 8000 := by
              have y1 : some ((8000 : Int) + 0) = some zz4 := y1
              have := Option.some.inj y1
              omega
            have r0 := hg4.x0 0 nn rfl
            have r1 := hg4.x0 1 w3 rfl
            have r2 := hg4.x0 2 a3 rfl
            obtain ⟨x, y, hx, hy, hxy, -⟩ := hg4.f _ List.mem_cons_self
            have ex : x = a3 := r_at r2 hx
            have hxy : x ≤ y + 0 := hxy rfl
            have hy1 := hg4.e.2 3 (0, 60, false) y rfl hy
            have hy2 : (0 : Int) ≤ y := hy1.1
            have hy3 : y ≤ 60 := hy1.2.1
            subst ex
            obtain ⟨v0, n0, w0⟩ := hg4.l _ List.mem_cons_self
            have w0 : v0 = .ref 251 := w0
            subst w0
            obtain ⟨v1, n1, w1⟩ := hg4.l _ (List.mem_cons_of_mem _ List.mem_cons_self)
            obtain ⟨xn4, rn4, rfl, hrn4, hxn4⟩ := v_var w1
            have en4 : rn4 = nn := r_at r0 hrn4
            obtain ⟨v2, n2, w2⟩ := hg4.l _ (List.mem_cons_of_mem _ (List.mem_cons_of_mem _ List.mem_cons_self))
            obtain ⟨xm4, rfl, em4⟩ : ∃ z : Int32, v2 = .int z ∧ z.toInt = 1 := w2
            obtain ⟨v8, c84, w8⟩ := hg4.o _ List.mem_cons_self
            obtain ⟨x84, rfl, e84⟩ : ∃ z : Int32, v8 = .int z ∧ z.toInt = 0 := w8
            obtain ⟨v12, c124, w12⟩ := hg4.o _ (List.mem_cons_of_mem _ List.mem_cons_self)
            have w12 : v12 = .ref 254 := w12
            subst w12
            obtain ⟨v14, c144, w14⟩ := hg4.o _ (List.mem_cons_of_mem _ (List.mem_cons_of_mem _ List.mem_cons_self))
            obtain ⟨x144, rfl, e144⟩ : ∃ z : Int32, v14 = .int z ∧ z.toInt = 60 := w14
            obtain ⟨v15, c154, w15⟩ := hg4.o _ (List.mem_cons_of_mem _ (List.mem_cons_of_mem _ (List.mem_cons_of_mem _ List.mem_cons_self)))
            obtain ⟨xo4, ro4, rfl, hro4, hxo4⟩ := v_var w15
            have eo4 : ro4 = y := r_at hy hro4
            obtain ⟨v16, c164, w16⟩ := hg4.o _ (List.mem_cons_of_mem _ (List.mem_cons_of_mem _ (List.mem_cons_of_mem _ (List.mem_cons_of_mem _ List.mem_cons_self))))
            obtain ⟨xw4, rw4, rfl, hrw4, hxw4⟩ := v_var w16
            have ew4 : rw4 = w3 := r_at r1 hrw4
            exact ih (62 - (nn + 1)).toNat (by omega) B4 (nn + 1) y w3 1 σ4 ls4 xn4 xm4 xo4 xw4 x84 x144 (Nat.le_refl _) hB4 (by omega) hg4.h hg4.lv n0 n1 (by omega) n2 em4 (by omega) (by omega) (by decide) (by decide) hy2 (by omega) q6 q7 c84 e84 c124 c144 e144 c154 (by omega) c164 (by omega) (fun hw => by
              obtain ⟨k1, k2⟩ := hj hw
              exact ⟨by omega, fun k3 => by omega, w_good_fr k2 hg4.fr (fun k => w_no)⟩) (h_fr_tr (h_fr_tr hfr2 hf3 hsR) hg4.fr w_sub)
        have e3n := mul3 (x := xn2) (n := nn) (by omega) b1 b2
        have h56 : h_ln 251 = 56 := by decide +kernel
        obtain ⟨xl, c132, l1, l2⟩ := h_int hh2 (p := 251) (k := 13) (lo := 0) (hi := 80) (by decide) (by rw [h56]; decide) (by decide +kernel)
        have hvv : ∀ v ∈ [Value.ref 251, .int (Int32.ofInt 3 * xn2)], m_vOk h_N v := fun v hv => by
          simp only [List.mem_cons, List.not_mem_nil, or_false] at hv
          rcases hv with rfl | rfl
          · exact vok_ref (by decide)
          · trivial
        have hMr := hcs 213 (ra_con (3 * nn.toNat)) (ra_in (by omega)) _ rfl [xl.toInt, 60, a, -1] B' 0 12 σ2 [.ref 251, .int (Int32.ofInt 3 * xn2)] ⟨rfl, by
          intro i q r h1 h2
          match i, h1, h2 with
          | 0, h1, h2 => cases h1; cases h2; exact ⟨l1, l2, fun y => by cases y⟩
          | 1, h1, h2 => cases h1; cases h2; exact ⟨by decide, by decide, fun y => by cases y⟩
          | 2, h1, h2 => cases h1; cases h2; exact ⟨b5, j2, fun y => by cases y⟩
          | 3, h1, h2 => cases h1; cases h2; exact ⟨by decide, by decide, fun y => by cases y⟩⟩ hB1 hh2 rfl (by decide) (by omega) rfl (by omega) (by
          intro u hu
          rcases List.mem_cons.mp hu with rfl | hu
          · exact ⟨_, c122, rfl⟩
          rcases List.mem_cons.mp hu with rfl | hu
          · exact ⟨_, c132, v_mk0 (r := xl.toInt) rfl rfl⟩
          rcases List.mem_cons.mp hu with rfl | hu
          · exact ⟨_, c142, v_mk0 (r := 60) rfl (by omega)⟩
          rcases List.mem_cons.mp hu with rfl | hu
          · exact ⟨_, c152, v_mk0 (r := a) rfl (by omega)⟩
          rcases List.mem_cons.mp hu with rfl | hu
          · exact ⟨_, c162, v_mk0 (r := -1) rfl (by omega)⟩
          · cases hu) ⟨rfl, ⟨_, rfl, by show (Int32.ofInt 3 * xn2).toInt = ((3 * nn.toNat : Nat) : Int); omega⟩, trivial⟩ hvv
        rw [hWW] at after ⊢
        refine mW_aload_n hC (kd hk (pc := 50) rfl).1 m0 ?_
        refine mW_iconst hC (kd hk (pc := 51) rfl).1 ?_
        refine mW_iload_n hC (kd hk (pc := 52) rfl).1 m1 ?_
        refine mW_imul hC (kd hk (pc := 53) rfl).1 ?_
        refine mW_invV hY hC (as := [.int (Int32.ofInt 3 * xn2)]) (st := []) (kd hk (pc := 54) rfl) rfl rfl rfl hMr hσ2 (by decide) rfl m_rm_ok (Nat.zero_le _) (Nat.zero_le _) (Nat.zero_le _) (by rw [hσl, hσl2]; exact Nat.le_refl _) (fun v hv => by cases hv) (by rw [hσl2]; exact hls2) (fun r σ3 hQ => ?_)
        obtain ⟨q, hq, ρ', p1, p2, p3, p4, p5, p6, p7⟩ := hQ
        have low : ∀ i : Nat, (i : Int) < nn → ∃ x y : Int32, c_at σ3 263 (3 * i) = some (.int x) ∧ c_at σ3 263 (3 * i + 1) = some (.int y) ∧ ((0 ≤ y.toInt ∧ y.toInt ≤ 9) ∨ (x.toInt = 115 ∧ -1 ≤ y.toInt ∧ y.toInt ≤ 8)) := by
          intro i hi
          have nin : ∀ k, k < 3 * nn.toNat → ¬ d_in [(251, 15, 16), (263, 3 * nn.toNat, 3 * nn.toNat + 2)] 263 k := by
            rintro k hk15 ⟨q, hq, f1, f2, f3⟩
            rcases List.mem_cons.mp hq with rfl | hq
            · exact absurd f1 (by decide)
            · obtain rfl := List.mem_singleton.mp hq
              have f2 : 3 * nn.toNat ≤ k := f2
              omega
          obtain ⟨x, y, g1, g2, g3⟩ := hgood2 i hi
          exact ⟨x, y, by rw [p7 _ _ (nin _ (by omega))]; exact g1, by rw [p7 _ _ (nin _ (by omega))]; exact g2, g3⟩
        have s2 : ρ'[2]? = some a := p1 2 a rfl
        obtain ⟨xo3, c153, o1, o2⟩ := h_int p5 (p := 251) (k := 15) (lo := 0) (hi := 200) (by decide) (by rw [h56]; decide) (by decide +kernel)
        obtain ⟨xw3, c163, o3, o4⟩ := h_int p5 (p := 251) (k := 16) (lo := -1) (hi := 200) (by decide) (by rw [h56]; decide) (by decide +kernel)
        rcases List.mem_cons.mp hq with rfl | hq
        · -- wrong
          cases r with
          | some v => exact absurd p4 id
          | none =>
            obtain ⟨v, cv, wv⟩ := p6 _ List.mem_cons_self
            obtain ⟨xw4, rw4, rfl, hrw, hxw⟩ := v_var wv
            have hb := p2.2 4 (0, 200, false) rw4 rfl hrw
            have hb1 : (0 : Int) ≤ rw4 := hb.1
            have hb2 : rw4 ≤ 200 := hb.2.1
            exact after 200 (B' + 0) xo3.toInt rw4 σ3 xo3 xw4 w_k2 (by omega) (by omega) p5 p7 o1 o2 (Int.le_refl _) (by omega) hb2 c153 rfl cv (by omega) (fun hw => by omega)
        rcases List.mem_cons.mp hq with rfl | hq
        · -- an act
          cases r with
          | some v => exact absurd p4 id
          | none =>
            obtain ⟨x, y, hx, hy, hxy, -⟩ := p3 _ List.mem_cons_self
            have ex : x = a := r_at s2 hx
            have hxy : x ≤ y + -1 := hxy rfl
            have hb := p2.2 4 (1, 64, false) y rfl hy
            have hb2 : y ≤ 64 := hb.2.1
            obtain ⟨v, cv, wv⟩ := p6 _ List.mem_cons_self
            obtain ⟨xo4, ro4, rfl, hro, hxo⟩ := v_var wv
            have eo : ro4 = y := r_at hy hro
            obtain ⟨v, cw, ww⟩ := p6 _ (List.mem_cons_of_mem _ List.mem_cons_self)
            obtain ⟨xb, rb, rfl, hrb, hxb⟩ := v_var ww
            have hc := p2.2 5 (0, 9, false) rb rfl hrb
            have hc1 : (0 : Int) ≤ rb := hc.1
            have hc2 : rb ≤ 9 := hc.2.1
            obtain ⟨xt, ct, -, -⟩ := h_int p5 (p := 263) (k := 3 * nn.toNat) (by decide) (by rw [show h_ln 263 = 240 by decide +kernel]; omega) (show h_ty 263 (3 * nn.toNat) = (0, -2147483648, 2147483647) by
              unfold h_ty t_at
              rw [show (h_at 263).2.2 = [(0, -2147483648, 2147483647)] by decide +kernel]
              simp [Nat.mod_one])
            exact after 64 (B' + 0) y xw3.toInt σ3 xo4 xw3 w_k3 (by omega) (by omega) p5 p7 (by omega) hb2 (by decide) o3 o4 cv (by omega) c163 rfl (fun hw => ⟨by omega, fun i hi => by
              by_cases h : (i : Int) < nn
              · exact low i h
              · obtain rfl : i = nn.toNat := by omega
                exact ⟨xt, xb, ct, cw, Or.inl ⟨by omega, by omega⟩⟩⟩)
        · -- an act of the stove
          obtain rfl := List.mem_singleton.mp hq
          cases r with
          | some v => exact absurd p4 id
          | none =>
            obtain ⟨x, y, hx, hy, hxy, -⟩ := p3 _ List.mem_cons_self
            have ex : x = a := r_at s2 hx
            have hxy : x ≤ y + -1 := hxy rfl
            have hb := p2.2 4 (1, 64, false) y rfl hy
            have hb2 : y ≤ 64 := hb.2.1
            obtain ⟨v, cv, wv⟩ := p6 _ List.mem_cons_self
            obtain ⟨xo4, ro4, rfl, hro, hxo⟩ := v_var wv
            have eo : ro4 = y := r_at hy hro
            obtain ⟨v, ct, wt⟩ := p6 _ (List.mem_cons_of_mem _ List.mem_cons_self)
            obtain ⟨xt, rfl, et⟩ : ∃ z : Int32, v = .int z ∧ z.toInt = 115 := wt
            obtain ⟨v, cw, ww⟩ := p6 _ (List.mem_cons_of_mem _ (List.mem_cons_of_mem _ List.mem_cons_self))
            obtain ⟨xb, rb, rfl, hrb, hxb⟩ := v_var ww
            have hc := p2.2 5 (-1, 8, false) rb rfl hrb
            have hc1 : (-1 : Int) ≤ rb := hc.1
            have hc2 : rb ≤ 8 := hc.2.1
            exact after 64 (B' + 0) y xw3.toInt σ3 xo4 xw3 w_k3 (by omega) (by omega) p5 p7 (by omega) hb2 (by decide) o3 o4 cv (by omega) c163 rfl (fun hw => ⟨by omega, fun i hi => by
              by_cases h : (i : Int) < nn
              · exact low i h
              · obtain rfl : i = nn.toNat := by omega
                exact ⟨xt, xb, ct, cw, Or.inr ⟨et, by omega, by omega⟩⟩⟩)
      · -- the second loop
        obtain rfl := List.mem_singleton.mp hU
        obtain ⟨σ2, ce, sl, pc, ls2, st2⟩ := g
        have hce : ce = 0 := hg.ce
        have hsl : sl = 0 := hg.sl
        have hpc : pc = 121 := hg.pc
        subst hce hsl hpc
        have hst : st2 = [] := by
          cases st2 with
          | nil => rfl
          | cons v t => exact absurd hg.s id
        subst hst
        obtain ⟨hB1, zz, z1, z2, z3⟩ := hg.bu
        have hz : zz = 8000 := by
          have z1 : some ((8000 : Int) + 0) = some zz := z1
          have := Option.some.inj z1
          omega
        have r0 := hg.x0 0 nn rfl
        have r1 := hg.x0 1 w rfl
        have hw1 := hg.e.2 1 (-1, -1, false) w rfl r1
        have hw2 : (-1 : Int) ≤ w := hw1.1
        have hw3 : w ≤ -1 := hw1.2.1
        obtain ⟨j1, j2, j3⟩ := hJ (by omega)
        obtain ⟨v0, m0, w0⟩ := hg.l _ List.mem_cons_self
        have w0 : v0 = .ref 251 := w0
        subst w0
        obtain ⟨v1, m1, w1⟩ := hg.l _ (List.mem_cons_of_mem _ List.mem_cons_self)
        obtain ⟨xn2, rn, rfl, hrn, hxn⟩ := v_var w1
        have en : rn = nn := r_at r0 hrn
        obtain ⟨v3, m3, w3⟩ := hg.l _ (List.mem_cons_of_mem _ (List.mem_cons_of_mem _ List.mem_cons_self))
        obtain ⟨x3, rfl, e3⟩ : ∃ z : Int32, v3 = .int z ∧ z.toInt = 0 := w3
        obtain ⟨v8, c82, w8⟩ := hg.o _ List.mem_cons_self
        obtain ⟨x82, rfl, e82⟩ : ∃ z : Int32, v8 = .int z ∧ z.toInt = 0 := w8
        exact L2 _ B' nn 0 σ2 ls2 xn2 x3 x82 (Nat.le_refl _) hB1 (by omega) hg.h hg.lv m0 m1 (by omega) m3 e3 (Int.le_refl 0) b1 b2 c82 e82 (h_fr_tr hfr hg.fr w_sub) (w_good_fr j3 hg.fr (fun k => w_no))
  -- the start
  refine piece 1 [] (c_start cn_w) [wA0] ρ0 σ M _ w_k0 he.1 ⟨r_ext.rf, he, (fun u hu => by cases hu), ⟨hM, 8000, rfl, by decide, by omega⟩, rfl, hh, rfl, rfl, rfl, ?_, ?_, trivial, (fun v hv => by cases hv), ho, fun p k _ => rfl⟩ (fun r σ' h => by
    obtain ⟨q, hq, -⟩ := h
    cases hq) ?_
  · intro u hu
    obtain rfl := List.mem_singleton.mp hu
    exact ⟨.ref 251, rfl, rfl⟩
  · intro u hu
    have hu : u ∈ [((0 : Nat), Value.ref 251)] := hu
    obtain rfl := List.mem_singleton.mp hu
    exact vok_ref (by decide)
  · intro U hU fv' B' ρ g h1 h2 hg
    obtain rfl := List.mem_singleton.mp hU
    obtain ⟨σ2, ce, sl, pc, ls2, st2⟩ := g
    have hce : ce = 0 := hg.ce
    have hsl : sl = 0 := hg.sl
    have hpc : pc = 39 := hg.pc
    subst hce hsl hpc
    have hst : st2 = [] := by
      cases st2 with
      | nil => rfl
      | cons v t => exact absurd hg.s id
    subst hst
    obtain ⟨hB1, zz, z1, z2, z3⟩ := hg.bu
    have hz : zz = 8000 := by
      have z1 : some ((8000 : Int) + 0) = some zz := z1
      have := Option.some.inj z1
      omega
    obtain ⟨v0, m0, w0⟩ := hg.l _ List.mem_cons_self
    have w0 : v0 = .ref 251 := w0
    subst w0
    obtain ⟨v1, m1, w1⟩ := hg.l _ (List.mem_cons_of_mem _ List.mem_cons_self)
    obtain ⟨x1, rfl, e1⟩ : ∃ z : Int32, v1 = .int z ∧ z.toInt = 0 := w1
    obtain ⟨v2, m2, w2⟩ := hg.l _ (List.mem_cons_of_mem _ (List.mem_cons_of_mem _ List.mem_cons_self))
    obtain ⟨xm, rm, rfl, hrm, hxm⟩ := v_var w2
    have hb := hg.e.2 1 (0, 1, false) rm rfl hrm
    have hb1 : (0 : Int) ≤ rm := hb.1
    have hb2 : rm ≤ 1 := hb.2.1
    obtain ⟨v8, c82, w8⟩ := hg.o _ List.mem_cons_self
    obtain ⟨x82, rfl, e82⟩ : ∃ z : Int32, v8 = .int z ∧ z.toInt = 0 := w8
    obtain ⟨v12, c122, w12⟩ := hg.o _ (List.mem_cons_of_mem _ List.mem_cons_self)
    have w12 : v12 = .ref 254 := w12
    subst w12
    obtain ⟨v14, c142, w14⟩ := hg.o _ (List.mem_cons_of_mem _ (List.mem_cons_of_mem _ List.mem_cons_self))
    obtain ⟨x142, rfl, e142⟩ : ∃ z : Int32, v14 = .int z ∧ z.toInt = 60 := w14
    obtain ⟨v15, c152, w15⟩ := hg.o _ (List.mem_cons_of_mem _ (List.mem_cons_of_mem _ (List.mem_cons_of_mem _ List.mem_cons_self)))
    obtain ⟨xo2, rfl, eo2⟩ : ∃ z : Int32, v15 = .int z ∧ z.toInt = 0 := w15
    obtain ⟨v16, c162, w16⟩ := hg.o _ (List.mem_cons_of_mem _ (List.mem_cons_of_mem _ (List.mem_cons_of_mem _ (List.mem_cons_of_mem _ List.mem_cons_self))))
    obtain ⟨xw2, rfl, ew2⟩ : ∃ z : Int32, v16 = .int z ∧ z.toInt = -1 := w16
    exact L1 _ B' 0 0 (-1) rm σ2 ls2 x1 xm xo2 xw2 x82 x142 (Nat.le_refl _) hB1 (by omega) hg.h hg.lv m0 m1 e1 m2 (by omega) (by decide) (by decide) hb1 hb2 (by decide) (by decide) (by decide) (by decide) c82 e82 c122 c142 e142 c152 eo2 c162 ew2 (fun _ => ⟨Int.le_refl 0, fun _ => by decide, fun i hi => by omega⟩) (h_fr_tr (fun p k _ => rfl) hg.fr w_sub)
end WS
