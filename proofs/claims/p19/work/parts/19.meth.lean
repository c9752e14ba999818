/-! A METHOD KEEPS ITS CONTRACT -/
def a_args : Nat → List A_V → List (Nat × A_V)
  | _, [] => []
  | n, a :: l => (n, a) :: a_args (bif a_c1 a then n + 1 else n + 2) l
theorem lv_args_ge : ∀ (vs : List Value) (n : Nat), ∀ q ∈ lv_args n vs, n ≤ q.1
  | [], n, q, h => by cases h
  | v :: vs, n, q, h => by
    unfold lv_args at h
    rcases List.mem_cons.mp h with rfl | h
    · exact Nat.le_refl _
    · have := lv_args_ge vs _ q h
      split at this <;> omega
theorem m_ld_skip {i j : Nat} {v : Value} {ls : List (Nat × Value)} (h : ¬ j = i) : m_ld i ((j, v) :: ls) = m_ld i ls := by
  unfold m_ld
  have : (((j, v) : Nat × Value).1 == i) = false := by simpa using h
  rw [List.find?_cons, this]
theorem a_args_ok {ρ : List Int} : ∀ (as : List A_V) (vs : List Value) (n k : Nat), s_ok ρ as vs → s_cat as = some k → (∀ q ∈ a_args n as, n ≤ q.1) ∧ l_ok ρ (a_args n as) (lv_args n vs)
  | [], [], n, k, _, _ => ⟨(fun q h => by cases h), (fun q h => by cases h)⟩
  | [], _ :: _, _, _, h, _ => absurd h id
  | _ :: _, [], _, _, h, _ => absurd h id
  | a :: as, v :: vs, n, k, h, hc => by
    unfold s_cat at hc
    split at hc
    · rename_i k' hk
      have hcat : (if v.category = 2 then n + 2 else n + 1) = (bif a_c1 a then n + 1 else n + 2) := by
        cases h1 : a_c1 a
        · rw [h1] at hc
          cases h2 : a_isL a
          · rw [h2] at hc; cases hc
          · rw [v_cat2 h.1 h2]; rfl
        · rw [v_cat1 h.1 h1]; rfl
      obtain ⟨g1, g2⟩ := a_args_ok as vs (bif a_c1 a then n + 1 else n + 2) k' h.2 hk
      have hle : n + 1 ≤ (bif a_c1 a then n + 1 else n + 2) := by
        cases a_c1 a
        · show n + 1 ≤ n + 2; omega
        · exact Nat.le_refl _
      refine ⟨fun q hq => ?_, fun q hq => ?_⟩
      · rcases List.mem_cons.mp hq with rfl | hq
        · exact Nat.le_refl _
        · have := g1 q hq; omega
      · have e : lv_args n (v :: vs) = (n, v) :: lv_args (if v.category = 2 then n + 2 else n + 1) vs := rfl
        rw [e, hcat]
        rcases List.mem_cons.mp hq with rfl | hq
        · exact ⟨v, m_ld_self, h.1⟩
        · obtain ⟨u, u1, u2⟩ := g2 q hq
          have := g1 q hq
          exact ⟨u, by rw [m_ld_skip (by omega)]; exact u1, u2⟩
    · cases hc
theorem lv_args_in : ∀ (vs : List Value) (n : Nat), ∀ q ∈ lv_args n vs, q.2 ∈ vs
  | [], n, q, h => by cases h
  | v :: vs, n, q, h => by
    unfold lv_args at h
    rcases List.mem_cons.mp h with rfl | h
    · exact List.mem_cons_self
    · exact List.mem_cons_of_mem _ (lv_args_in vs _ q h)
theorem sl_len {ρ : List Int} : ∀ (as : List A_V) (vs : List Value) (k : Nat), s_ok ρ as vs → s_cat as = some k → (lg_sl vs).length = k
  | [], [], k, _, hc => by cases hc; rfl
  | [], _ :: _, _, h, _ => absurd h id
  | _ :: _, [], _, h, _ => absurd h id
  | a :: as, v :: vs, k, h, hc => by
    unfold s_cat at hc
    split at hc
    · rename_i k' hk
      have ih := sl_len as vs k' h.2 hk
      simp only [lg_sl, List.flatMap_cons, List.length_append] at ih ⊢
      rw [ih]
      cases h1 : a_c1 a
      · rw [h1] at hc
        cases h2 : a_isL a
        · rw [h2] at hc; cases hc
        · rw [h2] at hc
          cases hc
          simp [v_cat2 h.1 h2]
          omega
      · rw [h1] at hc
        cases hc
        simp [v_cat1 h.1 h1]
        omega
    · cases hc
/-- the checks of a contract -/
def c_chk (cs : Nat → List A_C) (nL : Nat) (rt : Option FieldType) (code : List (List a_K)) (fuel : Nat) (C : A_C) : Bool := match C with
  | (_, E0, args, ov0, mc, tau, dep, alts, cuts, ph0) => (match s_cat args with | some k => Nat.ble k nL | none => false) && ((match l_app (c_idn E0.length) ph0 with | some _ => true | none => false) &&
    (a_go cs mc dep nL E0.length alts cuts rt code fuel 1 (0, E0, [], a_args 0 args, [], ov0, tau, ph0) && cuts.all (a_go cs mc dep nL E0.length alts cuts rt code fuel 1)))
theorem c_meth {l : Launch} {X : Nat → Option (List Int32)} {Y : (Nat → Prop) → State → Heap → Prop} {xa : Nat → Nat} {d : Nat} {C : A_C} {q : a_M} {cs : Nat → List A_C} {code : List (List a_K)} {fuel : Nat} (hkt : kt_at C.1 = code) (hY : m_Yok Y) (hYS : ∀ A U H, Y A U H → y_str xa A U H) (hIx : ix_K l X Y xa) (hX : ∀ i, i < 2 → X i = some ((x_tab i).map Int32.ofInt)) (hq : a_mt[C.1]? = some q) (hpl : plainFor q.1 = true)
    (hk : ∀ r ∈ code, ∀ e ∈ r, k_ok q.1.cls q.2.1 e) (hcy : ∀ y, ∀ C ∈ cs y, C.1 = y) (hcs : ∀ d', d = d' + 1 → ∀ y, ∀ C ∈ cs y, c_sem l X Y xa d' C) (hc : c_chk cs q.2.2.1 q.2.2.2 code fuel C = true) : c_sem l X Y xa d C := by
  obtain ⟨y, E0, args, ov0, mc, tau, dep, alts, cuts, ph0⟩ := C
  unfold c_chk at hc
  simp only at hc hq hkt
  obtain ⟨h1, hc1⟩ := Bool.and_eq_true _ _ |>.mp hc
  obtain ⟨h2, hc2⟩ := Bool.and_eq_true _ _ |>.mp hc1
  obtain ⟨h3, h4⟩ := Bool.and_eq_true _ _ |>.mp hc2
  clear hc hc1 hc2
  split at h1
  · rename_i kc hkc
    split at h2
    · rename_i pp hpp
      intro q' hq' ρ0 M z dz σ vs a1 a2 a3 a4 a5 a6 a7 a8 a9 a10 a11
      obtain rfl : q' = q := Option.some.inj (hq'.symm.trans hq)
      have hidn : h_sub ρ0 (c_idn E0.length) ρ0 := by
        refine ⟨by simp [c_idn, a1.1], fun i b r g1 g2 => ?_⟩
        have hi := (List.getElem?_eq_some_iff.mp g2).1
        have : b = (1, i, 0) := by
          unfold c_idn at g1
          rw [List.getElem?_map, List.getElem?_range (by rw [← a1.1]; exact hi)] at g1
          exact (Option.some.inj g1).symm
        subst this
        show (ρ0[i]?).map (fun r => r + 0) = some r
        rw [g2]; simp
      obtain ⟨fv0, p1, -⟩ := l_app_ok hidn hpp
      refine m_K_of hkt hpl (by rw [sl_len args vs kc a10 hkc]; exact Nat.le_of_ble_eq_true h1) (z_nl_ok hq) (fun p e s m args' below meth c dC dI aC ad sz hC _ hrt => ?_)
      rw [← hrt] at h3 h4
      have hR0 : d ≤ (m_rm d 0 0).frames ∧ 40 * d ≤ (m_rm d 0 0).locals := ⟨Nat.le_refl _, Nat.le_refl _⟩
      have main : ∀ (n : Nat) (U : A_S), U ∈ cuts → ∀ (fv B : Int) (ρ : List Int) (g : m_G), 0 ≤ fv → fv.toNat = n → g_ok (M + z) fv ρ0 σ mc B ρ U g → mW code (z_Ev y) p l e (m_rm d 0 0) s m args' below meth c (m_QZ below dC dI aC xa ad sz σ (c_post alts mc (M + z) ρ0 σ) args' s 0 0 (va_A (m_W ad aC σ) sz)) dC dI aC (va_A (m_W ad aC σ) sz) σ.length ad xa q'.2.2.1 g := by
        intro n
        induction n using Nat.strongRecOn with
        | ind n ih =>
          intro U hU fv B ρ g f0 fn hg
          refine a_go_ok hC hY hYS hIx hX (by omega) a1.1 (by rw [a3.1]; exact Nat.le_refl _) hk hcy hcs a7 a8 hR0 (fun B ρ S g i n aux hg hd hrt => a_rt_ok (by omega) (fun _ _ z => z) hC hg a1.1 hd hrt) (fun U' hU' fv' B' ρ' g' hlt h0 hg' => ih fv'.toNat (by omega) U' hU' fv' B' ρ' g' h0 rfl hg') fuel 1 U (List.all_eq_true.mp h4 U hU) B ρ g hg
      refine a_go_ok (fv := fv0) hC hY hYS hIx hX (by omega) a1.1 (by rw [a3.1]; exact Nat.le_refl _) hk hcy hcs a7 a8 hR0 (fun B ρ S g i n aux hg hd hrt => a_rt_ok (by omega) (fun _ _ z => z) hC hg a1.1 hd hrt) (fun U' hU' fv' B' ρ' g' hlt h0 hg' => main fv'.toNat U' hU' fv' B' ρ' g' h0 rfl hg') fuel 1 _ h3 M ρ0 _ ?_
      exact ⟨r_ext.rf, a1, (fun q hq => by cases hq), ⟨a2, z, a4, a5, Int.le_refl _⟩, p1, a3, rfl, rfl, rfl, (a_args_ok args vs 0 kc a10 hkc).2, (fun u hu => a11 _ (lv_args_in vs 0 u hu)), trivial, (fun v hv => by cases hv), a9, (fun p k _ => rfl)⟩
    · cases h2
  · cases h1
