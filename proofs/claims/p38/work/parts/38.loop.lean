/-! THE LAW'S LOOP -/
theorem py_lroom : (parseMethodDescriptor yl_room.desc).map (fun d => d.parameters.length) = some 4 := by decide +kernel
theorem py_lperson : (parseMethodDescriptor yl_person.desc).map (fun d => d.parameters.length) = some 4 := by decide +kernel
theorem py_lrow : (parseMethodDescriptor yl_row.desc).map (fun d => d.parameters.length) = some 3 := by decide +kernel
theorem a_rt_nil {nr n : Nat} {rt : Option FieldType} {i : Jvm.ClassFile.Instr} {S : A_S} (h : a_rt nr [] rt i n S = true) : False := by
  obtain ⟨pc, E, F, ls, st, ov, bu, ph⟩ := S
  unfold a_rt at h
  simp only at h
  have h2 := (Bool.and_eq_true _ _ |>.mp h).2
  clear h
  split at h2
  · have h3 := (Bool.and_eq_true _ _ |>.mp h2).2
    cases h3
  · have h3 := (Bool.and_eq_true _ _ |>.mp h2).2
    cases h3
  · have h3 := (Bool.and_eq_true _ _ |>.mp (Bool.and_eq_true _ _ |>.mp h2).2).2
    cases h3
  · cases h2
theorem len_le {n : Nat} (h : n ≤ 2560) : (Int32.ofNat n - Int32.ofInt 5).toInt = (n : Int) - 5 := by
  have e1 : (Int32.ofNat n).toInt = (n : Int) := Int32.toInt_ofNat_of_lt (by omega)
  have e2 : (Int32.ofInt 5).toInt = 5 := by decide
  have := i32_sub (x := Int32.ofNat n) (y := Int32.ofInt 5) (by rw [e1, e2]; unfold i_m; omega) (by rw [e1, e2]; unfold i_M; omega)
  rw [this, e1, e2]
section LL
variable {p : Program} {l : Launch} {e : Env} {s : State} {m : MethodId} {args : Array Value} {below : List Frame} {meth : Method} {c : Code} {QQ : State → Prop} {dC : Nat → ClassId} {dI : Nat → Nat → Nat} {aC : Nat → ClassId} {A : Nat → Prop} {n0 : Nat} {ad0 xa : Nat → Nat} {X : Nat → Option (List Int32)}
theorem law_k : ∀ r ∈ kt_law, ∀ q ∈ r, k_ok "LetByTheDegreeLaw" code q := k_all_ok (c := 14) rfl kt_law_ok
/-- the frame's values that stay -/
def l_fr (ls : List (Nat × Value)) (x : Int32) : Prop := m_ld 0 ls = some (.ref (m_X0 + 3)) ∧ m_ld 1 ls = some (.ref 0) ∧ m_ld 2 ls = some (.ref 251) ∧ m_ld 3 ls = some (.ref 278) ∧ m_ld 4 ls = some (.int x) ∧ ∀ u ∈ ls, m_vOk h_N u.2
theorem l_fr_ok {ls : List (Nat × Value)} {x : Int32} {ρ : List Int} {r : Int} (h : l_fr ls x) (hr : ρ[0]? = some r) (hx : x.toInt = r) : l_ok ρ l_ls ls := by
  obtain ⟨h0, h1, h2, h3, h4, -⟩ := h
  intro u hu
  simp only [l_ls, List.mem_cons, List.not_mem_nil, or_false] at hu
  rcases hu with rfl | rfl | rfl | rfl | rfl
  · exact ⟨_, h0, rfl⟩
  · exact ⟨_, h1, rfl⟩
  · exact ⟨_, h2, rfl⟩
  · exact ⟨_, h3, rfl⟩
  · exact ⟨_, h4, v_mk0 hr hx⟩
theorem l_fr_of {ls : List (Nat × Value)} {ρ : List Int} {r : Int} (h : l_ok ρ l_ls ls) (hv : ∀ u ∈ ls, m_vOk h_N u.2) (hr : ρ[0]? = some r) : ∃ x : Int32, x.toInt = r ∧ l_fr ls x := by
  obtain ⟨v0, a0, w0⟩ := h (0, (2, m_X0 + 3, 0)) (List.mem_of_getElem? (i := 0) rfl)
  obtain ⟨v1, a1, w1⟩ := h (1, (2, 0, 0)) (List.mem_of_getElem? (i := 1) rfl)
  obtain ⟨v2, a2, w2⟩ := h (2, (2, 251, 0)) (List.mem_of_getElem? (i := 2) rfl)
  obtain ⟨v3, a3, w3⟩ := h (3, (2, 278, 0)) (List.mem_of_getElem? (i := 3) rfl)
  obtain ⟨v4, a4, w4⟩ := h (4, (1, 0, 0)) (List.mem_of_getElem? (i := 4) rfl)
  have w0 : v0 = .ref (m_X0 + 3) := w0
  have w1 : v1 = .ref 0 := w1
  have w2 : v2 = .ref 251 := w2
  have w3 : v3 = .ref 278 := w3
  subst w0; subst w1; subst w2; subst w3
  obtain ⟨x, r', rfl, hr', hx⟩ := v_var w4
  have : r' = r := Option.some.inj (hr'.symm.trans hr)
  exact ⟨x, by omega, a0, a1, a2, a3, a4, hv⟩
def l_rho (Ls : List Int32) (t : Nat) : List Int := [((5 * t : Nat) : Int), (Ls.getD (5 * t) 0).toInt, (Ls.getD (5 * t + 1) 0).toInt, (Ls.getD (5 * t + 2) 0).toInt, (Ls.getD (5 * t + 3) 0).toInt, (Ls.getD (5 * t + 4) 0).toInt]
theorem l_rho_sc {Ls : List Int32} {t : Nat} {ρ : List Int} (hx : r_ext (l_rho Ls t) ρ) : ∀ c : Nat, c ≤ 4 → ρ[c + 1]? = some (Ls.getD ((((5 * t : Nat) : Int)).toNat + c) 0).toInt := by
  intro c hc
  have e : (((5 * t : Nat) : Int)).toNat = 5 * t := Int.toNat_natCast _
  rw [e]
  rcases (show c = 0 ∨ c = 1 ∨ c = 2 ∨ c = 3 ∨ c = 4 by omega) with rfl | rfl | rfl | rfl | rfl <;> exact hx _ _ rfl
theorem l_rho_e {Ls : List Int32} {t : Nat} {B : Int} (ht : 5 * t ≤ 2555) : e_ok B lE (l_rho Ls t) := by
  refine ⟨rfl, ?_⟩
  intro i q r h1 h2
  have hr : ∀ x : Int32, iR.1 ≤ x.toInt ∧ x.toInt ≤ iR.2.1 ∧ (iR.2.2 = true → 0 ≤ x.toInt ∧ x.toInt ≤ B) := fun x => by
    have := i32_rng x
    exact ⟨this.1, this.2, fun z => by cases z⟩
  match i, h1, h2 with
  | 0, h1, h2 => cases h1; cases h2; exact ⟨by show (0 : Int) ≤ _; omega, by show _ ≤ (2555 : Int); omega, fun z => by cases z⟩
  | 1, h1, h2 => cases h1; cases h2; exact hr _
  | 2, h1, h2 => cases h1; cases h2; exact hr _
  | 3, h1, h2 => cases h1; cases h2; exact hr _
  | 4, h1, h2 => cases h1; cases h2; exact hr _
  | 5, h1, h2 => cases h1; cases h2; exact hr _
theorem law_loop (hl : l.stackTraces = false) (hX : ∀ i, i < 2 → X i = some ((x_tab i).map Int32.ofInt)) {Ls : List Int32} (hX3 : X 3 = some Ls) (hLs : Ls.length ≤ 2560) (hC : m_Ctx p s m args meth c code 8 "LetByTheDegreeLaw" dC dI aC A xa X (yY xa)) (hrt : meth.sig.returnType = some .boolean) (hn0 : n0 ≤ h_N) {k0 s0 : Nat} (hk0 : k0 + 600 ≤ 601024) (hs0 : s0 + 4000 ≤ 7293034)
    (END : ∀ (σ : m_H) (k n : Nat) (ls : List (Nat × Value)), k ≤ k0 + 512 → n ≤ s0 + 3072 → mW p l e room_1 s m args below meth c QQ dC dI aC A n0 ad0 xa 8 (σ, k, n, 1299, ls, [])) :
    ∀ (j t : Nat) (σ : m_H) (k n : Nat) (B : Int) (x : Int32) (ls : List (Nat × Value)), j + t = 512 → x.toInt = ((5 * t : Nat) : Int) → l_fr ls x → 0 ≤ B → B ≤ 2000000 * (t : Int) → h_ok B σ → k ≤ k0 + t → n ≤ s0 + 6 * t → mW p l e room_1 s m args below meth c QQ dC dI aC A n0 ad0 xa 8 (σ, k, n, 23, ls, []) := by
  have hY := yY_ok xa
  have hYS := yY_str xa
  have hIx := ix_K_ok (l := l) (X := X) hY hYS
  intro j
  induction j with
  | zero =>
    intro t σ k n B x ls hj hx hls hB0 hB hh hk hn
    refine mW_iload hC (kd law_k (pc := 23) rfl).1 hls.2.2.2.2.1 ?_
    refine mW_aload_n hC (kd law_k (pc := 25) rfl).1 hls.1 ?_
    refine mW_xalen hC (kd law_k (pc := 26) rfl).1 hX3 ?_
    refine mW_iconst hC (kd law_k (pc := 27) rfl).1 ?_
    refine mW_isub hC (kd law_k (pc := 28) rfl).1 ?_
    refine mW_icmp_gt hC (kd law_k (pc := 29) rfl).1 (tgt := 1299) rfl (fun h => END σ k n ls (by omega) (by omega)) (fun h => ?_)
    exact absurd (Int32.lt_iff_toInt_lt.mpr (by rw [len_le hLs, hx]; omega)) h
  | succ j ih =>
    intro t σ k n B x ls hj hx hls hB0 hB hh hk hn
    have back : ∀ (σ' : m_H) (k' n' : Nat) (B' : Int) (x' : Int32) (ls' : List (Nat × Value)), x'.toInt = ((5 * t : Nat) : Int) → l_fr ls' x' → 0 ≤ B' → B' ≤ 2000000 * ((t + 1 : Nat) : Int) → h_ok B' σ' → k' ≤ k0 + (t + 1) → n' ≤ s0 + 6 * (t + 1) → mW p l e room_1 s m args below meth c QQ dC dI aC A n0 ad0 xa 8 (σ', k', n', 1293, ls', []) := by
      intro σ' k' n' B' x' ls' hx' hls' hB0' hB' hh' hk' hn'
      refine mW_iinc hC (kd law_k (pc := 1293) rfl).1 hls'.2.2.2.2.1 (by decide) ?_
      refine mW_goto hC (kd law_k (pc := 1296) rfl).1 (tgt := 23) rfl ?_
      obtain ⟨g0, g1, g2, g3, g4, g5⟩ := hls'
      have e5 : (Int32.ofInt 5).toInt = 5 := by decide
      refine ih (t + 1) σ' k' n' B' (x' + Int32.ofInt 5) _ (by omega) ?_ ?_ hB0' hB' hh' hk' hn'
      · rw [i32_add (by rw [hx', e5]; unfold i_m; omega) (by rw [hx', e5]; unfold i_M; omega), hx', e5]
        omega
      · refine ⟨m_ld_keep g0 (by decide) rfl, m_ld_keep g1 (by decide) rfl, m_ld_keep g2 (by decide) rfl, m_ld_keep g3 (by decide) rfl, m_ld_self, fun u hu => ?_⟩
        rcases List.mem_cons.mp hu with rfl | hu
        · trivial
        · exact g5 u (List.mem_filter.mp hu).1
    refine mW_iload hC (kd law_k (pc := 23) rfl).1 hls.2.2.2.2.1 ?_
    refine mW_aload_n hC (kd law_k (pc := 25) rfl).1 hls.1 ?_
    refine mW_xalen hC (kd law_k (pc := 26) rfl).1 hX3 ?_
    refine mW_iconst hC (kd law_k (pc := 27) rfl).1 ?_
    refine mW_isub hC (kd law_k (pc := 28) rfl).1 ?_
    refine mW_icmp_gt hC (kd law_k (pc := 29) rfl).1 (tgt := 1299) rfl (fun h => END σ k n ls (by omega) (by omega)) (fun h => ?_)
    have hlen : ((5 * t : Nat) : Int) + 5 ≤ (Ls.length : Int) := by
      have h := Int32.not_lt.mp h
      have h := Int32.le_iff_toInt_le.mp h
      rw [len_le hLs, hx] at h
      omega
    have ht : 5 * t ≤ 2555 := by omega
    have hRc : room_1.cells = 601024 := rfl
    have hRs : room_1.slots = 7293034 := rfl
    have hT2 : (2000000 : Int) * ((t + 1 : Nat) : Int) ≤ 1024000000 := by omega
    have engine : ∀ (s' : State) (nr : Nat) (cuts : List A_S) (S : A_S) (ρ0 : List Int) (T Bs : Int) (σs : m_H) (g : m_G), m_Ctx p s' m args meth c code 8 "LetByTheDegreeLaw" dC dI aC A xa X (yY xa) → b_go cs_at l_md l_dp 8 nr [] cuts (some .boolean) kt_law 4000 1 S = true → ρ0.length = nr → r_ext (l_rho Ls t) ρ0 → T ≤ 1073741824 → g_ok T 1 ρ0 σs l_md Bs ρ0 S g →
        (∀ U ∈ cuts, ∀ (fv' B : Int) (ρ : List Int) (g : m_G), fv' < 1 → 0 ≤ fv' → g_ok T fv' ρ0 σs l_md B ρ U g → mW p l e (r_small room_1) s' m args below meth c QQ dC dI aC A n0 ad0 xa 8 g) → mW p l e (r_small room_1) s' m args below meth c QQ dC dI aC A n0 ad0 xa 8 g := by
      intro s' nr cuts S ρ0 T Bs σs g hC' hgo hlr hxr hT hg hcut
      rw [← hrt] at hgo
      exact b_go_ok hX3 (i0 := ((5 * t : Nat) : Int)) (hxr 0 _ rfl) (by omega) hlen (l_rho_sc hxr) hC' hY hYS hIx hX hT hlr hn0 law_k cs_cy (dc := 2000) (fun d _ => all_sem hX d) (dv := 200) rfl (by decide) ⟨by decide, by decide⟩ (fun B ρ S g i n _ _ hr => absurd (a_rt_nil hr) id) hcut 4000 1 S hgo Bs ρ0 g hg
    -- behind a call that may throw
    have behind : ∀ (S : A_S) (pc : Nat) (r : Int32) (σ' : m_H) (B' : Int) (x' : Int32) (ls' : List (Nat × Value)), S = (pc, lEr, [], l_ls, [(1, 6, 0)], [], (1900000, []), (1, [])) → b_go cs_at l_md l_dp 8 7 [] [lH lEr] (some .boolean) kt_law 4000 1 S = true → 0 ≤ r.toInt → r.toInt ≤ 1 → x'.toInt = ((5 * t : Nat) : Int) → l_fr ls' x' → 0 ≤ B' → B' ≤ B + 100000 → h_ok B' σ' → mW p l e room_1 s m args below meth c QQ dC dI aC A n0 ad0 xa 8 (σ', k + 1, n + 6, pc, ls', [.int r]) := by
      intro S pc r σ' B' x' ls' hS hgo hr0 hr1 hx' hls' hB0' hB' hh'
      refine mW_reb hY hC (by omega) (by omega) (fun s' hC' conv => ?_)
      have hxr : r_ext (l_rho Ls t) (l_rho Ls t ++ [r.toInt]) := r_ext.push _
      refine engine s' 7 [lH lEr] S (l_rho Ls t ++ [r.toInt]) (B' + 1900000) B' σ' _ hC' hgo rfl hxr (by omega) ?_ ?_
      · subst hS
        exact ⟨r_ext.rf, e_ok_push (l_rho_e ht) ⟨hr0, hr1, fun z => by cases z⟩, (fun q hq => by cases hq), ⟨hB0', 1900000, rfl, by omega, by omega⟩, rfl, hh', rfl, rfl, rfl, l_fr_ok hls' (hxr 0 _ rfl) hx', hls'.2.2.2.2.2, ⟨v_mk0 (r := r.toInt) rfl rfl, trivial⟩, (fun v hv => by obtain rfl := List.mem_singleton.mp hv; trivial), (fun q hq => by cases hq), fun p k _ => rfl⟩
      · intro U hU fv' B2 ρ g h1 h2 hg
        obtain rfl := List.mem_singleton.mp hU
        obtain ⟨σ2, ce, sl, pc2, ls2, st2⟩ := g
        have hce : ce = 0 := hg.ce
        have hsl : sl = 0 := hg.sl
        have hpc : pc2 = 1293 := hg.pc
        subst hce hsl hpc
        obtain rfl := s_nil hg.s
        obtain ⟨hB1, zz, z1, z2, z3⟩ := hg.bu
        obtain ⟨x2, hx2, hf2⟩ := l_fr_of hg.l hg.lv (hg.x0 0 _ rfl)
        exact conv σ2 0 0 1293 ls2 [] (back σ2 (k + 1 + 0) (n + 6 + 0) B2 x2 ls2 hx2 hf2 hB1 (by omega) hg.h (by omega) (by omega))
    refine mW_reb hY hC (by omega) (by omega) (fun s' hC' conv => ?_)
    refine engine s' 6 [lH lE, lC5, lC6, lC39] lS0 (l_rho Ls t) (B + 2000000) B σ _ hC' l_k0 rfl r_ext.rf (by omega) ?_ ?_
    · exact ⟨r_ext.rf, l_rho_e ht, (fun q hq => by cases hq), ⟨hB0, 2000000, rfl, by omega, by omega⟩, rfl, hh, rfl, rfl, rfl, l_fr_ok hls rfl hx, hls.2.2.2.2.2, trivial, (fun v hv => by cases hv), (fun q hq => by cases hq), fun p k _ => rfl⟩
    · intro U hU fv' B2 ρ g h1 h2 hg
      obtain ⟨σ2, ce, sl, pc2, ls2, st2⟩ := g
      have hce : ce = 0 := hg.ce
      have hsl : sl = 0 := hg.sl
      subst hce hsl
      obtain ⟨hB1, zz, z1, z2, z3⟩ := hg.bu
      rcases List.mem_cons.mp hU with rfl | hU
      · have hpc : pc2 = 1293 := hg.pc
        subst hpc
        obtain rfl := s_nil hg.s
        obtain ⟨x2, hx2, hf2⟩ := l_fr_of hg.l hg.lv (hg.x0 0 _ rfl)
        exact conv σ2 0 0 1293 ls2 [] (back σ2 (k + 0) (n + 0) B2 x2 ls2 hx2 hf2 hB1 (by omega) hg.h (by omega) (by omega))
      rcases List.mem_cons.mp hU with rfl | hU
      · have hpc : pc2 = 315 := hg.pc
        subst hpc
        obtain ⟨x2, hx2, hf2⟩ := l_fr_of hg.l hg.lv (hg.x0 0 _ rfl)
        have hz : zz = 1900000 := by
          have hq : (1900000 : Int) + 0 = zz := Option.some.inj z1
          omega
        have hs := hg.s
        cases st2 with
        | nil => exact absurd hs id
        | cons v1 st2 =>
        obtain ⟨hv1, hs⟩ := hs
        cases st2 with
        | nil => exact absurd hs id
        | cons v2 st2 =>
        obtain ⟨hv2, hs⟩ := hs
        cases st2 with
        | nil => exact absurd hs id
        | cons v3 st2 =>
        obtain ⟨hv3, hs⟩ := hs
        cases st2 with
        | nil => exact absurd hs id
        | cons v4 st2 =>
        obtain ⟨hv4, hs⟩ := hs
        cases st2 with
        | cons v5 st2 => exact absurd hs id
        | nil =>
        have hv1 : v1 = .ref 278 := hv1
        subst hv1
        have hv4 : v4 = .ref 0 := hv4
        subst hv4
        obtain ⟨w, rw0, rfl, hrw, hww⟩ := v_var hv2
        obtain ⟨a, ra, rfl, hra, haa⟩ := v_var hv3
        have hN : (0 : Nat) < h_N ∧ 278 < h_N := by decide
        have hvv : ∀ v ∈ ([.ref 0, .int a, .int w, .ref 278] : List Value), m_vOk h_N v := fun v hv => by
          simp only [List.mem_cons, List.not_mem_nil, or_false] at hv
          rcases hv with rfl | rfl | rfl | rfl
          · exact vok_ref hN.1
          · trivial
          · trivial
          · exact vok_ref hN.2
        have hM := cl_room_sem (xa := xa) (d := 1999) (by decide) (cx_room_sem hl hX (by decide) cs_cy (fun d _ => all_sem hX d)) [a.toInt, w.toInt] B2 0 7 σ2 [.ref 0, .int a, .int w, .ref 278] ⟨rfl, fun i q r h1 h2 => by
                  have hra := i32_rng a
                  have hrw := i32_rng w
                  match i, h1, h2 with
                  | 0, h1, h2 => cases h1; cases h2; exact ⟨hra.1, hra.2, fun z => by cases z⟩
                  | 1, h1, h2 => cases h1; cases h2; exact ⟨hrw.1, hrw.2, fun z => by cases z⟩⟩ hB1 hg.h rfl (by decide) (by omega) rfl (by decide) (fun q hq => by cases hq) ⟨rfl, v_mk0 (r := a.toInt) rfl rfl, v_mk0 (r := w.toInt) rfl rfl, rfl, trivial⟩ hvv
        refine conv σ2 0 0 315 ls2 [.ref 278, .int w, .int a, .ref 0] ?_
        have hσ2 : σ2.length = h_N := hg.h.1
        refine mW_callSH hY hC (as := [.ref 0, .int a, .int w, .ref 278]) (st := []) (kd law_k (pc := 315) rfl).1 hM (a_in (k := 6) (i := 41) rfl rfl) (a_in (k := 6) (i := 42) rfl rfl) (a_in (k := 1) (i := 0) rfl rfl) (a_in (k := 6) (i := 43) rfl rfl) (by decide) py_lroom ⟨by decide, by decide⟩ (by decide) (by omega) (by omega) (Nat.zero_le _) (by rw [hσ2]; exact hn0) (fun v hv => by cases hv) (by rw [hσ2]; exact hf2.2.2.2.2.2) (fun r σ3 hQ => ?_)
        obtain ⟨q, hq, ρ3, c1, c2, c3, c4, c5, c6, c7⟩ := hQ
        have hB3 : B2 + 0 = B2 := by omega
        rw [hB3] at c5
        rcases List.mem_cons.mp hq with rfl | hq
        · cases r with
          | none => exact absurd c4 id
          | some v =>
            obtain ⟨y, rfl, hy⟩ : ∃ y : Int32, v = .int y ∧ y.toInt = 0 := c4
            exact behind lR5 318 y σ3 B2 x2 ls2 rfl l_k5 (by omega) (by omega) hx2 hf2 hB1 (by omega) c5
        · obtain rfl := List.mem_singleton.mp hq
          cases r with
          | none => exact absurd c4 id
          | some v =>
            obtain ⟨y, rfl, hy⟩ : ∃ y : Int32, v = .int y ∧ y.toInt = 1 := c4
            exact behind lR5 318 y σ3 B2 x2 ls2 rfl l_k5 (by omega) (by omega) hx2 hf2 hB1 (by omega) c5
      rcases List.mem_cons.mp hU with rfl | hU
      · have hpc : pc2 = 355 := hg.pc
        subst hpc
        obtain ⟨x2, hx2, hf2⟩ := l_fr_of hg.l hg.lv (hg.x0 0 _ rfl)
        have hz : zz = 1900000 := by
          have hq : (1900000 : Int) + 0 = zz := Option.some.inj z1
          omega
        have hs := hg.s
        cases st2 with
        | nil => exact absurd hs id
        | cons v1 st2 =>
        obtain ⟨hv1, hs⟩ := hs
        cases st2 with
        | nil => exact absurd hs id
        | cons v2 st2 =>
        obtain ⟨hv2, hs⟩ := hs
        cases st2 with
        | nil => exact absurd hs id
        | cons v3 st2 =>
        obtain ⟨hv3, hs⟩ := hs
        cases st2 with
        | nil => exact absurd hs id
        | cons v4 st2 =>
        obtain ⟨hv4, hs⟩ := hs
        cases st2 with
        | cons v5 st2 => exact absurd hs id
        | nil =>
        have hv1 : v1 = .ref 278 := hv1
        subst hv1
        have hv4 : v4 = .ref 0 := hv4
        subst hv4
        obtain ⟨w, rw0, rfl, hrw, hww⟩ := v_var hv2
        obtain ⟨a, ra, rfl, hra, haa⟩ := v_var hv3
        have hN : (0 : Nat) < h_N ∧ 278 < h_N := by decide
        have hvv : ∀ v ∈ ([.ref 0, .int a, .int w, .ref 278] : List Value), m_vOk h_N v := fun v hv => by
          simp only [List.mem_cons, List.not_mem_nil, or_false] at hv
          rcases hv with rfl | rfl | rfl | rfl
          · exact vok_ref hN.1
          · trivial
          · trivial
          · exact vok_ref hN.2
        have hM := cl_person_sem (xa := xa) (d := 1999) (by decide) (cx_person_sem hl hX (by decide) cs_cy (fun d _ => all_sem hX d)) [a.toInt, w.toInt] B2 0 7 σ2 [.ref 0, .int a, .int w, .ref 278] ⟨rfl, fun i q r h1 h2 => by
                  have hra := i32_rng a
                  have hrw := i32_rng w
                  match i, h1, h2 with
                  | 0, h1, h2 => cases h1; cases h2; exact ⟨hra.1, hra.2, fun z => by cases z⟩
                  | 1, h1, h2 => cases h1; cases h2; exact ⟨hrw.1, hrw.2, fun z => by cases z⟩⟩ hB1 hg.h rfl (by decide) (by omega) rfl (by decide) (fun q hq => by cases hq) ⟨rfl, v_mk0 (r := a.toInt) rfl rfl, v_mk0 (r := w.toInt) rfl rfl, rfl, trivial⟩ hvv
        refine conv σ2 0 0 355 ls2 [.ref 278, .int w, .int a, .ref 0] ?_
        have hσ2 : σ2.length = h_N := hg.h.1
        refine mW_callSH hY hC (as := [.ref 0, .int a, .int w, .ref 278]) (st := []) (kd law_k (pc := 355) rfl).1 hM (a_in (k := 6) (i := 115) rfl rfl) (a_in (k := 6) (i := 116) rfl rfl) (a_in (k := 1) (i := 0) rfl rfl) (a_in (k := 6) (i := 117) rfl rfl) (by decide) py_lperson ⟨by decide, by decide⟩ (by decide) (by omega) (by omega) (Nat.zero_le _) (by rw [hσ2]; exact hn0) (fun v hv => by cases hv) (by rw [hσ2]; exact hf2.2.2.2.2.2) (fun r σ3 hQ => ?_)
        obtain ⟨q, hq, ρ3, c1, c2, c3, c4, c5, c6, c7⟩ := hQ
        have hB3 : B2 + 0 = B2 := by omega
        rw [hB3] at c5
        rcases List.mem_cons.mp hq with rfl | hq
        · cases r with
          | none => exact absurd c4 id
          | some v =>
            obtain ⟨y, rfl, hy⟩ : ∃ y : Int32, v = .int y ∧ y.toInt = 0 := c4
            exact behind lR6 358 y σ3 B2 x2 ls2 rfl l_k6 (by omega) (by omega) hx2 hf2 hB1 (by omega) c5
        · obtain rfl := List.mem_singleton.mp hq
          cases r with
          | none => exact absurd c4 id
          | some v =>
            obtain ⟨y, rfl, hy⟩ : ∃ y : Int32, v = .int y ∧ y.toInt = 1 := c4
            exact behind lR6 358 y σ3 B2 x2 ls2 rfl l_k6 (by omega) (by omega) hx2 hf2 hB1 (by omega) c5
      obtain rfl := List.mem_singleton.mp hU
      have hpc : pc2 = 1273 := hg.pc
      subst hpc
      obtain ⟨x2, hx2, hf2⟩ := l_fr_of hg.l hg.lv (hg.x0 0 _ rfl)
      have hz : zz = 1900000 := by
        have hq : (1900000 : Int) + 0 = zz := Option.some.inj z1
        omega
      have hs := hg.s
      cases st2 with
      | nil => exact absurd hs id
      | cons v1 st2 =>
      obtain ⟨hv1, hs⟩ := hs
      cases st2 with
      | nil => exact absurd hs id
      | cons v2 st2 =>
      obtain ⟨hv2, hs⟩ := hs
      cases st2 with
      | nil => exact absurd hs id
      | cons v4 st2 =>
      obtain ⟨hv4, hs⟩ := hs
      cases st2 with
      | cons v5 st2 => exact absurd hs id
      | nil =>
      have hv1 : v1 = .ref 278 := hv1
      subst hv1
      have hv4 : v4 = .ref 0 := hv4
      subst hv4
      obtain ⟨a, ra, rfl, hra, haa⟩ := v_var hv2
      have hN : (0 : Nat) < h_N ∧ 278 < h_N := by decide
      have hvv : ∀ v ∈ ([.ref 0, .int a, .ref 278] : List Value), m_vOk h_N v := fun v hv => by
        simp only [List.mem_cons, List.not_mem_nil, or_false] at hv
        rcases hv with rfl | rfl | rfl
        · exact vok_ref hN.1
        · trivial
        · exact vok_ref hN.2
      have hM := cl_row_sem (xa := xa) (d := 1999) (by decide) (cx_row_sem hl hX (by decide) cs_cy (fun d _ => all_sem hX d)) [a.toInt] B2 0 7 σ2 [.ref 0, .int a, .ref 278] ⟨rfl, fun i q r h1 h2 => by
                have hra := i32_rng a
                match i, h1, h2 with
                | 0, h1, h2 => cases h1; cases h2; exact ⟨hra.1, hra.2, fun z => by cases z⟩⟩ hB1 hg.h rfl (by decide) (by omega) rfl (by decide) (fun q hq => by cases hq) ⟨rfl, v_mk0 (r := a.toInt) rfl rfl, rfl, trivial⟩ hvv
      refine conv σ2 0 0 1273 ls2 [.ref 278, .int a, .ref 0] ?_
      have hσ2 : σ2.length = h_N := hg.h.1
      refine mW_callSH hY hC (as := [.ref 0, .int a, .ref 278]) (st := []) (kd law_k (pc := 1273) rfl).1 hM (a_in (k := 6) (i := 128) rfl rfl) (a_in (k := 6) (i := 129) rfl rfl) (a_in (k := 1) (i := 0) rfl rfl) (a_in (k := 6) (i := 130) rfl rfl) (by decide) py_lrow ⟨by decide, by decide⟩ (by decide) (by omega) (by omega) (Nat.zero_le _) (by rw [hσ2]; exact hn0) (fun v hv => by cases hv) (by rw [hσ2]; exact hf2.2.2.2.2.2) (fun r σ3 hQ => ?_)
      obtain ⟨q, hq, ρ3, c1, c2, c3, c4, c5, c6, c7⟩ := hQ
      have hB3 : B2 + 0 = B2 := by omega
      rw [hB3] at c5
      rcases List.mem_cons.mp hq with rfl | hq
      · cases r with
        | none => exact absurd c4 id
        | some v =>
          obtain ⟨y, rfl, hy⟩ : ∃ y : Int32, v = .int y ∧ y.toInt = 0 := c4
          exact behind lR39 1276 y σ3 B2 x2 ls2 rfl l_k39 (by omega) (by omega) hx2 hf2 hB1 (by omega) c5
      · obtain rfl := List.mem_singleton.mp hq
        cases r with
        | none => exact absurd c4 id
        | some v =>
          obtain ⟨y, rfl, hy⟩ : ∃ y : Int32, v = .int y ∧ y.toInt = 1 := c4
          exact behind lR39 1276 y σ3 B2 x2 ls2 rfl l_k39 (by omega) (by omega) hx2 hf2 hB1 (by omega) c5
end LL
