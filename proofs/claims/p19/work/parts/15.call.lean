/-! WHAT A CALL DOES to what is known -/
/-- the method, the variables at its start, its arguments, cells known at its start, cells it may change, its ticks, its frames, its ways out, its cuts, its measure at the start -/
abbrev A_C : Type := Nat × A_E × List A_V × A_O × A_D × A_L × A_L × List A_A × List A_S × A_L
def a_asmS (E : A_E) (F : A_F) (a b : A_V) (k : Int) : Option (A_E × A_F) :=
  bif a_cst a then (bif a_cst b then some (E, F) else a_asm E F b (0, 0, k - a.2.2) 0) else bif a_cst b then a_asm E F a (0, 0, k - b.2.2) 0 else some (E, (a.2.1, false, b.2.1, k - a.2.2 - b.2.2) :: F)
theorem a_asmS_ok {B : Int} {E : A_E} {F : A_F} {ρ : List Int} (e : e_ok B E ρ) (f : f_ok F ρ) {a b : A_V} {x y k : Int} (ha : a_ev ρ a = some x) (hb : a_ev ρ b = some y) (h : x + y ≤ k) : ∃ q, a_asmS E F a b k = some q ∧ e_ok B q.1 ρ ∧ f_ok q.2 ρ := by
  unfold a_asmS
  cases ca : a_cst a
  · obtain ⟨r, r1, rfl⟩ := a_ev_var ha ca
    cases cb : a_cst b
    · obtain ⟨r', r2, rfl⟩ := a_ev_var hb cb
      refine ⟨_, rfl, e, fun q hq => ?_⟩
      rcases List.mem_cons.mp hq with rfl | hq
      · exact ⟨r, r', r1, r2, (fun z => by cases z), fun _ => by show r + r' ≤ k - a.2.2 - b.2.2; omega⟩
      · exact f q hq
    · have := a_ev_cst hb cb
      simp only [cond_false, cond_true]
      exact a_asm_ok e f ha (b := (0, 0, k - b.2.2)) (y := k - b.2.2) rfl (by omega)
  · have := a_ev_cst ha ca
    cases cb : a_cst b
    · simp only [cond_false, cond_true]
      exact a_asm_ok e f hb (b := (0, 0, k - a.2.2)) (y := k - a.2.2) rfl (by omega)
    · exact ⟨_, rfl, e, f⟩
def c_rgs (E : A_E) (F : A_F) : List (A_V × (Int × Int × Bool)) → Option (A_E × A_F)
  | [] => some (E, F)
  | (b, q) :: l => match a_asm E F (0, 0, q.1) b 0 with
    | none => none
    | some (E1, F1) => match a_asm E1 F1 b (0, 0, q.2.1) 0 with
      | none => none
      | some (E2, F2) => c_rgs E2 F2 l
theorem c_rgs_ok {B : Int} {ρ : List Int} : ∀ (l : List (A_V × (Int × Int × Bool))) (E : A_E) (F : A_F), e_ok B E ρ → f_ok F ρ → (∀ q ∈ l, ∃ x, a_ev ρ q.1 = some x ∧ q.2.1 ≤ x ∧ x ≤ q.2.2.1) → ∃ q, c_rgs E F l = some q ∧ e_ok B q.1 ρ ∧ f_ok q.2 ρ
  | [], E, F, e, f, _ => ⟨_, rfl, e, f⟩
  | (b, q) :: l, E, F, e, f, h => by
    obtain ⟨x, h1, h2, h3⟩ := h _ List.mem_cons_self
    simp only at h1 h2 h3
    obtain ⟨⟨E1, F1⟩, a1, a2, a3⟩ := a_asm_ok e f (a := (0, 0, q.1)) (x := q.1) (k := 0) rfl h1 (by omega)
    obtain ⟨⟨E2, F2⟩, b1, b2, b3⟩ := a_asm_ok a2 a3 (b := (0, 0, q.2.1)) (y := q.2.1) (k := 0) h1 rfl (by omega)
    obtain ⟨p, k1, k2, k3⟩ := c_rgs_ok l E2 F2 b2 b3 (fun z hz => h z (List.mem_cons_of_mem _ hz))
    refine ⟨p, ?_, k2, k3⟩
    unfold c_rgs
    rw [a1]
    simp only
    rw [b1]
    exact k1
def c_fas (E : A_E) (F : A_F) (θ : List A_V) : A_F → Option (A_E × A_F)
  | [] => some (E, F)
  | q :: G => match θ[q.1]?, θ[q.2.2.1]? with
    | some a, some b => (match (bif q.2.1 then a_asm E F a b q.2.2.2 else a_asmS E F a b q.2.2.2) with
      | some (E1, F1) => c_fas E1 F1 θ G
      | none => none)
    | _, _ => c_fas E F θ G
theorem c_fas_ok {B : Int} {ρ ρT : List Int} {θ : List A_V} (h : h_sub ρ θ ρT) : ∀ (G : A_F) (E : A_E) (F : A_F), e_ok B E ρ → f_ok F ρ → f_ok G ρT → ∃ q, c_fas E F θ G = some q ∧ e_ok B q.1 ρ ∧ f_ok q.2 ρ
  | [], E, F, e, f, _ => ⟨_, rfl, e, f⟩
  | q :: G, E, F, e, f, hG => by
    obtain ⟨x, y, h1, h2, h3, h4⟩ := hG q List.mem_cons_self
    have hG2 : f_ok G ρT := fun z hz => hG z (List.mem_cons_of_mem _ hz)
    obtain ⟨a, a1, a2⟩ := h_sub_at h h1
    obtain ⟨b, b1, b2⟩ := h_sub_at h h2
    have key : ∃ p, (bif q.2.1 then a_asm E F a b q.2.2.2 else a_asmS E F a b q.2.2.2) = some p ∧ e_ok B p.1 ρ ∧ f_ok p.2 ρ := by
      cases hs : q.2.1
      · exact a_asmS_ok e f a2 b2 (h4 hs)
      · exact a_asm_ok e f a2 b2 (h3 hs)
    obtain ⟨⟨E1, F1⟩, k1, k2, k3⟩ := key
    obtain ⟨p, g1, g2, g3⟩ := c_fas_ok h G E1 F1 k2 k3 hG2
    refine ⟨p, ?_, g2, g3⟩
    unfold c_fas
    rw [a1, b1]
    simp only
    rw [k1]
    exact g1
def c_frs (n base : Nat) : List A_V := (List.range n).map fun j => (1, base + j, 0)
theorem c_frs_ok {B : Int} {E1 Ea : A_E} {ρ1 ρ0 ρ' : List Int} {θ : List A_V} {nr : Nat} (e1 : e_ok B E1 ρ1) (ea : e_ok B Ea ρ') (hx : r_ext ρ0 ρ') (hl : ρ0.length = nr) (h : h_sub ρ1 θ ρ0) :
    e_ok B (E1 ++ Ea.drop nr) (ρ1 ++ ρ'.drop nr) ∧ h_sub (ρ1 ++ ρ'.drop nr) (θ ++ c_frs (Ea.length - nr) E1.length) ρ' := by
  have hx1 : r_ext ρ1 (ρ1 ++ ρ'.drop nr) := fun i r hr => by
    have := (List.getElem?_eq_some_iff.mp hr).1
    rw [List.getElem?_append_left this]; exact hr
  refine ⟨⟨by simp [e1.1, ea.1], fun i q r h1 h2 => ?_⟩, ⟨?_, fun i b r h1 h2 => ?_⟩⟩
  · by_cases hi : i < E1.length
    · rw [List.getElem?_append_left hi] at h1
      rw [List.getElem?_append_left (by rw [e1.1]; exact hi)] at h2
      exact e1.2 i q r h1 h2
    · rw [List.getElem?_append_right (by omega), List.getElem?_drop] at h1
      rw [List.getElem?_append_right (by rw [e1.1]; omega), List.getElem?_drop, e1.1] at h2
      exact ea.2 _ q r h1 h2
  · have hle : nr ≤ ρ'.length := by
      cases nr with
      | zero => omega
      | succ m =>
        have hm : m < ρ0.length := by omega
        have := hx m _ (List.getElem?_eq_getElem hm)
        have := (List.getElem?_eq_some_iff.mp this).1
        omega
    simp only [List.length_append, c_frs, List.length_map, List.length_range, h.1, hl, ← ea.1]
    omega
  · by_cases hi : i < θ.length
    · rw [List.getElem?_append_left hi] at h1
      have hi2 : i < ρ0.length := by rw [← h.1]; exact hi
      have h3 := hx i _ (List.getElem?_eq_getElem hi2)
      have : r = ρ0[i] := Option.some.inj (h2.symm.trans h3)
      subst this
      exact a_ev_ext hx1 (h.2 i b _ h1 (List.getElem?_eq_getElem hi2))
    · rw [List.getElem?_append_right (by omega)] at h1
      have hj : i - θ.length < Ea.length - nr := by
        have := (List.getElem?_eq_some_iff.mp h1).1
        simpa [c_frs] using this
      have hb : b = (1, E1.length + (i - θ.length), 0) := by
        unfold c_frs at h1
        rw [List.getElem?_map, List.getElem?_range hj] at h1
        exact (Option.some.inj h1).symm
      subst hb
      show ((ρ1 ++ ρ'.drop nr)[E1.length + (i - θ.length)]?).map (fun r => r + 0) = some r
      rw [List.getElem?_append_right (by rw [e1.1]; omega), List.getElem?_drop, e1.1]
      have hθ : θ.length = nr := by rw [h.1, hl]
      rw [show nr + (E1.length + (i - θ.length) - E1.length) = i by omega, h2]
      simp
/-- a value over the method's variables, over the caller's -/
def m_ap (θ : List A_V) (a : A_V) : A_V := match a.1 with
  | 1 => (match θ[a.2.1]? with
    | some b => bif a_cst b then (0, 0, b.2.2 + a.2.2) else (1, b.2.1, b.2.2 + a.2.2)
    | none => (5, 0, 0))
  | 4 => (match θ[a.2.1]? with
    | some b => bif a_cst b then (3, 0, b.2.2 + a.2.2) else (4, b.2.1, b.2.2 + a.2.2)
    | none => (5, 0, 0))
  | _ => a
theorem m_ap_ok {ρ ρT : List Int} {θ : List A_V} (h : h_sub ρ θ ρT) {a : A_V} {v : Value} (hv : v_ok ρT a v) : v_ok ρ (m_ap θ a) v := by
  obtain ⟨t, n, c⟩ := a
  unfold v_ok at hv
  unfold m_ap
  split at hv
  · rename_i e; simp only at e; subst e; exact hv
  · rename_i e; simp only at e; subst e
    obtain ⟨x, r, rfl, h1, h2⟩ := hv
    obtain ⟨b, b1, b2⟩ := h_sub_at h h1
    simp only at h1 h2 b1 ⊢
    rw [b1]
    simp only
    cases hc : a_cst b
    · obtain ⟨s, s1, s2⟩ := a_ev_var b2 hc
      exact ⟨x, s, rfl, s1, by show x.toInt = s + (b.2.2 + c); omega⟩
    · have := a_ev_cst b2 hc
      exact ⟨x, rfl, by show x.toInt = b.2.2 + c; omega⟩
  · rename_i e; simp only at e; subst e; exact hv
  · rename_i e; simp only at e; subst e; exact hv
  · rename_i e; simp only at e; subst e
    obtain ⟨x, r, rfl, h1, h2⟩ := hv
    obtain ⟨b, b1, b2⟩ := h_sub_at h h1
    simp only at h1 h2 b1 ⊢
    rw [b1]
    simp only
    cases hc : a_cst b
    · obtain ⟨s, s1, s2⟩ := a_ev_var b2 hc
      exact ⟨x, s, rfl, s1, by show x.toInt = s + (b.2.2 + c); omega⟩
    · have := a_ev_cst b2 hc
      exact ⟨x, rfl, by show x.toInt = b.2.2 + c; omega⟩
  · rename_i e0 e1 e2 e3 e4
    unfold v_ok
    split <;> rename_i hq
    · split at hq <;> first | exact absurd rfl e1 | exact absurd rfl e4 | exact absurd hq e0 | (split at hq <;> simp_all)
    · split at hq <;> first | exact absurd rfl e1 | exact absurd rfl e4 | exact absurd hq e1 | (split at hq <;> simp_all)
    · split at hq <;> first | exact absurd rfl e1 | exact absurd rfl e4 | exact absurd hq e2 | (split at hq <;> simp_all)
    · split at hq <;> first | exact absurd rfl e1 | exact absurd rfl e4 | exact absurd hq e3 | (split at hq <;> simp_all)
    · split at hq <;> first | exact absurd rfl e1 | exact absurd rfl e4 | exact absurd hq e4 | (split at hq <;> simp_all)
    · trivial
def o_cutD (md : A_D) (ov : A_O) : A_O := ov.filter fun q => !(d_has md q.1.1 q.1.2 q.1.2)
theorem d_in_has {md : A_D} {p k : Nat} (h : d_in md p k) : d_has md p k k = true := by
  obtain ⟨q, hq, e1, e2, e3⟩ := h
  exact List.any_eq_true.mpr ⟨q, hq, Bool.and_eq_true _ _ |>.mpr ⟨by rw [e1]; exact Nat.beq_refl p, Bool.and_eq_true _ _ |>.mpr ⟨Nat.ble_eq.mpr e2, Nat.ble_eq.mpr e3⟩⟩⟩
theorem o_cutD_ok {ρ : List Int} {ov : A_O} {σ σ' : m_H} {md : A_D} (o : o_ok ρ ov σ) (h : h_fr md σ σ') : o_ok ρ (o_cutD md ov) σ' := by
  intro q hq
  obtain ⟨g1, g2⟩ := List.mem_filter.mp hq
  obtain ⟨v, h1, h2⟩ := o q g1
  refine ⟨v, ?_, h2⟩
  rw [h _ _ (fun z => ?_)]
  · exact h1
  · rw [d_in_has z] at g2
    cases g2
def d_sub (a b : A_D) : Bool := a.all fun q => d_has b q.1 q.2.1 q.2.2
theorem d_sub_ok {a b : A_D} (h : d_sub a b = true) {p k : Nat} (hd : d_in a p k) : d_in b p k := by
  obtain ⟨q, hq, e1, e2, e3⟩ := hd
  have := List.all_eq_true.mp h q hq
  rw [← e1]
  exact d_has_ok this e2 e3
theorem h_fr_tr {md mc : A_D} {σ0 σ σ' : m_H} (h1 : h_fr md σ0 σ) (h2 : h_fr mc σ σ') (hs : d_sub mc md = true) : h_fr md σ0 σ' := fun p k hn => by
  rw [h2 p k (fun z => hn (d_sub_ok hs z)), h1 p k hn]
/-- one way out -/
def c_way (pc nr : Nat) (md : A_D) (θ : List A_V) (E : A_E) (F : A_F) (ls : List (Nat × A_V)) (st : List A_V) (ov : A_O) (bu ph : A_L) (q : A_A) : List A_S := match c_rgs (E ++ q.1.drop nr) F (θ.zip q.1) with
  | none => []
  | some (E2, F2) => match c_fas E2 F2 (θ ++ c_frs (q.1.length - nr) E.length) q.2.1 with
    | none => []
    | some (E3, F3) => [(pc, E3, F3, ls, (match q.2.2.1 with | some a => m_ap (θ ++ c_frs (q.1.length - nr) E.length) a :: st | none => st), q.2.2.2.map (fun z => (z.1, m_ap (θ ++ c_frs (q.1.length - nr) E.length) z.2)) ++ o_cutD md ov, bu, ph)]
def c_cck (E0 : A_E) (mc md : A_D) (F : A_F) (dp bu : A_L) (θ : List A_V) (E1 : A_E) (t d : A_L) (ov0 : A_O) (alts : List A_A) : Bool := Nat.beq θ.length E0.length && (d_sub mc md && (l_leq E1 t bu && (i_le 0 (l_lo E1 t) && (l_leqF E1 F (l_up d 1) dp && i_le 0 (l_lo E1 d) && (ov0.all (fun q => Nat.blt q.1.1 h_N && Nat.blt q.1.2 (h_ln q.1.1)) && alts.all (fun q => match q.2.2.1 with | some a => a_isI a || a_isL a | none => true))))))
def c_call (pc : Nat) (md : A_D) (dp : A_L) (C : A_C) (E : A_E) (F : A_F) (ls : List (Nat × A_V)) (acts st : List A_V) (ov : A_O) (bu ph : A_L) : Option (List A_S) := match C with
  | (_, E0, args, ov0, mc, tau, dep, alts, _, _) => match o_read E ov ov0 with
    | some (E1, ov1) => (match c_binds E1 F E0 [] args acts with
      | some θ1 => (match c_bindo E1 F E0 ov1 θ1 ov0 with
        | some θ => (match l_app θ tau, l_app θ dep with
          | some t, some d => bif c_cck E0 mc md F dp bu θ E1 t d ov0 alts then some (alts.flatMap (c_way pc E0.length mc θ E1 F ls st ov1 (l_dif bu t) ph)) else none
          | _, _ => none)
        | none => none)
      | none => none)
    | none => none
theorem c_call_ok {T fv : Int} {ρ0 : List Int} {σ0 : m_H} {md : A_D} {B : Int} {ρ : List Int} {pc pc' : Nat} {E : A_E} {F : A_F} {ls : List (Nat × A_V)} {acts st stA : List A_V} {ov : A_O} {bu ph dp : A_L} {σ : m_H} {lsC : List (Nat × Value)} {stC vs tl : List Value} {dv : Int} {L : List A_S}
    {y : Nat} {E0 : A_E} {args : List A_V} {ov0 : A_O} {mc : A_D} {tau dep : A_L} {alts : List A_A} {cuts : List A_S} {ph0 : A_L}
    (hB : B ≤ 1073741824) (hg : g_ok T fv ρ0 σ0 md B ρ (pc, E, F, ls, stA, ov, bu, ph) (σ, 0, 0, pc, lsC, stC)) (ha : s_ok ρ acts vs) (hs : s_ok ρ st tl) (hsv : ∀ v ∈ tl, m_vOk h_N v) (hdp : l_ev ρ0 dp = some dv)
    (h : c_call pc' md dp (y, E0, args, ov0, mc, tau, dep, alts, cuts, ph0) E F ls acts st ov bu ph = some L) :
    ∃ (ρc : List Int) (z dz : Int), e_ok B E0 ρc ∧ l_ev ρc tau = some z ∧ 0 ≤ z ∧ B + z ≤ T ∧ l_ev ρc dep = some dz ∧ 0 ≤ dz ∧ dz + 1 ≤ dv ∧ o_ok ρc ov0 σ ∧ s_ok ρc args vs ∧
      ∀ (r : Option Value) (σ' : m_H), c_post alts mc (B + z) ρc σ r σ' → ∃ S ∈ L, ∃ (B' : Int) (ρ' : List Int), g_ok T fv ρ0 σ0 md B' ρ' S (σ', 0, 0, pc', lsC, r.toList ++ tl) := by
  unfold c_call at h
  simp only at h
  split at h
  · rename_i E1 ov1 hrd
    split at h
    · rename_i θ1 hb1
      split at h
      · rename_i θ hb2
        split at h
        · rename_i t d ht hd
          cases hc : c_cck E0 mc md F dp bu θ E1 t d ov0 alts
          · rw [hc] at h; cases h
          · rw [hc] at h
            cases h
            unfold c_cck at hc
            obtain ⟨k1, hc⟩ := Bool.and_eq_true _ _ |>.mp hc
            obtain ⟨k2, hc⟩ := Bool.and_eq_true _ _ |>.mp hc
            obtain ⟨k3, hc⟩ := Bool.and_eq_true _ _ |>.mp hc
            obtain ⟨k4, hc⟩ := Bool.and_eq_true _ _ |>.mp hc
            obtain ⟨k5, hc⟩ := Bool.and_eq_true _ _ |>.mp hc
            obtain ⟨k6, k7⟩ := Bool.and_eq_true _ _ |>.mp hc
            obtain ⟨k5, k8⟩ := Bool.and_eq_true _ _ |>.mp k5
            have k8 := i_le_iff.mp k8
            have k1 := Nat.eq_of_beq_eq_true k1
            have k4 := i_le_iff.mp k4
            have he : e_ok B E ρ := hg.e
            have hf : f_ok F ρ := hg.f
            obtain ⟨hB0, zz, zz1, zz2, zz3⟩ := hg.bu
            have hov : ∀ q ∈ ov0, q.1.1 < h_N ∧ q.1.2 < h_ln q.1.1 := fun q hq => by
              obtain ⟨g1, g2⟩ := Bool.and_eq_true _ _ |>.mp (List.all_eq_true.mp k6 q hq)
              exact ⟨Nat.le_of_ble_eq_true g1, Nat.le_of_ble_eq_true g2⟩
            obtain ⟨ρ1, a1, a2, a3⟩ := o_read_ok hB hg.h ov0 E E1 ov ov1 ρ hov he hf hg.o hrd
            have hf1 : f_ok F ρ1 := f_ok_ext a1 hf
            have hn : h_sub ρ1 [] [] := ⟨rfl, fun i b r h1 _ => by simp at h1⟩
            have hpn : e_pre B E0 [] := fun i r h1 => by simp at h1
            obtain ⟨ρ2, -, b2, b3, b4⟩ := c_binds_ok hB0 a2 hf1 args acts [] θ1 [] vs hn hpn (s_ok_ext a1 _ _ ha) hb1
            obtain ⟨ρc, d1, d2, d3, d4⟩ := c_bindo_ok hB0 a2 hf1 a3 ov0 θ1 θ ρ2 b2 b3 hb2
            obtain ⟨z, s1, s2⟩ := l_app_ok d2 ht
            obtain ⟨dz, u1, u2⟩ := l_app_ok d2 hd
            have zz1b : l_ev ρ1 bu = some zz := l_ev_ext a1 zz1
            have v1 := l_leq_ok a2 s2 zz1b k3
            have v2 := l_lo_ok a2 s2
            have v3 := l_leqF_ok a2 hf1 (l_up_ok (c := 1) u2) (l_ev_ext (hg.x0.tr a1) hdp) k5
            have v4 := l_lo_ok a2 u2
            have hcl : ρc.length = E0.length := by rw [← d2.1, k1]
            refine ⟨ρc, z, dz, e_pre_full d3 hcl, s1, by omega, by omega, u1, by omega, v3, d4, s_ok_ext d1 _ _ b4, fun r σ' hp => ?_⟩
            obtain ⟨q, hq, ρ', p1, p2, p3, p4, p5, p6, p7⟩ := hp
            obtain ⟨w1, w2⟩ := c_frs_ok (e_ok_mono (by omega) a2) p2 p1 hcl d2
            have hx3 : r_ext ρ1 (ρ1 ++ ρ'.drop E0.length) := fun i r hr => by
              have := (List.getElem?_eq_some_iff.mp hr).1
              rw [List.getElem?_append_left this]; exact hr
            generalize ρ1 ++ ρ'.drop E0.length = ρ3 at w1 w2 hx3
            have hz : ∀ u ∈ θ.zip q.1, ∃ x, a_ev ρ3 u.1 = some x ∧ u.2.1 ≤ x ∧ x ≤ u.2.2.1 := fun u hu => by
              obtain ⟨i, hi⟩ := List.mem_iff_getElem?.mp hu
              obtain ⟨i1, i2⟩ := List.getElem?_zip_eq_some.mp hi
              have il := (List.getElem?_eq_some_iff.mp i1).1
              have il2 : i < ρc.length := by rw [← d2.1]; exact il
              have i3 : ρc[i]? = some ρc[i] := List.getElem?_eq_getElem il2
              have i4 := p1 i _ i3
              have i5 := p2.2 i _ _ i2 i4
              exact ⟨_, a_ev_ext hx3 (d2.2 i _ _ i1 i3), i5.1, i5.2.1⟩
            obtain ⟨⟨E2, F2⟩, c1, c2, c3⟩ := c_rgs_ok (θ.zip q.1) _ F w1 (f_ok_ext hx3 hf1) hz
            obtain ⟨⟨E3, F3⟩, f1, f2, f3⟩ := c_fas_ok w2 q.2.1 E2 F2 c2 c3 p3
            have hw : c_way pc' E0.length mc θ E1 F ls st ov1 (l_dif bu t) ph q = [(pc', E3, F3, ls, (match q.2.2.1 with | some a => m_ap (θ ++ c_frs (q.1.length - E0.length) E1.length) a :: st | none => st), q.2.2.2.map (fun z => (z.1, m_ap (θ ++ c_frs (q.1.length - E0.length) E1.length) z.2)) ++ o_cutD mc ov1, l_dif bu t, ph)] := by
              unfold c_way
              rw [c1]
              simp only
              rw [f1]
            refine ⟨(pc', E3, F3, ls, (match q.2.2.1 with | some a => m_ap (θ ++ c_frs (q.1.length - E0.length) E1.length) a :: st | none => st), q.2.2.2.map (fun z => (z.1, m_ap (θ ++ c_frs (q.1.length - E0.length) E1.length) z.2)) ++ o_cutD mc ov1, l_dif bu t, ph), List.mem_flatMap.mpr ⟨q, hq, by rw [hw]; exact List.mem_cons_self⟩, B + z, ρ3, hg.x0.tr (a1.tr hx3), f2, f3, ⟨by omega, zz - z, l_dif_ok (l_ev_ext hx3 s2) (l_ev_ext hx3 zz1b), by omega, by omega⟩, l_ev_ext (a1.tr hx3) hg.ph, p5, rfl, rfl, rfl, l_ok_ext (a1.tr hx3) hg.l, hg.lv, ?_, ?_, ?_, h_fr_tr hg.fr p7 k2⟩
            · have hs3 := s_ok_ext (a1.tr hx3) _ _ hs
              have p4 := p4
              cases hqa : q.2.2.1 with
              | none =>
                rw [hqa] at p4
                cases r with
                | none => exact hs3
                | some v => exact absurd p4 id
              | some a =>
                rw [hqa] at p4
                cases r with
                | none => exact absurd p4 id
                | some v => exact ⟨m_ap_ok w2 p4, hs3⟩
            · intro u hu
              rcases List.mem_append.mp hu with hu | hu
              · have h7 := List.all_eq_true.mp k7 q hq
                have p4 := p4
                cases hqa : q.2.2.1 with
                | none =>
                  rw [hqa] at p4
                  cases r with
                  | none => cases hu
                  | some v => exact absurd p4 id
                | some a =>
                  rw [hqa] at p4 h7
                  cases r with
                  | none => cases hu
                  | some v =>
                    have : u = v := by simpa using hu
                    subst this
                    rcases Bool.or_eq_true _ _ |>.mp h7 with h8 | h8
                    · obtain ⟨x, rfl, _⟩ := v_int p4 h8; trivial
                    · obtain ⟨x, rfl, _⟩ := v_long p4 h8; trivial
              · exact hsv u hu
            · intro u hu
              rcases List.mem_append.mp hu with hu | hu
              · obtain ⟨w, hw, rfl⟩ := List.mem_map.mp hu
                obtain ⟨v, g1, g2⟩ := p6 w hw
                exact ⟨v, g1, m_ap_ok w2 g2⟩
              · exact o_cutD_ok (o_ok_ext hx3 a3) p7 u hu
        · cases h
      · cases h
    · cases h
  · cases h
