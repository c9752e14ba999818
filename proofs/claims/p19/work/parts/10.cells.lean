/-! FIELDS AND ROWS in one instruction -/
def n_ok (ft : FieldType) (t : Nat × Int × Int) : Bool := match ft, t with
  | .int, (0, _, _) => true
  | .int, (3, _, _) => true
  | .boolean, (0, lo, hi) => i_le 0 lo && i_le hi 1
  | .long, (2, _, _) => true
  | .object _, (1, _, _) => true
  | .array _, (1, _, _) => true
  | .array _, (4, _, _) => true
  | _, _ => false
theorem bool01 {x : Int32} (h1 : 0 ≤ x.toInt) (h2 : x.toInt ≤ 1) : x = 0 ∨ x = 1 := by
  rcases (by omega : x.toInt = 0 ∨ x.toInt = 1) with h | h
  · exact Or.inl (Int32.toInt_inj.mp h)
  · exact Or.inr (Int32.toInt_inj.mp h)
theorem n_ok_ok {B : Int} {ft : FieldType} {t : Nat × Int × Int} {v : Value} (h : n_ok ft t = true) (hv : t_ok B t v) : narrow ft v = v ∧ fits ft v = true := by
  unfold n_ok at h
  split at h
  · obtain ⟨x, rfl, _⟩ := hv; exact ⟨rfl, rfl⟩
  · obtain ⟨x, rfl, _⟩ := hv; exact ⟨rfl, rfl⟩
  · obtain ⟨x, rfl, h1, h2⟩ := hv
    obtain ⟨g1, g2⟩ := Bool.and_eq_true _ _ |>.mp h
    have g1 := i_le_iff.mp g1
    have g2 := i_le_iff.mp g2
    simp only at h1 h2
    rcases bool01 (x := x) (by omega) (by omega) with rfl | rfl <;> exact ⟨rfl, rfl⟩
  · obtain ⟨x, rfl⟩ := hv; exact ⟨rfl, rfl⟩
  · have : v = .ref _ := hv
    subst this; exact ⟨rfl, rfl⟩
  · have : v = .ref _ := hv
    subst this; exact ⟨rfl, rfl⟩
  · have hv : v = .null ∨ ∃ k, v = .ref k := hv
    rcases hv with rfl | ⟨k, rfl⟩ <;> exact ⟨rfl, rfl⟩
  · cases h
theorem kd_inr {q ci : Nat} (h : decide (h_kd q = .inr ci) = true) : h_kd q = .inr ci := of_decide_eq_true h
section CE
variable {p : Program} {l : Launch} {e : Env} {R : Room} {s : State} {m : MethodId} {args : Array Value} {below : List Frame} {meth : Method} {c : Code} {QQ : z_Q → State → Prop} {dC : Nat → ClassId} {dI : Nat → Nat → Nat} {aC : Nat → ClassId} {A : Nat → Prop} {n0 : Nat} {ad0 xa : Nat → Nat} {nL : Nat} {cc : ByteArray} {own : String} {X : Nat → Option (List Int32)} {Y : (Nat → Prop) → State → Heap → Prop}
variable {K : List (List a_K)} {Z : z_G → z_Q → Prop} {aux : List Nat}
variable {T fv B : Int} {ρ0 ρ : List Int} {σ0 σ : m_H} {md : A_D} {ce sl pc : Nat} {lsC : List (Nat × Value)} {stC : List Value} {E : A_E} {F : A_F} {ls : List (Nat × A_V)} {st : List A_V} {ov : A_O} {bu ph : A_L} {L : List A_S}
/-- a value from a cell comes on the stack -/
theorem g_read {p0 k0 pc' : Nat} {E' : A_E} {ov' : A_O} {a : A_V} {v : Value} {sa : List A_V} {sc : List Value} (hg : g_ok T fv ρ0 σ0 md B ρ (pc, E, F, ls, st, ov, bu, ph) (σ, ce, sl, pc, lsC, stC)) (hB : B ≤ 1073741824) (hr : a_rd E ov p0 k0 = some (E', ov', a)) (hv : t_ok B (h_ty p0 k0) v) (hm : m_vOk h_N v) (hc : c_at σ p0 k0 = some v) (hs : s_ok ρ sa sc) (hsv : ∀ u ∈ sc, m_vOk h_N u) :
    ∃ ρ', g_ok T fv ρ0 σ0 md B ρ' (pc', E', F, ls, a :: sa, ov', bu, ph) (σ, ce, sl, pc', lsC, v :: sc) := by
  obtain ⟨ρ', g1, g2, g3, g4⟩ := a_rd_ok hB hg.e hg.o hv hc hr
  exact ⟨ρ', hg.to g1 g2 (f_ok_ext g1 hg.f) (l_ok_ext g1 hg.l) hg.lv ⟨g4, s_ok_ext g1 _ _ hs⟩ (sv_cons hm hsv) g3⟩
/-- a value goes into a cell -/
theorem g_write {p0 k0 pc' : Nat} {E' : A_E} {F' : A_F} {ρ' : List Int} {vs : List Value} {a : A_V} {v : Value} {sa : List A_V} {sc : List Value} {c : Int} (hg : g_ok T fv ρ0 σ0 md B ρ (pc, E, F, ls, st, ov, bu, ph) (σ, ce, sl, pc, lsC, stC)) (hB0 : 0 ≤ B) (hx : r_ext ρ ρ') (he : e_ok B E' ρ') (hf : f_ok F' ρ') (hσ : σ[p0]? = some (h_kd p0, vs)) (hk : k0 < vs.length) (ht : 0 ≤ c ∧ t_ok (B + c) (h_ty p0 k0) v) (hv : v_ok ρ' a v) (hm : m_vOk h_N v) (hd : d_has md p0 k0 k0 = true) (hz : (i_le c (l_lo E' bu) || i_eq c 0) = true) (hs : s_ok ρ sa sc) (hsv : ∀ u ∈ sc, m_vOk h_N u) :
    g_ok T fv ρ0 σ0 md (B + c) ρ' (pc', E', F', ls, sa, ((p0, k0), a) :: o_cut p0 k0 k0 ov, l_take bu c, ph) (σ.set p0 (h_kd p0, vs.set k0 v), ce, sl, pc', lsC, sc) := by
  refine ⟨hg.x0.tr hx, e_ok_mono (by omega) he, hf, ?_, l_ev_ext hx hg.ph, h_set (h_ok_mono (by omega) hg.h) hσ ht.2 hm, hg.ce, hg.sl, rfl, l_ok_ext hx hg.l, hg.lv, s_ok_ext hx _ _ hs, hsv, o_put_ok (o_ok_ext hx hg.o) hσ hk hv, h_fr_set hg.fr hσ (d_has_ok hd (Nat.le_refl _) (Nat.le_refl _))⟩
  obtain ⟨z0, z, z1, z2, z3⟩ := hg.bu
  have u : l_lo E' bu ≤ z := l_lo_ok he (l_ev_ext hx z1)
  refine ⟨by omega, z - c, l_take_ok (l_ev_ext hx z1), ?_, by omega⟩
  rcases Bool.or_eq_true _ _ |>.mp hz with w | w
  · have := i_le_iff.mp w
    omega
  · have := i_eq_iff.mp w
    omega
def st_gf (ci kk pc : Nat) (E : A_E) (F : A_F) (ls : List (Nat × A_V)) (st : List A_V) (ov : A_O) (bu ph : A_L) : Option (List A_S) := match st with
  | a :: r => bif a_isR a && (Nat.blt a.2.1 h_N && (decide (h_kd a.2.1 = .inr ci) && Nat.blt kk (h_ln a.2.1))) then (match a_rd E ov a.2.1 kk with
    | some (E', ov', v) => some [(pc + 3, E', F, ls, v :: r, ov', bu, ph)]
    | none => none) else none
  | _ => none
theorem st_gf_ok (hg : g_ok T fv ρ0 σ0 md B ρ (pc, E, F, ls, st, ov, bu, ph) (σ, ce, sl, pc, lsC, stC)) (hB : B ≤ 1073741824) {ci kk : Nat} (hs : st_gf ci kk pc E F ls st ov bu ph = some L)
    (row : ∀ (q : Nat) (fs : List Value) (v : Value) (t : List Value), σ[q]? = some (.inr ci, fs) → fs[kk]? = some v → mW K Z p l e R s m args below meth c QQ dC dI aC A n0 ad0 xa nL (σ, ce, sl, pc + 3, lsC, v :: t) → mW K Z p l e R s m args below meth c QQ dC dI aC A n0 ad0 xa nL (σ, ce, sl, pc, lsC, .ref q :: t)) (k : ∀ S ∈ L, ∀ (B : Int) (ρ : List Int) (g : m_G), g_ok T fv ρ0 σ0 md B ρ S g → mW K Z p l e R s m args below meth c QQ dC dI aC A n0 ad0 xa nL g) : mW K Z p l e R s m args below meth c QQ dC dI aC A n0 ad0 xa nL (σ, ce, sl, pc, lsC, stC) := by
  unfold st_gf at hs
  split at hs
  · rename_i a r
    cases hc : a_isR a && (Nat.blt a.2.1 h_N && (decide (h_kd a.2.1 = .inr ci) && Nat.blt kk (h_ln a.2.1)))
    · rw [hc] at hs; cases hs
    · rw [hc] at hs
      simp only [cond_true] at hs
      obtain ⟨c1, c2⟩ := Bool.and_eq_true _ _ |>.mp hc
      obtain ⟨c2, c3⟩ := Bool.and_eq_true _ _ |>.mp c2
      obtain ⟨c3, c4⟩ := Bool.and_eq_true _ _ |>.mp c3
      have c2 : a.2.1 < h_N := Nat.le_of_ble_eq_true c2
      have c3 := kd_inr c3
      have c4 : kk < h_ln a.2.1 := Nat.le_of_ble_eq_true c4
      obtain ⟨t, e1, ht⟩ := s_ref hg.s c1
      subst e1
      obtain ⟨vs, h1, h2, h3⟩ := h_cell hg.h c2
      obtain ⟨v, h4, h5, h6⟩ := h3 kk c4
      split at hs
      · rename_i E' ov' b hr
        cases hs
        obtain ⟨ρ', g'⟩ := g_read (pc' := pc + 3) hg hB hr h5 h6 (by rw [c_at_eq h1]; exact h4) ht (sv_tl hg.sv)
        exact row _ vs v t (by rw [h1, c3]) h4 (k _ List.mem_cons_self _ _ _ g')
      · cases hs
  · cases hs
def st_pf (ci kk pc : Nat) (md : A_D) (E : A_E) (F : A_F) (ls : List (Nat × A_V)) (st : List A_V) (ov : A_O) (bu ph : A_L) : Option (List A_S) := match st with
  | b :: a :: r => bif a_isR a && (Nat.blt a.2.1 h_N && (decide (h_kd a.2.1 = .inr ci) && (Nat.blt kk (h_ln a.2.1) && (d_has md a.2.1 kk kk && n_ok (a_ty ci kk) (h_ty a.2.1 kk))))) then (match t_fit (h_ty a.2.1 kk) E F b with
    | some c => bif i_le c (l_lo E bu) || i_eq c 0 then some [(pc + 3, E, F, ls, r, ((a.2.1, kk), b) :: o_cut a.2.1 kk kk ov, l_take bu c, ph)] else none
    | none => none) else none
  | _ => none
theorem st_pf_ok (hg : g_ok T fv ρ0 σ0 md B ρ (pc, E, F, ls, st, ov, bu, ph) (σ, ce, sl, pc, lsC, stC)) (hB0 : 0 ≤ B) {ci kk : Nat} (hs : st_pf ci kk pc md E F ls st ov bu ph = some L)
    (row : ∀ (q : Nat) (fs : List Value) (v : Value) (t : List Value), σ[q]? = some (.inr ci, fs) → kk < fs.length → narrow (a_ty ci kk) v = v → fits (a_ty ci kk) v = true → mW K Z p l e R s m args below meth c QQ dC dI aC A n0 ad0 xa nL (σ.set q (.inr ci, fs.set kk v), ce, sl, pc + 3, lsC, t) → mW K Z p l e R s m args below meth c QQ dC dI aC A n0 ad0 xa nL (σ, ce, sl, pc, lsC, v :: .ref q :: t)) (k : ∀ S ∈ L, ∀ (B : Int) (ρ : List Int) (g : m_G), g_ok T fv ρ0 σ0 md B ρ S g → mW K Z p l e R s m args below meth c QQ dC dI aC A n0 ad0 xa nL g) : mW K Z p l e R s m args below meth c QQ dC dI aC A n0 ad0 xa nL (σ, ce, sl, pc, lsC, stC) := by
  unfold st_pf at hs
  split at hs
  · rename_i b a r
    cases hc : a_isR a && (Nat.blt a.2.1 h_N && (decide (h_kd a.2.1 = .inr ci) && (Nat.blt kk (h_ln a.2.1) && (d_has md a.2.1 kk kk && n_ok (a_ty ci kk) (h_ty a.2.1 kk)))))
    · rw [hc] at hs; cases hs
    · rw [hc] at hs
      simp only [cond_true] at hs
      obtain ⟨c1, c2⟩ := Bool.and_eq_true _ _ |>.mp hc
      obtain ⟨c2, c3⟩ := Bool.and_eq_true _ _ |>.mp c2
      obtain ⟨c3, c4⟩ := Bool.and_eq_true _ _ |>.mp c3
      obtain ⟨c4, c5⟩ := Bool.and_eq_true _ _ |>.mp c4
      obtain ⟨c5, c6⟩ := Bool.and_eq_true _ _ |>.mp c5
      have c2 : a.2.1 < h_N := Nat.le_of_ble_eq_true c2
      have c3 := kd_inr c3
      have c4 : kk < h_ln a.2.1 := Nat.le_of_ble_eq_true c4
      obtain ⟨v, t1, e1, hv, ht1⟩ := s_one hg.s
      obtain ⟨t, e2, ht⟩ := s_ref ht1 c1
      subst e1
      subst e2
      have hm : m_vOk h_N v := hg.sv v List.mem_cons_self
      obtain ⟨vs, h1, h2, h3⟩ := h_cell hg.h c2
      split at hs
      · rename_i c hf
        cases hz : i_le c (l_lo E bu) || i_eq c 0
        · rw [hz] at hs; cases hs
        · rw [hz] at hs
          cases hs
          have hfit := t_fit_ok hB0 hg.e hg.f hv hf
          obtain ⟨n1, n2⟩ := n_ok_ok c6 hfit.2
          have g' := g_write (pc' := pc + 3) hg hB0 r_ext.rf hg.e hg.f h1 (by omega) hfit hv hm c5 hz ht (sv_tl (sv_tl hg.sv))
          have kk' := k _ List.mem_cons_self _ _ _ g'
          rw [c3] at kk'
          exact row _ vs v t (by rw [h1, c3]) (by omega) n1 n2 kk'
      · cases hs
  · cases hs
/-- loads of rows: t the kind -/
theorem x_tab2 : ∀ {j : Nat}, 2 ≤ j → x_tab j = []
  | _ + 2, _ => rfl
theorem x_tab3 : ∀ {j : Nat}, j < 2 → ∀ z ∈ x_tab j, i_m ≤ z ∧ z ≤ i_M
  | 0, _, z, hz => by
    have : z = 1 ∨ z = 5 ∨ z = 25 := by simpa [x_tab] using hz
    unfold i_m i_M; omega
  | 1, _, z, hz => by
    have : z = -3 ∨ z = -1 ∨ z = 0 ∨ z = 1 ∨ z = 3 := by simpa [x_tab] using hz
    unfold i_m i_M; omega
def x_uni (L : List Int) (lo : Nat) : Nat → Option (Int × Int)
  | 0 => match L[lo]? with
    | some a => some (a, a)
    | none => none
  | n + 1 => match L[lo + (n + 1)]?, x_uni L lo n with
    | some a, some (c, d) => some (i_min a c, i_max a d)
    | _, _ => none
theorem x_uni_ok {L : List Int} {lo : Nat} : ∀ {n : Nat} {a b : Int}, x_uni L lo n = some (a, b) → ∀ k : Nat, lo ≤ k → k ≤ lo + n → ∃ x : Int, L[k]? = some x ∧ a ≤ x ∧ x ≤ b
  | 0, a, b, h, k, h1, h2 => by
    have : k = lo := by omega
    subst this
    unfold x_uni at h
    split at h
    · rename_i x hx
      cases h
      exact ⟨_, hx, Int.le_refl _, Int.le_refl _⟩
    · cases h
  | n + 1, a, b, h, k, h1, h2 => by
    unfold x_uni at h
    split at h
    · rename_i x c d hx hu
      cases h
      have m1 := @min_le x c
      have m2 := @le_max x d
      by_cases hk : k = lo + (n + 1)
      · subst hk
        exact ⟨x, hx, by omega, by omega⟩
      · obtain ⟨y, h3, h4, h5⟩ := x_uni_ok hu k h1 (by omega)
        exact ⟨y, h3, by omega, by omega⟩
    · cases h
/-- the row and the place in it: from lo to hi -/
def ix_rng (E : A_E) (F : A_F) (i : A_V) (n : Nat) : Option (Nat × Nat) := bif a_isI i && (i_le 0 (a_lo E F i) && i_le (a_hi E F i + 1) n) then some ((a_lo E F i).toNat, (a_hi E F i).toNat) else none
theorem ix_rng_ok {i : A_V} {n lo hi : Nat} {x : Int32} (e : e_ok B E ρ) (f : f_ok F ρ) (h : ix_rng E F i n = some (lo, hi)) (hx : a_ev ρ i = some x.toInt) : vp_in x n ∧ x.toNatClampNeg = x.toInt.toNat ∧ lo ≤ x.toInt.toNat ∧ x.toInt.toNat ≤ hi ∧ hi < n ∧ 0 ≤ x.toInt := by
  unfold ix_rng at h
  cases hc : a_isI i && (i_le 0 (a_lo E F i) && i_le (a_hi E F i + 1) n)
  · rw [hc] at h; cases h
  · rw [hc] at h
    cases h
    obtain ⟨h1, h2⟩ := Bool.and_eq_true _ _ |>.mp hc
    obtain ⟨h2, h3⟩ := Bool.and_eq_true _ _ |>.mp h2
    have h2 := i_le_iff.mp h2
    have h3 := i_le_iff.mp h3
    have u1 := a_lo_ok e f hx
    have u2 := a_hi_ok e f hx
    obtain ⟨g1, g2⟩ := ix_of (i := x) (n := n) (by omega) (by omega)
    exact ⟨g1, g2, by omega, by omega, by omega, by omega⟩
theorem ix_isI {i : A_V} {n : Nat} {q : Nat × Nat} (h : ix_rng E F i n = some q) : a_isI i = true := by
  unfold ix_rng at h
  cases hc : a_isI i && (i_le 0 (a_lo E F i) && i_le (a_hi E F i + 1) n)
  · rw [hc] at h; cases h
  · exact (Bool.and_eq_true _ _ |>.mp hc).1
/-- ints, bytes, signs, bits -/
def st_al (t pc : Nat) (E : A_E) (F : A_F) (ls : List (Nat × A_V)) (st : List A_V) (ov : A_O) (bu ph : A_L) : Option (List A_S) := match st with
  | i :: a :: r => bif a_isR a then (bif Nat.blt a.2.1 h_N then (bif decide (h_kd a.2.1 = .inl t) then (match ix_rng E F i (h_ln a.2.1) with
      | some (lo, hi) => bif Nat.beq lo hi then (match a_rd E ov a.2.1 lo with
          | some (E', ov', v) => bif Nat.beq (h_ty a.2.1 lo).1 0 || Nat.beq (h_ty a.2.1 lo).1 3 then some [(pc + 1, E', F, ls, v :: r, ov', bu, ph)] else none
          | none => none) else (match t_uni a.2.1 lo (hi - lo) with
          | some (x, y) => some [s_put (pc + 1) (a_mkF E F x y) ls r ov bu ph]
          | none => none)
      | none => none) else none) else (bif Nat.beq t 0 then (match ix_rng E F i (x_tab (a.2.1 - m_X0)).length with
      | some (lo, hi) => match x_uni (x_tab (a.2.1 - m_X0)) lo (hi - lo) with
          | some (x, y) => bif Nat.ble m_X0 a.2.1 then some [s_put (pc + 1) (a_mkF E F x y) ls r ov bu ph] else none
          | none => none
      | none => none) else none)) else none
  | _ => none
theorem st_al_ok (hg : g_ok T fv ρ0 σ0 md B ρ (pc, E, F, ls, st, ov, bu, ph) (σ, ce, sl, pc, lsC, stC)) (hB : B ≤ 1073741824) (hX : ∀ i, i < 2 → X i = some ((x_tab i).map Int32.ofInt)) {t : Nat} (hs : st_al t pc E F ls st ov bu ph = some L)
    (row : ∀ (q : Nat) (i x : Int32) (vs : List Value) (tl : List Value), σ[q]? = some (.inl t, vs) → vp_in i vs.length → vs[i.toNatClampNeg]? = some (.int x) → mW K Z p l e R s m args below meth c QQ dC dI aC A n0 ad0 xa nL (σ, ce, sl, pc + 1, lsC, .int x :: tl) → mW K Z p l e R s m args below meth c QQ dC dI aC A n0 ad0 xa nL (σ, ce, sl, pc, lsC, .int i :: .ref q :: tl))
    (rowX : t = 0 → ∀ (i0 : Nat) (i : Int32) (L : List Int32) (tl : List Value), X i0 = some L → vp_in i L.length → ((i0 < 2 ∧ L = (x_tab i0).map Int32.ofInt) ∨ ∀ g r, Z g r) → mW K Z p l e R s m args below meth c QQ dC dI aC A n0 ad0 xa nL (σ, ce, sl, pc + 1, lsC, .int (L.getD i.toNatClampNeg 0) :: tl) → mW K Z p l e R s m args below meth c QQ dC dI aC A n0 ad0 xa nL (σ, ce, sl, pc, lsC, .int i :: .ref (m_X0 + i0) :: tl)) (k : ∀ S ∈ L, ∀ (B : Int) (ρ : List Int) (g : m_G), g_ok T fv ρ0 σ0 md B ρ S g → mW K Z p l e R s m args below meth c QQ dC dI aC A n0 ad0 xa nL g) : mW K Z p l e R s m args below meth c QQ dC dI aC A n0 ad0 xa nL (σ, ce, sl, pc, lsC, stC) := by
  unfold st_al at hs
  split at hs
  · rename_i i a r
    cases hr : a_isR a
    · rw [hr] at hs; cases hs
    · rw [hr] at hs
      simp only [cond_true] at hs
      cases hN : Nat.blt a.2.1 h_N
      · rw [hN] at hs
        simp only [cond_false] at hs
        cases h0 : Nat.beq t 0
        · rw [h0] at hs; cases hs
        · rw [h0] at hs
          simp only [cond_true] at hs
          have h0 := Nat.eq_of_beq_eq_true h0
          split at hs
          · rename_i lo hi hix
            obtain ⟨v1, t1, e1, hv1, ht1⟩ := s_one hg.s
            obtain ⟨x, rfl, hx⟩ := v_int hv1 (ix_isI hix)
            obtain ⟨tl, e2, ht⟩ := s_ref ht1 hr
            subst e1
            subst e2
            obtain ⟨g1, g2, g3, g4, g5, g6⟩ := ix_rng_ok hg.e hg.f hix hx
            split at hs
            · rename_i u w hu
              cases hb : Nat.ble m_X0 a.2.1
              · rw [hb] at hs; cases hs
              · rw [hb] at hs
                cases hs
                have hb := Nat.le_of_ble_eq_true hb
                obtain ⟨j, hj⟩ := Nat.exists_eq_add_of_le hb
                have hj3 : a.2.1 - m_X0 = j := by omega
                rw [hj3] at g1 g5 hu
                rw [hj]
                have hj2 : j < 2 := by
                  refine Nat.lt_of_not_le (fun z => ?_)
                  have := x_tab2 z
                  rw [this] at g5
                  exact absurd g5 (by simp)
                obtain ⟨y, y1, y2, y3⟩ := x_uni_ok hu x.toInt.toNat g3 (by omega)
                have hrng := x_tab3 hj2
                have hyr := hrng y (List.mem_of_getElem? y1)
                have hval : (((x_tab j).map Int32.ofInt).getD x.toNatClampNeg 0).toInt = y := by
                  rw [g2, List.getD_eq_getElem?_getD, List.getElem?_map, y1]
                  show (Int32.ofInt y).toInt = y
                  rw [Int32.toInt_ofInt]
                  exact i32_bm hyr.1 hyr.2
                obtain ⟨ρ', g'⟩ := g_put (pc' := pc + 1) hg (r_mk hg.e hg.f (lo := u) (hi := w) (((x_tab j).map Int32.ofInt).getD x.toNatClampNeg 0) (fun _ _ => by rw [hval]; exact ⟨y2, y3⟩)) ht (sv_tl (sv_tl hg.sv))
                exact rowX h0 j x _ tl (hX j hj2) (by simpa using g1) (Or.inl ⟨hj2, rfl⟩) (k _ List.mem_cons_self _ _ _ g')
            · cases hs
          · cases hs
      · rw [hN] at hs
        simp only [cond_true] at hs
        have hN : a.2.1 < h_N := Nat.le_of_ble_eq_true hN
        cases hk : decide (h_kd a.2.1 = .inl t)
        · rw [hk] at hs; cases hs
        · rw [hk] at hs
          simp only [cond_true] at hs
          have hk : h_kd a.2.1 = .inl t := of_decide_eq_true hk
          split at hs
          · rename_i lo hi hix
            obtain ⟨v1, t1, e1, hv1, ht1⟩ := s_one hg.s
            obtain ⟨x, rfl, hx⟩ := v_int hv1 (ix_isI hix)
            obtain ⟨tl, e2, ht⟩ := s_ref ht1 hr
            subst e1
            subst e2
            obtain ⟨g1, g2, g3, g4, g5, g6⟩ := ix_rng_ok hg.e hg.f hix hx
            obtain ⟨vs, h1, h2, h3⟩ := h_cell hg.h hN
            obtain ⟨v, h4, h5, h6⟩ := h3 x.toInt.toNat (by omega)
            have hσ : σ[a.2.1]? = some (.inl t, vs) := by rw [h1, hk]
            cases hlh : Nat.beq lo hi
            · rw [hlh] at hs
              simp only [cond_false] at hs
              split at hs
              · rename_i u w hu
                cases hs
                obtain ⟨y, rfl, y1, y2⟩ := t_uni_ok hu x.toInt.toNat v g3 (by omega) h5
                obtain ⟨ρ', g'⟩ := g_put (pc' := pc + 1) hg (r_mk hg.e hg.f (lo := u) (hi := w) y (fun _ _ => ⟨y1, y2⟩)) ht (sv_tl (sv_tl hg.sv))
                exact row _ x y vs tl hσ (by rw [h2]; exact g1) (by rw [g2]; exact h4) (k _ List.mem_cons_self _ _ _ g')
              · cases hs
            · rw [hlh] at hs
              simp only [cond_true] at hs
              have hlh := Nat.eq_of_beq_eq_true hlh
              have hlo : x.toInt.toNat = lo := by omega
              rw [hlo] at h4 h5
              split at hs
              · rename_i E' ov' b hrd
                cases hty : Nat.beq (h_ty a.2.1 lo).1 0 || Nat.beq (h_ty a.2.1 lo).1 3
                · rw [hty] at hs; cases hs
                · rw [hty] at hs
                  cases hs
                  have hint : ∃ y : Int32, v = .int y := by
                    unfold t_ok at h5
                    rcases Bool.or_eq_true _ _ |>.mp hty with z | z <;> (have z := Nat.eq_of_beq_eq_true z; rw [z] at h5; obtain ⟨y, h7, _⟩ := h5; exact ⟨y, h7⟩)
                  obtain ⟨y, rfl⟩ := hint
                  obtain ⟨ρ', g'⟩ := g_read (pc' := pc + 1) hg hB hrd h5 trivial (by rw [c_at_eq h1]; exact h4) ht (sv_tl (sv_tl hg.sv))
                  exact row _ x y vs tl hσ (by rw [h2]; exact g1) (by rw [g2, hlo]; exact h4) (k _ List.mem_cons_self _ _ _ g')
              · cases hs
          · cases hs
  · cases hs
end CE
