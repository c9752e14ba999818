/-! ROWS of objects and longs; writes into rows -/
theorem nar_z (x : Int32) : (0 ≤ (x &&& 1).toInt ∧ (x &&& 1).toInt ≤ 1) ∧ (0 ≤ x.toInt → x.toInt ≤ 1 → (x &&& 1).toInt = x.toInt) := by
  have h1 : (1 : Int32).toInt = 1 := rfl
  have := i32_and_r (x := x) (y := 1) (by rw [h1]; decide)
  rw [h1] at this
  refine ⟨this, fun g1 g2 => ?_⟩
  rcases bool01 g1 g2 with rfl | rfl <;> rfl
theorem nar_c2 (x : Int32) : (0 ≤ (x.toUInt32.toUInt16.toUInt32.toInt32).toInt ∧ (x.toUInt32.toUInt16.toUInt32.toInt32).toInt ≤ 65535) ∧ (0 ≤ x.toInt → x.toInt ≤ 65535 → (x.toUInt32.toUInt16.toUInt32.toInt32).toInt = x.toInt) := by
  have hv : (x.toUInt32.toUInt16.toUInt32.toInt32).toBitVec.toNat = x.toBitVec.toNat % 65536 := by
    show (x.toUInt32.toUInt16.toUInt32).toNat = _
    rw [UInt16.toNat_toUInt32, UInt32.toNat_toUInt16]; rfl
  have hl : x.toBitVec.toNat % 65536 < 65536 := Nat.mod_lt _ (by decide)
  rw [i32_ofNat (by omega)]
  refine ⟨⟨by omega, by omega⟩, fun g1 g2 => ?_⟩
  obtain ⟨h1, h2⟩ := i32_nat g1
  rw [hv, h1, Nat.mod_eq_of_lt (by omega)]
/-- what a row of this kind keeps of a number -/
def a_kp (t : Nat) (E : A_E) (F : A_F) (a : A_V) : A_R := match t with
  | 1 => a_nar (-128) 127 E F a
  | 2 => a_nar 0 65535 E F a
  | 3 => a_nar 0 1 E F a
  | _ => (E, F, a)
def j_kp (t : Nat) (x : Int32) : Int32 := match t with
  | 1 => vp_nar .byte x
  | 2 => vp_nar .char x
  | 3 => vp_nar .boolean x
  | _ => x
theorem a_kp_ok {B : Int} {E : A_E} {F : A_F} {ρ : List Int} (e : e_ok B E ρ) (f : f_ok F ρ) {t : Nat} {a : A_V} {x : Int32} (ia : a_isI a = true) (ha : a_ev ρ a = some x.toInt) : r_ok B ρ (a_kp t E F a) (j_kp t x) := by
  unfold a_kp j_kp
  split
  · rw [vp_nar_byte]; exact a_nar_ok e f ia ha (nar_b x).1 (nar_b x).2
  · rw [vp_nar_char]; exact a_nar_ok e f ia ha (nar_c2 x).1 (nar_c2 x).2
  · have : vp_nar .boolean x = x &&& 1 := rfl
    rw [this]; exact a_nar_ok e f ia ha (nar_z x).1 (nar_z x).2
  · exact r_same e f ia ha rfl
section RW
variable {p : Program} {l : Launch} {e : Env} {R : Room} {s : State} {m : MethodId} {args : Array Value} {below : List Frame} {meth : Method} {c : Code} {QQ : z_Q → State → Prop} {dC : Nat → ClassId} {dI : Nat → Nat → Nat} {aC : Nat → ClassId} {A : Nat → Prop} {n0 : Nat} {ad0 xa : Nat → Nat} {nL : Nat} {cc : ByteArray} {own : String} {X : Nat → Option (List Int32)} {Y : (Nat → Prop) → State → Heap → Prop}
variable {K : List (List a_K)} {Z : z_G → z_Q → Prop} {aux : List Nat}
variable {T fv B : Int} {ρ0 ρ : List Int} {σ0 σ : m_H} {md : A_D} {ce sl pc : Nat} {lsC : List (Nat × Value)} {stC : List Value} {E : A_E} {F : A_F} {ls : List (Nat × A_V)} {st : List A_V} {ov : A_O} {bu ph : A_L} {L : List A_S}
def w_at (q lo hi pc : Nat) (md : A_D) (a : A_V) (E : A_E) (F : A_F) (ls : List (Nat × A_V)) (r : List A_V) (ov : A_O) (bu ph : A_L) : Option (List A_S) :=
  bif Nat.beq lo hi then (match t_fit (h_ty q lo) E F a with
    | some c => bif (i_le c (l_lo E bu) || i_eq c 0) && d_has md q lo lo then some [(pc, E, F, ls, r, ((q, lo), a) :: o_cut q lo lo ov, l_take bu c, ph)] else none
    | none => none)
  else bif t_all q lo E F a (hi - lo) && d_has md q lo hi then some [(pc, E, F, ls, r, o_cut q lo hi ov, bu, ph)] else none
theorem w_at_ok (hg : g_ok T fv ρ0 σ0 md B ρ (pc, E, F, ls, st, ov, bu, ph) (σ, ce, sl, pc, lsC, stC)) (hB0 : 0 ≤ B) {q lo hi j pc' : Nat} {E' : A_E} {F' : A_F} {ρ' : List Int} {vs : List Value} {a : A_V} {v : Value} {sa : List A_V} {sc : List Value} (hx : r_ext ρ ρ') (he : e_ok B E' ρ') (hf : f_ok F' ρ') (hσ : σ[q]? = some (h_kd q, vs)) (hk : j < vs.length) (h1 : lo ≤ j) (h2 : j ≤ hi) (hv : v_ok ρ' a v) (hm : m_vOk h_N v) (hs : s_ok ρ sa sc) (hsv : ∀ u ∈ sc, m_vOk h_N u)
    (hw : w_at q lo hi pc' md a E' F' ls sa ov bu ph = some L) (k : ∀ S ∈ L, ∀ (B : Int) (ρ : List Int) (g : m_G), g_ok T fv ρ0 σ0 md B ρ S g → mW K Z p l e R s m args below meth c QQ dC dI aC A n0 ad0 xa nL g) : mW K Z p l e R s m args below meth c QQ dC dI aC A n0 ad0 xa nL (σ.set q (h_kd q, vs.set j v), ce, sl, pc', lsC, sc) := by
  unfold w_at at hw
  cases hlh : Nat.beq lo hi
  · rw [hlh] at hw
    simp only [cond_false] at hw
    cases hc : t_all q lo E' F' a (hi - lo) && d_has md q lo hi
    · rw [hc] at hw; cases hw
    · rw [hc] at hw
      cases hw
      obtain ⟨c1, c2⟩ := Bool.and_eq_true _ _ |>.mp hc
      have ht := t_all_ok hB0 he hf hv c1 j h1 (by omega)
      refine k _ List.mem_cons_self B ρ' _ ⟨hg.x0.tr hx, he, hf, ?_, l_ev_ext hx hg.ph, h_set hg.h hσ ht hm, hg.ce, hg.sl, rfl, l_ok_ext hx hg.l, hg.lv, s_ok_ext hx _ _ hs, hsv, o_cut_ok (o_ok_ext hx hg.o) hσ h1 h2, h_fr_set hg.fr hσ (d_has_ok c2 h1 h2)⟩
      obtain ⟨z0, z, z1, z2⟩ := hg.bu
      exact ⟨z0, z, l_ev_ext hx z1, z2⟩
  · rw [hlh] at hw
    simp only [cond_true] at hw
    have hlh := Nat.eq_of_beq_eq_true hlh
    have hj : j = lo := by omega
    subst hj
    split at hw
    · rename_i c hft
      cases hc : (i_le c (l_lo E' bu) || i_eq c 0) && d_has md q j j
      · rw [hc] at hw; cases hw
      · rw [hc] at hw
        cases hw
        obtain ⟨c1, c2⟩ := Bool.and_eq_true _ _ |>.mp hc
        exact k _ List.mem_cons_self _ _ _ (g_write hg hB0 hx he hf hσ hk (t_fit_ok hB0 he hf hv hft) hv hm c2 c1 hs hsv)
    · cases hw
def st_as (t pc : Nat) (md : A_D) (E : A_E) (F : A_F) (ls : List (Nat × A_V)) (st : List A_V) (ov : A_O) (bu ph : A_L) : Option (List A_S) := match st with
  | b :: i :: a :: r => bif a_isR a && (a_isI b && (Nat.blt a.2.1 h_N && decide (h_kd a.2.1 = .inl t))) then (match ix_rng E F i (h_ln a.2.1) with
      | some (lo, hi) => match a_kp t E F b with
        | (E', F', b') => w_at a.2.1 lo hi (pc + 1) md b' E' F' ls r ov bu ph
      | none => none) else none
  | _ => none
theorem st_as_ok (hg : g_ok T fv ρ0 σ0 md B ρ (pc, E, F, ls, st, ov, bu, ph) (σ, ce, sl, pc, lsC, stC)) (hB0 : 0 ≤ B) {t : Nat} (hs : st_as t pc md E F ls st ov bu ph = some L)
    (row : ∀ (q : Nat) (i x : Int32) (vs : List Value) (tl : List Value), σ[q]? = some (.inl t, vs) → vp_in i vs.length → mW K Z p l e R s m args below meth c QQ dC dI aC A n0 ad0 xa nL (σ.set q (.inl t, vs.set i.toNatClampNeg (.int (j_kp t x))), ce, sl, pc + 1, lsC, tl) → mW K Z p l e R s m args below meth c QQ dC dI aC A n0 ad0 xa nL (σ, ce, sl, pc, lsC, .int x :: .int i :: .ref q :: tl)) (k : ∀ S ∈ L, ∀ (B : Int) (ρ : List Int) (g : m_G), g_ok T fv ρ0 σ0 md B ρ S g → mW K Z p l e R s m args below meth c QQ dC dI aC A n0 ad0 xa nL g) : mW K Z p l e R s m args below meth c QQ dC dI aC A n0 ad0 xa nL (σ, ce, sl, pc, lsC, stC) := by
  unfold st_as at hs
  split at hs
  · rename_i b i a r
    cases hc : a_isR a && (a_isI b && (Nat.blt a.2.1 h_N && decide (h_kd a.2.1 = .inl t)))
    · rw [hc] at hs; cases hs
    · rw [hc] at hs
      simp only [cond_true] at hs
      obtain ⟨c1, c2⟩ := Bool.and_eq_true _ _ |>.mp hc
      obtain ⟨c2, c3⟩ := Bool.and_eq_true _ _ |>.mp c2
      obtain ⟨c3, c4⟩ := Bool.and_eq_true _ _ |>.mp c3
      have c3 : a.2.1 < h_N := Nat.le_of_ble_eq_true c3
      have c4 : h_kd a.2.1 = .inl t := of_decide_eq_true c4
      split at hs
      · rename_i lo hi hix
        obtain ⟨y, t0, e0, hy, ht0⟩ := s_int hg.s c2
        obtain ⟨v1, t1, e1, hv1, ht1⟩ := s_one ht0
        obtain ⟨x, rfl, hx⟩ := v_int hv1 (ix_isI hix)
        obtain ⟨tl, e2, ht⟩ := s_ref ht1 c1
        subst e0
        subst e1
        subst e2
        obtain ⟨g1, g2, g3, g4, g5, g6⟩ := ix_rng_ok hg.e hg.f hix hx
        obtain ⟨vs, h1, h2, h3⟩ := h_cell hg.h c3
        obtain ⟨ρ', r1, r2, r3, r4, r5⟩ := a_kp_ok (t := t) hg.e hg.f c2 hy
        have kk := w_at_ok (v := .int (j_kp t y)) hg hB0 r1 r2 r3 h1 (j := x.toInt.toNat) (by omega) g3 g4 (v_of_int r5 r4) trivial ht (sv_tl (sv_tl (sv_tl hg.sv))) hs k
        rw [c4] at kk
        exact row _ x y vs tl (by rw [h1, c4]) (by rw [h2]; exact g1) (by rw [g2]; exact kk)
      · cases hs
  · cases hs
def st_sl (pc : Nat) (md : A_D) (E : A_E) (F : A_F) (ls : List (Nat × A_V)) (st : List A_V) (ov : A_O) (bu ph : A_L) : Option (List A_S) := match st with
  | b :: i :: a :: r => bif a_isR a && (a_isL b && (Nat.blt a.2.1 h_N && decide (h_kd a.2.1 = .inl 4))) then (match ix_rng E F i (h_ln a.2.1) with
      | some (lo, hi) => w_at a.2.1 lo hi (pc + 1) md b E F ls r ov bu ph
      | none => none) else none
  | _ => none
theorem st_sl_ok (hC : m_Ctx p s m args meth c cc nL own dC dI aC A xa X Y) (hg : g_ok T fv ρ0 σ0 md B ρ (pc, E, F, ls, st, ov, bu, ph) (σ, ce, sl, pc, lsC, stC)) (hB0 : 0 ≤ B) (hd : z_dx K cc pc (.lastore) 1 aux) (hs : st_sl pc md E F ls st ov bu ph = some L) (k : ∀ S ∈ L, ∀ (B : Int) (ρ : List Int) (g : m_G), g_ok T fv ρ0 σ0 md B ρ S g → mW K Z p l e R s m args below meth c QQ dC dI aC A n0 ad0 xa nL g) : mW K Z p l e R s m args below meth c QQ dC dI aC A n0 ad0 xa nL (σ, ce, sl, pc, lsC, stC) := by
  unfold st_sl at hs
  split at hs
  · rename_i b i a r
    cases hc : a_isR a && (a_isL b && (Nat.blt a.2.1 h_N && decide (h_kd a.2.1 = .inl 4)))
    · rw [hc] at hs; cases hs
    · rw [hc] at hs
      simp only [cond_true] at hs
      obtain ⟨c1, c2⟩ := Bool.and_eq_true _ _ |>.mp hc
      obtain ⟨c2, c3⟩ := Bool.and_eq_true _ _ |>.mp c2
      obtain ⟨c3, c4⟩ := Bool.and_eq_true _ _ |>.mp c3
      have c3 : a.2.1 < h_N := Nat.le_of_ble_eq_true c3
      have c4 : h_kd a.2.1 = .inl 4 := of_decide_eq_true c4
      split at hs
      · rename_i lo hi hix
        obtain ⟨y, t0, e0, hy, ht0⟩ := s_long hg.s c2
        obtain ⟨v1, t1, e1, hv1, ht1⟩ := s_one ht0
        obtain ⟨x, rfl, hx⟩ := v_int hv1 (ix_isI hix)
        obtain ⟨tl, e2, ht⟩ := s_ref ht1 c1
        subst e0
        subst e1
        subst e2
        obtain ⟨g1, g2, g3, g4, g5, g6⟩ := ix_rng_ok hg.e hg.f hix hx
        obtain ⟨vs, h1, h2, h3⟩ := h_cell hg.h c3
        have kk := w_at_ok (v := .long y) hg hB0 r_ext.rf hg.e hg.f h1 (j := x.toInt.toNat) (by omega) g3 g4 (v_of_long c2 hy) trivial ht (sv_tl (sv_tl (sv_tl hg.sv))) hs k
        rw [c4] at kk
        exact mW_lastore hC hd (by rw [h1, c4]) (by rw [h2]; exact g1) (by rw [g2]; exact kk)
      · cases hs
  · cases hs
def st_ll (pc : Nat) (E : A_E) (F : A_F) (ls : List (Nat × A_V)) (st : List A_V) (ov : A_O) (bu ph : A_L) : Option (List A_S) := match st with
  | i :: a :: r => bif a_isR a && (Nat.blt a.2.1 h_N && (decide (h_kd a.2.1 = .inl 4) && decide ((h_at a.2.1).2.2 = [(2, 0, 0)]))) then (match ix_rng E F i (h_ln a.2.1) with
      | some (lo, hi) => bif Nat.beq lo hi then (match a_rd E ov a.2.1 lo with
          | some (E', ov', v) => some [(pc + 1, E', F, ls, v :: r, ov', bu, ph)]
          | none => none) else (match a_mkL E l_m l_M with | (E', v) => some [(pc + 1, E', F, ls, v :: r, ov, bu, ph)])
      | none => none) else none
  | _ => none
theorem st_ll_ok (hC : m_Ctx p s m args meth c cc nL own dC dI aC A xa X Y) (hg : g_ok T fv ρ0 σ0 md B ρ (pc, E, F, ls, st, ov, bu, ph) (σ, ce, sl, pc, lsC, stC)) (hB : B ≤ 1073741824) (hd : z_dx K cc pc (.laload) 1 aux) (hs : st_ll pc E F ls st ov bu ph = some L) (k : ∀ S ∈ L, ∀ (B : Int) (ρ : List Int) (g : m_G), g_ok T fv ρ0 σ0 md B ρ S g → mW K Z p l e R s m args below meth c QQ dC dI aC A n0 ad0 xa nL g) : mW K Z p l e R s m args below meth c QQ dC dI aC A n0 ad0 xa nL (σ, ce, sl, pc, lsC, stC) := by
  unfold st_ll at hs
  split at hs
  · rename_i i a r
    cases hc : a_isR a && (Nat.blt a.2.1 h_N && (decide (h_kd a.2.1 = .inl 4) && decide ((h_at a.2.1).2.2 = [(2, 0, 0)])))
    · rw [hc] at hs; cases hs
    · rw [hc] at hs
      simp only [cond_true] at hs
      obtain ⟨c1, c2⟩ := Bool.and_eq_true _ _ |>.mp hc
      obtain ⟨c2, c3⟩ := Bool.and_eq_true _ _ |>.mp c2
      obtain ⟨c3, c4⟩ := Bool.and_eq_true _ _ |>.mp c3
      have c2 : a.2.1 < h_N := Nat.le_of_ble_eq_true c2
      have c3 : h_kd a.2.1 = .inl 4 := of_decide_eq_true c3
      have c4 : (h_at a.2.1).2.2 = [(2, 0, 0)] := of_decide_eq_true c4
      have hty : ∀ j, h_ty a.2.1 j = (2, 0, 0) := fun j => by
        unfold h_ty t_at
        rw [c4]
        simp [Nat.mod_one]
      split at hs
      · rename_i lo hi hix
        obtain ⟨v1, t1, e1, hv1, ht1⟩ := s_one hg.s
        obtain ⟨x, rfl, hx⟩ := v_int hv1 (ix_isI hix)
        obtain ⟨tl, e2, ht⟩ := s_ref ht1 c1
        subst e1
        subst e2
        obtain ⟨g1, g2, g3, g4, g5, g6⟩ := ix_rng_ok hg.e hg.f hix hx
        obtain ⟨vs, h1, h2, h3⟩ := h_cell hg.h c2
        obtain ⟨v, h4, h5, h6⟩ := h3 x.toInt.toNat (by omega)
        have hlg : ∃ y : Int64, v = .long y := by
          have h5 := h5
          rw [hty] at h5; exact h5
        obtain ⟨y, rfl⟩ := hlg
        have fin : mW K Z p l e R s m args below meth c QQ dC dI aC A n0 ad0 xa nL (σ, ce, sl, pc + 1, lsC, .long y :: tl) → mW K Z p l e R s m args below meth c QQ dC dI aC A n0 ad0 xa nL (σ, ce, sl, pc, lsC, .int x :: .ref a.2.1 :: tl) := fun z => mW_laload hC hd (by rw [h1, c3]) (by rw [h2]; exact g1) (by rw [g2]; exact h4) z
        cases hlh : Nat.beq lo hi
        · rw [hlh] at hs
          cases hs
          obtain ⟨ρ', g1, g2, g3, g4⟩ := a_mkL_ok hg.e y (i64_rng _)
          exact fin (k _ List.mem_cons_self B ρ' _ (g_putL hg g1 g2 g3 g4 ht (sv_tl (sv_tl hg.sv))))
        · rw [hlh] at hs
          simp only [cond_true] at hs
          have hlh := Nat.eq_of_beq_eq_true hlh
          have hlo : x.toInt.toNat = lo := by omega
          rw [hlo] at h4 h5
          split at hs
          · rename_i E' ov' b hrd
            cases hs
            obtain ⟨ρ', g'⟩ := g_read (pc' := pc + 1) hg hB hrd h5 trivial (by rw [c_at_eq h1]; exact h4) ht (sv_tl (sv_tl hg.sv))
            exact fin (k _ List.mem_cons_self _ _ _ g')
          · cases hs
      · cases hs
  · cases hs
/-- objects out of a row: one state for each -/
def st_aa (pc : Nat) (E : A_E) (F : A_F) (ls : List (Nat × A_V)) (st : List A_V) (ov : A_O) (bu ph : A_L) : Option (List A_S) := match st with
  | i :: a :: r => bif a_isR a && (Nat.blt a.2.1 h_N && decide (h_kd a.2.1 = .inl 5)) then (match ix_rng E F i (h_ln a.2.1) with
      | some (lo, hi) => o_all ((List.range (hi - lo + 1)).map fun (j : Nat) => match h_ty a.2.1 (lo + j) with
          | (1, q, _) => some (c_to (pc + 1) ls ((2, q.toNat, 0) :: r) ov bu ph (c_eq E F i (0, 0, ((lo + j : Nat) : Int))))
          | _ => none)
      | none => none) else none
  | _ => none
theorem st_aa_ok (hC : m_Ctx p s m args meth c cc nL own dC dI aC A xa X Y) (hg : g_ok T fv ρ0 σ0 md B ρ (pc, E, F, ls, st, ov, bu, ph) (σ, ce, sl, pc, lsC, stC)) (hd : z_dx K cc pc (.aaload) 1 aux) (hs : st_aa pc E F ls st ov bu ph = some L) (k : ∀ S ∈ L, ∀ (B : Int) (ρ : List Int) (g : m_G), g_ok T fv ρ0 σ0 md B ρ S g → mW K Z p l e R s m args below meth c QQ dC dI aC A n0 ad0 xa nL g) : mW K Z p l e R s m args below meth c QQ dC dI aC A n0 ad0 xa nL (σ, ce, sl, pc, lsC, stC) := by
  unfold st_aa at hs
  split at hs
  · rename_i i a r
    cases hc : a_isR a && (Nat.blt a.2.1 h_N && decide (h_kd a.2.1 = .inl 5))
    · rw [hc] at hs; cases hs
    · rw [hc] at hs
      simp only [cond_true] at hs
      obtain ⟨c1, c2⟩ := Bool.and_eq_true _ _ |>.mp hc
      obtain ⟨c2, c3⟩ := Bool.and_eq_true _ _ |>.mp c2
      have c2 : a.2.1 < h_N := Nat.le_of_ble_eq_true c2
      have c3 : h_kd a.2.1 = .inl 5 := of_decide_eq_true c3
      split at hs
      · rename_i lo hi hix
        obtain ⟨v1, t1, e1, hv1, ht1⟩ := s_one hg.s
        obtain ⟨x, rfl, hx⟩ := v_int hv1 (ix_isI hix)
        obtain ⟨tl, e2, ht⟩ := s_ref ht1 c1
        subst e1
        subst e2
        obtain ⟨g1, g2, g3, g4, g5, g6⟩ := ix_rng_ok hg.e hg.f hix hx
        obtain ⟨vs, h1, h2, h3⟩ := h_cell hg.h c2
        obtain ⟨v, h4, h5, h6⟩ := h3 x.toInt.toNat (by omega)
        obtain ⟨o, o1, o2⟩ := o_all_ok hs _ (List.mem_map.mpr ⟨x.toInt.toNat - lo, List.mem_range.mpr (by omega), rfl⟩)
        have hj : lo + (x.toInt.toNat - lo) = x.toInt.toNat := by omega
        rw [hj] at o1
        split at o1
        · rename_i q w hty
          cases o1
          rw [hty] at h5
          have h5 : v = .ref q.toNat := h5
          subst h5
          have hcq := c_eq_ok hg.e hg.f (a := i) (b := (0, 0, ((x.toInt.toNat : Nat) : Int))) hx rfl (show x.toInt = ((x.toInt.toNat : Nat) : Int) by omega)
          exact mW_aaload hC hd (by rw [h1, c3]) (by rw [h2]; exact g1) (by rw [g2]; exact h4) (st_to_ok hg hcq (sa := (2, q.toNat, 0) :: r) ⟨rfl, ht⟩ (sv_cons h6 (sv_tl (sv_tl hg.sv))) o2 k)
        · cases o1
      · cases hs
  · cases hs
def st_len (pc : Nat) (E : A_E) (F : A_F) (ls : List (Nat × A_V)) (st : List A_V) (ov : A_O) (bu ph : A_L) : Option (List A_S) := match st with
  | a :: r => bif a_isR a then (bif Nat.blt a.2.1 h_N then (match h_kd a.2.1 with
      | .inl t => bif Nat.ble t 5 then some [(pc + 1, E, F, ls, (0, 0, (Int32.ofNat (h_ln a.2.1)).toInt) :: r, ov, bu, ph)] else none
      | .inr _ => none) else bif Nat.ble m_X0 a.2.1 && Nat.blt (a.2.1 - m_X0) 2 then some [(pc + 1, E, F, ls, (0, 0, (Int32.ofNat (x_tab (a.2.1 - m_X0)).length).toInt) :: r, ov, bu, ph)] else none) else none
  | _ => none
theorem st_len_ok (hC : m_Ctx p s m args meth c cc nL own dC dI aC A xa X Y) (hg : g_ok T fv ρ0 σ0 md B ρ (pc, E, F, ls, st, ov, bu, ph) (σ, ce, sl, pc, lsC, stC)) (hX : ∀ i, i < 2 → X i = some ((x_tab i).map Int32.ofInt)) (hd : z_dx K cc pc (.arraylength) 1 aux) (hs : st_len pc E F ls st ov bu ph = some L) (k : ∀ S ∈ L, ∀ (B : Int) (ρ : List Int) (g : m_G), g_ok T fv ρ0 σ0 md B ρ S g → mW K Z p l e R s m args below meth c QQ dC dI aC A n0 ad0 xa nL g) : mW K Z p l e R s m args below meth c QQ dC dI aC A n0 ad0 xa nL (σ, ce, sl, pc, lsC, stC) := by
  unfold st_len at hs
  split at hs
  · rename_i a r
    cases hr : a_isR a
    · rw [hr] at hs; cases hs
    · rw [hr] at hs
      simp only [cond_true] at hs
      obtain ⟨tl, e2, ht⟩ := s_ref hg.s hr
      subst e2
      cases hN : Nat.blt a.2.1 h_N
      · rw [hN] at hs
        simp only [cond_false] at hs
        cases hb : Nat.ble m_X0 a.2.1 && Nat.blt (a.2.1 - m_X0) 2
        · rw [hb] at hs; cases hs
        · rw [hb] at hs
          cases hs
          obtain ⟨b1, b2⟩ := Bool.and_eq_true _ _ |>.mp hb
          have b1 := Nat.le_of_ble_eq_true b1
          have b2 : a.2.1 - m_X0 < 2 := Nat.le_of_ble_eq_true b2
          obtain ⟨j, hj⟩ := Nat.exists_eq_add_of_le b1
          have hj3 : a.2.1 - m_X0 = j := by omega
          rw [hj3] at b2 k
          rw [hj]
          refine mW_xalen hC hd (hX j b2) (Or.inl ⟨b2, rfl⟩) (k _ List.mem_cons_self B ρ _ (hg.to r_ext.rf hg.e hg.f hg.l hg.lv ⟨⟨_, rfl, ?_⟩, ht⟩ (sv_cons trivial (sv_tl hg.sv)) hg.o))
          rw [List.length_map]
      · rw [hN] at hs
        simp only [cond_true] at hs
        have hN : a.2.1 < h_N := Nat.le_of_ble_eq_true hN
        split at hs
        · rename_i t hk
          cases h5 : Nat.ble t 5
          · rw [h5] at hs; cases hs
          · rw [h5] at hs
            cases hs
            obtain ⟨vs, h1, h2, h3⟩ := h_cell hg.h hN
            refine mW_alen hC hd (t := t) (vs := vs) (by rw [h1, hk]) (Nat.le_of_ble_eq_true h5) (k _ List.mem_cons_self B ρ _ (hg.to r_ext.rf hg.e hg.f hg.l hg.lv ⟨⟨_, rfl, ?_⟩, ht⟩ (sv_cons trivial (sv_tl hg.sv)) hg.o))
            rw [h2]
        · cases hs
  · cases hs
end RW
