/-! JUMPS, LONGS, the stack's shuffles -/
theorem i32_eqz {x : Int32} : x = 0 ↔ x.toInt = 0 := by rw [← Int32.toInt_inj]; rfl
theorem i32_eq {x y : Int32} : x = y ↔ x.toInt = y.toInt := Int32.toInt_inj.symm
theorem i32_lt {x y : Int32} : x < y ↔ x.toInt < y.toInt := Int32.lt_iff_toInt_lt
theorem i32_le {x y : Int32} : x ≤ y ↔ x.toInt ≤ y.toInt := Int32.le_iff_toInt_le
theorem i32_0 : (0 : Int32).toInt = 0 := rfl
/-- what a comparison says of two numbers -/
def c_say (cn : Jvm.ClassFile.Cond) (x y : Int) : Prop := match cn with
  | .eq => x = y
  | .ne => ¬ x = y
  | .lt => x < y
  | .ge => y ≤ x
  | .gt => y < x
  | .le => x ≤ y
theorem c_if_ok {B : Int} {E : A_E} {F : A_F} {ρ : List Int} (e : e_ok B E ρ) (f : f_ok F ρ) {z : Bool} {cn : Jvm.ClassFile.Cond} {a b : A_V} {x y : Int} (ha : a_ev ρ a = some x) (hb : a_ev ρ b = some y) :
    (c_say cn x y → c_ok B ρ (c_if true z cn E F a b)) ∧ (¬ c_say cn x y → c_ok B ρ (c_if false z cn E F a b)) := by
  cases cn <;> simp only [c_say, c_if, cond_true, cond_false]
  · exact ⟨fun h => c_eq_ok e f ha hb h, fun h => c_ne_ok e f ha hb h⟩
  · exact ⟨fun h => c_ne_ok e f ha hb h, fun h => c_eq_ok e f ha hb (by omega)⟩
  · exact ⟨fun h => c_le_ok e f ha hb (by omega), fun h => c_le_ok e f hb ha (by omega)⟩
  · exact ⟨fun h => c_le_ok e f hb ha (by omega), fun h => c_le_ok e f ha hb (by omega)⟩
  · exact ⟨fun h => c_le_ok e f hb ha (by omega), fun h => c_le_ok e f ha hb (by omega)⟩
  · exact ⟨fun h => c_le_ok e f ha hb (by omega), fun h => c_le_ok e f hb ha (by omega)⟩
def c_to (pc : Nat) (ls : List (Nat × A_V)) (st : List A_V) (ov : A_O) (bu ph : A_L) (C : List (A_E × A_F)) : List A_S := C.map fun q => (pc, q.1, q.2, ls, st, ov, bu, ph)
def j_to (pc : Nat) (off : Int) : Option Nat := bif i_le 0 ((pc : Int) + off) then some ((pc : Int) + off).toNat else none
theorem j_to_ok {pc t : Nat} {off : Int} (h : j_to pc off = some t) : (pc : Int) + off = (t : Int) := by
  unfold j_to at h
  cases hc : i_le 0 ((pc : Int) + off)
  · rw [hc] at h; cases h
  · rw [hc] at h
    have := i_le_iff.mp hc
    simp only [cond_true, Option.some.injEq] at h
    omega
section JP
variable {p : Program} {l : Launch} {e : Env} {R : Room} {s : State} {m : MethodId} {args : Array Value} {below : List Frame} {meth : Method} {c : Code} {QQ : z_Q → State → Prop} {dC : Nat → ClassId} {dI : Nat → Nat → Nat} {aC : Nat → ClassId} {A : Nat → Prop} {n0 : Nat} {ad0 xa : Nat → Nat} {nL : Nat} {cc : ByteArray} {own : String} {X : Nat → Option (List Int32)} {Y : (Nat → Prop) → State → Heap → Prop}
variable {K : List (List a_K)} {Z : z_G → z_Q → Prop} {aux : List Nat}
variable {T fv B : Int} {ρ0 ρ : List Int} {σ0 σ : m_H} {md : A_D} {ce sl pc : Nat} {lsC : List (Nat × Value)} {stC : List Value} {E : A_E} {F : A_F} {ls : List (Nat × A_V)} {st : List A_V} {ov : A_O} {bu ph : A_L} {L : List A_S}
def st_cmp (z : Bool) (cn : Jvm.ClassFile.Cond) (tgt pc : Nat) (a b : A_V) (E : A_E) (F : A_F) (ls : List (Nat × A_V)) (st : List A_V) (ov : A_O) (bu ph : A_L) : List A_S :=
  c_to tgt ls st ov bu ph (c_if true z cn E F a b) ++ c_to (pc + 3) ls st ov bu ph (c_if false z cn E F a b)
theorem st_to_ok (hg : g_ok T fv ρ0 σ0 md B ρ (pc, E, F, ls, st, ov, bu, ph) (σ, ce, sl, pc, lsC, stC)) {pc' : Nat} {sa : List A_V} {sc : List Value} {C : List (A_E × A_F)} (hC2 : c_ok B ρ C) (hs : s_ok ρ sa sc) (hsv : ∀ v ∈ sc, m_vOk h_N v) (hL : ∀ S ∈ c_to pc' ls sa ov bu ph C, S ∈ L) (k : ∀ S ∈ L, ∀ (B : Int) (ρ : List Int) (g : m_G), g_ok T fv ρ0 σ0 md B ρ S g → mW K Z p l e R s m args below meth c QQ dC dI aC A n0 ad0 xa nL g) : mW K Z p l e R s m args below meth c QQ dC dI aC A n0 ad0 xa nL (σ, ce, sl, pc', lsC, sc) := by
  obtain ⟨q, h1, h2, h3⟩ := hC2
  exact k _ (hL _ (List.mem_map.mpr ⟨q, h1, rfl⟩)) B ρ _ (hg.to r_ext.rf h2 h3 hg.l hg.lv hs hsv hg.o)
def st_if (z : Bool) (cn : Jvm.ClassFile.Cond) (off : Int) (pc : Nat) (E : A_E) (F : A_F) (ls : List (Nat × A_V)) (st : List A_V) (ov : A_O) (bu ph : A_L) : Option (List A_S) := match st, j_to pc off with
  | a :: r, some tgt => bif a_isI a then some (st_cmp z cn tgt pc a (0, 0, 0) E F ls r ov bu ph) else none
  | _, _ => none
theorem st_if_ok (hC : m_Ctx p s m args meth c cc nL own dC dI aC A xa X Y) (hg : g_ok T fv ρ0 σ0 md B ρ (pc, E, F, ls, st, ov, bu, ph) (σ, ce, sl, pc, lsC, stC)) {z : Bool} {cn : Jvm.ClassFile.Cond} {off : Int} (hd : z_dx K cc pc (.ifCond cn off) 3 aux) (hs : st_if z cn off pc E F ls st ov bu ph = some L) (k : ∀ S ∈ L, ∀ (B : Int) (ρ : List Int) (g : m_G), g_ok T fv ρ0 σ0 md B ρ S g → mW K Z p l e R s m args below meth c QQ dC dI aC A n0 ad0 xa nL g) : mW K Z p l e R s m args below meth c QQ dC dI aC A n0 ad0 xa nL (σ, ce, sl, pc, lsC, stC) := by
  unfold st_if at hs
  split at hs
  · rename_i a r tgt hj
    cases ia : a_isI a
    · rw [ia] at hs; cases hs
    · rw [ia] at hs
      cases hs
      obtain ⟨x, t, rfl, ha, ht⟩ := s_int hg.s ia
      have hv := sv_tl hg.sv
      have hz : a_ev ρ ((0, 0, 0) : A_V) = some 0 := rfl
      obtain ⟨g1, g2⟩ := c_if_ok hg.e hg.f (z := z) (cn := cn) ha hz
      have kt : c_say cn x.toInt 0 → mW K Z p l e R s m args below meth c QQ dC dI aC A n0 ad0 xa nL (σ, ce, sl, tgt, lsC, t) := fun q => st_to_ok hg (g1 q) ht hv (fun S hS => List.mem_append_left _ hS) k
      have kf : ¬ c_say cn x.toInt 0 → mW K Z p l e R s m args below meth c QQ dC dI aC A n0 ad0 xa nL (σ, ce, sl, pc + 3, lsC, t) := fun q => st_to_ok hg (g2 q) ht hv (fun S hS => List.mem_append_right _ hS) k
      have hj := j_to_ok hj
      cases cn
      · exact mW_if_eq hC hd hj (fun q => kt (i32_eqz.mp q)) (fun q => kf (fun z => q (i32_eqz.mpr z)))
      · exact mW_if_ne hC hd hj (fun q => kt (fun z => q (i32_eqz.mpr z))) (fun q => kf (fun z => z (i32_eqz.mp q)))
      · exact mW_if_lt hC hd hj (fun q => kt (i32_lt.mp q)) (fun q => kf (fun z => q (i32_lt.mpr z)))
      · exact mW_if_ge hC hd hj (fun q => kt (i32_le.mp q)) (fun q => kf (fun z => q (i32_le.mpr z)))
      · exact mW_if_gt hC hd hj (fun q => kt (i32_lt.mp q)) (fun q => kf (fun z => q (i32_lt.mpr z)))
      · exact mW_if_le hC hd hj (fun q => kt (i32_le.mp q)) (fun q => kf (fun z => q (i32_le.mpr z)))
  · cases hs
def st_ic (z : Bool) (cn : Jvm.ClassFile.Cond) (off : Int) (pc : Nat) (E : A_E) (F : A_F) (ls : List (Nat × A_V)) (st : List A_V) (ov : A_O) (bu ph : A_L) : Option (List A_S) := match st, j_to pc off with
  | b :: a :: r, some tgt => bif a_isI a && a_isI b then some (st_cmp z cn tgt pc a b E F ls r ov bu ph) else none
  | _, _ => none
theorem st_ic_ok (hC : m_Ctx p s m args meth c cc nL own dC dI aC A xa X Y) (hg : g_ok T fv ρ0 σ0 md B ρ (pc, E, F, ls, st, ov, bu, ph) (σ, ce, sl, pc, lsC, stC)) {z : Bool} {cn : Jvm.ClassFile.Cond} {off : Int} (hd : z_dx K cc pc (.if_icmp cn off) 3 aux) (hs : st_ic z cn off pc E F ls st ov bu ph = some L) (k : ∀ S ∈ L, ∀ (B : Int) (ρ : List Int) (g : m_G), g_ok T fv ρ0 σ0 md B ρ S g → mW K Z p l e R s m args below meth c QQ dC dI aC A n0 ad0 xa nL g) : mW K Z p l e R s m args below meth c QQ dC dI aC A n0 ad0 xa nL (σ, ce, sl, pc, lsC, stC) := by
  unfold st_ic at hs
  split at hs
  · rename_i b a r tgt hj
    cases hc : a_isI a && a_isI b
    · rw [hc] at hs; cases hs
    · rw [hc] at hs
      cases hs
      obtain ⟨ia, ib⟩ := Bool.and_eq_true _ _ |>.mp hc
      obtain ⟨x, y, t, rfl, ha, hb, ht⟩ := s_two hg.s ia ib
      have hv := sv_tl (sv_tl hg.sv)
      obtain ⟨g1, g2⟩ := c_if_ok hg.e hg.f (z := z) (cn := cn) ha hb
      have kt : c_say cn x.toInt y.toInt → mW K Z p l e R s m args below meth c QQ dC dI aC A n0 ad0 xa nL (σ, ce, sl, tgt, lsC, t) := fun q => st_to_ok hg (g1 q) ht hv (fun S hS => List.mem_append_left _ hS) k
      have kf : ¬ c_say cn x.toInt y.toInt → mW K Z p l e R s m args below meth c QQ dC dI aC A n0 ad0 xa nL (σ, ce, sl, pc + 3, lsC, t) := fun q => st_to_ok hg (g2 q) ht hv (fun S hS => List.mem_append_right _ hS) k
      have hj := j_to_ok hj
      cases cn
      · exact mW_icmp_eq hC hd hj (fun q => kt (i32_eq.mp q)) (fun q => kf (fun z => q (i32_eq.mpr z)))
      · exact mW_icmp_ne hC hd hj (fun q => kt (fun z => q (i32_eq.mpr z))) (fun q => kf (fun z => z (i32_eq.mp q)))
      · exact mW_icmp_lt hC hd hj (fun q => kt (i32_lt.mp q)) (fun q => kf (fun z => q (i32_lt.mpr z)))
      · exact mW_icmp_ge hC hd hj (fun q => kt (i32_le.mp q)) (fun q => kf (fun z => q (i32_le.mpr z)))
      · exact mW_icmp_gt hC hd hj (fun q => kt (i32_lt.mp q)) (fun q => kf (fun z => q (i32_lt.mpr z)))
      · exact mW_icmp_le hC hd hj (fun q => kt (i32_le.mp q)) (fun q => kf (fun z => q (i32_le.mpr z)))
  · cases hs
def st_goto (off : Int) (pc : Nat) (E : A_E) (F : A_F) (ls : List (Nat × A_V)) (st : List A_V) (ov : A_O) (bu ph : A_L) : Option (List A_S) := match j_to pc off with
  | some tgt => some [(tgt, E, F, ls, st, ov, bu, ph)]
  | none => none
theorem st_goto_ok (hC : m_Ctx p s m args meth c cc nL own dC dI aC A xa X Y) (hg : g_ok T fv ρ0 σ0 md B ρ (pc, E, F, ls, st, ov, bu, ph) (σ, ce, sl, pc, lsC, stC)) {off : Int} (hd : z_dx K cc pc (.goto off) 3 aux) (hs : st_goto off pc E F ls st ov bu ph = some L) (k : ∀ S ∈ L, ∀ (B : Int) (ρ : List Int) (g : m_G), g_ok T fv ρ0 σ0 md B ρ S g → mW K Z p l e R s m args below meth c QQ dC dI aC A n0 ad0 xa nL g) : mW K Z p l e R s m args below meth c QQ dC dI aC A n0 ad0 xa nL (σ, ce, sl, pc, lsC, stC) := by
  unfold st_goto at hs
  split at hs
  · rename_i tgt hj
    cases hs
    exact mW_goto hC hd (j_to_ok hj) (k _ List.mem_cons_self B ρ _ (hg.to r_ext.rf hg.e hg.f hg.l hg.lv hg.s hg.sv hg.o))
  · cases hs
/-- switches -/
def o_all : List (Option (List A_S)) → Option (List A_S)
  | [] => some []
  | some a :: l => match o_all l with
    | some b => some (a ++ b)
    | none => none
  | none :: _ => none
theorem o_all_ok {l : List (Option (List A_S))} {M : List A_S} (h : o_all l = some M) : ∀ o ∈ l, ∃ a, o = some a ∧ ∀ S ∈ a, S ∈ M := by
  induction l generalizing M with
  | nil => intro o ho; cases ho
  | cons q l ih =>
    cases q with
    | none => cases h
    | some a =>
      unfold o_all at h
      split at h
      · rename_i b hb
        cases h
        intro o ho
        rcases List.mem_cons.mp ho with rfl | ho
        · exact ⟨a, rfl, fun S hS => List.mem_append_left _ hS⟩
        · obtain ⟨c, c1, c2⟩ := ih hb o ho
          exact ⟨c, c1, fun S hS => List.mem_append_right _ (c2 S hS)⟩
      · cases h
def st_key (pc : Nat) (a : A_V) (E : A_E) (F : A_F) (ls : List (Nat × A_V)) (r : List A_V) (ov : A_O) (bu ph : A_L) (q : Int × Int) : Option (List A_S) := match c_eq E F a (0, 0, q.1) with
  | [] => some []
  | C => match j_to pc q.2 with
    | some tgt => some (c_to tgt ls r ov bu ph C)
    | none => none
def st_lk (dflt : Int) (ps : List (Int × Int)) (pc : Nat) (E : A_E) (F : A_F) (ls : List (Nat × A_V)) (st : List A_V) (ov : A_O) (bu ph : A_L) : Option (List A_S) := match st with
  | a :: r => bif a_isI a && (ps.zip (ps.drop 1)).all (fun q => decide (q.1.1 < q.2.1)) then
      (bif a_cst a && ps.any (fun q => i_eq q.1 a.2.2) then o_all (ps.map (st_key pc a E F ls r ov bu ph)) else match j_to pc dflt with
        | some tgt => o_all (some [(tgt, E, F, ls, r, ov, bu, ph)] :: ps.map (st_key pc a E F ls r ov bu ph))
        | none => none) else none
  | _ => none
theorem lk_in {ps : List (Int × Int)} {dflt x : Int} : (∃ q ∈ ps, q.1 = x ∧ Op.lookupswitch.offset ps dflt x = q.2) ∨ (Op.lookupswitch.offset ps dflt x = dflt ∧ ∀ q ∈ ps, ¬ q.1 = x) := by
  induction ps with
  | nil => exact Or.inr ⟨rfl, fun q h => by cases h⟩
  | cons q ps ih =>
    obtain ⟨u, o⟩ := q
    rw [Op.lookupswitch.offset_cons]
    by_cases h : u = x
    · exact Or.inl ⟨(u, o), List.mem_cons_self, h, by rw [if_pos h]⟩
    · rw [if_neg h]
      rcases ih with ⟨q, h1, h2, h3⟩ | ⟨h1, h2⟩
      · exact Or.inl ⟨q, List.mem_cons_of_mem _ h1, h2, h3⟩
      · refine Or.inr ⟨h1, fun q hq => ?_⟩
        rcases List.mem_cons.mp hq with rfl | hq
        · exact h
        · exact h2 q hq
theorem st_key_ok (hg : g_ok T fv ρ0 σ0 md B ρ (pc, E, F, ls, st, ov, bu, ph) (σ, ce, sl, pc, lsC, stC)) {a : A_V} {r : List A_V} {t : List Value} {x : Int32} {q : Int × Int} {o : List A_S} (ha : a_ev ρ a = some x.toInt) (ht : s_ok ρ r t) (hv : ∀ v ∈ t, m_vOk h_N v) (hq : q.1 = x.toInt) (ho : st_key pc a E F ls r ov bu ph q = some o) (hL : ∀ S ∈ o, S ∈ L) (k : ∀ S ∈ L, ∀ (B : Int) (ρ : List Int) (g : m_G), g_ok T fv ρ0 σ0 md B ρ S g → mW K Z p l e R s m args below meth c QQ dC dI aC A n0 ad0 xa nL g) : ∃ tgt : Nat, (pc : Int) + q.2 = (tgt : Int) ∧ mW K Z p l e R s m args below meth c QQ dC dI aC A n0 ad0 xa nL (σ, ce, sl, tgt, lsC, t) := by
  have hc := c_eq_ok hg.e hg.f (b := (0, 0, q.1)) ha rfl hq.symm
  unfold st_key at ho
  split at ho
  · rename_i h0
    rw [h0] at hc
    obtain ⟨z, z1, _⟩ := hc
    cases z1
  · split at ho
    · rename_i tgt hj
      cases ho
      exact ⟨tgt, j_to_ok hj, st_to_ok hg hc ht hv hL k⟩
    · cases ho
theorem st_lk_ok (hC : m_Ctx p s m args meth c cc nL own dC dI aC A xa X Y) (hg : g_ok T fv ρ0 σ0 md B ρ (pc, E, F, ls, st, ov, bu, ph) (σ, ce, sl, pc, lsC, stC)) {dflt : Int} {ps : Array (Int × Int)} {len : Nat} (hd : z_dx K cc pc (.lookupswitch dflt ps) len aux) (hs : st_lk dflt ps.toList pc E F ls st ov bu ph = some L) (k : ∀ S ∈ L, ∀ (B : Int) (ρ : List Int) (g : m_G), g_ok T fv ρ0 σ0 md B ρ S g → mW K Z p l e R s m args below meth c QQ dC dI aC A n0 ad0 xa nL g) : mW K Z p l e R s m args below meth c QQ dC dI aC A n0 ad0 xa nL (σ, ce, sl, pc, lsC, stC) := by
  unfold st_lk at hs
  split at hs
  · rename_i a r
    cases hc : a_isI a && (ps.toList.zip (ps.toList.drop 1)).all (fun q => decide (q.1.1 < q.2.1))
    · rw [hc] at hs; cases hs
    · rw [hc] at hs
      simp only [cond_true] at hs
      obtain ⟨ia, hp⟩ := Bool.and_eq_true _ _ |>.mp hc
      obtain ⟨x, t, rfl, ha, ht⟩ := s_int hg.s ia
      have hv := sv_tl hg.sv
      have fin : ∀ tgt : Nat, (pc : Int) + Op.lookupswitch.offset ps.toList dflt x.toInt = (tgt : Int) → mW K Z p l e R s m args below meth c QQ dC dI aC A n0 ad0 xa nL (σ, ce, sl, tgt, lsC, t) → mW K Z p l e R s m args below meth c QQ dC dI aC A n0 ad0 xa nL (σ, ce, sl, pc, lsC, .int x :: t) := fun tgt h1 h2 => mW_lookup hC hd hp rfl h1 h2
      have hkey : ∀ (q : Int × Int), q.1 = x.toInt → (∃ o, st_key pc a E F ls r ov bu ph q = some o ∧ ∀ S ∈ o, S ∈ L) → Op.lookupswitch.offset ps.toList dflt x.toInt = q.2 → mW K Z p l e R s m args below meth c QQ dC dI aC A n0 ad0 xa nL (σ, ce, sl, pc, lsC, .int x :: t) := fun q h1 ⟨o, h2, h3⟩ h4 => by
        obtain ⟨tgt, g1, g2⟩ := st_key_ok hg ha ht hv h1 h2 h3 k
        exact fin tgt (by rw [h4]; exact g1) g2
      cases hz : a_cst a && ps.toList.any (fun q => i_eq q.1 a.2.2)
      · rw [hz] at hs
        simp only [cond_false] at hs
        split at hs
        · rename_i tgt hj
          have hall := o_all_ok hs
          rcases lk_in (ps := ps.toList) (dflt := dflt) (x := x.toInt) with ⟨q, h1, h2, h3⟩ | ⟨h1, h2⟩
          · exact hkey q h2 (hall _ (List.mem_cons_of_mem _ (List.mem_map.mpr ⟨q, h1, rfl⟩))) h3
          · obtain ⟨o, h3, h4⟩ := hall _ List.mem_cons_self
            cases h3
            exact fin tgt (by rw [h1]; exact j_to_ok hj) (k _ (h4 _ List.mem_cons_self) B ρ _ (hg.to r_ext.rf hg.e hg.f hg.l hg.lv ht hv hg.o))
        · cases hs
      · rw [hz] at hs
        simp only [cond_true] at hs
        obtain ⟨z1, z2⟩ := Bool.and_eq_true _ _ |>.mp hz
        have hx := a_ev_cst ha z1
        have hall := o_all_ok hs
        rcases lk_in (ps := ps.toList) (dflt := dflt) (x := x.toInt) with ⟨q, h1, h2, h3⟩ | ⟨h1, h2⟩
        · exact hkey q h2 (hall _ (List.mem_map.mpr ⟨q, h1, rfl⟩)) h3
        · obtain ⟨q, q1, q2⟩ := List.any_eq_true.mp z2
          have := i_eq_iff.mp q2
          exact absurd (this.trans hx.symm) (h2 q q1)
  · cases hs
def st_tb (dflt lo hi : Int) (offs : List Int) (pc : Nat) (E : A_E) (F : A_F) (ls : List (Nat × A_V)) (st : List A_V) (ov : A_O) (bu ph : A_L) : Option (List A_S) := match st with
  | a :: r => bif a_isI a then (match j_to pc dflt with
      | some tgt => o_all (some (c_to tgt ls r ov bu ph (c_le E F a (0, 0, lo) (-1) ++ c_le E F (0, 0, hi) a (-1))) :: (List.range (hi - lo + 1).toNat).map (fun (j : Nat) => match offs[j]? with
        | some o => st_key pc a E F ls r ov bu ph (lo + (j : Int), o)
        | none => none))
      | none => none) else none
  | _ => none
theorem st_tb_ok (hC : m_Ctx p s m args meth c cc nL own dC dI aC A xa X Y) (hg : g_ok T fv ρ0 σ0 md B ρ (pc, E, F, ls, st, ov, bu, ph) (σ, ce, sl, pc, lsC, stC)) {dflt lo hi : Int} {offs : Array Int} {len : Nat} (hd : z_dx K cc pc (.tableswitch dflt lo hi offs) len aux) (hs : st_tb dflt lo hi offs.toList pc E F ls st ov bu ph = some L) (k : ∀ S ∈ L, ∀ (B : Int) (ρ : List Int) (g : m_G), g_ok T fv ρ0 σ0 md B ρ S g → mW K Z p l e R s m args below meth c QQ dC dI aC A n0 ad0 xa nL g) : mW K Z p l e R s m args below meth c QQ dC dI aC A n0 ad0 xa nL (σ, ce, sl, pc, lsC, stC) := by
  unfold st_tb at hs
  split at hs
  · rename_i a r
    cases ia : a_isI a
    · rw [ia] at hs; cases hs
    · rw [ia] at hs
      simp only [cond_true] at hs
      obtain ⟨x, t, rfl, ha, ht⟩ := s_int hg.s ia
      have hv := sv_tl hg.sv
      split at hs
      · rename_i tgt hj
        have hall := o_all_ok hs
        by_cases hin : x.toInt < lo ∨ hi < x.toInt
        · obtain ⟨o, h3, h4⟩ := hall _ List.mem_cons_self
          cases h3
          refine mW_tableOut hC hd hin (j_to_ok hj) (st_to_ok hg (C := c_le E F a (0, 0, lo) (-1) ++ c_le E F (0, 0, hi) a (-1)) ?_ ht hv h4 k)
          rcases hin with q | q
          · exact c_ok_l (c_le_ok hg.e hg.f (y := lo) ha rfl (by omega))
          · exact c_ok_r (c_le_ok hg.e hg.f (x := hi) rfl ha (by omega))
        · have h1 : ¬ x.toInt < lo := fun z => hin (Or.inl z)
          have h2 : ¬ hi < x.toInt := fun z => hin (Or.inr z)
          obtain ⟨o, h3, h4⟩ := hall _ (List.mem_cons_of_mem _ (List.mem_map.mpr ⟨(x.toInt - lo).toNat, List.mem_range.mpr (by omega), rfl⟩))
          split at h3
          · rename_i off ho
            obtain ⟨tgt2, g1, g2⟩ := st_key_ok hg ha ht hv (q := (lo + ((x.toInt - lo).toNat : Int), off)) (by show lo + ((x.toInt - lo).toNat : Int) = _; omega) h3 h4 k
            exact mW_tableIn hC hd h1 h2 (by simpa using ho) g1 g2
          · cases h3
      · cases hs
  · cases hs
/-- longs -/
theorem g_putL {a : A_V} {E' : A_E} {ρ' : List Int} {sa : List A_V} {sc : List Value} {x : Int64} {pc' : Nat} (hg : g_ok T fv ρ0 σ0 md B ρ (pc, E, F, ls, st, ov, bu, ph) (σ, ce, sl, pc, lsC, stC)) (g1 : r_ext ρ ρ') (g2 : e_ok B E' ρ') (g3 : a_ev ρ' a = some x.toInt) (g4 : a_isL a = true) (hs : s_ok ρ sa sc) (hsv : ∀ v ∈ sc, m_vOk h_N v) :
    g_ok T fv ρ0 σ0 md B ρ' (pc', E', F, ls, a :: sa, ov, bu, ph) (σ, ce, sl, pc', lsC, .long x :: sc) :=
  hg.to g1 g2 (f_ok_ext g1 hg.f) (l_ok_ext g1 hg.l) hg.lv ⟨v_of_long g4 g3, s_ok_ext g1 _ _ hs⟩ (sv_cons trivial hsv) (o_ok_ext g1 hg.o)
/-- what comes of longs is any long, but of two numbers a number -/
def st_lb (g : Int64 → Int64 → Int64) (nz : Bool) (pc : Nat) (E : A_E) (F : A_F) (ls : List (Nat × A_V)) (st : List A_V) (ov : A_O) (bu ph : A_L) : Option (List A_S) := match st with
  | b :: a :: r => bif a_isL a && (a_isL b && (!nz || (i_le 1 (a_lo E F b) || i_le (a_hi E F b) (-1)))) then
      (bif a_cst a && a_cst b then some [(pc + 1, E, F, ls, (3, 0, (g (Int64.ofInt a.2.2) (Int64.ofInt b.2.2)).toInt) :: r, ov, bu, ph)] else match a_mkL E l_m l_M with | (E', v) => some [(pc + 1, E', F, ls, v :: r, ov, bu, ph)]) else none
  | _ => none
theorem st_lb_ok (hg : g_ok T fv ρ0 σ0 md B ρ (pc, E, F, ls, st, ov, bu, ph) (σ, ce, sl, pc, lsC, stC)) {g : Int64 → Int64 → Int64} {nz : Bool} (hs : st_lb g nz pc E F ls st ov bu ph = some L)
    (row : ∀ (x y : Int64) (t : List Value), (nz = true → ¬ y = 0) → mW K Z p l e R s m args below meth c QQ dC dI aC A n0 ad0 xa nL (σ, ce, sl, pc + 1, lsC, .long (g x y) :: t) → mW K Z p l e R s m args below meth c QQ dC dI aC A n0 ad0 xa nL (σ, ce, sl, pc, lsC, .long y :: .long x :: t)) (k : ∀ S ∈ L, ∀ (B : Int) (ρ : List Int) (g : m_G), g_ok T fv ρ0 σ0 md B ρ S g → mW K Z p l e R s m args below meth c QQ dC dI aC A n0 ad0 xa nL g) : mW K Z p l e R s m args below meth c QQ dC dI aC A n0 ad0 xa nL (σ, ce, sl, pc, lsC, stC) := by
  unfold st_lb at hs
  split at hs
  · rename_i b a r
    cases hc : a_isL a && (a_isL b && (!nz || (i_le 1 (a_lo E F b) || i_le (a_hi E F b) (-1))))
    · rw [hc] at hs; cases hs
    · rw [hc] at hs
      simp only [cond_true] at hs
      obtain ⟨ia, hc⟩ := Bool.and_eq_true _ _ |>.mp hc
      obtain ⟨ib, hz⟩ := Bool.and_eq_true _ _ |>.mp hc
      obtain ⟨y, t1, e1, hb, ht1⟩ := s_long hg.s ib
      obtain ⟨x, t, e2, ha, ht⟩ := s_long ht1 ia
      subst e1
      subst e2
      have hv := sv_tl (sv_tl hg.sv)
      have hne : nz = true → ¬ y = 0 := fun n0 y0 => by
        subst n0
        subst y0
        have u1 : a_lo E F b ≤ _ := a_lo_ok hg.e hg.f hb
        have u2 : _ ≤ a_hi E F b := a_hi_ok hg.e hg.f hb
        have h0 : (0 : Int64).toInt = 0 := rfl
        rcases Bool.or_eq_true _ _ |>.mp hz with z | z
        · cases z
        · rcases Bool.or_eq_true _ _ |>.mp z with z | z <;> (have := i_le_iff.mp z; omega)
      cases hcc : a_cst a && a_cst b
      · rw [hcc] at hs
        cases hs
        obtain ⟨ρ', g1, g2, g3, g4⟩ := a_mkL_ok hg.e (g x y) (i64_rng _)
        exact row x y t hne (k _ List.mem_cons_self B ρ' _ (g_putL hg g1 g2 g3 g4 ht hv))
      · rw [hcc] at hs
        cases hs
        obtain ⟨d1, d2⟩ := Bool.and_eq_true _ _ |>.mp hcc
        have hx := a_ev_cst ha d1
        have hy := a_ev_cst hb d2
        refine row x y t hne (k _ List.mem_cons_self B ρ _ (g_putL hg r_ext.rf hg.e ?_ rfl ht hv))
        rw [← hx, ← hy, i64_of, i64_of]; rfl
  · cases hs
/-- shifts of longs -/
def st_lsh (pc : Nat) (E : A_E) (F : A_F) (ls : List (Nat × A_V)) (st : List A_V) (ov : A_O) (bu ph : A_L) : Option (List A_S) := match st with
  | b :: a :: r => bif a_isL a && a_isI b then (match a_mkL E l_m l_M with | (E', v) => some [(pc + 1, E', F, ls, v :: r, ov, bu, ph)]) else none
  | _ => none
theorem st_lsh_ok (hg : g_ok T fv ρ0 σ0 md B ρ (pc, E, F, ls, st, ov, bu, ph) (σ, ce, sl, pc, lsC, stC)) {g : Int64 → Int32 → Int64} (hs : st_lsh pc E F ls st ov bu ph = some L)
    (row : ∀ (x : Int64) (y : Int32) (t : List Value), mW K Z p l e R s m args below meth c QQ dC dI aC A n0 ad0 xa nL (σ, ce, sl, pc + 1, lsC, .long (g x y) :: t) → mW K Z p l e R s m args below meth c QQ dC dI aC A n0 ad0 xa nL (σ, ce, sl, pc, lsC, .int y :: .long x :: t)) (k : ∀ S ∈ L, ∀ (B : Int) (ρ : List Int) (g : m_G), g_ok T fv ρ0 σ0 md B ρ S g → mW K Z p l e R s m args below meth c QQ dC dI aC A n0 ad0 xa nL g) : mW K Z p l e R s m args below meth c QQ dC dI aC A n0 ad0 xa nL (σ, ce, sl, pc, lsC, stC) := by
  unfold st_lsh at hs
  split at hs
  · rename_i b a r
    cases hc : a_isL a && a_isI b
    · rw [hc] at hs; cases hs
    · rw [hc] at hs
      obtain ⟨ia, ib⟩ := Bool.and_eq_true _ _ |>.mp hc
      obtain ⟨y, t1, e1, hb, ht1⟩ := s_int hg.s ib
      obtain ⟨x, t, e2, ha, ht⟩ := s_long ht1 ia
      subst e1
      subst e2
      cases hs
      obtain ⟨ρ', g1, g2, g3, g4⟩ := a_mkL_ok hg.e (g x y) (i64_rng _)
      exact row x y t (k _ List.mem_cons_self B ρ' _ (g_putL hg g1 g2 g3 g4 ht (sv_tl (sv_tl hg.sv))))
  · cases hs
def st_lc (pc : Nat) (E : A_E) (F : A_F) (ls : List (Nat × A_V)) (st : List A_V) (ov : A_O) (bu ph : A_L) : Option (List A_S) := match st with
  | b :: a :: r => bif a_isL a && a_isL b then some (c_to (pc + 1) ls ((0, 0, -1) :: r) ov bu ph (c_le E F a b (-1)) ++ (c_to (pc + 1) ls ((0, 0, 0) :: r) ov bu ph (c_eq E F a b) ++ c_to (pc + 1) ls ((0, 0, 1) :: r) ov bu ph (c_le E F b a (-1)))) else none
  | _ => none
theorem st_lc_ok (hC : m_Ctx p s m args meth c cc nL own dC dI aC A xa X Y) (hg : g_ok T fv ρ0 σ0 md B ρ (pc, E, F, ls, st, ov, bu, ph) (σ, ce, sl, pc, lsC, stC)) (hd : z_dx K cc pc (.lcmp) 1 aux) (hs : st_lc pc E F ls st ov bu ph = some L) (k : ∀ S ∈ L, ∀ (B : Int) (ρ : List Int) (g : m_G), g_ok T fv ρ0 σ0 md B ρ S g → mW K Z p l e R s m args below meth c QQ dC dI aC A n0 ad0 xa nL g) : mW K Z p l e R s m args below meth c QQ dC dI aC A n0 ad0 xa nL (σ, ce, sl, pc, lsC, stC) := by
  unfold st_lc at hs
  split at hs
  · rename_i b a r
    cases hc : a_isL a && a_isL b
    · rw [hc] at hs; cases hs
    · rw [hc] at hs
      cases hs
      obtain ⟨ia, ib⟩ := Bool.and_eq_true _ _ |>.mp hc
      obtain ⟨y, t1, e1, hb, ht1⟩ := s_long hg.s ib
      obtain ⟨x, t, e2, ha, ht⟩ := s_long ht1 ia
      subst e1
      subst e2
      have hv := sv_tl (sv_tl hg.sv)
      refine mW_lcmp hC hd ?_
      unfold lg_cmp
      by_cases h1 : x > y
      · rw [if_pos h1]
        have h1 : y.toInt < x.toInt := Int64.lt_iff_toInt_lt.mp h1
        exact st_to_ok hg (C := c_le E F b a (-1)) (c_le_ok hg.e hg.f hb ha (by omega)) (sa := (0, 0, 1) :: r) ⟨⟨1, rfl, rfl⟩, ht⟩ (sv_cons trivial hv) (fun S hS => List.mem_append_right _ (List.mem_append_right _ hS)) k
      · rw [if_neg h1]
        have h1 : ¬ y.toInt < x.toInt := fun z => h1 (Int64.lt_iff_toInt_lt.mpr z)
        by_cases h2 : x = y
        · rw [if_pos h2]
          exact st_to_ok hg (C := c_eq E F a b) (c_eq_ok hg.e hg.f ha hb (by rw [h2])) (sa := (0, 0, 0) :: r) ⟨⟨0, rfl, rfl⟩, ht⟩ (sv_cons trivial hv) (fun S hS => List.mem_append_right _ (List.mem_append_left _ hS)) k
        · rw [if_neg h2]
          have h2 : ¬ x.toInt = y.toInt := fun z => h2 (Int64.toInt_inj.mp z)
          exact st_to_ok hg (C := c_le E F a b (-1)) (c_le_ok hg.e hg.f ha hb (by omega)) (sa := (0, 0, -1) :: r) ⟨⟨-1, rfl, rfl⟩, ht⟩ (sv_cons trivial hv) (fun S hS => List.mem_append_left _ hS) k
  · cases hs
def st_il (pc : Nat) (E : A_E) (F : A_F) (ls : List (Nat × A_V)) (st : List A_V) (ov : A_O) (bu ph : A_L) : Option (List A_S) := match st with
  | a :: r => bif a_isI a then some [(pc + 1, E, F, ls, (a.1 + 3, a.2.1, a.2.2) :: r, ov, bu, ph)] else none
  | _ => none
theorem st_il_ok (hC : m_Ctx p s m args meth c cc nL own dC dI aC A xa X Y) (hg : g_ok T fv ρ0 σ0 md B ρ (pc, E, F, ls, st, ov, bu, ph) (σ, ce, sl, pc, lsC, stC)) (hd : z_dx K cc pc (.i2l) 1 aux) (hs : st_il pc E F ls st ov bu ph = some L) (k : ∀ S ∈ L, ∀ (B : Int) (ρ : List Int) (g : m_G), g_ok T fv ρ0 σ0 md B ρ S g → mW K Z p l e R s m args below meth c QQ dC dI aC A n0 ad0 xa nL g) : mW K Z p l e R s m args below meth c QQ dC dI aC A n0 ad0 xa nL (σ, ce, sl, pc, lsC, stC) := by
  unfold st_il at hs
  split at hs
  · rename_i a r
    cases ia : a_isI a
    · rw [ia] at hs; cases hs
    · rw [ia] at hs
      cases hs
      obtain ⟨x, t, e1, ha, ht⟩ := s_int hg.s ia
      subst e1
      have hx : x.toInt64.toInt = x.toInt := Int32.toInt_toInt64 x
      refine mW_i2l hC hd (k _ List.mem_cons_self B ρ _ (g_putL hg r_ext.rf hg.e ?_ ?_ ht (sv_tl hg.sv)))
      · rw [hx, ← ha]
        obtain ⟨u, n, c⟩ := a
        rcases a_isI_cases ia with h | h <;> (simp only at h; subst h; rfl)
      · rcases a_isI_cases ia with h | h <;> (rw [h]; rfl)
  · cases hs
def st_li (pc : Nat) (E : A_E) (F : A_F) (ls : List (Nat × A_V)) (st : List A_V) (ov : A_O) (bu ph : A_L) : Option (List A_S) := match st with
  | a :: r => bif a_isL a then (bif i_le i_m (a_lo E F a) && i_le (a_hi E F a) i_M then some [(pc + 1, E, F, ls, (a.1 - 3, a.2.1, a.2.2) :: r, ov, bu, ph)] else some [s_put (pc + 1) (a_mkF E F i_m i_M) ls r ov bu ph]) else none
  | _ => none
theorem st_li_ok (hC : m_Ctx p s m args meth c cc nL own dC dI aC A xa X Y) (hg : g_ok T fv ρ0 σ0 md B ρ (pc, E, F, ls, st, ov, bu, ph) (σ, ce, sl, pc, lsC, stC)) (hd : z_dx K cc pc (.l2i) 1 aux) (hs : st_li pc E F ls st ov bu ph = some L) (k : ∀ S ∈ L, ∀ (B : Int) (ρ : List Int) (g : m_G), g_ok T fv ρ0 σ0 md B ρ S g → mW K Z p l e R s m args below meth c QQ dC dI aC A n0 ad0 xa nL g) : mW K Z p l e R s m args below meth c QQ dC dI aC A n0 ad0 xa nL (σ, ce, sl, pc, lsC, stC) := by
  unfold st_li at hs
  split at hs
  · rename_i a r
    cases ia : a_isL a
    · rw [ia] at hs; cases hs
    · rw [ia] at hs
      simp only [cond_true] at hs
      obtain ⟨x, t, e1, ha, ht⟩ := s_long hg.s ia
      subst e1
      cases hz : i_le i_m (a_lo E F a) && i_le (a_hi E F a) i_M
      · rw [hz] at hs
        cases hs
        obtain ⟨ρ', hg'⟩ := g_put (pc' := pc + 1) hg (r_any hg.e hg.f x.toInt32) ht (sv_tl hg.sv)
        exact mW_l2i hC hd (k _ List.mem_cons_self _ _ _ hg')
      · rw [hz] at hs
        cases hs
        obtain ⟨b1, b2⟩ := Bool.and_eq_true _ _ |>.mp hz
        have b1 := i_le_iff.mp b1
        have b2 := i_le_iff.mp b2
        have u1 : a_lo E F a ≤ _ := a_lo_ok hg.e hg.f ha
        have u2 : _ ≤ a_hi E F a := a_hi_ok hg.e hg.f ha
        have hx : x.toInt32.toInt = x.toInt := by rw [Int64.toInt_toInt32]; exact i32_bm (by omega) (by omega)
        refine mW_l2i hC hd (k _ List.mem_cons_self B ρ _ (hg.to r_ext.rf hg.e hg.f hg.l hg.lv ⟨v_of_int ?_ ?_, ht⟩ (sv_cons trivial (sv_tl hg.sv)) hg.o))
        · rcases a_isL_cases ia with h | h <;> (rw [h]; rfl)
        · rw [hx, ← ha]
          obtain ⟨u, n, c⟩ := a
          rcases a_isL_cases ia with h | h <;> (simp only at h; subst h; rfl)
  · cases hs
/-- shuffles -/
def st_sh (i : Jvm.ClassFile.Instr) (pc : Nat) (E : A_E) (F : A_F) (ls : List (Nat × A_V)) (st : List A_V) (ov : A_O) (bu ph : A_L) : Option (List A_S) := match i, st with
  | .dup, a :: r => bif a_c1 a then some [(pc + 1, E, F, ls, a :: a :: r, ov, bu, ph)] else none
  | .pop, a :: r => bif a_c1 a then some [(pc + 1, E, F, ls, r, ov, bu, ph)] else none
  | .pop2, a :: r => bif a_isL a then some [(pc + 1, E, F, ls, r, ov, bu, ph)] else none
  | .dup_x1, a :: b :: r => bif a_c1 a && a_c1 b then some [(pc + 1, E, F, ls, a :: b :: a :: r, ov, bu, ph)] else none
  | .dup2, a :: r => bif a_isL a then some [(pc + 1, E, F, ls, a :: a :: r, ov, bu, ph)] else match r with
    | b :: r => bif a_c1 a && a_c1 b then some [(pc + 1, E, F, ls, a :: b :: a :: b :: r, ov, bu, ph)] else none
    | _ => none
  | _, _ => none
theorem st_sh_ok (hC : m_Ctx p s m args meth c cc nL own dC dI aC A xa X Y) (hg : g_ok T fv ρ0 σ0 md B ρ (pc, E, F, ls, st, ov, bu, ph) (σ, ce, sl, pc, lsC, stC)) {i : Jvm.ClassFile.Instr} (hd : z_dx K cc pc (i) 1 aux) (hs : st_sh i pc E F ls st ov bu ph = some L) (k : ∀ S ∈ L, ∀ (B : Int) (ρ : List Int) (g : m_G), g_ok T fv ρ0 σ0 md B ρ S g → mW K Z p l e R s m args below meth c QQ dC dI aC A n0 ad0 xa nL g) : mW K Z p l e R s m args below meth c QQ dC dI aC A n0 ad0 xa nL (σ, ce, sl, pc, lsC, stC) := by
  have push : ∀ {sa : List A_V} {sc : List Value}, L = [(pc + 1, E, F, ls, sa, ov, bu, ph)] → s_ok ρ sa sc → (∀ v ∈ sc, m_vOk h_N v) → mW K Z p l e R s m args below meth c QQ dC dI aC A n0 ad0 xa nL (σ, ce, sl, pc + 1, lsC, sc) := fun h1 h2 h3 => by
    subst h1
    exact k _ List.mem_cons_self B ρ _ (hg.to r_ext.rf hg.e hg.f hg.l hg.lv h2 h3 hg.o)
  unfold st_sh at hs
  split at hs
  · rename_i a r
    cases h : a_c1 a
    · rw [h] at hs; cases hs
    · rw [h] at hs
      obtain ⟨v, t, e1, h1, h2⟩ := s_one hg.s
      subst e1
      have hv := hg.sv
      exact mW_dup hC hd (v_cat1 h1 h) (push (Option.some.inj hs).symm ⟨h1, h1, h2⟩ (sv_cons (hv _ List.mem_cons_self) hv))
  · rename_i a r
    cases h : a_c1 a
    · rw [h] at hs; cases hs
    · rw [h] at hs
      obtain ⟨v, t, e1, h1, h2⟩ := s_one hg.s
      subst e1
      exact mW_pop hC hd (v_cat1 h1 h) (push (Option.some.inj hs).symm h2 (sv_tl hg.sv))
  · rename_i a r
    cases h : a_isL a
    · rw [h] at hs; cases hs
    · rw [h] at hs
      obtain ⟨v, t, e1, h1, h2⟩ := s_one hg.s
      subst e1
      exact mW_pop2w hC hd (v_cat2 h1 h) (push (Option.some.inj hs).symm h2 (sv_tl hg.sv))
  · rename_i a b r
    cases h : a_c1 a && a_c1 b
    · rw [h] at hs; cases hs
    · rw [h] at hs
      obtain ⟨ca, cb⟩ := Bool.and_eq_true _ _ |>.mp h
      obtain ⟨v, t, e1, h1, h2⟩ := s_one hg.s
      obtain ⟨u, t', e2, h3, h4⟩ := s_one h2
      subst e1
      subst e2
      have hv := hg.sv
      have m1 := hv _ List.mem_cons_self
      have m2 := sv_tl hv _ List.mem_cons_self
      exact mW_dup_x1 hC hd (v_cat1 h1 ca) (v_cat1 h3 cb) (push (Option.some.inj hs).symm ⟨h1, h3, h1, h4⟩ (sv_cons m1 (sv_cons m2 (sv_cons m1 (sv_tl (sv_tl hv))))))
  · rename_i a r
    cases h : a_isL a
    · rw [h] at hs
      simp only [cond_false] at hs
      split at hs
      · rename_i b r
        cases h : a_c1 a && a_c1 b
        · rw [h] at hs; cases hs
        · rw [h] at hs
          obtain ⟨ca, cb⟩ := Bool.and_eq_true _ _ |>.mp h
          obtain ⟨v, t, e1, h1, h2⟩ := s_one hg.s
          obtain ⟨u, t', e2, h3, h4⟩ := s_one h2
          subst e1
          subst e2
          have hv := hg.sv
          have m1 := hv _ List.mem_cons_self
          have m2 := sv_tl hv _ List.mem_cons_self
          exact mW_dup2 hC hd (v_cat1 h1 ca) (v_cat1 h3 cb) (push (Option.some.inj hs).symm ⟨h1, h3, h1, h3, h4⟩ (sv_cons m1 (sv_cons m2 hv)))
      · cases hs
    · rw [h] at hs
      obtain ⟨v, t, e1, h1, h2⟩ := s_one hg.s
      subst e1
      have hv := hg.sv
      exact mW_dup2w hC hd (v_cat2 h1 h) (push (Option.some.inj hs).symm ⟨h1, h1, h2⟩ (sv_cons (hv _ List.mem_cons_self) hv))
  · cases hs
/-- the top of the stack by each of its numbers; the place stays: only what is known becomes more -/
def v_nr (v : Nat) (c : Int) (a : A_V) : A_V := bif Nat.beq a.1 1 && Nat.beq a.2.1 v then (0, 0, c + a.2.2) else bif Nat.beq a.1 4 && Nat.beq a.2.1 v then (3, 0, c + a.2.2) else a
end JP
