/-! A METHOD READ from its start and from its cuts -/
def s_split (S : A_S) : Option (List A_S) := match S with
  | (pc, E, F, ls, a :: r, ov, bu, ph) => bif a_isI a then some ((List.range (a_hi E F a - a_lo E F a + 1).toNat).flatMap fun (j : Nat) => c_to pc ls ((0, 0, a_lo E F a + (j : Int)) :: r) ov bu ph (c_eq E F a (0, 0, a_lo E F a + (j : Int)))) else none
  | _ => none
theorem s_split_ok {T fv : Int} {ρ0 : List Int} {σ0 : m_H} {md : A_D} {B : Int} {ρ : List Int} {S : A_S} {g : m_G} {L : List A_S} (hg : g_ok T fv ρ0 σ0 md B ρ S g) (hs : s_split S = some L) : ∃ S' ∈ L, g_ok T fv ρ0 σ0 md B ρ S' g := by
  obtain ⟨pc, E, F, ls, st, ov, bu, ph⟩ := S
  obtain ⟨σ, ce, sl, pc', lsC, stC⟩ := g
  have hpc : pc' = pc := hg.pc
  subst hpc
  unfold s_split at hs
  split at hs
  · rename_i pc2 E2 F2 ls2 a r ov2 bu2 ph2 heq
    cases heq
    cases ia : a_isI a
    · rw [ia] at hs; cases hs
    · rw [ia] at hs
      cases hs
      obtain ⟨x, t, e1, ha, ht⟩ := s_int hg.s ia
      have e1 : stC = .int x :: t := e1
      subst e1
      have he : e_ok B E ρ := hg.e
      have hf : f_ok F ρ := hg.f
      have u1 := a_lo_ok he hf ha
      have u2 := a_hi_ok he hf ha
      have hx : a_lo E F a + (((x.toInt - a_lo E F a).toNat : Nat) : Int) = x.toInt := by omega
      obtain ⟨q, q1, q2, q3⟩ := c_eq_ok he hf (b := (0, 0, a_lo E F a + (((x.toInt - a_lo E F a).toNat : Nat) : Int))) (y := a_lo E F a + (((x.toInt - a_lo E F a).toNat : Nat) : Int)) ha rfl hx.symm
      refine ⟨(pc', q.1, q.2, ls, (0, 0, a_lo E F a + (((x.toInt - a_lo E F a).toNat : Nat) : Int)) :: r, ov, bu, ph), ?_, hg.to r_ext.rf q2 q3 hg.l hg.lv ⟨⟨x, rfl, hx.symm⟩, ht⟩ hg.sv hg.o⟩
      exact List.mem_flatMap.mpr ⟨(x.toInt - a_lo E F a).toNat, List.mem_range.mpr (by omega), List.mem_map.mpr ⟨q, q1, rfl⟩⟩
  · cases hs
def a_nx (cs : Nat → List A_C) (md : A_D) (dp : A_L) (nL : Nat) (q : a_K) (S : A_S) : Option (List A_S) := match S with
  | (pc, E, F, ls, st, ov, bu, ph) => match q with
    | (_, i, n, fl, aux) => match i, aux with
      | .invokevirtual x, [_, y, _, ne] => bif Nat.beq n 3 then st_inv cs md dp (.invokevirtual x) y ne pc E F ls st ov bu ph else none
      | .invokestatic x, [_, y, _, ne] => bif Nat.beq n 3 then st_inv cs md dp (.invokestatic x) y ne pc E F ls st ov bu ph else none
      | .invokestatic _, [_, _] => bif Nat.beq n 3 then st_cpy md dp pc E F ls st ov bu ph else none
      | .invokestatic _, [kd, _, _] => bif Nat.beq n 3 then st_nat kd dp pc E F ls st ov bu ph else none
      | .invokevirtual _, [_, _, _] => bif Nat.beq n 3 then st_ix dp pc E F ls st ov bu ph else none
      | .ldc _, [_, _] => bif Nat.beq n 2 then some [(pc + 2, E, F, ls, (2, m_X0 + 2, 0) :: st, ov, bu, ph)] else none
      | i, aux => a_step nL md (Nat.ble 2 fl) i n aux pc E F ls st ov bu ph
def a_isRt : Jvm.ClassFile.Instr → Bool
  | .ireturn => true
  | .lreturn => true
  | .return_ => true
  | _ => false
def rt_ok (rt : Option FieldType) (E : A_E) (F : A_F) (a : A_V) : Bool := match rt with
  | some .int => a_isI a
  | some .boolean => a_isI a && (i_le 0 (a_lo E F a) && i_le (a_hi E F a) 1)
  | _ => false
def a_rt (nr : Nat) (alts : List A_A) (rt : Option FieldType) (i : Jvm.ClassFile.Instr) (n : Nat) (S : A_S) : Bool := match S with
  | (_, E, F, _, st, ov, _, _) => Nat.beq n 1 && (match i, st with
    | .return_, [] => decide (rt = none) && alts.any (c_ral nr E F ov none)
    | .ireturn, [a] => rt_ok rt E F a && alts.any (c_ral nr E F ov (some a))
    | .lreturn, [a] => a_isL a && (decide (rt = some .long) && alts.any (c_ral nr E F ov (some a)))
    | _, _ => false)
def a_go (cs : Nat → List A_C) (md : A_D) (dp : A_L) (nL nr : Nat) (alts : List A_A) (cuts : List A_S) (rt : Option FieldType) (code : List (List a_K)) : Nat → Nat → A_S → Bool
  | 0, _, _ => false
  | f + 1, 0, S => bif cuts.any (fun U => Nat.beq U.1 S.1) then cuts.any (c_arr nr S) else a_go cs md dp nL nr alts cuts rt code f 1 S
  | f + 1, 1, S => match k_get code S.1 with
    | none => false
    | some q => bif Nat.beq (q.2.2.2.1 % 2) 1 then (match s_split S with
      | some L => L.all (a_go cs md dp nL nr alts cuts rt code f 2)
      | none => false) else a_go cs md dp nL nr alts cuts rt code f 2 S
  | f + 1, _, S => match k_get code S.1 with
    | none => false
    | some q => bif a_isRt q.2.1 then a_rt nr alts rt q.2.1 q.2.2.1 S else (match a_nx cs md dp nL q S with
      | some L => L.all (a_go cs md dp nL nr alts cuts rt code f 0)
      | none => false)
theorem a_go_0 {cs : Nat → List A_C} {md : A_D} {dp : A_L} {nL nr : Nat} {alts : List A_A} {cuts : List A_S} {rt : Option FieldType} {code : List (List a_K)} {f : Nat} {S : A_S} : a_go cs md dp nL nr alts cuts rt code (f + 1) 0 S = (bif cuts.any (fun U => Nat.beq U.1 S.1) then cuts.any (c_arr nr S) else a_go cs md dp nL nr alts cuts rt code f 1 S) := rfl
theorem a_go_1 {cs : Nat → List A_C} {md : A_D} {dp : A_L} {nL nr : Nat} {alts : List A_A} {cuts : List A_S} {rt : Option FieldType} {code : List (List a_K)} {f : Nat} {S : A_S} : a_go cs md dp nL nr alts cuts rt code (f + 1) 1 S = (match k_get code S.1 with
    | none => false
    | some q => bif Nat.beq (q.2.2.2.1 % 2) 1 then (match s_split S with
      | some L => L.all (a_go cs md dp nL nr alts cuts rt code f 2)
      | none => false) else a_go cs md dp nL nr alts cuts rt code f 2 S) := rfl
theorem a_go_2 {cs : Nat → List A_C} {md : A_D} {dp : A_L} {nL nr : Nat} {alts : List A_A} {cuts : List A_S} {rt : Option FieldType} {code : List (List a_K)} {f j : Nat} {S : A_S} : a_go cs md dp nL nr alts cuts rt code (f + 1) (j + 2) S = (match k_get code S.1 with
    | none => false
    | some q => bif a_isRt q.2.1 then a_rt nr alts rt q.2.1 q.2.2.1 S else (match a_nx cs md dp nL q S with
      | some L => L.all (a_go cs md dp nL nr alts cuts rt code f 0)
      | none => false)) := rfl
/-- the instructions' words, the calls' among them -/
def k_ok (own : String) (cc : ByteArray) (q : a_K) : Prop := decode cc q.1 = .ok (q.2.1, q.2.2.1) ∧ k_wd own q.2.1 q.2.2.2.2 ∧ (∀ (x j y w ne : Nat), (q.2.1 = .invokevirtual x ∨ q.2.1 = .invokestatic x) → q.2.2.2.2 = [j, y, w, ne] → k_lk own x y ne) ∧ (∀ (x a b : Nat), q.2.1 = .invokestatic x → q.2.2.2.2 = [a, b] → k_cw own x) ∧ (∀ (x kd a b : Nat), q.2.1 = .invokestatic x → q.2.2.2.2 = [kd, a, b] → k_nw own x kd) ∧ (∀ (x a b w : Nat), q.2.1 = .invokevirtual x → q.2.2.2.2 = [a, b, w] → k_iw own x) ∧ ∀ (x a b : Nat), q.2.1 = .ldc x → q.2.2.2.2 = [a, b] → own = "LetByTheDegree$RuleReader" ∧ x = 80
def kx_ok (K : List (List a_K)) (own : String) (cc : ByteArray) (q : a_K) : Prop := z_dx K cc q.1 q.2.1 q.2.2.1 q.2.2.2.2 ∧ k_wd own q.2.1 q.2.2.2.2 ∧ (∀ (x j y w ne : Nat), (q.2.1 = .invokevirtual x ∨ q.2.1 = .invokestatic x) → q.2.2.2.2 = [j, y, w, ne] → k_lk own x y ne) ∧ (∀ (x a b : Nat), q.2.1 = .invokestatic x → q.2.2.2.2 = [a, b] → k_cw own x) ∧ (∀ (x kd a b : Nat), q.2.1 = .invokestatic x → q.2.2.2.2 = [kd, a, b] → k_nw own x kd) ∧ (∀ (x a b w : Nat), q.2.1 = .invokevirtual x → q.2.2.2.2 = [a, b, w] → k_iw own x) ∧ ∀ (x a b : Nat), q.2.1 = .ldc x → q.2.2.2.2 = [a, b] → own = "LetByTheDegree$RuleReader" ∧ x = 80
section GG
variable {p : Program} {l : Launch} {e : Env} {R : Room} {s : State} {m : MethodId} {args : Array Value} {below : List Frame} {meth : Method} {c : Code} {dC : Nat → ClassId} {dI : Nat → Nat → Nat} {aC : Nat → ClassId} {ad0 xa : Nat → Nat} {nL : Nat} {cc : ByteArray} {own : String} {X : Nat → Option (List Int32)} {Y : (Nat → Prop) → State → Heap → Prop}
variable {Z : z_G → z_Q → Prop} {T fv : Int} {ρ0 : List Int} {σ0 : m_H} {md : A_D} {sz nr : Nat} {alts : List A_A} {cuts : List A_S} {code : List (List a_K)} {cs : Nat → List A_C} {dp : A_L} {dc : Nat} {dv : Int}
theorem a_rt_ok {σc : m_H} {Q : Option Value → m_H → Prop} (hT : T ≤ 1073741824) (hQ : ∀ r σ', c_post alts md T ρ0 σ0 r σ' → Q r σ') (hC : m_Ctx p s m args meth c cc nL own dC dI aC (va_A (m_W ad0 aC σc) sz) xa X Y) {B : Int} {ρ : List Int} {S : A_S} {g : m_G} {i : Jvm.ClassFile.Instr} {n : Nat} {aux : List Nat} (hg : g_ok T fv ρ0 σ0 md B ρ S g) (hl : ρ0.length = nr) (hd : z_dx code cc S.1 i n aux) (h : a_rt nr alts meth.sig.returnType i n S = true) :
    mW code Z p l e R s m args below meth c (m_QZ below dC dI aC xa ad0 sz σc Q args s 0 0 (va_A (m_W ad0 aC σc) sz)) dC dI aC (va_A (m_W ad0 aC σc) sz) σc.length ad0 xa nL g := by
  obtain ⟨pc, E, F, ls, st, ov, bu, ph⟩ := S
  obtain ⟨σ, ce, sl, pc', lsC, stC⟩ := g
  have hpc : pc' = pc := hg.pc
  have hce : ce = 0 := hg.ce
  have hsl : sl = 0 := hg.sl
  subst hpc; subst hce; subst hsl
  unfold a_rt at h
  simp only at h hd
  obtain ⟨h1, h2⟩ := Bool.and_eq_true _ _ |>.mp h
  clear h
  have hn := Nat.eq_of_beq_eq_true h1
  clear h1
  subst hn
  split at h2
  · obtain ⟨h3, h4⟩ := Bool.and_eq_true _ _ |>.mp h2
    have hs := hg.s
    cases stC with
    | cons v t => exact absurd hs id
    | nil => exact mW_vret hC hd (of_decide_eq_true h3) (hQ _ _ (c_ral_ok hT hg hl (ra := none) (r := none) trivial h4)) (Nat.le_refl _) (Nat.le_refl _)
  · rename_i a
    obtain ⟨h3, h4⟩ := Bool.and_eq_true _ _ |>.mp h2
    have hrt : ∃ (ty : FieldType), meth.sig.returnType = some ty ∧ a_isI a = true ∧ (ty = .int ∨ (ty = .boolean ∧ 0 ≤ a_lo E F a ∧ a_hi E F a ≤ 1)) := by
      unfold rt_ok at h3
      split at h3
      · rename_i hq; exact ⟨_, hq, h3, Or.inl rfl⟩
      · rename_i hq
        obtain ⟨k1, k2⟩ := Bool.and_eq_true _ _ |>.mp h3
        obtain ⟨k2, k3⟩ := Bool.and_eq_true _ _ |>.mp k2
        exact ⟨_, hq, k1, Or.inr ⟨rfl, i_le_iff.mp k2, i_le_iff.mp k3⟩⟩
      · cases h3
    obtain ⟨ty, r1, r2, r3⟩ := hrt
    obtain ⟨x, t, e1, ha, ht⟩ := s_int hg.s r2
    have e1 : stC = .int x :: t := e1
    subst e1
    cases t with
    | cons v t => exact absurd ht id
    | nil =>
      refine mW_iret hC (ty := ty) hd r1 ?_ (hQ _ _ (c_ral_ok hT hg hl (ra := some a) (r := some (.int x)) (v_of_int r2 ha) h4)) (Nat.le_refl _) (Nat.le_refl _)
      rcases r3 with rfl | ⟨rfl, r4, r5⟩
      · rfl
      · have u1 : a_lo E F a ≤ x.toInt := a_lo_ok hg.e hg.f ha
        have u2 : x.toInt ≤ a_hi E F a := a_hi_ok hg.e hg.f ha
        rcases bool01 (x := x) (by omega) (by omega) with rfl | rfl <;> rfl
  · rename_i a
    obtain ⟨h3, h4⟩ := Bool.and_eq_true _ _ |>.mp h2
    obtain ⟨h5, h6⟩ := Bool.and_eq_true _ _ |>.mp h4
    obtain ⟨x, t, e1, ha, ht⟩ := s_long hg.s h3
    have e1 : stC = .long x :: t := e1
    subst e1
    cases t with
    | cons v t => exact absurd ht id
    | nil => exact mW_lret hC hd (of_decide_eq_true h5) (hQ _ _ (c_ral_ok hT hg hl (ra := some a) (r := some (.long x)) (v_of_long h3 ha) h6)) (Nat.le_refl _) (Nat.le_refl _)
  · cases h2
theorem a_go_ok {QQ : z_Q → State → Prop} {A : Nat → Prop} {n0 : Nat} (hC : m_Ctx p s m args meth c cc nL own dC dI aC A xa X Y) (hY : m_Yok Y) (hYS : ∀ A U H, Y A U H → y_str xa A U H) (hIx : ix_K l X Y xa) (hX : ∀ i, i < 2 → X i = some ((x_tab i).map Int32.ofInt)) (hT : T ≤ 1073741824) (hl : ρ0.length = nr) (hn0 : n0 ≤ h_N)
    (hk : ∀ r ∈ code, ∀ q ∈ r, k_ok own cc q) (hcy : ∀ y, ∀ C ∈ cs y, C.1 = y) (hcs : ∀ d, dc = d + 1 → ∀ y, ∀ C ∈ cs y, c_sem l X Y xa d C) (hdp : l_ev ρ0 dp = some dv) (hdv : dv ≤ (dc : Int)) (hR0 : dc ≤ R.frames ∧ 40 * dc ≤ R.locals)
    (hret : ∀ (B : Int) (ρ : List Int) (S : A_S) (g : m_G) (i : Jvm.ClassFile.Instr) (n : Nat) (aux : List Nat), g_ok T fv ρ0 σ0 md B ρ S g → z_dx code cc S.1 i n aux → a_rt nr alts meth.sig.returnType i n S = true → mW code Z p l e R s m args below meth c QQ dC dI aC A n0 ad0 xa nL g)
    (hcut : ∀ U ∈ cuts, ∀ (fv' B : Int) (ρ : List Int) (g : m_G), fv' < fv → 0 ≤ fv' → g_ok T fv' ρ0 σ0 md B ρ U g → mW code Z p l e R s m args below meth c QQ dC dI aC A n0 ad0 xa nL g) :
    ∀ (f mode : Nat) (S : A_S), a_go cs md dp nL nr alts cuts meth.sig.returnType code f mode S = true → ∀ (B : Int) (ρ : List Int) (g : m_G), g_ok T fv ρ0 σ0 md B ρ S g → mW code Z p l e R s m args below meth c QQ dC dI aC A n0 ad0 xa nL g := by
  intro f
  induction f with
  | zero => intro mode S h; unfold a_go at h; cases h
  | succ f ih =>
    intro mode S h B ρ g hg
    rcases (show mode = 0 ∨ mode = 1 ∨ ∃ j, mode = j + 2 from by
      match mode with
      | 0 => exact Or.inl rfl
      | 1 => exact Or.inr (Or.inl rfl)
      | j + 2 => exact Or.inr (Or.inr ⟨j, rfl⟩)) with rfl | rfl | ⟨j0, rfl⟩
    · rw [a_go_0] at h
      cases hb : cuts.any (fun U => Nat.beq U.1 S.1)
      · rw [hb] at h
        exact ih 1 S h B ρ g hg
      · rw [hb] at h
        obtain ⟨U, hU, hA⟩ := List.any_eq_true.mp h
        obtain ⟨fv', ρ', g1, g2, g3⟩ := c_arr_ok hT hg hl hA
        exact hcut U hU fv' B ρ' g g2 g3 g1
    · rw [a_go_1] at h
      split at h
      · cases h
      · rename_i q hq
        cases hb : Nat.beq (q.2.2.2.1 % 2) 1
        · rw [hb] at h
          exact ih 2 S h B ρ g hg
        · rw [hb] at h
          simp only [cond_true] at h
          split at h
          · rename_i L hL
            obtain ⟨S', h1, h2⟩ := s_split_ok hg hL
            exact ih 2 S' (List.all_eq_true.mp h S' h1) B ρ g h2
          · cases h
    · rw [a_go_2] at h
      split at h
      · cases h
      · rename_i q hq
        obtain ⟨⟨r, r1, r2⟩, hpc⟩ := k_get_in hq
        obtain ⟨k1, k2, k3, k4, k5, k6, k7⟩ := hk r r1 q r2
        rw [hpc] at k1
        cases hb : a_isRt q.2.1
        · rw [hb] at h
          simp only [cond_false] at h
          split at h
          · rename_i L hL
            have kk : ∀ S ∈ L, ∀ (B : Int) (ρ : List Int) (g : m_G), g_ok T fv ρ0 σ0 md B ρ S g → mW code Z p l e R s m args below meth c QQ dC dI aC A n0 ad0 xa nL g := fun S' hS' B' ρ' g' hg' => ih 0 S' (List.all_eq_true.mp h S' hS') B' ρ' g' hg'
            obtain ⟨pc, E, F, ls, st, ov, bu, ph⟩ := S
            obtain ⟨σ, ce, sl, pc', lsC, stC⟩ := g
            have hpc2 : pc' = pc := hg.pc
            subst hpc2
            obtain ⟨q0, i, n, fl, aux⟩ := q
            have hpc : q0 = pc' := hpc
            subst hpc
            have kdx : z_dx code cc q0 i n aux := ⟨k1, fl, hq⟩
            unfold a_nx at hL
            simp only at hL k1 k2 k3 k4 k5 k6 k7
            split at hL
            · rename_i x j y w ne
              cases hn : Nat.beq n 3
              · rw [hn] at hL; cases hL
              · rw [hn] at hL
                have hn := Nat.eq_of_beq_eq_true hn
                subst hn
                exact st_inv_ok hC hY hT (Or.inl rfl) hg kdx (k3 x j y w ne (Or.inl rfl) rfl) (hcy y) (fun d hd => hcs d hd y) hdp hdv hR0 hn0 hL kk
            · rename_i x j y w ne
              cases hn : Nat.beq n 3
              · rw [hn] at hL; cases hL
              · rw [hn] at hL
                have hn := Nat.eq_of_beq_eq_true hn
                subst hn
                exact st_inv_ok hC hY hT (Or.inr rfl) hg kdx (k3 x j y w ne (Or.inr rfl) rfl) (hcy y) (fun d hd => hcs d hd y) hdp hdv hR0 hn0 hL kk
            · rename_i x a b
              cases hn : Nat.beq n 3
              · rw [hn] at hL; cases hL
              · rw [hn] at hL
                have hn := Nat.eq_of_beq_eq_true hn
                subst hn
                exact st_cpy_ok hC hg kdx (k4 x a b rfl rfl) hdp hdv hR0 hL kk
            · rename_i x kd a b
              cases hn : Nat.beq n 3
              · rw [hn] at hL; cases hL
              · rw [hn] at hL
                have hn := Nat.eq_of_beq_eq_true hn
                subst hn
                exact st_nat_ok hC hg kdx (k5 x kd a b rfl rfl) hdp hdv hR0 hL kk
            · rename_i x a b w
              cases hn : Nat.beq n 3
              · rw [hn] at hL; cases hL
              · rw [hn] at hL
                have hn := Nat.eq_of_beq_eq_true hn
                subst hn
                exact st_ix_ok hC hY hYS hIx hg kdx (k6 x a b w rfl rfl) hdp hdv hR0 hn0 hL kk
            · rename_i x a b
              cases hn : Nat.beq n 2
              · rw [hn] at hL; cases hL
              · rw [hn] at hL
                have hn := Nat.eq_of_beq_eq_true hn
                subst hn
                cases hL
                obtain ⟨hown, hx⟩ := k7 x a b rfl rfl
                subst hown
                subst hx
                refine mW_ldcs hC (hYS _ _ _ hC.2.2.2.2.2.2.2.1.2.2.2.2).1 kdx (kk _ List.mem_cons_self B ρ _ (hg.to (st' := (2, m_X0 + 2, 0) :: st) r_ext.rf hg.e hg.f hg.l hg.lv ⟨rfl, hg.s⟩ (fun v hv => ?_) hg.o))
                rcases List.mem_cons.mp hv with rfl | hv
                · exact Or.inr (Nat.le_add_right _ _)
                · exact hg.sv v hv
            · exact a_step_ok hC hX hT hg kdx k2 hL kk
          · cases h
        · rw [hb] at h
          have kdx : z_dx code cc S.1 q.2.1 q.2.2.1 q.2.2.2.2 := ⟨k1, q.2.2.2.1, by rw [hq, ← hpc]⟩
          exact hret B ρ S g _ _ _ hg kdx h
end GG
