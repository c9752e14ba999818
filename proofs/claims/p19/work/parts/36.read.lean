/-! THE READER, one instruction more: the law reads its script -/
section GB
variable {p : Program} {l : Launch} {e : Env} {R : Room} {s : State} {m : MethodId} {args : Array Value} {below : List Frame} {meth : Method} {c : Code} {dC : Nat → ClassId} {dI : Nat → Nat → Nat} {aC : Nat → ClassId} {ad0 xa : Nat → Nat} {nL : Nat} {cc : ByteArray} {own : String} {X : Nat → Option (List Int32)} {Y : (Nat → Prop) → State → Heap → Prop}
variable {Z : z_G → z_Q → Prop} {T fv : Int} {ρ0 : List Int} {σ0 : m_H} {md : A_D} {sz nr : Nat} {alts : List A_A} {cuts : List A_S} {code : List (List a_K)} {cs : Nat → List A_C} {dp : A_L} {dc : Nat} {dv : Int}
theorem a_nx_ok {QQ : z_Q → State → Prop} {A : Nat → Prop} {n0 : Nat} (hC : m_Ctx p s m args meth c cc nL own dC dI aC A xa X Y) (hY : m_Yok Y) (hYS : ∀ A U H, Y A U H → y_str xa A U H) (hIx : ix_K l X Y xa) (hX : ∀ i, i < 2 → X i = some ((x_tab i).map Int32.ofInt)) (hT : T ≤ 1073741824) (hn0 : n0 ≤ h_N) (hcy : ∀ y, ∀ C ∈ cs y, C.1 = y) (hcs : ∀ d, dc = d + 1 → ∀ y, ∀ C ∈ cs y, c_sem l X Y xa d C) (hdp : l_ev ρ0 dp = some dv) (hdv : dv ≤ (dc : Int)) (hR0 : dc ≤ R.frames ∧ 40 * dc ≤ R.locals)
    {q : a_K} {S : A_S} {g : m_G} {L : List A_S} {B : Int} {ρ : List Int} (hq : k_ok own cc q) (hpc : q.1 = S.1) (hkq : k_get code S.1 = some q) (hg : g_ok T fv ρ0 σ0 md B ρ S g) (hL : a_nx cs md dp nL q S = some L) (kk : ∀ S ∈ L, ∀ (B : Int) (ρ : List Int) (g : m_G), g_ok T fv ρ0 σ0 md B ρ S g → mW code Z p l e R s m args below meth c QQ dC dI aC A n0 ad0 xa nL g) : mW code Z p l e R s m args below meth c QQ dC dI aC A n0 ad0 xa nL g := by
  obtain ⟨k1, k2, k3, k4, k5, k6, k7⟩ := hq
  rw [hpc] at k1
  obtain ⟨pc, E, F, ls, st, ov, bu, ph⟩ := S
  obtain ⟨σ, ce, sl, pc', lsC, stC⟩ := g
  have hpc2 : pc' = pc := hg.pc
  subst hpc2
  obtain ⟨q0, i, n, fl, aux⟩ := q
  have hpc : q0 = pc' := hpc
  subst hpc
  have kdx : z_dx code cc q0 i n aux := ⟨k1, fl, hkq⟩
  unfold a_nx at hL
  simp only at hL k1 k2 k3 k4 k5 k6 k7
  split at hL
  · rename_i x j y w ne
    cases hn : Nat.beq n 3
    · rw [hn] at hL; cases hL
    · rw [hn] at hL
      have hn := Nat.eq_of_beq_eq_true hn
      subst hn
      exact st_inv_ok hC hY hT (Or.inl rfl) hg kdx (k3 x j y w ne (Or.inl rfl) rfl) (hcy y) (fun d hd => hcs d hd y) hdp hdv hR0 hn0 hL kk
  · rename_i x j y w ne
    cases hn : Nat.beq n 3
    · rw [hn] at hL; cases hL
    · rw [hn] at hL
      have hn := Nat.eq_of_beq_eq_true hn
      subst hn
      exact st_inv_ok hC hY hT (Or.inr rfl) hg kdx (k3 x j y w ne (Or.inr rfl) rfl) (hcy y) (fun d hd => hcs d hd y) hdp hdv hR0 hn0 hL kk
  · rename_i x a b
    cases hn : Nat.beq n 3
    · rw [hn] at hL; cases hL
    · rw [hn] at hL
      have hn := Nat.eq_of_beq_eq_true hn
      subst hn
      exact st_cpy_ok hC hg kdx (k4 x a b rfl rfl) hdp hdv hR0 hL kk
  · rename_i x kd a b
    cases hn : Nat.beq n 3
    · rw [hn] at hL; cases hL
    · rw [hn] at hL
      have hn := Nat.eq_of_beq_eq_true hn
      subst hn
      exact st_nat_ok hC hg kdx (k5 x kd a b rfl rfl) hdp hdv hR0 hL kk
  · rename_i x a b w
    cases hn : Nat.beq n 3
    · rw [hn] at hL; cases hL
    · rw [hn] at hL
      have hn := Nat.eq_of_beq_eq_true hn
      subst hn
      exact st_ix_ok hC hY hYS hIx hg kdx (k6 x a b w rfl rfl) hdp hdv hR0 hn0 hL kk
  · rename_i x a b
    cases hn : Nat.beq n 2
    · rw [hn] at hL; cases hL
    · rw [hn] at hL
      have hn := Nat.eq_of_beq_eq_true hn
      subst hn
      cases hL
      obtain ⟨hown, hx⟩ := k7 x a b rfl rfl
      subst hown
      subst hx
      refine mW_ldcs hC (hYS _ _ _ hC.2.2.2.2.2.2.2.1.2.2.2.2).1 kdx (kk _ List.mem_cons_self B ρ _ (hg.to (st' := (2, m_X0 + 2, 0) :: st) r_ext.rf hg.e hg.f hg.l hg.lv ⟨rfl, hg.s⟩ (fun v hv => ?_) hg.o))
      rcases List.mem_cons.mp hv with rfl | hv
      · exact Or.inr (Nat.le_add_right _ _)
      · exact hg.sv v hv
  · exact a_step_ok hC hX hT hg kdx k2 hL kk
/-- the law's row of numbers: five from where it stands, the variables 1 .. 5 -/
def b_rd (pc n : Nat) (E : A_E) (F : A_F) (ls : List (Nat × A_V)) (st : List A_V) (ov : A_O) (bu ph : A_L) : Option (List A_S) := match st with
  | b :: a :: r => bif Nat.beq n 1 && (Nat.beq b.1 1 && (Nat.beq b.2.1 0 && (i_le 0 b.2.2 && (i_le b.2.2 4 && (Nat.beq a.1 2 && Nat.beq a.2.1 (m_X0 + 3)))))) then some [(pc + 1, E, F, ls, (1, b.2.2.toNat + 1, 0) :: r, ov, bu, ph)] else none
  | _ => none
def b_isRd (q : a_K) : Bool := match q.2.1, q.2.2.2.2 with
  | .iaload, [77] => true
  | _, _ => false
def b_nx (cs : Nat → List A_C) (md : A_D) (dp : A_L) (nL : Nat) (q : a_K) (S : A_S) : Option (List A_S) := bif b_isRd q then (match S with
  | (pc, E, F, ls, st, ov, bu, ph) => b_rd pc q.2.2.1 E F ls st ov bu ph) else a_nx cs md dp nL q S
theorem b_rd_ok {QQ : z_Q → State → Prop} {A : Nat → Prop} {n0 : Nat} (hC : m_Ctx p s m args meth c cc nL own dC dI aC A xa X Y) {Ls : List Int32} (hX3 : X 3 = some Ls) {i0 : Int} (hi : ρ0[0]? = some i0) (hi0 : 0 ≤ i0) (hi5 : i0 + 5 ≤ Ls.length) (hsc : ∀ c : Nat, c ≤ 4 → ρ0[c + 1]? = some (Ls.getD (i0.toNat + c) 0).toInt) {pc n : Nat} {E : A_E} {F : A_F} {ls : List (Nat × A_V)} {st : List A_V} {ov : A_O} {bu ph : A_L} {L : List A_S} {g : m_G} {B : Int} {ρ : List Int} {aux : List Nat} (hZT : ∀ g r, Z g r) (hd : z_dx code cc pc .iaload n aux) (hg : g_ok T fv ρ0 σ0 md B ρ (pc, E, F, ls, st, ov, bu, ph) g) (hL : b_rd pc n E F ls st ov bu ph = some L) (kk : ∀ S ∈ L, ∀ (B : Int) (ρ : List Int) (g : m_G), g_ok T fv ρ0 σ0 md B ρ S g → mW code Z p l e R s m args below meth c QQ dC dI aC A n0 ad0 xa nL g) : mW code Z p l e R s m args below meth c QQ dC dI aC A n0 ad0 xa nL g := by
  obtain ⟨σ, ce, sl, pc', lsC, stC⟩ := g
  have hpc2 : pc' = pc := hg.pc
  subst hpc2
  unfold b_rd at hL
  split at hL
  · rename_i b a r
    cases hc : Nat.beq n 1 && (Nat.beq b.1 1 && (Nat.beq b.2.1 0 && (i_le 0 b.2.2 && (i_le b.2.2 4 && (Nat.beq a.1 2 && Nat.beq a.2.1 (m_X0 + 3))))))
    · rw [hc] at hL; cases hL
    · rw [hc] at hL
      cases hL
      obtain ⟨c1, hc⟩ := Bool.and_eq_true _ _ |>.mp hc
      obtain ⟨c2, hc⟩ := Bool.and_eq_true _ _ |>.mp hc
      obtain ⟨c3, hc⟩ := Bool.and_eq_true _ _ |>.mp hc
      obtain ⟨c4, hc⟩ := Bool.and_eq_true _ _ |>.mp hc
      obtain ⟨c5, hc⟩ := Bool.and_eq_true _ _ |>.mp hc
      obtain ⟨c6, c7⟩ := Bool.and_eq_true _ _ |>.mp hc
      have e1 := Nat.eq_of_beq_eq_true c1
      have e2 := Nat.eq_of_beq_eq_true c2
      have e3 := Nat.eq_of_beq_eq_true c3
      have e4 := i_le_iff.mp c4
      have e5 := i_le_iff.mp c5
      have e6 := Nat.eq_of_beq_eq_true c6
      have e7 := Nat.eq_of_beq_eq_true c7
      obtain ⟨bt, bv, bk⟩ := b
      obtain ⟨at_, av, ak⟩ := a
      simp only at e2 e3 e4 e5 e6 e7
      clear c1 c2 c3 c4 c5 c6 c7
      subst e1; subst e2; subst e3; subst e6; subst e7
      have hs := hg.s
      cases stC with
      | nil => exact absurd hs id
      | cons v1 t1 =>
      obtain ⟨hv1, hs⟩ := hs
      cases t1 with
      | nil => exact absurd hs id
      | cons v2 t2 =>
      obtain ⟨hv2, hs⟩ := hs
      obtain ⟨x, r0, rfl, hr0, hx⟩ := v_var hv1
      have hv2 : v2 = .ref (m_X0 + 3) := hv2
      subst hv2
      have e0 : r0 = i0 := Option.some.inj (hr0.symm.trans (hg.x0 0 i0 hi))
      have ex : x.toNatClampNeg = i0.toNat + bk.toNat := by
        show x.toInt.toNat = _
        omega
      have hy := hg.x0 _ _ (hsc bk.toNat (by omega))
      refine mW_xaload hC hd hX3 (vp_in_iff.mpr ⟨by omega, by omega⟩) (Or.inr hZT) ?_
      rw [ex]
      refine kk _ List.mem_cons_self B ρ _ ?_
      exact hg.to (st' := (1, bk.toNat + 1, 0) :: r) r_ext.rf hg.e hg.f hg.l hg.lv ⟨v_mk0 hy rfl, hs⟩ (fun v hv => by
        rcases List.mem_cons.mp hv with rfl | hv
        · trivial
        · exact hg.sv v (List.mem_cons_of_mem _ (List.mem_cons_of_mem _ hv))) hg.o
  · cases hL
def b_go (cs : Nat → List A_C) (md : A_D) (dp : A_L) (nL nr : Nat) (alts : List A_A) (cuts : List A_S) (rt : Option FieldType) (code : List (List a_K)) : Nat → Nat → A_S → Bool
  | 0, _, _ => false
  | f + 1, 0, S => bif cuts.any (fun U => Nat.beq U.1 S.1) then cuts.any (c_arr nr S) else b_go cs md dp nL nr alts cuts rt code f 1 S
  | f + 1, 1, S => match k_get code S.1 with
    | none => false
    | some q => bif Nat.beq (q.2.2.2.1 % 2) 1 then (match s_split S with
      | some L => L.all (b_go cs md dp nL nr alts cuts rt code f 2)
      | none => false) else b_go cs md dp nL nr alts cuts rt code f 2 S
  | f + 1, _, S => match k_get code S.1 with
    | none => false
    | some q => bif a_isRt q.2.1 then a_rt nr alts rt q.2.1 q.2.2.1 S else (match b_nx cs md dp nL q S with
      | some L => L.all (b_go cs md dp nL nr alts cuts rt code f 0)
      | none => false)
theorem b_go_0 {cs : Nat → List A_C} {md : A_D} {dp : A_L} {nL nr : Nat} {alts : List A_A} {cuts : List A_S} {rt : Option FieldType} {code : List (List a_K)} {f : Nat} {S : A_S} : b_go cs md dp nL nr alts cuts rt code (f + 1) 0 S = (bif cuts.any (fun U => Nat.beq U.1 S.1) then cuts.any (c_arr nr S) else b_go cs md dp nL nr alts cuts rt code f 1 S) := rfl
theorem b_go_1 {cs : Nat → List A_C} {md : A_D} {dp : A_L} {nL nr : Nat} {alts : List A_A} {cuts : List A_S} {rt : Option FieldType} {code : List (List a_K)} {f : Nat} {S : A_S} : b_go cs md dp nL nr alts cuts rt code (f + 1) 1 S = (match k_get code S.1 with
    | none => false
    | some q => bif Nat.beq (q.2.2.2.1 % 2) 1 then (match s_split S with
      | some L => L.all (b_go cs md dp nL nr alts cuts rt code f 2)
      | none => false) else b_go cs md dp nL nr alts cuts rt code f 2 S) := rfl
theorem b_go_2 {cs : Nat → List A_C} {md : A_D} {dp : A_L} {nL nr : Nat} {alts : List A_A} {cuts : List A_S} {rt : Option FieldType} {code : List (List a_K)} {f j : Nat} {S : A_S} : b_go cs md dp nL nr alts cuts rt code (f + 1) (j + 2) S = (match k_get code S.1 with
    | none => false
    | some q => bif a_isRt q.2.1 then a_rt nr alts rt q.2.1 q.2.2.1 S else (match b_nx cs md dp nL q S with
      | some L => L.all (b_go cs md dp nL nr alts cuts rt code f 0)
      | none => false)) := rfl
theorem b_go_ok (hZT : ∀ g r, Z g r) {Ls : List Int32} (hX3 : X 3 = some Ls) {i0 : Int} (hi : ρ0[0]? = some i0) (hi0 : 0 ≤ i0) (hi5 : i0 + 5 ≤ Ls.length) (hsc : ∀ c : Nat, c ≤ 4 → ρ0[c + 1]? = some (Ls.getD (i0.toNat + c) 0).toInt) {QQ : z_Q → State → Prop} {A : Nat → Prop} {n0 : Nat} (hC : m_Ctx p s m args meth c cc nL own dC dI aC A xa X Y) (hY : m_Yok Y) (hYS : ∀ A U H, Y A U H → y_str xa A U H) (hIx : ix_K l X Y xa) (hX : ∀ i, i < 2 → X i = some ((x_tab i).map Int32.ofInt)) (hT : T ≤ 1073741824) (hl : ρ0.length = nr) (hn0 : n0 ≤ h_N)
    (hk : ∀ r ∈ code, ∀ q ∈ r, k_ok own cc q) (hcy : ∀ y, ∀ C ∈ cs y, C.1 = y) (hcs : ∀ d, dc = d + 1 → ∀ y, ∀ C ∈ cs y, c_sem l X Y xa d C) (hdp : l_ev ρ0 dp = some dv) (hdv : dv ≤ (dc : Int)) (hR0 : dc ≤ R.frames ∧ 40 * dc ≤ R.locals)
    (hret : ∀ (B : Int) (ρ : List Int) (S : A_S) (g : m_G) (i : Jvm.ClassFile.Instr) (n : Nat) (aux : List Nat), g_ok T fv ρ0 σ0 md B ρ S g → z_dx code cc S.1 i n aux → a_rt nr alts meth.sig.returnType i n S = true → mW code Z p l e R s m args below meth c QQ dC dI aC A n0 ad0 xa nL g)
    (hcut : ∀ U ∈ cuts, ∀ (fv' B : Int) (ρ : List Int) (g : m_G), fv' < fv → 0 ≤ fv' → g_ok T fv' ρ0 σ0 md B ρ U g → mW code Z p l e R s m args below meth c QQ dC dI aC A n0 ad0 xa nL g) :
    ∀ (f mode : Nat) (S : A_S), b_go cs md dp nL nr alts cuts meth.sig.returnType code f mode S = true → ∀ (B : Int) (ρ : List Int) (g : m_G), g_ok T fv ρ0 σ0 md B ρ S g → mW code Z p l e R s m args below meth c QQ dC dI aC A n0 ad0 xa nL g := by
  intro f
  induction f with
  | zero => intro mode S h; unfold b_go at h; cases h
  | succ f ih =>
    intro mode S h B ρ g hg
    rcases (show mode = 0 ∨ mode = 1 ∨ ∃ j, mode = j + 2 from by
      match mode with
      | 0 => exact Or.inl rfl
      | 1 => exact Or.inr (Or.inl rfl)
      | j + 2 => exact Or.inr (Or.inr ⟨j, rfl⟩)) with rfl | rfl | ⟨j0, rfl⟩
    · rw [b_go_0] at h
      cases hb : cuts.any (fun U => Nat.beq U.1 S.1)
      · rw [hb] at h
        exact ih 1 S h B ρ g hg
      · rw [hb] at h
        obtain ⟨U, hU, hA⟩ := List.any_eq_true.mp h
        obtain ⟨fv', ρ', g1, g2, g3⟩ := c_arr_ok hT hg hl hA
        exact hcut U hU fv' B ρ' g g2 g3 g1
    · rw [b_go_1] at h
      split at h
      · cases h
      · rename_i q hq
        cases hb : Nat.beq (q.2.2.2.1 % 2) 1
        · rw [hb] at h
          exact ih 2 S h B ρ g hg
        · rw [hb] at h
          simp only [cond_true] at h
          split at h
          · rename_i L hL
            obtain ⟨S', h1, h2⟩ := s_split_ok hg hL
            exact ih 2 S' (List.all_eq_true.mp h S' h1) B ρ g h2
          · cases h
    · rw [b_go_2] at h
      split at h
      · cases h
      · rename_i q hq
        obtain ⟨⟨r, r1, r2⟩, hpc⟩ := k_get_in hq
        have hkq := hk r r1 q r2
        have k1 := hkq.1
        rw [hpc] at k1
        cases hb : a_isRt q.2.1
        · rw [hb] at h
          simp only [cond_false] at h
          split at h
          · rename_i L hL
            have kk : ∀ S ∈ L, ∀ (B : Int) (ρ : List Int) (g : m_G), g_ok T fv ρ0 σ0 md B ρ S g → mW code Z p l e R s m args below meth c QQ dC dI aC A n0 ad0 xa nL g := fun S' hS' B' ρ' g' hg' => ih 0 S' (List.all_eq_true.mp h S' hS') B' ρ' g' hg'
            unfold b_nx at hL
            cases hrd : b_isRd q
            · rw [hrd] at hL
              exact a_nx_ok hC hY hYS hIx hX hT hn0 hcy hcs hdp hdv hR0 hkq hpc hq hg hL kk
            · rw [hrd] at hL
              obtain ⟨pc, E, F, ls, st, ov, bu, ph⟩ := S
              obtain ⟨q0, i, n, fl, aux⟩ := q
              simp only at k1 hL hpc hq
              have hi9 : i = .iaload := by
                unfold b_isRd at hrd
                simp only at hrd
                split at hrd
                · rfl
                · cases hrd
              subst hi9
              exact b_rd_ok hC hX3 hi hi0 hi5 hsc hZT ⟨k1, fl, by rw [hq, hpc]⟩ hg hL kk
          · cases h
        · rw [hb] at h
          have kdx : z_dx code cc S.1 q.2.1 q.2.2.1 q.2.2.2.2 := ⟨k1, q.2.2.2.1, by rw [hq, ← hpc]⟩
          exact hret B ρ S g _ _ _ hg kdx h
end GB
