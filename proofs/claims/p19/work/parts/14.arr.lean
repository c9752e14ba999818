/-! FORMS compared; a state comes to a cut, a method comes back -/
def l_ins (c : Int) (v : Nat) : List (Int × Nat) → List (Int × Nat)
  | [] => [(c, v)]
  | (d, w) :: l => bif Nat.beq v w then (c + d, w) :: l else (d, w) :: l_ins c v l
theorem l_ins_ok {ρ : List Int} {c : Int} {v : Nat} {r : Int} (hr : ρ[v]? = some r) : ∀ (l : List (Int × Nat)) (s : Int), l_ev1 ρ l = some s → l_ev1 ρ (l_ins c v l) = some (c * r + s)
  | [], s, h => by
    cases h
    simp [l_ins, l_ev1, hr]
  | (d, w) :: l, s, h => by
    unfold l_ev1 at h
    split at h
    · rename_i q t h1 h2
      cases h
      unfold l_ins
      cases hb : Nat.beq v w
      · simp only [cond_false, l_ev1]
        rw [h1, l_ins_ok hr l t h2]
        simp only [Option.some.injEq]
        omega
      · simp only [cond_true, l_ev1]
        have := Nat.eq_of_beq_eq_true hb
        subst this
        have : q = r := Option.some.inj (h1.symm.trans hr)
        subst this
        rw [h1, h2]
        simp only [Option.some.injEq, Int.add_mul]
        omega
    · cases h
def l_cat (m : Int) : List (Int × Nat) → List (Int × Nat) → List (Int × Nat)
  | [], l2 => l2
  | (c, v) :: l1, l2 => l_ins (m * c) v (l_cat m l1 l2)
theorem l_cat_ok {ρ : List Int} {m : Int} : ∀ (l1 l2 : List (Int × Nat)) (s t : Int), l_ev1 ρ l1 = some s → l_ev1 ρ l2 = some t → l_ev1 ρ (l_cat m l1 l2) = some (m * s + t)
  | [], l2, s, t, h1, h2 => by
    cases h1
    simpa [l_cat] using h2
  | (c, v) :: l1, l2, s, t, h1, h2 => by
    unfold l_ev1 at h1
    split at h1
    · rename_i q u g1 g2
      cases h1
      unfold l_cat
      rw [l_ins_ok g1 _ _ (l_cat_ok l1 l2 u t g2 h2)]
      simp only [Option.some.injEq, Int.mul_add, Int.mul_assoc]
      omega
    · cases h1
def l_dif (b a : A_L) : A_L := (b.1 - a.1, l_cat (-1) a.2 b.2)
theorem l_dif_ok {ρ : List Int} {a b : A_L} {x y : Int} (ha : l_ev ρ a = some x) (hb : l_ev ρ b = some y) : l_ev ρ (l_dif b a) = some (y - x) := by
  unfold l_ev at *
  obtain ⟨s, h1, h2⟩ := Option.map_eq_some_iff.mp ha
  obtain ⟨t, h3, h4⟩ := Option.map_eq_some_iff.mp hb
  unfold l_dif
  simp only
  rw [l_cat_ok _ _ s t h1 h3]
  simp only [Option.map_some, Option.some.injEq]
  omega
def l_leq (E : A_E) (a b : A_L) : Bool := i_le 0 (l_lo E (l_dif b a))
theorem l_leq_ok {B : Int} {E : A_E} {ρ : List Int} (e : e_ok B E ρ) {a b : A_L} {x y : Int} (ha : l_ev ρ a = some x) (hb : l_ev ρ b = some y) (h : l_leq E a b = true) : x ≤ y := by
  have := i_le_iff.mp h
  have := l_lo_ok e (l_dif_ok ha hb)
  omega
/-- forms compared with the help of a fact -/
def l_nz (l : List (Int × Nat)) : List (Int × Nat) := l.filter fun q => !(i_eq q.1 0)
theorem l_nz_ok {ρ : List Int} : ∀ (l : List (Int × Nat)) (s : Int), l_ev1 ρ l = some s → l_ev1 ρ (l_nz l) = some s
  | [], s, h => h
  | (c, v) :: l, s, h => by
    unfold l_ev1 at h
    split at h
    · rename_i r t h1 h2
      have ih := l_nz_ok l t h2
      cases hc : i_eq c 0
      · have e : l_nz ((c, v) :: l) = (c, v) :: l_nz l := by unfold l_nz; rw [List.filter_cons, hc]; rfl
        rw [e]
        unfold l_ev1
        rw [h1, ih]
        exact h
      · have e : l_nz ((c, v) :: l) = l_nz l := by unfold l_nz; rw [List.filter_cons, hc]; rfl
        have hc0 := i_eq_iff.mp hc
        rw [e, ih]
        subst hc0
        simpa using h
    · cases h
def l_leqF (E : A_E) (F : A_F) (a b : A_L) : Bool := l_leq E a b || (match l_nz (l_dif b a).2 with
  | [(c1, v1), (c2, v2)] => i_eq c1 (-c2) && (bif i_le 0 c1 then i_le 0 ((l_dif b a).1 - c1 * f_ub E F 3 v2 v1) else i_le 0 ((l_dif b a).1 - c2 * f_ub E F 3 v1 v2))
  | _ => false)
theorem l_leqF_ok {B : Int} {E : A_E} {F : A_F} {ρ : List Int} (e : e_ok B E ρ) (f : f_ok F ρ) {a b : A_L} {x y : Int} (ha : l_ev ρ a = some x) (hb : l_ev ρ b = some y) (h : l_leqF E F a b = true) : x ≤ y := by
  unfold l_leqF at h
  rcases Bool.or_eq_true _ _ |>.mp h with h | h
  · exact l_leq_ok e ha hb h
  · have hd := l_dif_ok ha hb
    unfold l_ev at hd
    obtain ⟨s, h1, h2⟩ := Option.map_eq_some_iff.mp hd
    have h3 := l_nz_ok _ _ h1
    split at h
    · rename_i c1 v1 c2 v2 hq
      rw [hq] at h3
      obtain ⟨g1, g2⟩ := Bool.and_eq_true _ _ |>.mp h
      have g1 := i_eq_iff.mp g1
      unfold l_ev1 at h3
      split at h3
      · rename_i r t k1 k2
        unfold l_ev1 at k2
        split at k2
        · rename_i r2 t2 k3 k4
          cases k4
          cases k2
          cases h3
          cases hc : i_le 0 c1
          · rw [hc] at g2
            simp only [cond_false] at g2
            have g2 := i_le_iff.mp g2
            have hc := i_le_f.mp hc
            have hu := f_ub_ok e f 3 v1 v2 _ _ k1 k3
            have hm : c2 * r ≤ c2 * (r2 + f_ub E F 3 v1 v2) := Int.mul_le_mul_of_nonneg_left hu (by omega)
            rw [Int.mul_add] at hm
            subst g1
            rw [Int.neg_mul] at h2
            omega
          · rw [hc] at g2
            simp only [cond_true] at g2
            have g2 := i_le_iff.mp g2
            have hc := i_le_iff.mp hc
            have hu := f_ub_ok e f 3 v2 v1 _ _ k3 k1
            have hm : c1 * r2 ≤ c1 * (r + f_ub E F 3 v2 v1) := Int.mul_le_mul_of_nonneg_left hu hc
            rw [Int.mul_add] at hm
            have hc2 : c2 = -c1 := by omega
            subst hc2
            rw [Int.neg_mul] at h2
            omega
        · cases k2
      · cases h3
    · cases h
def l_app1 (θ : List A_V) : List (Int × Nat) → Option A_L
  | [] => some (0, [])
  | (c, v) :: l => match θ[v]?, l_app1 θ l with
    | some b, some (k, m) => some (k + c * b.2.2, bif a_cst b then m else (c, b.2.1) :: m)
    | _, _ => none
def l_app (θ : List A_V) (L : A_L) : Option A_L := match l_app1 θ L.2 with
  | some (k, m) => some (L.1 + k, m)
  | none => none
theorem l_app1_ok {ρ ρT : List Int} {θ : List A_V} (h : h_sub ρ θ ρT) : ∀ (l : List (Int × Nat)) (L : A_L), l_app1 θ l = some L → ∃ s, l_ev1 ρT l = some s ∧ l_ev ρ L = some s
  | [], L, hl => by
    cases hl
    exact ⟨0, rfl, rfl⟩
  | (c, v) :: l, L, hl => by
    unfold l_app1 at hl
    split at hl
    · rename_i b k m hb hm
      cases hl
      obtain ⟨s, h1, h2⟩ := l_app1_ok h l _ hm
      have lb := (List.getElem?_eq_some_iff.mp hb).1
      have lr : v < ρT.length := by rw [← h.1]; exact lb
      have er : ρT[v]? = some ρT[v] := List.getElem?_eq_getElem lr
      have eb := h.2 _ _ _ hb er
      refine ⟨c * ρT[v] + s, by unfold l_ev1; rw [er, h1], ?_⟩
      unfold l_ev at h2 ⊢
      obtain ⟨t, t1, t2⟩ := Option.map_eq_some_iff.mp h2
      simp only at t1 t2 ⊢
      cases hc : a_cst b
      · obtain ⟨r, r1, r2⟩ := a_ev_var eb hc
        simp only [cond_false, l_ev1, r1, t1, Option.map_some, Option.some.injEq, r2, Int.mul_add]
        omega
      · have := a_ev_cst eb hc
        simp only [cond_true, t1, Option.map_some, Option.some.injEq, this]
        omega
    · cases hl
theorem l_app_ok {ρ ρT : List Int} {θ : List A_V} (h : h_sub ρ θ ρT) {L L' : A_L} (hl : l_app θ L = some L') : ∃ s, l_ev ρT L = some s ∧ l_ev ρ L' = some s := by
  unfold l_app at hl
  split at hl
  · rename_i k m hk
    cases hl
    obtain ⟨s, h1, h2⟩ := l_app1_ok h _ _ hk
    refine ⟨L.1 + s, by unfold l_ev; rw [h1]; rfl, ?_⟩
    unfold l_ev at h2 ⊢
    obtain ⟨t, t1, t2⟩ := Option.map_eq_some_iff.mp h2
    simp only at t1 t2 ⊢
    rw [t1]
    simp only [Option.map_some, Option.some.injEq]
    omega
  · cases hl
def l_up (L : A_L) (c : Int) : A_L := (L.1 + c, L.2)
theorem l_up_ok {ρ : List Int} {L : A_L} {s c : Int} (h : l_ev ρ L = some s) : l_ev ρ (l_up L c) = some (s + c) := by
  unfold l_ev l_up at *
  obtain ⟨t, h1, h2⟩ := Option.map_eq_some_iff.mp h
  simp only
  rw [h1]
  simp only [Option.map_some, Option.some.injEq]
  omega
/-- the variables of the start stand for themselves -/
def c_idn (nr : Nat) : List A_V := (List.range nr).map fun i => (1, i, 0)
def c_id (E : A_E) (F : A_F) (E0 : A_E) (nr : Nat) : Bool := (List.range nr).all fun i => c_rng E F (e_at E0 i) (1, i, 0)
theorem c_id_ok {B : Int} {E E0 : A_E} {F : A_F} {ρ ρ0 : List Int} {nr : Nat} (hB0 : 0 ≤ B) (e : e_ok B E ρ) (f : f_ok F ρ) (hx : r_ext ρ0 ρ) (hl : ρ0.length = nr) (h : c_id E F E0 nr = true) : h_sub ρ (c_idn nr) ρ0 ∧ e_pre B E0 ρ0 := by
  have one : ∀ (i : Nat) (r : Int), ρ0[i]? = some r → a_ev ρ (1, i, 0) = some r := fun i r hr => by
    show (ρ[i]?).map (fun r => r + 0) = some r
    rw [hx _ _ hr]; simp
  refine ⟨⟨by simp [c_idn, hl], fun i b r h1 h2 => ?_⟩, fun i r hr => ?_⟩
  · have hi := (List.getElem?_eq_some_iff.mp h2).1
    have : b = (1, i, 0) := by
      unfold c_idn at h1
      rw [List.getElem?_map, List.getElem?_range (by omega)] at h1
      exact (Option.some.inj h1).symm
    subst this
    exact one i r h2
  · have hi := (List.getElem?_eq_some_iff.mp hr).1
    exact c_rng_ok hB0 e f (one i r hr) (List.all_eq_true.mp h i (List.mem_range.mpr (by omega)))
/-- cells that aren't known are read by their types -/
def o_miss (E : A_E) (ov : A_O) : A_O → Option (A_E × A_O)
  | [] => some (E, ov)
  | q :: l => match o_get q.1.1 q.1.2 ov with
    | some _ => o_miss E ov l
    | none => bif Nat.blt q.1.1 h_N && Nat.blt q.1.2 (h_ln q.1.1) then (match o_read E ov [q] with
      | some (E', ov') => o_miss E' ov' l
      | none => none) else none
theorem o_miss_ok {B : Int} {F : A_F} {σ : m_H} (hB : B ≤ 1073741824) (hh : h_ok B σ) : ∀ (l : A_O) (E E' : A_E) (ov ov' : A_O) (ρ : List Int), e_ok B E ρ → f_ok F ρ → o_ok ρ ov σ → o_miss E ov l = some (E', ov') → ∃ ρ', r_ext ρ ρ' ∧ e_ok B E' ρ' ∧ o_ok ρ' ov' σ
  | [], E, E', ov, ov', ρ, e, f, o, h => by
    cases h
    exact ⟨ρ, r_ext.rf, e, o⟩
  | q :: l, E, E', ov, ov', ρ, e, f, o, h => by
    unfold o_miss at h
    split at h
    · exact o_miss_ok hB hh l E E' ov ov' ρ e f o h
    · cases hb : Nat.blt q.1.1 h_N && Nat.blt q.1.2 (h_ln q.1.1)
      · rw [hb] at h; cases h
      · rw [hb] at h
        simp only [cond_true] at h
        obtain ⟨b1, b2⟩ := Bool.and_eq_true _ _ |>.mp hb
        split at h
        · rename_i E2 ov2 hr
          obtain ⟨ρ1, r1, r2, r3⟩ := o_read_ok (F := F) hB hh [q] E E2 ov ov2 ρ (fun z hz => by
            obtain rfl := List.mem_singleton.mp hz
            exact ⟨Nat.le_of_ble_eq_true b1, Nat.le_of_ble_eq_true b2⟩) e f o hr
          obtain ⟨ρ2, s1, s2, s3⟩ := o_miss_ok hB hh l E2 E' ov2 ov' ρ1 r2 (f_ok_ext r1 f) r3 h
          exact ⟨ρ2, r1.tr s1, s2, s3⟩
        · cases h
/-- S is within the cut U -/
def c_arr (nr : Nat) (S U : A_S) : Bool := match S, U with
  | (pc, E, F, ls, st, ov, bu, ph), (pc', E', F', ls', st', ov', bu', ph') => Nat.beq pc pc' && (match c_bindl E F E' ls (c_idn nr) ls' with
    | some θ1 => (match c_binds E F E' θ1 st' st with
      | some θ2 => (match o_miss E ov ov' with
        | some (E1, ov1) => (match c_bindo E1 F E' ov1 θ2 ov' with
          | some θ => c_id E F E' nr && (Nat.beq θ.length E'.length && (c_facts E1 F θ F' && (match l_app θ bu', l_app θ ph' with
            | some b, some p => l_leq E1 b bu && (i_le 0 (l_lo E1 b) && (l_leqF E1 F (l_up p 1) ph && i_le 0 (l_lo E1 p)))
            | _, _ => false)))
          | none => false)
        | none => false)
      | none => false)
    | none => false)
theorem c_arr_ok {T fv : Int} {ρ0 : List Int} {σ0 : m_H} {md : A_D} {B : Int} {ρ : List Int} {S U : A_S} {g : m_G} {nr : Nat} (hT : T ≤ 1073741824) (hg : g_ok T fv ρ0 σ0 md B ρ S g) (hl : ρ0.length = nr) (h : c_arr nr S U = true) : ∃ (fv' : Int) (ρ' : List Int), g_ok T fv' ρ0 σ0 md B ρ' U g ∧ fv' < fv ∧ 0 ≤ fv' := by
  obtain ⟨pc, E, F, ls, st, ov, bu, ph⟩ := S
  obtain ⟨pc', E', F', ls', st', ov', bu', ph'⟩ := U
  unfold c_arr at h
  simp only at h
  obtain ⟨hp1, hr1⟩ := Bool.and_eq_true _ _ |>.mp h
  clear h
  have h := hr1
  clear hr1
  have hp2 := Nat.eq_of_beq_eq_true hp1
  clear hp1
  subst hp2
  have he : e_ok B E ρ := hg.e
  have hf : f_ok F ρ := hg.f
  obtain ⟨hB0, z, z1, z2, z3⟩ := hg.bu
  have hph : l_ev ρ ph = some fv := hg.ph
  split at h
  · rename_i θ1 hb1
    split at h
    · rename_i θ2 hb2
      split at h
      · rename_i E1 ov1 hms
        split at h
        · rename_i θ hb3
          obtain ⟨h2, h9⟩ := Bool.and_eq_true _ _ |>.mp h
          clear h
          obtain ⟨h4, h6⟩ := Bool.and_eq_true _ _ |>.mp h9
          clear h9
          obtain ⟨i1, i2⟩ := c_id_ok hB0 he hf hg.x0 hl h2
          obtain ⟨h5, h7⟩ := Bool.and_eq_true _ _ |>.mp h6
          clear h6
          have h4 := Nat.eq_of_beq_eq_true h4
          split at h7
          · rename_i b p hb hp
            obtain ⟨k1, k⟩ := Bool.and_eq_true _ _ |>.mp h7
            obtain ⟨k2, k⟩ := Bool.and_eq_true _ _ |>.mp k
            obtain ⟨k3, k4⟩ := Bool.and_eq_true _ _ |>.mp k
            have k2 := i_le_iff.mp k2
            have k4 := i_le_iff.mp k4
            obtain ⟨ρ1, a1, a2, a3, a4⟩ := c_bindl_ok hB0 he hf hg.l ls' _ θ1 ρ0 i1 i2 hb1
            obtain ⟨ρ2, b1, b2, b3, b4⟩ := c_binds_ok hB0 he hf st' st θ1 θ2 ρ1 _ a2 a3 hg.s hb2
            obtain ⟨ρm, m1, m2, m3⟩ := o_miss_ok (by omega) hg.h ov' E E1 ov ov1 ρ he hf hg.o hms
            have hfm := f_ok_ext m1 hf
            obtain ⟨ρ3, d1, d2, d3, d4⟩ := c_bindo_ok hB0 m2 hfm m3 ov' θ2 θ ρ2 (h_sub_ext m1 b2) b3 hb3
            obtain ⟨s, s1, s2⟩ := l_app_ok d2 hb
            obtain ⟨u, u1, u2⟩ := l_app_ok d2 hp
            have v1 := l_leq_ok m2 s2 (l_ev_ext m1 z1) k1
            have v2 := l_lo_ok m2 s2
            have v3 := l_leqF_ok m2 hfm (l_up_ok (c := 1) u2) (l_ev_ext m1 hph) k3
            have v4 := l_lo_ok m2 u2
            exact ⟨u, ρ3, ⟨a1.tr (b1.tr d1), e_pre_full d3 (by rw [← d2.1, h4]), c_facts_ok m2 hfm d2 h5, ⟨hB0, s, s1, by omega, by omega⟩, u1, hg.h, hg.ce, hg.sl, hg.pc, l_ok_ext (b1.tr d1) a4, hg.lv, s_ok_ext d1 _ _ b4, hg.sv, d4, hg.fr⟩, by omega, by omega⟩
          · cases h7
        · cases h
      · cases h
    · cases h
  · cases h
/-- what a method does, one of several ways: its variables, facts, what it gives, what it leaves -/
abbrev A_A : Type := A_E × A_F × Option A_V × A_O
def r_ok2 (ρ : List Int) (a : Option A_V) (v : Option Value) : Prop := match a, v with
  | none, none => True
  | some a, some v => v_ok ρ a v
  | _, _ => False
theorem r_ok2_ext {ρ ρ' : List Int} (hx : r_ext ρ ρ') : ∀ {a : Option A_V} {v : Option Value}, r_ok2 ρ a v → r_ok2 ρ' a v
  | none, none, _ => trivial
  | some _, some _, h => v_ok_ext hx h
  | none, some _, h => h
  | some _, none, h => h
def c_post (alts : List A_A) (md : A_D) (T : Int) (ρ0 : List Int) (σ0 : m_H) (r : Option Value) (σ' : m_H) : Prop := ∃ q ∈ alts, ∃ ρ', r_ext ρ0 ρ' ∧ e_ok T q.1 ρ' ∧ f_ok q.2.1 ρ' ∧ r_ok2 ρ' q.2.2.1 r ∧ h_ok T σ' ∧ o_ok ρ' q.2.2.2 σ' ∧ h_fr md σ0 σ'
def c_rb (E : A_E) (F : A_F) (E' : A_E) (nr : Nat) (p b : Option A_V) : Option (List A_V) := match p, b with
  | none, none => some (c_idn nr)
  | some p, some b => c_bind E F E' (c_idn nr) p b
  | _, _ => none
def c_ral (nr : Nat) (E : A_E) (F : A_F) (ov : A_O) (ra : Option A_V) (q : A_A) : Bool := c_id E F q.1 nr && (match c_rb E F q.1 nr q.2.2.1 ra with
  | some θ1 => (match o_miss E ov q.2.2.2 with
    | some (E1, ov1) => (match c_bindo E1 F q.1 ov1 θ1 q.2.2.2 with
      | some θ => Nat.beq θ.length q.1.length && c_facts E1 F θ q.2.1
      | none => false)
    | none => false)
  | none => false)
theorem c_ral_ok {T fv : Int} {ρ0 : List Int} {σ0 : m_H} {md : A_D} {B : Int} {ρ : List Int} {pc : Nat} {E : A_E} {F : A_F} {ls : List (Nat × A_V)} {st : List A_V} {ov : A_O} {bu ph : A_L} {g : m_G} {nr : Nat} {alts : List A_A} {ra : Option A_V} {r : Option Value} (hT : T ≤ 1073741824) (hg : g_ok T fv ρ0 σ0 md B ρ (pc, E, F, ls, st, ov, bu, ph) g) (hl : ρ0.length = nr) (hr : r_ok2 ρ ra r) (h : alts.any (c_ral nr E F ov ra) = true) : c_post alts md T ρ0 σ0 r g.1 := by
  obtain ⟨q, hq, h0⟩ := List.any_eq_true.mp h
  clear h
  unfold c_ral at h0
  obtain ⟨h2, h⟩ := Bool.and_eq_true _ _ |>.mp h0
  clear h0
  have he : e_ok B E ρ := hg.e
  have hf : f_ok F ρ := hg.f
  obtain ⟨hB0, z, z1, z2, z3⟩ := hg.bu
  obtain ⟨i1, i2⟩ := c_id_ok hB0 he hf hg.x0 hl h2
  split at h
  · rename_i θ1 hb1
    split at h
    · rename_i E1 ov1 hms
      split at h
      · rename_i θ hb3
        obtain ⟨h4, h5⟩ := Bool.and_eq_true _ _ |>.mp h
        clear h
        have h4 := Nat.eq_of_beq_eq_true h4
        have step1 : ∃ ρ1, r_ext ρ0 ρ1 ∧ h_sub ρ θ1 ρ1 ∧ e_pre B q.1 ρ1 ∧ r_ok2 ρ1 q.2.2.1 r := by
          unfold c_rb at hb1
          split at hb1
          · rename_i hq1
            cases hb1
            refine ⟨ρ0, r_ext.rf, i1, i2, ?_⟩
            rw [hq1]
            cases r with
            | none => trivial
            | some v => exact absurd hr id
          · rename_i p b hq1
            cases r with
            | none => exact absurd hr id
            | some v =>
              obtain ⟨ρ1, g1, g2, g3, g4⟩ := c_bind_ok hB0 he hf i1 i2 hr hb1
              refine ⟨ρ1, g1, g2, g3, ?_⟩
              rw [hq1]
              exact g4
          · cases hb1
        obtain ⟨ρ1, a1, a2, a3, a4⟩ := step1
        obtain ⟨ρm, m1, m2, m3⟩ := o_miss_ok (by omega) hg.h q.2.2.2 E E1 ov ov1 ρ he hf hg.o hms
        obtain ⟨ρ3, d1, d2, d3, d4⟩ := c_bindo_ok hB0 m2 (f_ok_ext m1 hf) m3 q.2.2.2 θ1 θ ρ1 (h_sub_ext m1 a2) a3 hb3
        refine ⟨q, hq, ρ3, a1.tr d1, e_ok_mono (by omega) (e_pre_full d3 (by rw [← d2.1, h4])), c_facts_ok m2 (f_ok_ext m1 hf) d2 h5, ?_, h_ok_mono (by omega) hg.h, d4, hg.fr⟩
        exact r_ok2_ext d1 a4
      · cases h
    · cases h
  · cases h
