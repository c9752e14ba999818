/-! A CONTRACT CHECKED in pieces -/
def c_cuts (C : A_C) : List A_S := match C with
  | (_, _, _, _, _, _, _, _, cuts, _) => cuts
def c_pre (nL : Nat) (C : A_C) : Bool := match C with
  | (_, E0, args, _, _, _, _, _, _, ph0) => (match s_cat args with | some k => Nat.ble k nL | none => false) && (match l_app (c_idn E0.length) ph0 with | some _ => true | none => false)
def c_go1 (cs : Nat → List A_C) (nL : Nat) (rt : Option FieldType) (code : List (List a_K)) (fuel : Nat) (C : A_C) (S : A_S) : Bool := match C with
  | (_, E0, _, _, mc, _, dep, alts, cuts, _) => a_go cs mc dep nL E0.length alts cuts rt code fuel 1 S
def c_start (C : A_C) : A_S := match C with
  | (_, E0, args, ov0, _, tau, _, _, _, ph0) => (0, E0, [], a_args 0 args, [], ov0, tau, ph0)
theorem c_chk_of {cs : Nat → List A_C} {nL : Nat} {rt : Option FieldType} {code : List (List a_K)} {fuel : Nat} {C : A_C} (h1 : c_pre nL C = true) (h2 : c_go1 cs nL rt code fuel C (c_start C) = true) (h3 : (c_cuts C).all (c_go1 cs nL rt code fuel C) = true) : c_chk cs nL rt code fuel C = true := by
  obtain ⟨y, E0, args, ov0, mc, tau, dep, alts, cuts, ph0⟩ := C
  obtain ⟨g1, g2⟩ := Bool.and_eq_true _ _ |>.mp h1
  exact Bool.and_eq_true _ _ |>.mpr ⟨g1, Bool.and_eq_true _ _ |>.mpr ⟨g2, Bool.and_eq_true _ _ |>.mpr ⟨h2, h3⟩⟩⟩
theorem all_chunks {α : Type} {f : α → Bool} {l : List α} (k m : Nat) (hk : 0 < k) (h : ∀ j, j < m → ((l.drop (k * j)).take k).all f = true) (hl : l.length ≤ k * m) : l.all f = true := by
  refine List.all_eq_true.mpr (fun x hx => ?_)
  obtain ⟨i, hi⟩ := List.mem_iff_getElem?.mp hx
  have hil := (List.getElem?_eq_some_iff.mp hi).1
  have h1 := Nat.div_add_mod i k
  have h2 := Nat.mod_lt i hk
  have h3 : i / k < m := by
    rw [Nat.div_lt_iff_lt_mul hk, Nat.mul_comm]
    omega
  refine List.all_eq_true.mp (h (i / k) h3) x (List.mem_of_getElem? (i := i % k) ?_)
  rw [List.getElem?_take, if_pos h2, List.getElem?_drop, h1]
  exact hi
/-! fewer cuts to look through: those that are near -/
theorem a_go_mono {cs : Nat → List A_C} {md : A_D} {dp : A_L} {nL nr : Nat} {alts : List A_A} {cuts cuts' : List A_S} {rt : Option FieldType} {code : List (List a_K)} (hs : ∀ U ∈ cuts', U ∈ cuts) (hp : ∀ pc, cuts.any (fun U => Nat.beq U.1 pc) = cuts'.any (fun U => Nat.beq U.1 pc)) : ∀ (f mode : Nat) (S : A_S), a_go cs md dp nL nr alts cuts' rt code f mode S = true → a_go cs md dp nL nr alts cuts rt code f mode S = true := by
  intro f
  induction f with
  | zero => intro mode S h; unfold a_go at h; cases h
  | succ f ih =>
    intro mode S h
    rcases (show mode = 0 ∨ mode = 1 ∨ ∃ j, mode = j + 2 from by
      match mode with
      | 0 => exact Or.inl rfl
      | 1 => exact Or.inr (Or.inl rfl)
      | j + 2 => exact Or.inr (Or.inr ⟨j, rfl⟩)) with rfl | rfl | ⟨j0, rfl⟩
    · rw [a_go_0] at h ⊢
      rw [hp]
      cases hb : cuts'.any (fun U => Nat.beq U.1 S.1)
      · rw [hb] at h
        exact ih 1 S h
      · rw [hb] at h
        obtain ⟨U, hU, hA⟩ := List.any_eq_true.mp h
        exact List.any_eq_true.mpr ⟨U, hs U hU, hA⟩
    · rw [a_go_1] at h ⊢
      cases hk : k_get code S.1 with
      | none =>
        rw [hk] at h
        cases h
      | some q =>
        rw [hk] at h
        simp only at h ⊢
        cases hb : Nat.beq (q.2.2.2.1 % 2) 1
        · rw [hb] at h
          exact ih 2 S h
        · rw [hb] at h
          simp only [cond_true] at h ⊢
          cases hL : s_split S with
          | none =>
            rw [hL] at h
            cases h
          | some L =>
            rw [hL] at h
            exact List.all_eq_true.mpr fun x hx => ih 2 x (List.all_eq_true.mp h x hx)
    · rw [a_go_2] at h ⊢
      cases hk : k_get code S.1 with
      | none =>
        rw [hk] at h
        cases h
      | some q =>
        rw [hk] at h
        simp only at h ⊢
        cases hb : a_isRt q.2.1
        · rw [hb] at h
          simp only [cond_false] at h ⊢
          cases hL : a_nx cs md dp nL q S with
          | none =>
            rw [hL] at h
            cases h
          | some L =>
            rw [hL] at h
            exact List.all_eq_true.mpr fun x hx => ih 0 x (List.all_eq_true.mp h x hx)
        · rw [hb] at h
          exact h
def c_go2 (cs : Nat → List A_C) (nL : Nat) (rt : Option FieldType) (code : List (List a_K)) (fuel : Nat) (C : A_C) (L : List A_S) (S : A_S) : Bool := match C with
  | (_, E0, _, _, mc, _, dep, alts, _, _) => a_go cs mc dep nL E0.length alts L rt code fuel 1 S
theorem c_go2_ok {cs : Nat → List A_C} {nL : Nat} {rt : Option FieldType} {code : List (List a_K)} {fuel : Nat} {C : A_C} {L : List A_S} (hs : ∀ U ∈ L, U ∈ c_cuts C) (hp : ∀ pc, (c_cuts C).any (fun U => Nat.beq U.1 pc) = L.any (fun U => Nat.beq U.1 pc)) {S : A_S} (h : c_go2 cs nL rt code fuel C L S = true) : c_go1 cs nL rt code fuel C S = true := by
  obtain ⟨y, E0, args, ov0, mc, tau, dep, alts, cuts, ph0⟩ := C
  exact a_go_mono hs hp fuel 1 S h
theorem any_pc {p0 : Nat} {L : List A_S} (h : L.all (fun U => Nat.beq U.1 p0) = true) (hn : L.isEmpty = false) (pc : Nat) : L.any (fun U => Nat.beq U.1 pc) = Nat.beq p0 pc := by
  cases L with
  | nil => cases hn
  | cons u l =>
    have h' := List.all_eq_true.mp h
    have e : ∀ U ∈ u :: l, Nat.beq U.1 pc = Nat.beq p0 pc := fun U hU => by rw [Nat.eq_of_beq_eq_true (h' U hU)]
    cases hb : Nat.beq p0 pc with
    | true => exact List.any_eq_true.mpr ⟨u, List.mem_cons_self, (e u List.mem_cons_self).trans hb⟩
    | false =>
      cases ha : (u :: l).any (fun U => Nat.beq U.1 pc) with
      | false => rfl
      | true =>
        obtain ⟨U, hU, hx⟩ := List.any_eq_true.mp ha
        rw [e U hU, hb] at hx
        cases hx
/-- a piece of the cuts, looked through with the next of them alone -/
theorem go_piece {cs : Nat → List A_C} {nL : Nat} {rt : Option FieldType} {code : List (List a_K)} {fuel : Nat} {C : A_C} {p0 k n : Nat} (h1 : (c_cuts C).all (fun U => Nat.beq U.1 p0) = true) (h2 : (((c_cuts C).drop k).take (n + 1)).isEmpty = false) (h : (((c_cuts C).drop k).take n).all (c_go2 cs nL rt code fuel C (((c_cuts C).drop k).take (n + 1))) = true) : (((c_cuts C).drop k).take n).all (c_go1 cs nL rt code fuel C) = true := by
  have hs : ∀ U ∈ ((c_cuts C).drop k).take (n + 1), U ∈ c_cuts C := fun U hU => List.mem_of_mem_drop (List.mem_of_mem_take hU)
  have h3 : (((c_cuts C).drop k).take (n + 1)).all (fun U => Nat.beq U.1 p0) = true := List.all_eq_true.mpr fun U hU => List.all_eq_true.mp h1 U (hs U hU)
  have hn : (c_cuts C).isEmpty = false := by
    cases hc : c_cuts C with
    | nil =>
      rw [hc] at h2
      rw [List.drop_nil, List.take_nil] at h2
      cases h2
    | cons u l => rfl
  exact List.all_eq_true.mpr fun S hS => c_go2_ok hs (fun pc => (any_pc h1 hn pc).trans (any_pc h3 h2 pc).symm) (List.all_eq_true.mp h S hS)
/-! where a cut stands told by a short list -/
def a_goP (cs : Nat → List A_C) (md : A_D) (dp : A_L) (nL nr : Nat) (alts : List A_A) (cuts : List A_S) (rt : Option FieldType) (code : List (List a_K)) (pcs : List Nat) : Nat → Nat → A_S → Bool
  | 0, _, _ => false
  | f + 1, 0, S => bif pcs.any (Nat.beq S.1) then cuts.any (c_arr nr S) else a_goP cs md dp nL nr alts cuts rt code pcs f 1 S
  | f + 1, 1, S => match k_get code S.1 with
    | none => false
    | some q => bif Nat.beq (q.2.2.2.1 % 2) 1 then (match s_split S with
      | some L => L.all (a_goP cs md dp nL nr alts cuts rt code pcs f 2)
      | none => false) else a_goP cs md dp nL nr alts cuts rt code pcs f 2 S
  | f + 1, _, S => match k_get code S.1 with
    | none => false
    | some q => bif a_isRt q.2.1 then a_rt nr alts rt q.2.1 q.2.2.1 S else (match a_nx cs md dp nL q S with
      | some L => L.all (a_goP cs md dp nL nr alts cuts rt code pcs f 0)
      | none => false)
theorem a_goP_0 {cs : Nat → List A_C} {md : A_D} {dp : A_L} {nL nr : Nat} {alts : List A_A} {cuts : List A_S} {rt : Option FieldType} {code : List (List a_K)} {pcs : List Nat} {f : Nat} {S : A_S} : a_goP cs md dp nL nr alts cuts rt code pcs (f + 1) 0 S = (bif pcs.any (Nat.beq S.1) then cuts.any (c_arr nr S) else a_goP cs md dp nL nr alts cuts rt code pcs f 1 S) := rfl
theorem a_goP_1 {cs : Nat → List A_C} {md : A_D} {dp : A_L} {nL nr : Nat} {alts : List A_A} {cuts : List A_S} {rt : Option FieldType} {code : List (List a_K)} {pcs : List Nat} {f : Nat} {S : A_S} : a_goP cs md dp nL nr alts cuts rt code pcs (f + 1) 1 S = (match k_get code S.1 with
    | none => false
    | some q => bif Nat.beq (q.2.2.2.1 % 2) 1 then (match s_split S with
      | some L => L.all (a_goP cs md dp nL nr alts cuts rt code pcs f 2)
      | none => false) else a_goP cs md dp nL nr alts cuts rt code pcs f 2 S) := rfl
theorem a_goP_2 {cs : Nat → List A_C} {md : A_D} {dp : A_L} {nL nr : Nat} {alts : List A_A} {cuts : List A_S} {rt : Option FieldType} {code : List (List a_K)} {pcs : List Nat} {f j : Nat} {S : A_S} : a_goP cs md dp nL nr alts cuts rt code pcs (f + 1) (j + 2) S = (match k_get code S.1 with
    | none => false
    | some q => bif a_isRt q.2.1 then a_rt nr alts rt q.2.1 q.2.2.1 S else (match a_nx cs md dp nL q S with
      | some L => L.all (a_goP cs md dp nL nr alts cuts rt code pcs f 0)
      | none => false)) := rfl
theorem a_goP_ok {cs : Nat → List A_C} {md : A_D} {dp : A_L} {nL nr : Nat} {alts : List A_A} {cuts : List A_S} {rt : Option FieldType} {code : List (List a_K)} {pcs : List Nat} (hp : ∀ pc, cuts.any (fun U => Nat.beq U.1 pc) = pcs.any (Nat.beq pc)) : ∀ (f mode : Nat) (S : A_S), a_goP cs md dp nL nr alts cuts rt code pcs f mode S = true → a_go cs md dp nL nr alts cuts rt code f mode S = true := by
  intro f
  induction f with
  | zero => intro mode S h; unfold a_goP at h; cases h
  | succ f ih =>
    intro mode S h
    rcases (show mode = 0 ∨ mode = 1 ∨ ∃ j, mode = j + 2 from by
      match mode with
      | 0 => exact Or.inl rfl
      | 1 => exact Or.inr (Or.inl rfl)
      | j + 2 => exact Or.inr (Or.inr ⟨j, rfl⟩)) with rfl | rfl | ⟨j0, rfl⟩
    · rw [a_goP_0] at h
      rw [a_go_0, hp]
      cases hb : pcs.any (Nat.beq S.1)
      · rw [hb] at h
        exact ih 1 S h
      · rw [hb] at h
        exact h
    · rw [a_goP_1] at h
      rw [a_go_1]
      cases hk : k_get code S.1 with
      | none =>
        rw [hk] at h
        cases h
      | some q =>
        rw [hk] at h
        simp only at h ⊢
        cases hb : Nat.beq (q.2.2.2.1 % 2) 1
        · rw [hb] at h
          exact ih 2 S h
        · rw [hb] at h
          simp only [cond_true] at h ⊢
          cases hL : s_split S with
          | none =>
            rw [hL] at h
            cases h
          | some L =>
            rw [hL] at h
            exact List.all_eq_true.mpr fun x hx => ih 2 x (List.all_eq_true.mp h x hx)
    · rw [a_goP_2] at h
      rw [a_go_2]
      cases hk : k_get code S.1 with
      | none =>
        rw [hk] at h
        cases h
      | some q =>
        rw [hk] at h
        simp only at h ⊢
        cases hb : a_isRt q.2.1
        · rw [hb] at h
          simp only [cond_false] at h ⊢
          cases hL : a_nx cs md dp nL q S with
          | none =>
            rw [hL] at h
            cases h
          | some L =>
            rw [hL] at h
            exact List.all_eq_true.mpr fun x hx => ih 0 x (List.all_eq_true.mp h x hx)
        · rw [hb] at h
          exact h
def c_goP (cs : Nat → List A_C) (nL : Nat) (rt : Option FieldType) (code : List (List a_K)) (fuel : Nat) (C : A_C) (pcs : List Nat) (S : A_S) : Bool := match C with
  | (_, E0, _, _, mc, _, dep, alts, cuts, _) => a_goP cs mc dep nL E0.length alts cuts rt code pcs fuel 1 S
def c_pcs (C : A_C) (pcs : List Nat) : Bool := (c_cuts C).all (fun U => pcs.any (Nat.beq U.1)) && pcs.all (fun p => (c_cuts C).any (fun U => Nat.beq U.1 p))
theorem c_pcs_ok {C : A_C} {pcs : List Nat} (h : c_pcs C pcs = true) (pc : Nat) : (c_cuts C).any (fun U => Nat.beq U.1 pc) = pcs.any (Nat.beq pc) := by
  obtain ⟨h1, h2⟩ := Bool.and_eq_true _ _ |>.mp h
  cases ha : (c_cuts C).any (fun U => Nat.beq U.1 pc) with
  | true =>
    obtain ⟨U, hU, hx⟩ := List.any_eq_true.mp ha
    have := List.all_eq_true.mp h1 U hU
    rw [Nat.eq_of_beq_eq_true hx] at this
    exact this.symm
  | false =>
    cases hb : pcs.any (Nat.beq pc) with
    | false => rfl
    | true =>
      obtain ⟨p, hp, hx⟩ := List.any_eq_true.mp hb
      have := List.all_eq_true.mp h2 p hp
      rw [← Nat.eq_of_beq_eq_true hx, ha] at this
      exact this
theorem c_goP_ok {cs : Nat → List A_C} {nL : Nat} {rt : Option FieldType} {code : List (List a_K)} {fuel : Nat} {C : A_C} {pcs : List Nat} (hp : c_pcs C pcs = true) {S : A_S} (h : c_goP cs nL rt code fuel C pcs S = true) : c_go1 cs nL rt code fuel C S = true := by
  have hp' := c_pcs_ok hp
  obtain ⟨y, E0, args, ov0, mc, tau, dep, alts, cuts, ph0⟩ := C
  exact a_goP_ok hp' fuel 1 S h
theorem goP_piece {cs : Nat → List A_C} {nL : Nat} {rt : Option FieldType} {code : List (List a_K)} {fuel : Nat} {C : A_C} {pcs : List Nat} (hp : c_pcs C pcs = true) {L : List A_S} (h : L.all (c_goP cs nL rt code fuel C pcs) = true) : L.all (c_go1 cs nL rt code fuel C) = true := List.all_eq_true.mpr fun S hS => c_goP_ok hp (List.all_eq_true.mp h S hS)
def c_chkP (cs : Nat → List A_C) (nL : Nat) (rt : Option FieldType) (code : List (List a_K)) (fuel : Nat) (C : A_C) (pcs : List Nat) : Bool := c_pre nL C && (c_pcs C pcs && (c_goP cs nL rt code fuel C pcs (c_start C) && (c_cuts C).all (c_goP cs nL rt code fuel C pcs)))
theorem c_chkP_ok {cs : Nat → List A_C} {nL : Nat} {rt : Option FieldType} {code : List (List a_K)} {fuel : Nat} {C : A_C} {pcs : List Nat} (h : c_chkP cs nL rt code fuel C pcs = true) : c_chk cs nL rt code fuel C = true := by
  obtain ⟨h1, h⟩ := Bool.and_eq_true _ _ |>.mp h
  obtain ⟨h2, h⟩ := Bool.and_eq_true _ _ |>.mp h
  obtain ⟨h3, h4⟩ := Bool.and_eq_true _ _ |>.mp h
  exact c_chk_of h1 (c_goP_ok h2 h3) (goP_piece h2 h4)
