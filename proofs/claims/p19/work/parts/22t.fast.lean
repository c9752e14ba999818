/-! THE CHECK, quicker: one look into the table a step, where the cuts stand by a short list -/
noncomputable def l_anyN (pc : Nat) (l : List Nat) : Bool := @List.rec Nat (fun _ => Bool) false (fun a _ ih => @Bool.rec (fun _ => Bool) ih true (Nat.beq pc a)) l
theorem l_anyN_eq (pc : Nat) : ∀ l : List Nat, l_anyN pc l = l.any (Nat.beq pc)
  | [] => rfl
  | a :: l => by
    have ih := l_anyN_eq pc l
    have e : l_anyN pc (a :: l) = (Nat.beq pc a || l_anyN pc l) := by
      cases hb : Nat.beq pc a with
      | true => exact congrArg (fun b => @Bool.rec (fun _ => Bool) (l_anyN pc l) true b) hb
      | false => exact congrArg (fun b => @Bool.rec (fun _ => Bool) (l_anyN pc l) true b) hb
    rw [e, List.any_cons, ih]
noncomputable def r_find (pc : Nat) (r : List a_K) : Option a_K := @List.rec a_K (fun _ => Option a_K) none (fun a _ ih => @Bool.rec (fun _ => Option a_K) ih (some a) (Nat.beq a.1 pc)) r
theorem r_find_eq (pc : Nat) : ∀ r : List a_K, r_find pc r = r.find? (fun q => Nat.beq q.1 pc)
  | [] => rfl
  | a :: r => by
    have ih := r_find_eq pc r
    cases hb : Nat.beq a.1 pc with
    | true =>
      have e : r_find pc (a :: r) = some a := congrArg (fun b => @Bool.rec (fun _ => Option a_K) (r_find pc r) (some a) b) hb
      rw [e, List.find?_cons_of_pos (p := fun q : a_K => Nat.beq q.1 pc) hb]
    | false =>
      have e : r_find pc (a :: r) = r_find pc r := congrArg (fun b => @Bool.rec (fun _ => Option a_K) (r_find pc r) (some a) b) hb
      rw [e, ih, List.find?_cons_of_neg (p := fun q : a_K => Nat.beq q.1 pc) (fun z => Bool.false_ne_true (hb.symm.trans z))]
noncomputable def r_nth (code : List (List a_K)) : Nat → Option (List a_K) := @List.rec (List a_K) (fun _ => Nat → Option (List a_K)) (fun _ => none) (fun r _ ih n => @Nat.rec (fun _ => Option (List a_K)) (some r) (fun k _ => ih k) n) code
theorem r_nth_eq : ∀ (code : List (List a_K)) (n : Nat), r_nth code n = code[n]?
  | [], _ => List.getElem?_nil.symm
  | _ :: _, 0 => rfl
  | r :: l, n + 1 => by
    have e : r_nth (r :: l) (n + 1) = r_nth l n := rfl
    rw [e, r_nth_eq l n, List.getElem?_cons_succ]
noncomputable def k_getF (code : List (List a_K)) (pc : Nat) : Option a_K := @Option.rec (List a_K) (fun _ => Option a_K) none (fun r => r_find pc r) (r_nth code (pc / 32))
theorem k_getF_eq (code : List (List a_K)) (pc : Nat) : k_getF code pc = k_get code pc := by
  unfold k_getF k_get
  rw [r_nth_eq]
  cases code[pc / 32]? with
  | none => rfl
  | some r => exact r_find_eq pc r
def a_doQ (cs : Nat → List A_C) (md : A_D) (dp : A_L) (nL nr : Nat) (alts : List A_A) (rt : Option FieldType) (go : A_S → Bool) (q : a_K) (S : A_S) : Bool := bif a_isRt q.2.1 then a_rt nr alts rt q.2.1 q.2.2.1 S else (match a_nx cs md dp nL q S with
  | some L => L.all go
  | none => false)
def a_exQ (cs : Nat → List A_C) (md : A_D) (dp : A_L) (nL nr : Nat) (alts : List A_A) (rt : Option FieldType) (go : A_S → Bool) (o : Option a_K) (S : A_S) : Bool := match o with
  | none => false
  | some q => bif Nat.beq (q.2.2.2.1 % 2) 1 then (match s_split S with
    | some L => L.all (a_doQ cs md dp nL nr alts rt go q)
    | none => false) else a_doQ cs md dp nL nr alts rt go q S
noncomputable def a_goQ (cs : Nat → List A_C) (md : A_D) (dp : A_L) (nL nr : Nat) (alts : List A_A) (cuts : List A_S) (rt : Option FieldType) (code : List (List a_K)) (pcs : List Nat) (f : Nat) : A_S → Bool := @Nat.rec (fun _ => A_S → Bool) (fun _ => false) (fun _ ih S => @Bool.rec (fun _ => Bool) (a_exQ cs md dp nL nr alts rt ih (k_getF code S.1) S) (cuts.any (c_arr nr S)) (l_anyN S.1 pcs)) f
theorem s_split_pc {S : A_S} {L : List A_S} (h : s_split S = some L) : ∀ x ∈ L, x.1 = S.1 := by
  obtain ⟨pc, E, F, ls, st, ov, bu, ph⟩ := S
  unfold s_split at h
  cases st with
  | nil => cases h
  | cons a r =>
    simp only at h
    cases ia : a_isI a
    · rw [ia] at h
      cases h
    · rw [ia] at h
      cases h
      intro x hx
      obtain ⟨j, -, hj⟩ := List.mem_flatMap.mp hx
      unfold c_to at hj
      obtain ⟨q, -, rfl⟩ := List.mem_map.mp hj
      rfl
section QK
variable {cs : Nat → List A_C} {md : A_D} {dp : A_L} {nL nr : Nat} {alts : List A_A} {cuts : List A_S} {rt : Option FieldType} {code : List (List a_K)} {pcs : List Nat}
theorem a_doQ_ok {F : Nat} {go : A_S → Bool} (hgo : ∀ S, go S = true → a_go cs md dp nL nr alts cuts rt code F 0 S = true) {q : a_K} {S : A_S} (hk : k_get code S.1 = some q) (h : a_doQ cs md dp nL nr alts rt go q S = true) : a_go cs md dp nL nr alts cuts rt code (F + 1) 2 S = true := by
  have e := a_go_2 (cs := cs) (md := md) (dp := dp) (nL := nL) (nr := nr) (alts := alts) (cuts := cuts) (rt := rt) (code := code) (f := F) (j := 0) (S := S)
  rw [hk] at e
  refine e.trans ?_
  show (bif a_isRt q.2.1 then a_rt nr alts rt q.2.1 q.2.2.1 S else (match a_nx cs md dp nL q S with
    | some L => L.all (a_go cs md dp nL nr alts cuts rt code F 0)
    | none => false)) = true
  unfold a_doQ at h
  cases hb : a_isRt q.2.1
  · rw [hb] at h
    simp only [cond_false] at h ⊢
    cases hL : a_nx cs md dp nL q S with
    | none =>
      rw [hL] at h
      cases h
    | some L =>
      rw [hL] at h
      exact List.all_eq_true.mpr fun x hx => hgo x (List.all_eq_true.mp h x hx)
  · rw [hb] at h
    exact h
theorem a_exQ_ok {F : Nat} {go : A_S → Bool} (hgo : ∀ S, go S = true → a_go cs md dp nL nr alts cuts rt code F 0 S = true) {S : A_S} (h : a_exQ cs md dp nL nr alts rt go (k_getF code S.1) S = true) : a_go cs md dp nL nr alts cuts rt code (F + 2) 1 S = true := by
  have e := a_go_1 (cs := cs) (md := md) (dp := dp) (nL := nL) (nr := nr) (alts := alts) (cuts := cuts) (rt := rt) (code := code) (f := F + 1) (S := S)
  rw [k_getF_eq] at h
  cases hk : k_get code S.1 with
  | none =>
    rw [hk] at h
    cases h
  | some q =>
    rw [hk] at h e
    refine e.trans ?_
    show (bif Nat.beq (q.2.2.2.1 % 2) 1 then (match s_split S with
      | some L => L.all (a_go cs md dp nL nr alts cuts rt code (F + 1) 2)
      | none => false) else a_go cs md dp nL nr alts cuts rt code (F + 1) 2 S) = true
    have h : (bif Nat.beq (q.2.2.2.1 % 2) 1 then (match s_split S with
      | some L => L.all (a_doQ cs md dp nL nr alts rt go q)
      | none => false) else a_doQ cs md dp nL nr alts rt go q S) = true := h
    cases hb : Nat.beq (q.2.2.2.1 % 2) 1
    · rw [hb] at h
      exact a_doQ_ok hgo hk h
    · rw [hb] at h
      simp only [cond_true] at h ⊢
      cases hL : s_split S with
      | none =>
        rw [hL] at h
        cases h
      | some L =>
        rw [hL] at h
        exact List.all_eq_true.mpr fun x hx => a_doQ_ok hgo ((congrArg (k_get code) (s_split_pc hL x hx)).trans hk) (List.all_eq_true.mp h x hx)
theorem a_goQ_ok (hp : ∀ pc, cuts.any (fun U => Nat.beq U.1 pc) = pcs.any (Nat.beq pc)) : ∀ (f F : Nat), 3 * f ≤ F → ∀ S, a_goQ cs md dp nL nr alts cuts rt code pcs f S = true → a_go cs md dp nL nr alts cuts rt code F 0 S = true := by
  intro f
  induction f with
  | zero => intro F _ S h; exact absurd h Bool.false_ne_true
  | succ f ih =>
    intro F hF S h
    obtain ⟨G, rfl⟩ : ∃ G, F = G + 3 := ⟨F - 3, by omega⟩
    have h : @Bool.rec (fun _ => Bool) (a_exQ cs md dp nL nr alts rt (a_goQ cs md dp nL nr alts cuts rt code pcs f) (k_getF code S.1) S) (cuts.any (c_arr nr S)) (l_anyN S.1 pcs) = true := h
    rw [l_anyN_eq] at h
    have e := a_go_0 (cs := cs) (md := md) (dp := dp) (nL := nL) (nr := nr) (alts := alts) (cuts := cuts) (rt := rt) (code := code) (f := G + 2) (S := S)
    rw [hp] at e
    refine e.trans ?_
    cases hb : pcs.any (Nat.beq S.1)
    · rw [hb] at h
      exact a_exQ_ok (go := a_goQ cs md dp nL nr alts cuts rt code pcs f) (fun S hS => ih G (by omega) S hS) h
    · rw [hb] at h
      exact h
end QK
noncomputable def c_exQ (cs : Nat → List A_C) (nL : Nat) (rt : Option FieldType) (code : List (List a_K)) (C : A_C) (pcs : List Nat) (S : A_S) : Bool := match C with
  | (_, E0, _, _, mc, _, dep, alts, cuts, _) => a_exQ cs mc dep nL E0.length alts rt (a_goQ cs mc dep nL E0.length alts cuts rt code pcs 1300) (k_getF code S.1) S
theorem c_exQ_ok {cs : Nat → List A_C} {nL : Nat} {rt : Option FieldType} {code : List (List a_K)} {C : A_C} {pcs : List Nat} (hp : c_pcs C pcs = true) {S : A_S} (h : c_exQ cs nL rt code C pcs S = true) : c_go1 cs nL rt code 4000 C S = true := by
  have hp' := c_pcs_ok hp
  obtain ⟨y, E0, args, ov0, mc, tau, dep, alts, cuts, ph0⟩ := C
  exact a_exQ_ok (F := 3998) (fun S hS => a_goQ_ok hp' 1300 3998 (by decide) S hS) h
theorem goQ_piece {cs : Nat → List A_C} {nL : Nat} {rt : Option FieldType} {code : List (List a_K)} {C : A_C} {pcs : List Nat} (hp : c_pcs C pcs = true) {L : List A_S} (h : L.all (c_exQ cs nL rt code C pcs) = true) : L.all (c_go1 cs nL rt code 4000 C) = true := List.all_eq_true.mpr fun S hS => c_exQ_ok hp (List.all_eq_true.mp h S hS)
noncomputable def c_chkQ (cs : Nat → List A_C) (nL : Nat) (rt : Option FieldType) (code : List (List a_K)) (pcs : List Nat) (C : A_C) : Bool := c_pre nL C && (c_pcs C pcs && (c_exQ cs nL rt code C pcs (c_start C) && (c_cuts C).all (c_exQ cs nL rt code C pcs)))
theorem c_chkQ_ok {cs : Nat → List A_C} {nL : Nat} {rt : Option FieldType} {code : List (List a_K)} {C : A_C} {pcs : List Nat} (h : c_chkQ cs nL rt code pcs C = true) : c_chk cs nL rt code 4000 C = true := by
  obtain ⟨h1, h⟩ := Bool.and_eq_true _ _ |>.mp h
  obtain ⟨h2, h⟩ := Bool.and_eq_true _ _ |>.mp h
  obtain ⟨h3, h4⟩ := Bool.and_eq_true _ _ |>.mp h
  exact c_chk_of h1 (c_exQ_ok h2 h3) (goQ_piece h2 h4)
theorem all_Q {cs : Nat → List A_C} {nL : Nat} {rt : Option FieldType} {code : List (List a_K)} {pcs : List Nat} {L : List A_C} (h : L.all (c_chkQ cs nL rt code pcs) = true) : L.all (c_chk cs nL rt code 4000) = true := List.all_eq_true.mpr fun C hC => c_chkQ_ok (List.all_eq_true.mp h C hC)
/-- a piece of the cuts, looked through with the next of them alone -/
noncomputable def c_exN (cs : Nat → List A_C) (nL : Nat) (rt : Option FieldType) (code : List (List a_K)) (C : A_C) (p0 : Nat) (L : List A_S) (S : A_S) : Bool := match C with
  | (_, E0, _, _, mc, _, dep, alts, _, _) => a_exQ cs mc dep nL E0.length alts rt (a_goQ cs mc dep nL E0.length alts L rt code [p0] 1300) (k_getF code S.1) S
theorem c_exN_ok {cs : Nat → List A_C} {nL : Nat} {rt : Option FieldType} {code : List (List a_K)} {C : A_C} {p0 : Nat} {L : List A_S} (h1 : L.all (fun U => Nat.beq U.1 p0) = true) (hn : L.isEmpty = false) {S : A_S} (h : c_exN cs nL rt code C p0 L S = true) : c_go2 cs nL rt code 4000 C L S = true := by
  obtain ⟨y, E0, args, ov0, mc, tau, dep, alts, cuts, ph0⟩ := C
  refine a_exQ_ok (F := 3998) (fun S hS => a_goQ_ok (fun pc => ?_) 1300 3998 (by decide) S hS) h
  rw [any_pc h1 hn pc]
  show Nat.beq p0 pc = (Nat.beq pc p0 || false)
  rw [Bool.or_false]
  cases hb : Nat.beq p0 pc with
  | true =>
    rw [Nat.eq_of_beq_eq_true hb]
    exact (Nat.beq_refl pc).symm
  | false =>
    cases hc : Nat.beq pc p0 with
    | false => rfl
    | true =>
      rw [Nat.eq_of_beq_eq_true hc, Nat.beq_refl] at hb
      cases hb
theorem go_pieceN {cs : Nat → List A_C} {nL : Nat} {rt : Option FieldType} {code : List (List a_K)} {C : A_C} {p0 k n : Nat} (h1 : (c_cuts C).all (fun U => Nat.beq U.1 p0) = true) (h2 : (((c_cuts C).drop k).take (n + 1)).isEmpty = false) (h : (((c_cuts C).drop k).take n).all (c_exN cs nL rt code C p0 (((c_cuts C).drop k).take (n + 1))) = true) : (((c_cuts C).drop k).take n).all (c_go1 cs nL rt code 4000 C) = true :=
  go_piece h1 h2 (List.all_eq_true.mpr fun S hS => c_exN_ok (List.all_eq_true.mpr fun U hU => List.all_eq_true.mp h1 U (List.mem_of_mem_drop (List.mem_of_mem_take hU))) h2 (List.all_eq_true.mp h S hS))
