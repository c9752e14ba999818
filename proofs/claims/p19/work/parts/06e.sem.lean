/-! WHAT A METHOD COMES TO, as a function -/
noncomputable def z_R (y : Nat) (g : z_G) : Option z_Q := @dite (Option z_Q) (∃ r, z_Ev y g r) (Classical.propDecidable _) (fun h => some (Classical.choose h)) (fun _ => none)
theorem z_R_iff {y : Nat} {g : z_G} {r : z_Q} : z_R y g = some r ↔ z_Ev y g r := by
  classical
  unfold z_R
  constructor
  · intro h
    split at h
    · rename_i hx
      rw [← Option.some.inj h]
      exact Classical.choose_spec hx
    · cases h
  · intro h
    have hx : ∃ r, z_Ev y g r := ⟨r, h⟩
    rw [dif_pos hx]
    exact congrArg some (z_Ev_one (Classical.choose_spec hx) h)
theorem z_R_ext {y y' : Nat} {g g' : z_G} (h : ∀ r, z_Ev y g r ↔ z_Ev y' g' r) : z_R y g = z_R y' g' := by
  apply Option.ext
  intro r
  exact (z_R_iff (r := r)).trans ((h r).trans z_R_iff.symm)
theorem z_Ev_st {y : Nat} {K : List (List a_K)} (hK : kt_at y = K) {g g' : z_G} {q : a_K} (hq : k_get K g.2.1 = some q) (hk : z_kd q.2.1 q.2.2.2.2 = 0) (hs : z_step q g = some g') (r : z_Q) : z_Ev y g r ↔ z_Ev y g' r := by
  subst hK
  constructor
  · rintro ⟨f, h⟩
    cases f with
    | zero => cases h
    | succ f =>
      unfold z_ex at h
      simp only [hq, hk, hs] at h
      exact ⟨f, h⟩
  · exact (z_cl_Ev y).1 q g g' hq hk hs r
theorem z_R_st {y : Nat} {K : List (List a_K)} (hK : kt_at y = K) {g g' : z_G} {q : a_K} (hq : k_get K g.2.1 = some q) (hk : z_kd q.2.1 q.2.2.2.2 = 0) (hs : z_step q g = some g') : z_R y g = z_R y g' := z_R_ext (z_Ev_st hK hq hk hs)
theorem z_R_bad {y : Nat} {K : List (List a_K)} (hK : kt_at y = K) {g : z_G} {q : a_K} (hq : k_get K g.2.1 = some q) (hk : z_kd q.2.1 q.2.2.2.2 = 0) (hs : z_step q g = none) : z_R y g = none := by
  cases h : z_R y g with
  | none => rfl
  | some r =>
    obtain ⟨f, h⟩ := z_R_iff.mp h
    subst hK
    cases f with
    | zero => cases h
    | succ f =>
      unfold z_ex at h
      simp only [hq, hk, hs] at h
      cases h
theorem z_R_ret {y : Nat} {K : List (List a_K)} (hK : kt_at y = K) {m : z_M} {pc : Nat} {ls : z_L} {st : List z_V} {q : a_K} {r : z_Q} (hq : k_get K pc = some q) (hk : z_kd q.2.1 q.2.2.2.2 = 1) (hs : z_ret q (m, pc, ls, st) = some r) : z_R y (m, pc, ls, st) = some r := by
  subst hK
  exact z_R_iff.mpr ((z_cl_Ev y).2.1 q (m, pc, ls, st) r hq hk hs)
theorem z_R_call {y : Nat} {K : List (List a_K)} (hK : kt_at y = K) {m : z_M} {pc pc' : Nat} {ls : z_L} {st : List z_V} {q : a_K} {y2 : Nat} {as rest : List z_V} {fr : z_L} (hq : k_get K pc = some q) (hk : z_kd q.2.1 q.2.2.2.2 = 2) (hc : z_call q st = some (y2, as, rest)) (hf : z_fr y2 as = fr) (hp : pc + 3 = pc') : z_R y (m, pc, ls, st) = (z_R y2 (m, 0, fr, [])).bind fun r => z_R y (r.1, pc', ls, r.2.toList ++ rest) := by
  subst hK hf hp
  apply Option.ext
  intro r
  constructor
  · intro h
    obtain ⟨f, h⟩ := z_R_iff.mp h
    cases f with
    | zero => cases h
    | succ f =>
      unfold z_ex at h
      simp only [hq, hk, hc] at h
      split at h
      · rename_i m' v hv
        rw [z_R_iff.mpr ⟨f, hv⟩]
        exact z_R_iff.mpr ⟨f, h⟩
      · cases h
  · intro h
    obtain ⟨⟨m', v⟩, h1, h2⟩ := Option.bind_eq_some_iff.mp h
    exact z_R_iff.mpr ((z_cl_Ev y).2.2 q (m, pc, ls, st) y2 as rest m' v hq hk hc (z_R_iff.mp h1) r (z_R_iff.mp h2))
/-- some instructions at once -/
def z_run (K : List (List a_K)) : Nat → z_G → Option z_G
  | 0, g => some g
  | n + 1, (m, pc, ls, st) => match k_get K pc with
    | none => none
    | some q => match z_kd q.2.1 q.2.2.2.2 with
      | 0 => (match z_step q (m, pc, ls, st) with
        | some g' => z_run K n g'
        | none => none)
      | _ => none
theorem z_R_run {y : Nat} {K : List (List a_K)} (hK : kt_at y = K) : ∀ {n : Nat} {g g' : z_G}, z_run K n g = some g' → z_R y g = z_R y g'
  | 0, g, g', h => by cases h; rfl
  | n + 1, (m, pc, ls, st), g', h => by
    unfold z_run at h
    split at h
    · cases h
    · rename_i q hq
      split at h
      · rename_i hk
        split at h
        · rename_i g1 hs
          exact (z_R_st hK hq hk hs).trans (z_R_run hK h)
        · cases h
      · cases h
theorem z_if {α : Type} {c : Prop} [h : Decidable c] {a a' b b' : α} (h1 : a = a') (h2 : b = b') : (if c then a else b) = (if c then a' else b') := by rw [h1, h2]
theorem z_bif {α : Type} {c : Prop} [h : Decidable c] {a b : α} : (bif decide c then a else b) = (if c then a else b) := by
  by_cases hc : c <;> simp [hc]
theorem z_bif_n {α : Type} {c : Prop} [h : Decidable c] {a b : α} : (bif !decide c then a else b) = (if c then b else a) := by
  by_cases hc : c <;> simp [hc]
theorem z_R_pc {y : Nat} {m : z_M} {b : Bool} {p q : Nat} {ls : z_L} {st : List z_V} : z_R y (m, bif b then p else q, ls, st) = bif b then z_R y (m, p, ls, st) else z_R y (m, q, ls, st) := by cases b <;> rfl
/-- a branch: by what is asked -/
theorem z_R_if {y : Nat} {K : List (List a_K)} (hK : kt_at y = K) {c : Prop} [hc : Decidable c] {m : z_M} {pc p1 p2 : Nat} {ls : z_L} {st st' : List z_V} {q : a_K} {A B : Option z_Q} (hq : k_get K pc = some q) (hk : z_kd q.2.1 q.2.2.2.2 = 0) (hs : z_step q (m, pc, ls, st) = some (m, bif decide c then p1 else p2, ls, st')) (h1 : z_R y (m, p1, ls, st') = A) (h2 : z_R y (m, p2, ls, st') = B) : z_R y (m, pc, ls, st) = if c then A else B := by
  rw [z_R_st hK (g := (m, pc, ls, st)) hq hk hs, z_R_pc, h1, h2, z_bif]
theorem z_R_ifn {y : Nat} {K : List (List a_K)} (hK : kt_at y = K) {c : Prop} [hc : Decidable c] {m : z_M} {pc p1 p2 : Nat} {ls : z_L} {st st' : List z_V} {q : a_K} {A B : Option z_Q} (hq : k_get K pc = some q) (hk : z_kd q.2.1 q.2.2.2.2 = 0) (hs : z_step q (m, pc, ls, st) = some (m, bif !decide c then p1 else p2, ls, st')) (h1 : z_R y (m, p1, ls, st') = A) (h2 : z_R y (m, p2, ls, st') = B) : z_R y (m, pc, ls, st) = if c then B else A := by
  rw [z_R_st hK (g := (m, pc, ls, st)) hq hk hs, z_R_pc, h1, h2, z_bif_n]
/-- a place in a row -/
theorem z_R_ix {y : Nat} {K : List (List a_K)} (hK : kt_at y = K) {i : Int} {n : Nat} {m : z_M} {pc : Nat} {ls : z_L} {st : List z_V} {g' : z_G} {q : a_K} {A : Option z_Q} (hq : k_get K pc = some q) (hk : z_kd q.2.1 q.2.2.2.2 = 0) (hs : z_step q (m, pc, ls, st) = bif z_ix i n then some g' else none) (h1 : z_R y g' = A) : z_R y (m, pc, ls, st) = if 0 ≤ i ∧ i < (n : Int) then A else none := by
  by_cases h : 0 ≤ i ∧ i < (n : Int)
  · have e : z_ix i n = true := by unfold z_ix; rw [decide_eq_true h.1, decide_eq_true h.2]; rfl
    rw [e] at hs
    rw [if_pos h, ← h1]
    exact z_R_st hK (g := (m, pc, ls, st)) hq hk hs
  · have e : z_ix i n = false := by
      unfold z_ix
      by_cases h0 : 0 ≤ i
      · rw [decide_eq_true h0, decide_eq_false (fun z => h ⟨h0, z⟩)]; rfl
      · rw [decide_eq_false h0]; rfl
    rw [e] at hs
    rw [if_neg h]
    exact z_R_bad hK (g := (m, pc, ls, st)) hq hk hs
/-- a divisor -/
theorem z_R_dv {y : Nat} {K : List (List a_K)} (hK : kt_at y = K) {d : Int} {m : z_M} {pc : Nat} {ls : z_L} {st : List z_V} {g' : z_G} {q : a_K} {A : Option z_Q} (hq : k_get K pc = some q) (hk : z_kd q.2.1 q.2.2.2.2 = 0) (hs : z_step q (m, pc, ls, st) = if d = 0 then none else some g') (h1 : z_R y g' = A) : z_R y (m, pc, ls, st) = if d = 0 then none else A := by
  by_cases h : d = 0
  · rw [if_pos h] at hs ⊢
    exact z_R_bad hK (g := (m, pc, ls, st)) hq hk hs
  · rw [if_neg h] at hs ⊢
    rw [← h1]
    exact z_R_st hK (g := (m, pc, ls, st)) hq hk hs
theorem z_R_s1 {y : Nat} {K : List (List a_K)} (hK : kt_at y = K) {m : z_M} {pc : Nat} {ls : z_L} {st : List z_V} {g' : z_G} {q : a_K} (hq : k_get K pc = some q) (hk : z_kd q.2.1 q.2.2.2.2 = 0) (hs : z_step q (m, pc, ls, st) = some g') : z_R y (m, pc, ls, st) = z_R y g' := z_R_st hK (g := (m, pc, ls, st)) hq hk hs
