section
/-! STEPS whose bounds are known -/
theorem z_R_ifd {y : Nat} {K : List (List a_K)} (hK : kt_at y = K) {c : Prop} [hc : Decidable c] {m : z_M} {pc p1 p2 : Nat} {ls : z_L} {st st' : List z_V} {q : a_K} {A B : Option z_Q} (hq : k_get K pc = some q) (hk : z_kd q.2.1 q.2.2.2.2 = 0) (hs : z_step q (m, pc, ls, st) = some (m, bif decide c then p1 else p2, ls, st')) (h1 : c → z_R y (m, p1, ls, st') = A) (h2 : ¬ c → z_R y (m, p2, ls, st') = B) : z_R y (m, pc, ls, st) = if c then A else B := by
  rw [z_R_st hK (g := (m, pc, ls, st)) hq hk hs, z_R_pc, z_bif]
  by_cases h : c
  · rw [if_pos h, if_pos h, h1 h]
  · rw [if_neg h, if_neg h, h2 h]
theorem z_R_ifnd {y : Nat} {K : List (List a_K)} (hK : kt_at y = K) {c : Prop} [hc : Decidable c] {m : z_M} {pc p1 p2 : Nat} {ls : z_L} {st st' : List z_V} {q : a_K} {A B : Option z_Q} (hq : k_get K pc = some q) (hk : z_kd q.2.1 q.2.2.2.2 = 0) (hs : z_step q (m, pc, ls, st) = some (m, bif !decide c then p1 else p2, ls, st')) (h1 : ¬ c → z_R y (m, p1, ls, st') = A) (h2 : c → z_R y (m, p2, ls, st') = B) : z_R y (m, pc, ls, st) = if c then B else A := by
  rw [z_R_st hK (g := (m, pc, ls, st)) hq hk hs, z_R_pc, z_bif_n]
  by_cases h : c
  · rw [if_pos h, if_pos h, h2 h]
  · rw [if_neg h, if_neg h, h1 h]
theorem z_R_if1 {y : Nat} {K : List (List a_K)} (hK : kt_at y = K) {c : Prop} [hc : Decidable c] {m : z_M} {pc p1 p2 : Nat} {ls : z_L} {st st' : List z_V} {q : a_K} {A : Option z_Q} (hq : k_get K pc = some q) (hk : z_kd q.2.1 q.2.2.2.2 = 0) (hs : z_step q (m, pc, ls, st) = some (m, bif decide c then p1 else p2, ls, st')) (hd : c) (h1 : z_R y (m, p1, ls, st') = A) : z_R y (m, pc, ls, st) = A := by
  rw [z_R_st hK (g := (m, pc, ls, st)) hq hk hs, z_R_pc, z_bif, if_pos hd, h1]
theorem z_R_if0 {y : Nat} {K : List (List a_K)} (hK : kt_at y = K) {c : Prop} [hc : Decidable c] {m : z_M} {pc p1 p2 : Nat} {ls : z_L} {st st' : List z_V} {q : a_K} {A : Option z_Q} (hq : k_get K pc = some q) (hk : z_kd q.2.1 q.2.2.2.2 = 0) (hs : z_step q (m, pc, ls, st) = some (m, bif decide c then p1 else p2, ls, st')) (hd : ¬ c) (h1 : z_R y (m, p2, ls, st') = A) : z_R y (m, pc, ls, st) = A := by
  rw [z_R_st hK (g := (m, pc, ls, st)) hq hk hs, z_R_pc, z_bif, if_neg hd, h1]
theorem z_R_ifn1 {y : Nat} {K : List (List a_K)} (hK : kt_at y = K) {c : Prop} [hc : Decidable c] {m : z_M} {pc p1 p2 : Nat} {ls : z_L} {st st' : List z_V} {q : a_K} {A : Option z_Q} (hq : k_get K pc = some q) (hk : z_kd q.2.1 q.2.2.2.2 = 0) (hs : z_step q (m, pc, ls, st) = some (m, bif !decide c then p1 else p2, ls, st')) (hd : c) (h1 : z_R y (m, p2, ls, st') = A) : z_R y (m, pc, ls, st) = A := by
  rw [z_R_st hK (g := (m, pc, ls, st)) hq hk hs, z_R_pc, z_bif_n, if_pos hd, h1]
theorem z_R_ifn0 {y : Nat} {K : List (List a_K)} (hK : kt_at y = K) {c : Prop} [hc : Decidable c] {m : z_M} {pc p1 p2 : Nat} {ls : z_L} {st st' : List z_V} {q : a_K} {A : Option z_Q} (hq : k_get K pc = some q) (hk : z_kd q.2.1 q.2.2.2.2 = 0) (hs : z_step q (m, pc, ls, st) = some (m, bif !decide c then p1 else p2, ls, st')) (hd : ¬ c) (h1 : z_R y (m, p1, ls, st') = A) : z_R y (m, pc, ls, st) = A := by
  rw [z_R_st hK (g := (m, pc, ls, st)) hq hk hs, z_R_pc, z_bif_n, if_neg hd, h1]
theorem z_ix_t {i : Int} {n : Nat} (h : 0 ≤ i ∧ i < (n : Int)) : z_ix i n = true := by unfold z_ix; rw [decide_eq_true h.1, decide_eq_true h.2]; rfl
theorem z_ix_f {i : Int} {n : Nat} (h : ¬ (0 ≤ i ∧ i < (n : Int))) : z_ix i n = false := by
  unfold z_ix
  by_cases h0 : 0 ≤ i
  · rw [decide_eq_true h0, decide_eq_false (fun z => h ⟨h0, z⟩)]; rfl
  · rw [decide_eq_false h0]; rfl
theorem z_R_ixT {y : Nat} {K : List (List a_K)} (hK : kt_at y = K) {i : Int} {n : Nat} {m : z_M} {pc : Nat} {ls : z_L} {st : List z_V} {g' : z_G} {q : a_K} {A : Option z_Q} (hq : k_get K pc = some q) (hk : z_kd q.2.1 q.2.2.2.2 = 0) (hs : z_step q (m, pc, ls, st) = bif z_ix i n then some g' else none) (hi : 0 ≤ i ∧ i < (n : Int)) (h1 : z_R y g' = A) : z_R y (m, pc, ls, st) = A := by
  rw [z_ix_t hi] at hs
  exact (z_R_st hK (g := (m, pc, ls, st)) hq hk hs).trans h1
theorem z_ga_t {m : z_M} {q k : Nat} : z_ga m q k = (2, (z_ga m q k).2) := by
  unfold z_ga
  cases Nat.beq (h_ty q k).1 1 <;> rfl
theorem z_R_ixG {y : Nat} {K : List (List a_K)} (hK : kt_at y = K) {i : Int} {n Q pc' : Nat} {m : z_M} {pc : Nat} {ls : z_L} {st r : List z_V} {q : a_K} {A : Option z_Q} (hq : k_get K pc = some q) (hk : z_kd q.2.1 q.2.2.2.2 = 0) (hs : z_step q (m, pc, ls, st) = bif z_ix i n then some (m, pc', ls, z_ga m Q i.toNat :: r) else none) (hi : 0 ≤ i ∧ i < (n : Int)) (h1 : z_R y (m, pc', ls, (2, (z_ga m Q i.toNat).2) :: r) = A) : z_R y (m, pc, ls, st) = A := by
  rw [z_ix_t hi, z_ga_t] at hs
  exact (z_R_st hK (g := (m, pc, ls, st)) hq hk hs).trans h1
theorem z_R_ixD {y : Nat} {K : List (List a_K)} (hK : kt_at y = K) {i : Int} {n : Nat} {m : z_M} {pc : Nat} {ls : z_L} {st : List z_V} {g' : z_G} {q : a_K} {A : Option z_Q} (hq : k_get K pc = some q) (hk : z_kd q.2.1 q.2.2.2.2 = 0) (hs : z_step q (m, pc, ls, st) = bif z_ix i n then some g' else none) (h1 : 0 ≤ i ∧ i < (n : Int) → z_R y g' = A) : z_R y (m, pc, ls, st) = if 0 ≤ i ∧ i < (n : Int) then A else none := by
  by_cases h : 0 ≤ i ∧ i < (n : Int)
  · rw [if_pos h]; exact z_R_ixT hK hq hk hs h (h1 h)
  · rw [z_ix_f h] at hs
    rw [if_neg h]
    exact z_R_bad hK (g := (m, pc, ls, st)) hq hk hs
theorem z_R_ixTS {y : Nat} {K : List (List a_K)} (hK : kt_at y = K) {i : Int} {n Q pc' : Nat} {m : z_M} {pc : Nat} {ls : z_L} {st r : List z_V} {q : a_K} {A : Option z_Q} (hq : k_get K pc = some q) (hk : z_kd q.2.1 q.2.2.2.2 = 0) (hs : z_step q (m, pc, ls, st) = bif z_ix i (z_ln Q) then some (m, pc', ls, (0, z_rd m Q i.toNat) :: r) else none) (hn : z_ln Q = n) (hr : ∀ (m : z_M) (j : Nat), z_rd m Q j = m Q j) (hi : 0 ≤ i ∧ i < (n : Int)) (h1 : z_R y (m, pc', ls, (0, m Q i.toNat) :: r) = A) : z_R y (m, pc, ls, st) = A := by
  rw [hn, z_ix_t hi, hr] at hs
  exact (z_R_st hK (g := (m, pc, ls, st)) hq hk hs).trans h1
theorem z_R_ixDS {y : Nat} {K : List (List a_K)} (hK : kt_at y = K) {i : Int} {n Q pc' : Nat} {m : z_M} {pc : Nat} {ls : z_L} {st r : List z_V} {q : a_K} {A : Option z_Q} (hq : k_get K pc = some q) (hk : z_kd q.2.1 q.2.2.2.2 = 0) (hs : z_step q (m, pc, ls, st) = bif z_ix i (z_ln Q) then some (m, pc', ls, (0, z_rd m Q i.toNat) :: r) else none) (hn : z_ln Q = n) (hr : ∀ (m : z_M) (j : Nat), z_rd m Q j = m Q j) (h1 : 0 ≤ i ∧ i < (n : Int) → z_R y (m, pc', ls, (0, m Q i.toNat) :: r) = A) : z_R y (m, pc, ls, st) = if 0 ≤ i ∧ i < (n : Int) then A else none := by
  by_cases h : 0 ≤ i ∧ i < (n : Int)
  · rw [if_pos h]; exact z_R_ixTS hK hq hk hs hn hr h (h1 h)
  · rw [hn, z_ix_f h] at hs
    rw [if_neg h]
    exact z_R_bad hK (g := (m, pc, ls, st)) hq hk hs
theorem z_R_stTS {y : Nat} {K : List (List a_K)} (hK : kt_at y = K) {i v : Int} {n Q pc' : Nat} {m : z_M} {pc : Nat} {ls : z_L} {st r : List z_V} {q : a_K} {A : Option z_Q} (hq : k_get K pc = some q) (hk : z_kd q.2.1 q.2.2.2.2 = 0) (hs : z_step q (m, pc, ls, st) = bif z_ix i (h_ln Q) then some (z_up m Q i.toNat v, pc', ls, r) else none) (hn : h_ln Q = n) (hi : 0 ≤ i ∧ i < (n : Int)) (h1 : z_R y (z_up m Q i.toNat v, pc', ls, r) = A) : z_R y (m, pc, ls, st) = A := by
  rw [hn, z_ix_t hi] at hs
  exact (z_R_st hK (g := (m, pc, ls, st)) hq hk hs).trans h1
theorem z_R_stDS {y : Nat} {K : List (List a_K)} (hK : kt_at y = K) {i v : Int} {n Q pc' : Nat} {m : z_M} {pc : Nat} {ls : z_L} {st r : List z_V} {q : a_K} {A : Option z_Q} (hq : k_get K pc = some q) (hk : z_kd q.2.1 q.2.2.2.2 = 0) (hs : z_step q (m, pc, ls, st) = bif z_ix i (h_ln Q) then some (z_up m Q i.toNat v, pc', ls, r) else none) (hn : h_ln Q = n) (h1 : 0 ≤ i ∧ i < (n : Int) → z_R y (z_up m Q i.toNat v, pc', ls, r) = A) : z_R y (m, pc, ls, st) = if 0 ≤ i ∧ i < (n : Int) then A else none := by
  by_cases h : 0 ≤ i ∧ i < (n : Int)
  · rw [if_pos h]; exact z_R_stTS hK hq hk hs hn h (h1 h)
  · rw [hn, z_ix_f h] at hs
    rw [if_neg h]
    exact z_R_bad hK (g := (m, pc, ls, st)) hq hk hs
theorem z_R_gf {y : Nat} {K : List (List a_K)} (hK : kt_at y = K) {m : z_M} {pc pc' s ci k : Nat} {ls : z_L} {st r : List z_V} {q : a_K} {v : z_V} {A : Option z_Q} (hq : k_get K pc = some q) (hk : z_kd q.2.1 q.2.2.2.2 = 0) (hs : z_step q (m, pc, ls, st) = some (m, pc', ls, z_gf m s ci k :: r)) (hv : z_gf m s ci k = v) (h1 : z_R y (m, pc', ls, v :: r) = A) : z_R y (m, pc, ls, st) = A := by
  rw [hv] at hs
  exact (z_R_st hK (g := (m, pc, ls, st)) hq hk hs).trans h1
theorem z_R_dvT {y : Nat} {K : List (List a_K)} (hK : kt_at y = K) {d : Int} {m : z_M} {pc : Nat} {ls : z_L} {st : List z_V} {g' : z_G} {q : a_K} {A : Option z_Q} (hq : k_get K pc = some q) (hk : z_kd q.2.1 q.2.2.2.2 = 0) (hs : z_step q (m, pc, ls, st) = if d = 0 then none else some g') (hd : ¬ d = 0) (h1 : z_R y g' = A) : z_R y (m, pc, ls, st) = A := by
  rw [if_neg hd] at hs
  exact (z_R_st hK (g := (m, pc, ls, st)) hq hk hs).trans h1
theorem z_R_dvD {y : Nat} {K : List (List a_K)} (hK : kt_at y = K) {d : Int} {m : z_M} {pc : Nat} {ls : z_L} {st : List z_V} {g' : z_G} {q : a_K} {A : Option z_Q} (hq : k_get K pc = some q) (hk : z_kd q.2.1 q.2.2.2.2 = 0) (hs : z_step q (m, pc, ls, st) = if d = 0 then none else some g') (h1 : ¬ d = 0 → z_R y g' = A) : z_R y (m, pc, ls, st) = if d = 0 then none else A := by
  by_cases h : d = 0
  · rw [if_pos h] at hs ⊢
    exact z_R_bad hK (g := (m, pc, ls, st)) hq hk hs
  · rw [if_neg h]
    exact z_R_dvT hK hq hk hs h (h1 h)
theorem z_R_cs {y : Nat} {K : List (List a_K)} (hK : kt_at y = K) {m m' : z_M} {pc pc' : Nat} {ls : z_L} {st : List z_V} {q : a_K} {y2 : Nat} {as rest : List z_V} {fr : z_L} {v : Option z_V} {A : Option z_Q} (hq : k_get K pc = some q) (hk : z_kd q.2.1 q.2.2.2.2 = 2) (hc : z_call q st = some (y2, as, rest)) (hf : z_fr y2 as = fr) (hp : pc + 3 = pc') (hT : z_R y2 (m, 0, fr, []) = some (m', v)) (h1 : z_R y (m', pc', ls, v.toList ++ rest) = A) : z_R y (m, pc, ls, st) = A := by
  rw [z_R_call hK hq hk hc hf hp, hT]
  exact h1
theorem z_R_cif {y : Nat} {K : List (List a_K)} (hK : kt_at y = K) {m m1 m2 : z_M} {pc pc' : Nat} {ls : z_L} {st : List z_V} {q : a_K} {y2 : Nat} {as rest : List z_V} {fr : z_L} {v1 v2 : Option z_V} {A B : Option z_Q} {c : Prop} [hdc : Decidable c] (hq : k_get K pc = some q) (hk : z_kd q.2.1 q.2.2.2.2 = 2) (hc : z_call q st = some (y2, as, rest)) (hf : z_fr y2 as = fr) (hp : pc + 3 = pc') (hT : z_R y2 (m, 0, fr, []) = if c then some (m1, v1) else some (m2, v2)) (h1 : c → z_R y (m1, pc', ls, v1.toList ++ rest) = A) (h2 : ¬ c → z_R y (m2, pc', ls, v2.toList ++ rest) = B) : z_R y (m, pc, ls, st) = if c then A else B := by
  rw [z_R_call hK hq hk hc hf hp, hT]
  by_cases h : c
  · rw [if_pos h, if_pos h]; exact h1 h
  · rw [if_neg h, if_neg h]; exact h2 h
theorem z_div_nn {x y : Int} (h1 : 0 ≤ x) (h2 : x ≤ 2147483647) (h3 : 0 < y) (h4 : y ≤ 2147483647) : z_div x y = x / y := by
  rw [z_div_eq (by omega) h2 (by omega) h4 (by omega)]
  exact Int.tdiv_eq_ediv_of_nonneg h1
theorem z_rem_nn {x y : Int} (h1 : 0 ≤ x) (h2 : x ≤ 2147483647) (h3 : 0 < y) (h4 : y ≤ 2147483647) : z_rem x y = x % y := by
  rw [z_rem_eq (by omega) h2 (by omega) h4]
  exact Int.tmod_eq_emod_of_nonneg h1
/-- what a call gave, behind it -/
theorem zb_v {y pc : Nat} {m : z_M} {v : z_V} {ls : z_L} {rest : List z_V} : ((some (m, some v) : Option z_Q).bind fun qq => z_R y (qq.1, pc, ls, qq.2.toList ++ rest)) = z_R y (m, pc, ls, v :: rest) := rfl
theorem zb_n {y pc : Nat} {m : z_M} {ls : z_L} {rest : List z_V} : ((some (m, none) : Option z_Q).bind fun qq => z_R y (qq.1, pc, ls, qq.2.toList ++ rest)) = z_R y (m, pc, ls, rest) := rfl
theorem z_dite {α : Type} {X A B : α} {c : Prop} [hc : Decidable c] (h1 : c → X = A) (h2 : ¬ c → X = B) : X = if c then A else B := by
  by_cases h : c
  · rw [if_pos h]; exact h1 h
  · rw [if_neg h]; exact h2 h
theorem z_R_tgi {y pc : Nat} {m : z_M} {ls : z_L} {st : List z_V} {c : Prop} [hc : Decidable c] {o o' : Int} {A B : Option z_Q} (h1 : c → z_R y (m, z_tgt pc o, ls, st) = A) (h2 : ¬ c → z_R y (m, z_tgt pc o', ls, st) = B) : z_R y (m, z_tgt pc (if c then o else o'), ls, st) = if c then A else B := by
  by_cases h : c
  · rw [if_pos h, if_pos h]; exact h1 h
  · rw [if_neg h, if_neg h]; exact h2 h
theorem z_R_tbk {y pc : Nat} {m : z_M} {ls : z_L} {st : List z_V} {d lo hi x k o : Int} {os : List Int} {A : Option z_Q} (h : x = k) (he : z_tbo d lo hi os k = o) (h1 : z_R y (m, z_tgt pc o, ls, st) = A) : z_R y (m, z_tgt pc (z_tbo d lo hi os x), ls, st) = A := by
  rw [h, he]; exact h1
theorem z_R_tbd {y pc : Nat} {m : z_M} {ls : z_L} {st : List z_V} {d lo hi x : Int} {os : List Int} {A : Option z_Q} (h : ¬ (lo ≤ x ∧ x ≤ hi)) (h1 : z_R y (m, z_tgt pc d, ls, st) = A) : z_R y (m, z_tgt pc (z_tbo d lo hi os x), ls, st) = A := by
  unfold z_tbo
  rw [if_neg h]; exact h1
/-! places of States, of rows of 37 -/
def z_stL : List Nat := [12, 18, 32, 38, 44, 50, 56, 62, 68, 74, 80, 86, 92, 98, 104, 110, 123, 129, 141, 147, 157, 163, 169, 175, 181, 187, 196, 202, 208, 214, 220, 226, 232, 238, 244]
def z_st (s : Nat) : Prop := s ∈ z_stL ∧ (s = 12 ∨ s = 18 ∨ (32 ≤ s ∧ s ≤ 110) ∨ s = 123 ∨ s = 129 ∨ s = 141 ∨ s = 147 ∨ (157 ≤ s ∧ s ≤ 187) ∨ (196 ≤ s ∧ s ≤ 244))
def st_n (k : Nat) : Nat := if k < 3 then 9 else 5
noncomputable def st_ck (s : Nat) : Bool := (List.range 5).all (fun k => Nat.beq (h_ty s k).1 1 && (i_eq (h_ty s k).2.1 ((s + (k + 1) : Nat) : Int) && (Nat.beq (z_ln (s + (k + 1))) (st_n (k + 1)) && (Nat.beq (h_ln (s + (k + 1))) (st_n (k + 1)) && Nat.blt (s + (k + 1)) h_N)))) && (List.range 9).all (fun k => Nat.blt k 5 || (!(Nat.beq (h_ty s k).1 1) && Nat.beq (z_ft (a_ty 8 k)) 0))
theorem st_cks : z_stL.all st_ck = true := by decide +kernel
theorem st_c1 {s k : Nat} (h : z_st s) (hk : k < 5) : (h_ty s k).1 = 1 ∧ (h_ty s k).2.1 = ((s + (k + 1) : Nat) : Int) ∧ z_ln (s + (k + 1)) = st_n (k + 1) ∧ h_ln (s + (k + 1)) = st_n (k + 1) ∧ s + (k + 1) < h_N := by
  have h1 := List.all_eq_true.mp st_cks s h.1
  obtain ⟨h2, -⟩ := Bool.and_eq_true _ _ |>.mp h1
  have h3 := List.all_eq_true.mp h2 k (List.mem_range.mpr hk)
  obtain ⟨a1, h3⟩ := Bool.and_eq_true _ _ |>.mp h3
  obtain ⟨a2, h3⟩ := Bool.and_eq_true _ _ |>.mp h3
  obtain ⟨a3, h3⟩ := Bool.and_eq_true _ _ |>.mp h3
  obtain ⟨a4, a5⟩ := Bool.and_eq_true _ _ |>.mp h3
  exact ⟨Nat.eq_of_beq_eq_true a1, i_eq_iff.mp a2, Nat.eq_of_beq_eq_true a3, Nat.eq_of_beq_eq_true a4, Nat.le_of_ble_eq_true a5⟩
theorem st_c2 {s k : Nat} (h : z_st s) (hk : k < 9) (h5 : 5 ≤ k) : Nat.beq (h_ty s k).1 1 = false ∧ z_ft (a_ty 8 k) = 0 := by
  have h1 := List.all_eq_true.mp st_cks s h.1
  obtain ⟨-, h2⟩ := Bool.and_eq_true _ _ |>.mp h1
  have h3 := List.all_eq_true.mp h2 k (List.mem_range.mpr hk)
  have hb : Nat.blt k 5 = false := by
    cases e : Nat.blt k 5 with
    | false => rfl
    | true => exact absurd (Nat.le_of_ble_eq_true e) (by omega)
  rw [hb, Bool.false_or] at h3
  obtain ⟨a1, a2⟩ := Bool.and_eq_true _ _ |>.mp h3
  refine ⟨?_, Nat.eq_of_beq_eq_true a2⟩
  cases e : Nat.beq (h_ty s k).1 1 with
  | false => rfl
  | true => rw [e] at a1; cases a1
theorem st_ga {m : z_M} {s ci : Nat} (h : z_st s) (k : Nat) (hk : k < 5) : z_gf m s ci k = (2, ((s + (k + 1) : Nat) : Int)) := by
  obtain ⟨h1, h2, -⟩ := st_c1 h hk
  unfold z_gf
  rw [h1, h2]
  rfl
theorem st_gi {m : z_M} {s : Nat} (h : z_st s) (k : Nat) (hk : k < 9) (h5 : 5 ≤ k) : z_gf m s 8 k = (0, m s k) := by
  obtain ⟨h1, h2⟩ := st_c2 h hk h5
  unfold z_gf
  rw [h1, h2]
  rfl
theorem st_ln {s : Nat} (h : z_st s) (k : Nat) (h1 : 1 ≤ k) (h2 : k ≤ 5) : z_ln (s + k) = st_n k := by
  obtain ⟨j, rfl⟩ : ∃ j, k = j + 1 := ⟨k - 1, by omega⟩
  exact (st_c1 h (k := j) (by omega)).2.2.1
theorem st_hl {s : Nat} (h : z_st s) (k : Nat) (h1 : 1 ≤ k) (h2 : k ≤ 5) : h_ln (s + k) = st_n k := by
  obtain ⟨j, rfl⟩ : ∃ j, k = j + 1 := ⟨k - 1, by omega⟩
  exact (st_c1 h (k := j) (by omega)).2.2.2.1
theorem z_rd_sm {q : Nat} (h : q < h_N) (m : z_M) (j : Nat) : z_rd m q j = m q j := by
  unfold z_rd
  rw [show Nat.blt q h_N = true from Nat.ble_eq_true_of_le h]
  rfl
theorem st_rd {s : Nat} (h : z_st s) (k : Nat) (h1 : 1 ≤ k) (h2 : k ≤ 5) (m : z_M) (j : Nat) : z_rd m (s + k) j = m (s + k) j := by
  obtain ⟨i, rfl⟩ : ∃ i, k = i + 1 := ⟨k - 1, by omega⟩
  exact z_rd_sm (st_c1 h (k := i) (by omega)).2.2.2.2 m j
noncomputable def z_A (n a : Nat) : Prop := z_ln a = n ∧ h_ln a = n ∧ ∀ (m : z_M) (j : Nat), z_rd m a j = m a j
def z_ab (a : Nat) : Prop := a = 252 ∨ a = 264
theorem z_A_252 : z_A 37 252 := ⟨by decide +kernel, by decide +kernel, z_rd_sm (by decide +kernel)⟩
theorem z_A_264 : z_A 37 264 := ⟨by decide +kernel, by decide +kernel, z_rd_sm (by decide +kernel)⟩
/-! a cell that is left: with places told by a name -/
def z_of : List (Nat × Nat × Nat) → Nat → Nat → Prop
  | [], _, _ => True
  | (a, b, c) :: L, p, k => ¬ (a = p ∧ b ≤ k ∧ k ≤ c) ∧ z_of L p k
theorem z_of_c {a b c p k : Nat} {L : List (Nat × Nat × Nat)} (h : ¬ (a = p ∧ b ≤ k ∧ k ≤ c)) (t : z_of L p k) : z_of ((a, b, c) :: L) p k := ⟨h, t⟩
def z_ofr : List (Nat × Nat × Nat) → Nat → Prop
  | [], _ => True
  | (a, _, _) :: L, p => ¬ a = p ∧ z_ofr L p
theorem z_ofr_c {a b c p : Nat} {L : List (Nat × Nat × Nat)} (h : ¬ a = p) (t : z_ofr L p) : z_ofr ((a, b, c) :: L) p := ⟨h, t⟩
def z_on : List (Nat × Nat × Nat) → Nat → Nat → Prop
  | [], _, _ => False
  | (a, b, c) :: L, p, k => (a = p ∧ b ≤ k ∧ k ≤ c) ∨ z_on L p k
theorem z_on_h {a b c p k : Nat} {L : List (Nat × Nat × Nat)} (h : a = p) (h1 : b ≤ k) (h2 : k ≤ c) : z_on ((a, b, c) :: L) p k := Or.inl ⟨h, h1, h2⟩
theorem z_on_t {a b c p k : Nat} {L : List (Nat × Nat × Nat)} (h : z_on L p k) : z_on ((a, b, c) :: L) p k := Or.inr h
theorem z_of_ok : ∀ {L : List (Nat × Nat × Nat)} {p k : Nat}, z_of L p k → ∀ q ∈ L, ¬ (q.1 = p ∧ q.2.1 ≤ k ∧ k ≤ q.2.2)
  | [], _, _, _, q, h => absurd h List.not_mem_nil
  | (a, b, c) :: L, p, k, h, q', h' => by
    rcases List.mem_cons.mp h' with rfl | h'
    · exact h.1
    · exact z_of_ok h.2 q' h'
theorem z_ofr_ok : ∀ {L : List (Nat × Nat × Nat)} {p k : Nat}, z_ofr L p → ∀ q ∈ L, ¬ (q.1 = p ∧ q.2.1 ≤ k ∧ k ≤ q.2.2)
  | [], _, _, _, q, h => absurd h List.not_mem_nil
  | (a, b, c) :: L, p, k, h, q', h' => by
    rcases List.mem_cons.mp h' with rfl | h'
    · exact fun z => h.1 z.1
    · exact z_ofr_ok h.2 q' h'
theorem z_on_ok : ∀ {L : List (Nat × Nat × Nat)} {p k : Nat}, z_on L p k → ∃ q ∈ L, q.1 = p ∧ q.2.1 ≤ k ∧ k ≤ q.2.2
  | [], _, _, h => absurd h id
  | (a, b, c) :: L, p, k, h => by
    rcases h with h | h
    · exact ⟨(a, b, c), List.mem_cons_self, h⟩
    · obtain ⟨q', h1, h2⟩ := z_on_ok h
      exact ⟨q', List.mem_cons_of_mem _ h1, h2⟩
theorem z_same.of {L : List (Nat × Nat × Nat)} {m m' : z_M} (h : z_same L m m') {p k : Nat} (ho : z_of L p k) : m' p k = m p k := h p k (z_of_ok ho)
theorem z_same.ofr {L : List (Nat × Nat × Nat)} {m m' : z_M} (h : z_same L m m') {p : Nat} (ho : z_ofr L p) : m' p = m p := funext fun k => h p k (z_ofr_ok ho)
theorem z_same.upo {L : List (Nat × Nat × Nat)} {m m' : z_M} {p k : Nat} {v : Int} (h : z_same L m m') (hq : z_on L p k) : z_same L m (z_up m' p k v) := h.up (z_on_ok hq)
def z_sbo : List (Nat × Nat × Nat) → List (Nat × Nat × Nat) → Prop
  | [], _ => True
  | (a, b, c) :: L, L' => (∀ k, b ≤ k → k ≤ c → z_on L' a k) ∧ z_sbo L L'
theorem z_sbo_c {a b c : Nat} {L L' : List (Nat × Nat × Nat)} (h : ∀ k, b ≤ k → k ≤ c → z_on L' a k) (t : z_sbo L L') : z_sbo ((a, b, c) :: L) L' := ⟨h, t⟩
theorem z_sbo_ok : ∀ {L L' : List (Nat × Nat × Nat)}, z_sbo L L' → ∀ q ∈ L, ∀ k, q.2.1 ≤ k → k ≤ q.2.2 → z_on L' q.1 k
  | [], _, _, q, h => absurd h List.not_mem_nil
  | (a, b, c) :: L, L', h, q', h' => by
    rcases List.mem_cons.mp h' with rfl | h'
    · exact h.1
    · exact z_sbo_ok h.2 q' h'
theorem z_same.subo {L L' : List (Nat × Nat × Nat)} {m m' : z_M} (h : z_same L m m') (hs : z_sbo L L') : z_same L' m m' := fun p k hn => h p k fun q hq ⟨e1, e2, e3⟩ => by
  obtain ⟨u, u1, u2⟩ := z_on_ok (z_sbo_ok hs q hq k e2 e3)
  exact hn u u1 ⟨u2.1.trans e1, u2.2⟩
end
section
/-! STRETCHES of thaw -/
theorem h_thw_0  (m : z_M) (n : Int) (p : Int) : z_R 138 (m, 0, [(2, 0), (0, n), (0, p)], []) = if n < 1 then some (m, some (0, (-1))) else if 8 < n then some (m, some (0, (-1))) else if p < 0 then some (m, some (0, (-1))) else if p ≤ 10 then (z_R 139 (m, 0, [(2, 193), (2, 12), (0, n), (0, p), (9, 0)], [])).bind fun qq => z_R 138 (qq.1, 36, [(2, 0), (0, n), (0, p)], qq.2.toList ++ []) else some (m, some (0, (-1))) :=
  have hK : kt_at 138 = kt_138 := rfl
  (z_R_run hK (n := 2) (g' := (m, 2, [(2, 0), (0, n), (0, p)], [(0, 1), (0, n)])) rfl).trans (z_R_ifd hK (c := n < 1) (p1 := 21) (p2 := 5) rfl rfl rfl (fun h1 => (z_R_run hK (n := 1) (g' := (m, 22, [(2, 0), (0, n), (0, p)], [(0, (-1))])) rfl).trans (z_R_ret hK rfl rfl rfl)) (fun h1 => (z_R_run hK (n := 2) (g' := (m, 8, [(2, 0), (0, n), (0, p)], [(0, 8), (0, n)])) rfl).trans (z_R_ifd hK (c := 8 < n) (p1 := 21) (p2 := 11) rfl rfl rfl (fun h2 => (z_R_run hK (n := 1) (g' := (m, 22, [(2, 0), (0, n), (0, p)], [(0, (-1))])) rfl).trans (z_R_ret hK rfl rfl rfl)) (fun h2 => (z_R_run hK (n := 1) (g' := (m, 12, [(2, 0), (0, n), (0, p)], [(0, p)])) rfl).trans (z_R_ifd hK (c := p < 0) (p1 := 21) (p2 := 15) rfl rfl rfl (fun h3 => (z_R_run hK (n := 1) (g' := (m, 22, [(2, 0), (0, n), (0, p)], [(0, (-1))])) rfl).trans (z_R_ret hK rfl rfl rfl)) (fun h3 => (z_R_run hK (n := 2) (g' := (m, 18, [(2, 0), (0, n), (0, p)], [(0, 10), (0, p)])) rfl).trans (z_R_ifd hK (c := p ≤ 10) (p1 := 23) (p2 := 21) rfl rfl rfl (fun h4 => (z_R_run hK (n := 2) (g' := (m, 27, [(2, 0), (0, n), (0, p)], [(2, 193)])) rfl).trans ((z_R_run hK (n := 2) (g' := (m, 31, [(2, 0), (0, n), (0, p)], [(2, 12), (2, 193)])) rfl).trans ((z_R_run hK (n := 2) (g' := (m, 33, [(2, 0), (0, n), (0, p)], [(0, p), (0, n), (2, 12), (2, 193)])) rfl).trans (z_R_call hK rfl rfl rfl rfl rfl)))) (fun h4 => (z_R_run hK (n := 1) (g' := (m, 22, [(2, 0), (0, n), (0, p)], [(0, (-1))])) rfl).trans (z_R_ret hK rfl rfl rfl)))))))))
theorem h_thw_36  (m : z_M) (x1 : Int) (x2 : Int) : z_R 138 (m, 36, [(2, 0), (0, x1), (0, x2)], []) = if 0 ≤ x1 ∧ x1 < 9 then (z_R 142 (m, 0, [(0, x1), (9, 0), (9, 0), (9, 0)], [])).bind fun qq => z_R 138 (qq.1, 50, [(2, 0), (0, x1), (0, x2)], qq.2.toList ++ [(1, m 195 (x1).toNat), (2, 0)]) else none :=
  have hK : kt_at 138 = kt_138 := rfl
  (z_R_run hK (n := 3) (g' := (m, 41, [(2, 0), (0, x1), (0, x2)], [(2, 193), (2, 0)])) rfl).trans ((z_R_run hK (n := 1) (g' := (m, 44, [(2, 0), (0, x1), (0, x2)], [(2, 195), (2, 0)])) rfl).trans ((z_R_run hK (n := 1) (g' := (m, 45, [(2, 0), (0, x1), (0, x2)], [(0, x1), (2, 195), (2, 0)])) rfl).trans (z_R_ixD hK (n := 9) (g' := (m, 46, [(2, 0), (0, x1), (0, x2)], [(1, m 195 (x1).toNat), (2, 0)])) rfl rfl rfl  (fun h1 => (z_R_run hK (n := 1) (g' := (m, 47, [(2, 0), (0, x1), (0, x2)], [(0, x1), (1, m 195 (x1).toNat), (2, 0)])) rfl).trans (z_R_call hK rfl rfl rfl rfl rfl)))))
theorem h_thw_50  (m : z_M) (x1 : Int) (x2 : Int) (s0 : Int) (u : Int) : z_R 138 (m, 50, [(2, 0), (0, x1), (0, x2)], [(1, u), (1, s0), (2, 0)]) = (z_R 122 (m, 0, [(2, 0), (1, s0), (9, 0), (1, u), (9, 0), (9, 0), (9, 0), (9, 0), (9, 0), (9, 0), (9, 0), (9, 0)], [])).bind fun qq => z_R 138 (qq.1, 53, [(2, 0), (0, x1), (0, x2)], qq.2.toList ++ []) :=
  have hK : kt_at 138 = kt_138 := rfl
  z_R_call hK rfl rfl rfl rfl rfl
theorem h_thw_53  (m : z_M) (x1 : Int) (x2 : Int) : z_R 138 (m, 53, [(2, 0), (0, x1), (0, x2)], []) = some (m, some (0, 0)) :=
  have hK : kt_at 138 = kt_138 := rfl
  (z_R_run hK (n := 1) (g' := (m, 54, [(2, 0), (0, x1), (0, x2)], [(0, 0)])) rfl).trans (z_R_ret hK rfl rfl rfl)
theorem h_tht_0  (m : z_M) (n : Int) (p : Int) : z_R 253 (m, 0, [(2, 251), (0, n), (0, p)], []) = (z_R 162 (z_up m 251 11 0, 0, [(0, n), (0, 1), (0, 8)], [])).bind fun qq => z_R 253 (qq.1, 12, [(2, 251), (0, n), (0, p)], qq.2.toList ++ []) :=
  have hK : kt_at 253 = kt_253 := rfl
  (z_R_run hK (n := 6) (g' := (z_up m 251 11 0, 9, [(2, 251), (0, n), (0, p)], [(0, 8), (0, 1), (0, n)])) rfl).trans (z_R_call hK rfl rfl rfl rfl rfl)
theorem h_tht_12  (m : z_M) (x1 : Int) (x2 : Int) (u : Int) : z_R 253 (m, 12, [(2, 251), (0, x1), (0, x2)], [(0, u)]) = if u = 0 then some (m, some (0, (-1))) else (z_R 162 (m, 0, [(0, x2), (0, 0), (0, 10)], [])).bind fun qq => z_R 253 (qq.1, 22, [(2, 251), (0, x1), (0, x2)], qq.2.toList ++ []) :=
  have hK : kt_at 253 = kt_253 := rfl
  z_R_ifd hK (c := u = 0) (p1 := 25) (p2 := 15) rfl rfl rfl (fun h1 => (z_R_run hK (n := 1) (g' := (m, 26, [(2, 251), (0, x1), (0, x2)], [(0, (-1))])) rfl).trans (z_R_ret hK rfl rfl rfl)) (fun h1 => (z_R_run hK (n := 3) (g' := (m, 19, [(2, 251), (0, x1), (0, x2)], [(0, 10), (0, 0), (0, x2)])) rfl).trans (z_R_call hK rfl rfl rfl rfl rfl))
theorem h_tht_22  (m : z_M) (x1 : Int) (x2 : Int) (u : Int) : z_R 253 (m, 22, [(2, 251), (0, x1), (0, x2)], [(0, u)]) = if u = 0 then some (m, some (0, (-1))) else (z_R 254 (z_up m 251 10 0, 0, [(2, 251), (0, x1), (0, x2), (9, 0), (9, 0), (9, 0), (9, 0), (9, 0), (9, 0)], [])).bind fun qq => z_R 253 (qq.1, 39, [(2, 251), (0, x1), (0, x2)], qq.2.toList ++ [(2, 251)]) :=
  have hK : kt_at 253 = kt_253 := rfl
  z_R_ifnd hK (c := u = 0) (p1 := 27) (p2 := 25) rfl rfl rfl (fun h1 => (z_R_run hK (n := 7) (g' := (z_up m 251 10 0, 36, [(2, 251), (0, x1), (0, x2)], [(0, x2), (0, x1), (2, 251), (2, 251)])) rfl).trans (z_R_call hK rfl rfl rfl rfl rfl)) (fun h1 => (z_R_run hK (n := 1) (g' := (m, 26, [(2, 251), (0, x1), (0, x2)], [(0, (-1))])) rfl).trans (z_R_ret hK rfl rfl rfl))
theorem h_tht_39  (m : z_M) (x1 : Int) (x2 : Int) (u : Int) : z_R 253 (m, 39, [(2, 251), (0, x1), (0, x2)], [(1, u), (2, 251)]) = (z_R 255 (m, 0, [(1, 10), (9, 0), (0, x1), (9, 0), (9, 0), (9, 0)], [])).bind fun qq => z_R 253 (qq.1, 46, [(2, 251), (0, x1), (0, x2)], qq.2.toList ++ [(1, u), (2, 251)]) :=
  have hK : kt_at 253 = kt_253 := rfl
  (z_R_run hK (n := 2) (g' := (m, 43, [(2, 251), (0, x1), (0, x2)], [(0, x1), (1, 10), (1, u), (2, 251)])) rfl).trans (z_R_call hK rfl rfl rfl rfl rfl)
theorem h_tht_46  (m : z_M) (x1 : Int) (x2 : Int) (s0 : Int) (u : Int) : z_R 253 (m, 46, [(2, 251), (0, x1), (0, x2)], [(1, u), (1, s0), (2, 251)]) = (z_R 240 (m, 0, [(2, 251), (1, s0), (9, 0), (1, u), (9, 0), (9, 0), (9, 0)], [])).bind fun qq => z_R 253 (qq.1, 49, [(2, 251), (0, x1), (0, x2)], qq.2.toList ++ []) :=
  have hK : kt_at 253 = kt_253 := rfl
  z_R_call hK rfl rfl rfl rfl rfl
theorem h_tht_49  (m : z_M) (x1 : Int) (x2 : Int) : z_R 253 (m, 49, [(2, 251), (0, x1), (0, x2)], []) = some (m, some (0, 0)) :=
  have hK : kt_at 253 = kt_253 := rfl
  (z_R_run hK (n := 1) (g' := (m, 50, [(2, 251), (0, x1), (0, x2)], [(0, 0)])) rfl).trans (z_R_ret hK rfl rfl rfl)
end
section
/-! WHAT IS KEPT, for thaw: both texts are alike, sign by sign -/
def Rel_0 (σ : m_H) : Prop := Rel_T σ
theorem rel_start : ∀ σ, xs_is σ → Rel_0 σ := R_start
theorem rel_off {c : l_C} (h : (rel_offb c.2.2.1 && (rel_offb c.2.2.2.2.2.2.2 && !c.2.2.2.2.1)) = true) : l_rel2 Rel_0 c := R_off h
theorem rel_zero {c : l_C} (h : (md_zero c.2.2.1 1 1 && (md_zero c.2.2.2.2.2.2.2 251 8 && (md_off c.2.2.2.2.2.2.2 1 1 && !c.2.2.2.2.1))) = true) : l_rel2 Rel_0 c := R_zero h
theorem rel_rule : l_rel2 Rel_0 (289, 45, 39, 0, false, 294, 48, 175) := R_rule rfl
/-! a method that gives nothing; one that only gives longs -/
def z_onlyV1 (q : a_K) : Bool := match q.2.1 with
  | .ireturn => false
  | .lreturn => false
  | .new _ => false
  | _ => true
noncomputable def z_onlyV (y : Nat) : Bool := (kt_at y).all fun r => r.all z_onlyV1
theorem z_ex_tagV {y : Nat} (hk : z_onlyV y = true) : ∀ (f : Nat) (g : z_G) (r : z_Q), z_ex f y g = some r → r.2 = none := by
  intro f
  induction f with
  | zero => intro g r h; cases h
  | succ f ih =>
    intro g r h
    unfold z_ex at h
    split at h
    · cases h
    · rename_i q hq
      obtain ⟨⟨row, h1, h2⟩, -⟩ := k_get_in hq
      have hb := List.all_eq_true.mp (List.all_eq_true.mp hk row h1) q h2
      split at h
      · split at h
        · exact ih _ _ h
        · cases h
      · obtain ⟨m, pc, ls, st⟩ := g
        unfold z_ret at h
        unfold z_onlyV1 at hb
        simp only at h
        split at h
        · rw [← Option.some.inj h]
        · rename_i e; rw [e] at hb; cases hb
        · rename_i e; rw [e] at hb; cases hb
        · rename_i e; rw [e] at hb; cases hb
        · cases h
      · split at h
        · split at h
          · exact ih _ _ h
          · cases h
        · cases h
theorem z_tagV {y : Nat} (hk : z_onlyV y = true) {g : z_G} {r : z_Q} (h : z_R y g = some r) : r.2 = none := by
  obtain ⟨f, h⟩ := z_R_iff.mp h
  exact z_ex_tagV hk f g r h
def z_onlyL1 (q : a_K) : Bool := match q.2.1 with
  | .return_ => false
  | .ireturn => false
  | .new _ => false
  | _ => true
noncomputable def z_onlyL (y : Nat) : Bool := (kt_at y).all fun r => r.all z_onlyL1
theorem z_ex_tagL {y : Nat} (hk : z_onlyL y = true) : ∀ (f : Nat) (g : z_G) (r : z_Q), z_ex f y g = some r → ∃ u, r.2 = some (1, u) := by
  intro f
  induction f with
  | zero => intro g r h; cases h
  | succ f ih =>
    intro g r h
    unfold z_ex at h
    split at h
    · cases h
    · rename_i q hq
      obtain ⟨⟨row, h1, h2⟩, -⟩ := k_get_in hq
      have hb := List.all_eq_true.mp (List.all_eq_true.mp hk row h1) q h2
      split at h
      · split at h
        · exact ih _ _ h
        · cases h
      · obtain ⟨m, pc, ls, st⟩ := g
        unfold z_ret at h
        unfold z_onlyL1 at hb
        simp only at h
        split at h
        · rename_i e; rw [e] at hb; cases hb
        · rename_i e; rw [e] at hb; cases hb
        · rename_i e; rw [e] at hb; cases hb
        · split at h
          · exact ⟨_, by rw [← Option.some.inj h]⟩
          · cases h
        · cases h
      · split at h
        · split at h
          · exact ih _ _ h
          · cases h
        · cases h
theorem z_tagL {y : Nat} (hk : z_onlyL y = true) {g : z_G} {r : z_Q} (h : z_R y g = some r) : ∃ u, r.2 = some (1, u) := by
  obtain ⟨f, h⟩ := z_R_iff.mp h
  exact z_ex_tagL hk f g r h
/-- thaw's answer -/
def h_v (n p : Int) : Int := if (1 ≤ n ∧ n ≤ 8) ∧ 0 ≤ p ∧ p ≤ 10 then 0 else -1
theorem h_val {m m' : z_M} {x v : Int} (h : some (m, some (0, x)) = (some (m', some (0, v)) : Option z_Q)) : v = x := (congrArg (fun z : z_Q => (z.2.getD (0, 0)).2) (Option.some.inj h)).symm
theorem h_c {m m' : z_M} {n p v : Int} (h : z_R 138 (m, 0, [(2, 0), (0, n), (0, p)], []) = some (m', some (0, v))) : v = h_v n p := by
  unfold h_v
  rw [h_thw_0] at h
  by_cases c1 : n < 1
  · rw [if_pos c1] at h
    rw [if_neg (by omega)]
    exact h_val h
  rw [if_neg c1] at h
  by_cases c2 : 8 < n
  · rw [if_pos c2] at h
    rw [if_neg (by omega)]
    exact h_val h
  rw [if_neg c2] at h
  by_cases c3 : p < 0
  · rw [if_pos c3] at h
    rw [if_neg (by omega)]
    exact h_val h
  rw [if_neg c3] at h
  by_cases c4 : p ≤ 10
  · rw [if_pos c4] at h
    rw [if_pos (by omega)]
    obtain ⟨⟨m1, x1⟩, h1, h2⟩ := Option.bind_eq_some_iff.mp h
    have e1 := z_tagV (y := 139) (by decide +kernel) h1
    simp only at e1
    subst e1
    change z_R 138 (m1, 36, [(2, 0), (0, n), (0, p)], []) = some (m', some (0, v)) at h2
    rw [h_thw_36, if_pos (show 0 ≤ n ∧ n < 9 by omega)] at h2
    obtain ⟨⟨m2, x2⟩, h3, h4⟩ := Option.bind_eq_some_iff.mp h2
    obtain ⟨u, e2⟩ := z_tagL (y := 142) (by decide +kernel) h3
    simp only at e2
    subst e2
    change z_R 138 (m2, 50, [(2, 0), (0, n), (0, p)], [(1, u), (1, m1 195 n.toNat), (2, 0)]) = some (m', some (0, v)) at h4
    rw [h_thw_50] at h4
    obtain ⟨⟨m3, x3⟩, h5, h6⟩ := Option.bind_eq_some_iff.mp h4
    have e3 := z_tagV (y := 122) (by decide +kernel) h5
    simp only at e3
    subst e3
    change z_R 138 (m3, 53, [(2, 0), (0, n), (0, p)], []) = some (m', some (0, v)) at h6
    rw [h_thw_53] at h6
    exact h_val h6
  · rw [if_neg c4] at h
    rw [if_neg (by omega)]
    exact h_val h
theorem h_t {m m' : z_M} {n p v : Int} (h : z_R 253 (m, 0, [(2, 251), (0, n), (0, p)], []) = some (m', some (0, v))) : v = h_v n p := by
  unfold h_v
  rw [h_tht_0, r_in] at h
  by_cases c1 : 1 ≤ n ∧ n ≤ 8
  · rw [if_pos c1] at h
    change z_R 253 (z_up m 251 11 0, 12, [(2, 251), (0, n), (0, p)], [(0, 1)]) = some (m', some (0, v)) at h
    rw [h_tht_12, if_neg (show ¬ (1 : Int) = 0 by decide), r_in] at h
    by_cases c2 : 0 ≤ p ∧ p ≤ 10
    · rw [if_pos c2] at h
      change z_R 253 (z_up m 251 11 0, 22, [(2, 251), (0, n), (0, p)], [(0, 1)]) = some (m', some (0, v)) at h
      rw [h_tht_22, if_neg (show ¬ (1 : Int) = 0 by decide)] at h
      rw [if_pos ⟨c1, c2⟩]
      obtain ⟨⟨m1, x1⟩, h1, h2⟩ := Option.bind_eq_some_iff.mp h
      obtain ⟨u, e1⟩ := z_tagL (y := 254) (by decide +kernel) h1
      simp only at e1
      subst e1
      change z_R 253 (m1, 39, [(2, 251), (0, n), (0, p)], [(1, u), (2, 251)]) = some (m', some (0, v)) at h2
      rw [h_tht_39] at h2
      obtain ⟨⟨m2, x2⟩, h3, h4⟩ := Option.bind_eq_some_iff.mp h2
      obtain ⟨u2, e2⟩ := z_tagL (y := 255) (by decide +kernel) h3
      simp only at e2
      subst e2
      change z_R 253 (m2, 46, [(2, 251), (0, n), (0, p)], [(1, u2), (1, u), (2, 251)]) = some (m', some (0, v)) at h4
      rw [h_tht_46] at h4
      obtain ⟨⟨m3, x3⟩, h5, h6⟩ := Option.bind_eq_some_iff.mp h4
      have e3 := z_tagV (y := 240) (by decide +kernel) h5
      simp only at e3
      subst e3
      change z_R 253 (m3, 49, [(2, 251), (0, n), (0, p)], []) = some (m', some (0, v)) at h6
      rw [h_tht_49] at h6
      exact h_val h6
    · rw [if_neg c2] at h
      change z_R 253 (z_up m 251 11 0, 22, [(2, 251), (0, n), (0, p)], [(0, 0)]) = some (m', some (0, v)) at h
      rw [h_tht_22, if_pos rfl] at h
      rw [if_neg (fun z => c2 z.2)]
      exact h_val h
  · rw [if_neg c1] at h
    change z_R 253 (z_up m 251 11 0, 12, [(2, 251), (0, n), (0, p)], [(0, 0)]) = some (m', some (0, v)) at h
    rw [h_tht_12, if_pos rfl] at h
    rw [if_neg (fun z => c1 z.1)]
    exact h_val h
theorem rel_thaw : l_rel2 Rel_0 (1092, 164, 138, 2, true, 1108, 167, 253) := by
  intro M1 M2 M3 σ σ1 σ2 as v1 v2 C1 C2 ρ1 ρ2 ha hR hh hM1 hC1 hp1 hE1 hC2 hp2 hE2
  obtain ⟨n, p, rfl⟩ := as_two ha
  have hE1 : z_R 138 (z_m σ, 0, [(2, 0), (0, n.toInt), (0, p.toInt)], []) = some (z_m σ1, some (0, v1.toInt)) := z_R_iff.mpr hE1
  have hE2 : z_R 253 (z_m σ1, 0, [(2, 251), (0, n.toInt), (0, p.toInt)], []) = some (z_m σ2, some (0, v2.toInt)) := z_R_iff.mpr hE2
  exact ⟨rel_offb_ok (y := 253) (by decide +kernel) hC2 hp2 (rel_offb_ok (y := 138) (by decide +kernel) hC1 hp1 hR), fun _ => Int32.toInt_inj.mp ((h_c hE1).trans (h_t hE2).symm)⟩
theorem rel_cases : ∀ c ∈ law_cs, l_rel2 Rel_0 c := by
  unfold law_cs
  refine List.forall_mem_cons.mpr ⟨R_sign, ?_⟩
  refine List.forall_mem_cons.mpr ⟨R_end, ?_⟩
  refine List.forall_mem_cons.mpr ⟨R_house, ?_⟩
  refine List.forall_mem_cons.mpr ⟨rel_zero (by decide +kernel), ?_⟩
  refine List.forall_mem_cons.mpr ⟨rel_rule, ?_⟩
  refine List.forall_mem_cons.mpr ⟨rel_off (by decide +kernel), ?_⟩
  refine List.forall_mem_cons.mpr ⟨rel_off (by decide +kernel), ?_⟩
  refine List.forall_mem_cons.mpr ⟨rel_off (by decide +kernel), ?_⟩
  refine List.forall_mem_cons.mpr ⟨rel_off (by decide +kernel), ?_⟩
  refine List.forall_mem_cons.mpr ⟨rel_off (by decide +kernel), ?_⟩
  refine List.forall_mem_cons.mpr ⟨rel_off (by decide +kernel), ?_⟩
  refine List.forall_mem_cons.mpr ⟨rel_off (by decide +kernel), ?_⟩
  refine List.forall_mem_cons.mpr ⟨rel_off (by decide +kernel), ?_⟩
  refine List.forall_mem_cons.mpr ⟨rel_zero (by decide +kernel), ?_⟩
  refine List.forall_mem_cons.mpr ⟨rel_off (by decide +kernel), ?_⟩
  refine List.forall_mem_cons.mpr ⟨rel_off (by decide +kernel), ?_⟩
  refine List.forall_mem_cons.mpr ⟨rel_off (by decide +kernel), ?_⟩
  refine List.forall_mem_cons.mpr ⟨rel_off (by decide +kernel), ?_⟩
  refine List.forall_mem_cons.mpr ⟨rel_off (by decide +kernel), ?_⟩
  refine List.forall_mem_cons.mpr ⟨rel_off (by decide +kernel), ?_⟩
  refine List.forall_mem_cons.mpr ⟨rel_off (by decide +kernel), ?_⟩
  refine List.forall_mem_cons.mpr ⟨rel_off (by decide +kernel), ?_⟩
  refine List.forall_mem_cons.mpr ⟨rel_off (by decide +kernel), ?_⟩
  refine List.forall_mem_cons.mpr ⟨rel_off (by decide +kernel), ?_⟩
  refine List.forall_mem_cons.mpr ⟨rel_off (by decide +kernel), ?_⟩
  refine List.forall_mem_cons.mpr ⟨rel_off (by decide +kernel), ?_⟩
  refine List.forall_mem_cons.mpr ⟨rel_off (by decide +kernel), ?_⟩
  refine List.forall_mem_cons.mpr ⟨rel_off (by decide +kernel), ?_⟩
  refine List.forall_mem_cons.mpr ⟨rel_off (by decide +kernel), ?_⟩
  refine List.forall_mem_cons.mpr ⟨rel_off (by decide +kernel), ?_⟩
  refine List.forall_mem_cons.mpr ⟨rel_off (by decide +kernel), ?_⟩
  refine List.forall_mem_cons.mpr ⟨rel_thaw, ?_⟩
  refine List.forall_mem_cons.mpr ⟨rel_off (by decide +kernel), ?_⟩
  refine List.forall_mem_cons.mpr ⟨rel_off (by decide +kernel), ?_⟩
  refine List.forall_mem_cons.mpr ⟨rel_off (by decide +kernel), ?_⟩
  refine List.forall_mem_cons.mpr ⟨rel_off (by decide +kernel), ?_⟩
  refine List.forall_mem_cons.mpr ⟨rel_off (by decide +kernel), ?_⟩
  exact fun _ h => absurd h List.not_mem_nil
theorem rel_5 : l_rel3 Rel_0 181 2 := R3_off (by decide +kernel)
theorem rel_6 : l_rel3 Rel_0 190 2 := R3_off (by decide +kernel)
theorem rel_39 : l_rel3 Rel_0 261 1 := R3_off (by decide +kernel)
end
