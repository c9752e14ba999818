/-! THE CLASS'S RULE RUN -/
theorem c_join (m : z_M) (c l r : Int) : z_R 72 (m, 0, [(0, c), (0, l), (0, r)], []) = some (m, some (0, q_op c l r)) := by
  rw [s_join_0]
  by_cases h42 : 42 = c
  · subst h42
    have e : q_op 42 l r = z_mul l r := by
      unfold q_op
      rw [if_neg (show ¬ (42 : Int) = 43 by decide), if_neg (show ¬ (42 : Int) = 45 by decide), if_pos rfl]
    rw [if_pos rfl, e]
  rw [if_neg h42]
  by_cases h43 : 43 = c
  · subst h43
    have e : q_op 43 l r = z_add l r := by
      unfold q_op
      rw [if_pos rfl]
    rw [if_pos rfl, e]
  rw [if_neg h43]
  by_cases h45 : 45 = c
  · subst h45
    have e : q_op 45 l r = z_sub l r := by
      unfold q_op
      rw [if_neg (show ¬ (45 : Int) = 43 by decide), if_pos rfl]
    rw [if_pos rfl, e]
  rw [if_neg h45]
  by_cases h47 : 47 = c
  · subst h47
    have e : q_op 47 l r = if r = 0 then 0 else z_div l r := by
      unfold q_op
      rw [if_neg (show ¬ (47 : Int) = 43 by decide), if_neg (show ¬ (47 : Int) = 45 by decide), if_neg (show ¬ (47 : Int) = 42 by decide), if_pos rfl]
    rw [if_pos rfl, e]
    by_cases z : r = 0
    · rw [if_pos z, if_pos z]
    · rw [if_neg z, if_neg z, if_neg z]
  rw [if_neg h47]
  by_cases h60 : 60 = c
  · subst h60
    have e : q_op 60 l r = if l < r then 1 else 0 := by
      unfold q_op
      rw [if_neg (show ¬ (60 : Int) = 43 by decide), if_neg (show ¬ (60 : Int) = 45 by decide), if_neg (show ¬ (60 : Int) = 42 by decide), if_neg (show ¬ (60 : Int) = 47 by decide), if_pos rfl]
    rw [if_pos rfl, e]
    by_cases z : r ≤ l
    · rw [if_pos z, if_neg (show ¬ l < r by omega)]
    · rw [if_neg z, if_pos (show l < r by omega)]
  rw [if_neg h60]
  by_cases h62 : 62 = c
  · subst h62
    have e : q_op 62 l r = if r < l then 1 else 0 := by
      unfold q_op
      rw [if_neg (show ¬ (62 : Int) = 43 by decide), if_neg (show ¬ (62 : Int) = 45 by decide), if_neg (show ¬ (62 : Int) = 42 by decide), if_neg (show ¬ (62 : Int) = 47 by decide), if_neg (show ¬ (62 : Int) = 60 by decide), if_pos rfl]
    rw [if_pos rfl, e]
    by_cases z : l ≤ r
    · rw [if_pos z, if_neg (show ¬ r < l by omega)]
    · rw [if_neg z, if_pos (show r < l by omega)]
  rw [if_neg h62]
  have e : q_op c l r = if l = r then 1 else 0 := by
    unfold q_op
    rw [if_neg (show ¬ c = 43 from fun z => h43 z.symm), if_neg (show ¬ c = 45 from fun z => h45 z.symm), if_neg (show ¬ c = 42 from fun z => h42 z.symm), if_neg (show ¬ c = 47 from fun z => h47 z.symm), if_neg (show ¬ c = 60 from fun z => h60 z.symm), if_neg (show ¬ c = 62 from fun z => h62 z.symm)]
  rw [e]
  by_cases z : l = r
  · rw [if_pos z, if_pos z]
  · rw [if_neg z, if_neg z]
/-- the stack's row, from its top -/
def stk : (Nat → Int) → List Int → Prop
  | _, [] => True
  | row, x :: S => row S.length = x ∧ stk row S
theorem stk_up {row : Nat → Int} {j : Nat} {v : Int} : ∀ {S : List Int}, stk row S → S.length ≤ j → stk (u_up row j v) S
  | [], _, _ => trivial
  | x :: S, h, hj => by
    have hj : S.length + 1 ≤ j := hj
    exact ⟨(u_up_ne (by omega)).trans h.1, stk_up h.2 (by omega)⟩
theorem stk_0 {row : Nat → Int} : ∀ {S : List Int}, stk row S → ∀ x, S.getLast? = some x → row 0 = x
  | [], _, x, h => by cases h
  | [y], h, x, h' => by cases h'; exact h.1
  | y :: z :: S, h, x, h' => stk_0 (S := z :: S) h.2 x (by rw [List.getLast?_cons_cons] at h'; exact h')
def clampv (v i : Int) : Int := if 0 ≤ v then (if v ≤ i then v else i) else 0
def topv (S : List Int) : Int := match S.getLast? with
  | some x => x
  | none => 0
theorem ev1_len {env : Nat → Int} {c : Int} {S : List Int} : (ev1 env c S).length ≤ S.length + 1 := by
  unfold ev1
  split
  · split
    · exact Nat.le_succ _
    · exact Nat.zero_le _
  split
  · split
    · rename_i y x S
      show S.length + 1 ≤ S.length + 1 + 1 + 1; omega
    · exact Nat.le_succ _
  · exact Nat.le_refl _
theorem c_run {env : Nat → Int} {x1 x2 x3 x4 x5 x6 x7 : Int} : ∀ (cs : List Int) (k : Nat) (S : List Int) (v10 : z_V) (m : z_M), (∀ c ∈ cs, c ≤ 2147483647) → m 4 3 = ((k + cs.length : Nat) : Int) → k + cs.length ≤ 40 → cds (m 5) k cs → stk (m 6) S → S.length ≤ k → (∀ i, i < 7 → m 7 i = env i) → ∃ m', z_R 71 (m, 60, [(2, 4), (0, x1), (0, x2), (0, x3), (0, x4), (0, x5), (0, x6), (0, x7), (0, (S.length : Int)), (0, (k : Int)), v10], []) = some (m', some (0, clampv (topv (ev env cs S)) x2)) ∧ z_same [(6, 0, 39)] m m' := by
  intro cs
  induction cs with
  | nil =>
    intro k S v10 m hcs hz hk hc hS hl he
    have hz : m 4 3 = (k : Int) := hz
    have hk : k ≤ 40 := hk
    rw [s_mel_60 m x1 x2 x3 x4 x5 x6 x7 S.length k v10 ⟨by omega, by omega⟩ ⟨by omega, by omega⟩ ⟨by omega, by omega⟩, if_pos (by omega)]
    show ∃ m', _ = some (m', some (0, clampv (topv S) x2)) ∧ _
    cases hS' : S.getLast? with
    | none =>
      have e : S = [] := List.getLast?_eq_none_iff.mp hS'
      subst e
      refine ⟨m, ?_, z_same.rf⟩
      rw [if_pos (by decide)]
      unfold topv clampv
      rw [hS']
      try simp only
      rw [if_pos (Int.le_refl 0)]
      by_cases h2 : 0 ≤ x2
      · rw [if_pos h2, if_pos h2]
      · rw [if_neg h2, if_neg h2]
    | some x =>
      have hne : ¬ (S.length : Int) ≤ 0 := fun z => by
        have : S = [] := List.eq_nil_of_length_eq_zero (by omega)
        rw [this] at hS'
        cases hS'
      have e0 := stk_0 hS x hS'
      refine ⟨m, ?_, z_same.rf⟩
      rw [if_neg hne, e0]
      unfold topv clampv
      rw [hS']
      try simp only
      by_cases c1 : 0 ≤ x
      · rw [if_pos c1, if_pos c1]
        by_cases c2 : x ≤ x2
        · rw [if_pos c2, if_pos c2]
        · rw [if_neg c2, if_neg c2]
      · rw [if_neg c1, if_neg c1]
  | cons c cs ih =>
    intro k S v10 m hcs hz hk hc hS hl he
    have hz : m 4 3 = ((k + (cs.length + 1) : Nat) : Int) := hz
    have hk : k + (cs.length + 1) ≤ 40 := hk
    obtain ⟨hc1, hc2⟩ := hc
    have next : ∀ (S' : List Int) (v10 : z_V) (m1 : z_M), S' = ev1 env c S → z_same [(6, 0, 39)] m m1 → stk (m1 6) S' → ∃ m', z_R 71 (m1, 60, [(2, 4), (0, x1), (0, x2), (0, x3), (0, x4), (0, x5), (0, x6), (0, x7), (0, (S'.length : Int)), (0, ((k + 1 : Nat) : Int)), v10], []) = some (m', some (0, clampv (topv (ev env (c :: cs) S)) x2)) ∧ z_same [(6, 0, 39)] m m' := by
      intro S' v10 m1 hS' sm hstk
      have hlen := ev1_len (env := env) (c := c) (S := S)
      rw [← hS'] at hlen
      obtain ⟨m', a1, a2⟩ := ih (k + 1) S' v10 m1 (fun c hc => hcs c (List.mem_cons_of_mem _ hc)) (by rw [sm.of (by (try unfold r_RL); (repeat' (first | exact trivial | refine z_of_c ?_ ?_)) <;> omega), hz]; omega) (by omega) (by rw [sm.ofr (by (try unfold r_RL); (repeat' (first | exact trivial | refine z_ofr_c ?_ ?_)) <;> omega)]; exact hc2) hstk (by omega) (fun i hi => by rw [sm.ofr (by (try unfold r_RL); (repeat' (first | exact trivial | refine z_ofr_c ?_ ?_)) <;> omega)]; exact he i hi)
      refine ⟨m', ?_, sm.tr a2⟩
      rw [a1, hS']
      rfl
    rw [s_mel_60 m x1 x2 x3 x4 x5 x6 x7 S.length k v10 ⟨by omega, by omega⟩ ⟨by omega, by omega⟩ ⟨by omega, by omega⟩, if_neg (by omega), Int.toNat_natCast, hc1, tc1]
    by_cases c1 : c = 2126
    · rw [if_pos c1]
      cases S with
      | nil =>
        rw [if_pos (by decide)]
        exact next [] _ m (by unfold ev1; rw [if_pos c1]) z_same.rf trivial
      | cons x S =>
        have e : (((x :: S).length : Int) - 1).toNat = S.length := by show (((S.length + 1 : Nat) : Int) - 1).toNat = S.length; omega
        rw [if_neg (by show ¬ ((S.length + 1 : Nat) : Int) ≤ 0; omega), e, hS.1]
        have hl : S.length + 1 ≤ k := hl
        refine next (z_neg x :: S) _ _ (by unfold ev1; rw [if_pos c1]) (z_same.rf.upo (by (try unfold r_RL); first | exact z_on_h rfl (by omega) (by omega) | exact z_on_t (z_on_h rfl (by omega) (by omega)) | exact z_on_t (z_on_t (z_on_h rfl (by omega) (by omega))) | exact z_on_t (z_on_t (z_on_t (z_on_h rfl (by omega) (by omega)))) | exact z_on_t (z_on_t (z_on_t (z_on_t (z_on_h rfl (by omega) (by omega))))) | exact z_on_t (z_on_t (z_on_t (z_on_t (z_on_t (z_on_h rfl (by omega) (by omega)))))) | exact z_on_t (z_on_t (z_on_t (z_on_t (z_on_t (z_on_t (z_on_h rfl (by omega) (by omega))))))) | exact z_on_t (z_on_t (z_on_t (z_on_t (z_on_t (z_on_t (z_on_t (z_on_h rfl (by omega) (by omega)))))))) | exact z_on_t (z_on_t (z_on_t (z_on_t (z_on_t (z_on_t (z_on_t (z_on_t (z_on_h rfl (by omega) (by omega))))))))) | exact z_on_t (z_on_t (z_on_t (z_on_t (z_on_t (z_on_t (z_on_t (z_on_t (z_on_t (z_on_h rfl (by omega) (by omega)))))))))) | exact z_on_t (z_on_t (z_on_t (z_on_t (z_on_t (z_on_t (z_on_t (z_on_t (z_on_t (z_on_t (z_on_h rfl (by omega) (by omega))))))))))) | exact z_on_t (z_on_t (z_on_t (z_on_t (z_on_t (z_on_t (z_on_t (z_on_t (z_on_t (z_on_t (z_on_t (z_on_h rfl (by omega) (by omega)))))))))))) | exact z_on_t (z_on_t (z_on_t (z_on_t (z_on_t (z_on_t (z_on_t (z_on_t (z_on_t (z_on_t (z_on_t (z_on_t (z_on_h rfl (by omega) (by omega))))))))))))))) ?_
        rw [zu_row]
        exact ⟨u_up_self, stk_up hS.2 (Nat.le_refl _)⟩
    rw [if_neg c1]
    by_cases c2 : c < 2000
    · have e40 : ¬ 40 ≤ (S.length : Int) := by omega
      rw [if_pos c2, if_neg e40, tc1]
      have push : ∀ (u : Int) (v10 : z_V), ev1 env c S = u :: S → ∃ m', z_R 71 (z_up m 6 S.length u, 60, [(2, 4), (0, x1), (0, x2), (0, x3), (0, x4), (0, x5), (0, x6), (0, x7), (0, ((S.length + 1 : Nat) : Int)), (0, ((k + 1 : Nat) : Int)), v10], []) = some (m', some (0, clampv (topv (ev env (c :: cs) S)) x2)) ∧ z_same [(6, 0, 39)] m m' := by
        intro u v10 hu
        refine next (u :: S) v10 _ hu.symm (z_same.rf.upo (by (try unfold r_RL); first | exact z_on_h rfl (by omega) (by omega) | exact z_on_t (z_on_h rfl (by omega) (by omega)) | exact z_on_t (z_on_t (z_on_h rfl (by omega) (by omega))) | exact z_on_t (z_on_t (z_on_t (z_on_h rfl (by omega) (by omega)))) | exact z_on_t (z_on_t (z_on_t (z_on_t (z_on_h rfl (by omega) (by omega))))) | exact z_on_t (z_on_t (z_on_t (z_on_t (z_on_t (z_on_h rfl (by omega) (by omega)))))) | exact z_on_t (z_on_t (z_on_t (z_on_t (z_on_t (z_on_t (z_on_h rfl (by omega) (by omega))))))) | exact z_on_t (z_on_t (z_on_t (z_on_t (z_on_t (z_on_t (z_on_t (z_on_h rfl (by omega) (by omega)))))))) | exact z_on_t (z_on_t (z_on_t (z_on_t (z_on_t (z_on_t (z_on_t (z_on_t (z_on_h rfl (by omega) (by omega))))))))) | exact z_on_t (z_on_t (z_on_t (z_on_t (z_on_t (z_on_t (z_on_t (z_on_t (z_on_t (z_on_h rfl (by omega) (by omega)))))))))) | exact z_on_t (z_on_t (z_on_t (z_on_t (z_on_t (z_on_t (z_on_t (z_on_t (z_on_t (z_on_t (z_on_h rfl (by omega) (by omega))))))))))) | exact z_on_t (z_on_t (z_on_t (z_on_t (z_on_t (z_on_t (z_on_t (z_on_t (z_on_t (z_on_t (z_on_t (z_on_h rfl (by omega) (by omega)))))))))))) | exact z_on_t (z_on_t (z_on_t (z_on_t (z_on_t (z_on_t (z_on_t (z_on_t (z_on_t (z_on_t (z_on_t (z_on_t (z_on_h rfl (by omega) (by omega))))))))))))))) ?_
        rw [zu_row]
        exact ⟨u_up_self, stk_up hS (Nat.le_refl _)⟩
      by_cases c3 : 1000 ≤ c
      · rw [if_pos c3]
        by_cases c4 : 7 ≤ c - 1000
        · rw [if_pos c4]
          exact push 0 _ (by unfold ev1; rw [if_neg c1, if_neg (by omega), if_neg (by omega), if_neg (by omega)])
        · rw [if_neg c4, he _ (by omega)]
          exact push _ _ (by unfold ev1; rw [if_neg c1, if_neg (by omega), if_neg (by omega), if_pos (by omega)])
      · rw [if_neg c3]
        exact push c _ (by unfold ev1; rw [if_neg c1, if_neg (by omega), if_pos (by omega)])
    · rw [if_neg c2]
      match S, hS, hl with
      | [], hS, hl =>
        rw [if_pos (by decide)]
        exact next [] _ m (by unfold ev1; rw [if_neg c1, if_pos (by omega)]) z_same.rf trivial
      | [x], hS, hl =>
        rw [if_pos (by simp)]
        exact next [x] _ m (by unfold ev1; rw [if_neg c1, if_pos (by omega)]) z_same.rf hS
      | w :: x :: S, hS, hl =>
        have hl : S.length + 1 + 1 ≤ k := hl
        have e1 : (((w :: x :: S).length : Int) - 1).toNat = S.length + 1 := by show (((S.length + 1 + 1 : Nat) : Int) - 1).toNat = S.length + 1; omega
        have e2 : (((w :: x :: S).length : Int) - 2).toNat = S.length := by show (((S.length + 1 + 1 : Nat) : Int) - 2).toNat = S.length; omega
        have e3 : ((w :: x :: S).length : Int) - 1 = ((S.length + 1 : Nat) : Int) := by show ((S.length + 1 + 1 : Nat) : Int) - 1 = _; omega
        have e4 : ((w :: x :: S).length : Int) - 2 = ((S.length : Nat) : Int) := by show ((S.length + 1 + 1 : Nat) : Int) - 2 = _; omega
        have g1 : m 6 (S.length + 1) = w := hS.1
        have g2 : m 6 S.length = x := hS.2.1
        have cb := hcs c List.mem_cons_self
        rw [if_neg (by show ¬ ((S.length + 1 + 1 : Nat) : Int) ≤ 1; omega), e1, e2, e3, e4, g1, g2, z_sub_eq (by omega) (by omega), c_join, zb_v, s_mel_163 m x1 x2 x3 x4 x5 x6 x7 _ k _ _ _ ⟨by omega, by omega⟩ ⟨by omega, by omega⟩, Int.toNat_natCast, tc1]
        refine next (q_op (c - 2000) x w :: S) _ _ (by unfold ev1; rw [if_neg c1, if_pos (by omega)]) (z_same.rf.upo (by (try unfold r_RL); first | exact z_on_h rfl (by omega) (by omega) | exact z_on_t (z_on_h rfl (by omega) (by omega)) | exact z_on_t (z_on_t (z_on_h rfl (by omega) (by omega))) | exact z_on_t (z_on_t (z_on_t (z_on_h rfl (by omega) (by omega)))) | exact z_on_t (z_on_t (z_on_t (z_on_t (z_on_h rfl (by omega) (by omega))))) | exact z_on_t (z_on_t (z_on_t (z_on_t (z_on_t (z_on_h rfl (by omega) (by omega)))))) | exact z_on_t (z_on_t (z_on_t (z_on_t (z_on_t (z_on_t (z_on_h rfl (by omega) (by omega))))))) | exact z_on_t (z_on_t (z_on_t (z_on_t (z_on_t (z_on_t (z_on_t (z_on_h rfl (by omega) (by omega)))))))) | exact z_on_t (z_on_t (z_on_t (z_on_t (z_on_t (z_on_t (z_on_t (z_on_t (z_on_h rfl (by omega) (by omega))))))))) | exact z_on_t (z_on_t (z_on_t (z_on_t (z_on_t (z_on_t (z_on_t (z_on_t (z_on_t (z_on_h rfl (by omega) (by omega)))))))))) | exact z_on_t (z_on_t (z_on_t (z_on_t (z_on_t (z_on_t (z_on_t (z_on_t (z_on_t (z_on_t (z_on_h rfl (by omega) (by omega))))))))))) | exact z_on_t (z_on_t (z_on_t (z_on_t (z_on_t (z_on_t (z_on_t (z_on_t (z_on_t (z_on_t (z_on_t (z_on_h rfl (by omega) (by omega)))))))))))) | exact z_on_t (z_on_t (z_on_t (z_on_t (z_on_t (z_on_t (z_on_t (z_on_t (z_on_t (z_on_t (z_on_t (z_on_t (z_on_h rfl (by omega) (by omega))))))))))))))) ?_
        rw [zu_row]
        exact ⟨u_up_self, stk_up hS.2.2 (Nat.le_refl _)⟩
/-- the class's rule, told by its codes -/
def c_env (w i a f y n h : Int) : Nat → Int := fun k => if k = 0 then w else if k = 1 then i else if k = 2 then a else if k = 3 then f else if k = 4 then y else if k = 5 then n else h
def c_ml (cs : List Int) : hr_M := fun w i a f y n h => clampv (topv (ev (c_env w i a f y n h) cs [])) i
theorem clampv_ok {v i : Int} (h : 0 ≤ i) : 0 ≤ clampv v i ∧ clampv v i ≤ i := by
  unfold clampv
  by_cases c1 : 0 ≤ v
  · rw [if_pos c1]
    by_cases c2 : v ≤ i
    · rw [if_pos c2]; omega
    · rw [if_neg c2]; omega
  · rw [if_neg c1]; omega
theorem c_ml_ok (cs : List Int) : hr_mlok (c_ml cs) := fun w i a f y n h hi => clampv_ok hi
theorem ev1_cg {env env' : Nat → Int} (h : ∀ k, k < 7 → env k = env' k) (c : Int) (S : List Int) : ev1 env c S = ev1 env' c S := by
  unfold ev1
  by_cases c1 : c = 2126
  · rw [if_pos c1, if_pos c1]
  rw [if_neg c1, if_neg c1]
  by_cases c2 : 2000 ≤ c
  · rw [if_pos c2, if_pos c2]
  rw [if_neg c2, if_neg c2]
  by_cases c3 : c < 1000
  · rw [if_pos c3, if_pos c3]
  rw [if_neg c3, if_neg c3]
  by_cases c4 : c - 1000 < 7
  · rw [if_pos c4, if_pos c4, h _ (by omega)]
  · rw [if_neg c4, if_neg c4]
theorem ev_cg {env env' : Nat → Int} (h : ∀ k, k < 7 → env k = env' k) : ∀ (cs S : List Int), ev env cs S = ev env' cs S
  | [], S => rfl
  | c :: cs, S => by
    show ev env cs (ev1 env c S) = ev env' cs (ev1 env' c S)
    rw [ev1_cg h, ev_cg h cs]
theorem K_rule_c {m : z_M} {cs : List Int} (h1 : m 4 3 = (cs.length : Int)) (h2 : cs.length ≤ 40) (h3 : ∀ c ∈ cs, c ≤ 2147483647) (h4 : cds (m 5) 0 cs) : c_Hml (c_ml cs) m := by
  intro m2 e5 e4 w i a f y n hh
  rw [s_mel_0]
  have s0 : z_same [(7, 0, 6)] m2 (z_up (z_up (z_up (z_up (z_up (z_up (z_up m2 7 0 w) 7 1 i) 7 2 a) 7 3 f) 7 4 y) 7 5 n) 7 6 hh) := ((((((z_same.rf.upo (by (try unfold r_RL); first | exact z_on_h rfl (by omega) (by omega) | exact z_on_t (z_on_h rfl (by omega) (by omega)) | exact z_on_t (z_on_t (z_on_h rfl (by omega) (by omega))) | exact z_on_t (z_on_t (z_on_t (z_on_h rfl (by omega) (by omega)))) | exact z_on_t (z_on_t (z_on_t (z_on_t (z_on_h rfl (by omega) (by omega))))) | exact z_on_t (z_on_t (z_on_t (z_on_t (z_on_t (z_on_h rfl (by omega) (by omega)))))) | exact z_on_t (z_on_t (z_on_t (z_on_t (z_on_t (z_on_t (z_on_h rfl (by omega) (by omega))))))) | exact z_on_t (z_on_t (z_on_t (z_on_t (z_on_t (z_on_t (z_on_t (z_on_h rfl (by omega) (by omega)))))))) | exact z_on_t (z_on_t (z_on_t (z_on_t (z_on_t (z_on_t (z_on_t (z_on_t (z_on_h rfl (by omega) (by omega))))))))) | exact z_on_t (z_on_t (z_on_t (z_on_t (z_on_t (z_on_t (z_on_t (z_on_t (z_on_t (z_on_h rfl (by omega) (by omega)))))))))) | exact z_on_t (z_on_t (z_on_t (z_on_t (z_on_t (z_on_t (z_on_t (z_on_t (z_on_t (z_on_t (z_on_h rfl (by omega) (by omega))))))))))) | exact z_on_t (z_on_t (z_on_t (z_on_t (z_on_t (z_on_t (z_on_t (z_on_t (z_on_t (z_on_t (z_on_t (z_on_h rfl (by omega) (by omega)))))))))))) | exact z_on_t (z_on_t (z_on_t (z_on_t (z_on_t (z_on_t (z_on_t (z_on_t (z_on_t (z_on_t (z_on_t (z_on_t (z_on_h rfl (by omega) (by omega))))))))))))))).upo (by (try unfold r_RL); first | exact z_on_h rfl (by omega) (by omega) | exact z_on_t (z_on_h rfl (by omega) (by omega)) | exact z_on_t (z_on_t (z_on_h rfl (by omega) (by omega))) | exact z_on_t (z_on_t (z_on_t (z_on_h rfl (by omega) (by omega)))) | exact z_on_t (z_on_t (z_on_t (z_on_t (z_on_h rfl (by omega) (by omega))))) | exact z_on_t (z_on_t (z_on_t (z_on_t (z_on_t (z_on_h rfl (by omega) (by omega)))))) | exact z_on_t (z_on_t (z_on_t (z_on_t (z_on_t (z_on_t (z_on_h rfl (by omega) (by omega))))))) | exact z_on_t (z_on_t (z_on_t (z_on_t (z_on_t (z_on_t (z_on_t (z_on_h rfl (by omega) (by omega)))))))) | exact z_on_t (z_on_t (z_on_t (z_on_t (z_on_t (z_on_t (z_on_t (z_on_t (z_on_h rfl (by omega) (by omega))))))))) | exact z_on_t (z_on_t (z_on_t (z_on_t (z_on_t (z_on_t (z_on_t (z_on_t (z_on_t (z_on_h rfl (by omega) (by omega)))))))))) | exact z_on_t (z_on_t (z_on_t (z_on_t (z_on_t (z_on_t (z_on_t (z_on_t (z_on_t (z_on_t (z_on_h rfl (by omega) (by omega))))))))))) | exact z_on_t (z_on_t (z_on_t (z_on_t (z_on_t (z_on_t (z_on_t (z_on_t (z_on_t (z_on_t (z_on_t (z_on_h rfl (by omega) (by omega)))))))))))) | exact z_on_t (z_on_t (z_on_t (z_on_t (z_on_t (z_on_t (z_on_t (z_on_t (z_on_t (z_on_t (z_on_t (z_on_t (z_on_h rfl (by omega) (by omega))))))))))))))).upo (by (try unfold r_RL); first | exact z_on_h rfl (by omega) (by omega) | exact z_on_t (z_on_h rfl (by omega) (by omega)) | exact z_on_t (z_on_t (z_on_h rfl (by omega) (by omega))) | exact z_on_t (z_on_t (z_on_t (z_on_h rfl (by omega) (by omega)))) | exact z_on_t (z_on_t (z_on_t (z_on_t (z_on_h rfl (by omega) (by omega))))) | exact z_on_t (z_on_t (z_on_t (z_on_t (z_on_t (z_on_h rfl (by omega) (by omega)))))) | exact z_on_t (z_on_t (z_on_t (z_on_t (z_on_t (z_on_t (z_on_h rfl (by omega) (by omega))))))) | exact z_on_t (z_on_t (z_on_t (z_on_t (z_on_t (z_on_t (z_on_t (z_on_h rfl (by omega) (by omega)))))))) | exact z_on_t (z_on_t (z_on_t (z_on_t (z_on_t (z_on_t (z_on_t (z_on_t (z_on_h rfl (by omega) (by omega))))))))) | exact z_on_t (z_on_t (z_on_t (z_on_t (z_on_t (z_on_t (z_on_t (z_on_t (z_on_t (z_on_h rfl (by omega) (by omega)))))))))) | exact z_on_t (z_on_t (z_on_t (z_on_t (z_on_t (z_on_t (z_on_t (z_on_t (z_on_t (z_on_t (z_on_h rfl (by omega) (by omega))))))))))) | exact z_on_t (z_on_t (z_on_t (z_on_t (z_on_t (z_on_t (z_on_t (z_on_t (z_on_t (z_on_t (z_on_t (z_on_h rfl (by omega) (by omega)))))))))))) | exact z_on_t (z_on_t (z_on_t (z_on_t (z_on_t (z_on_t (z_on_t (z_on_t (z_on_t (z_on_t (z_on_t (z_on_t (z_on_h rfl (by omega) (by omega))))))))))))))).upo (by (try unfold r_RL); first | exact z_on_h rfl (by omega) (by omega) | exact z_on_t (z_on_h rfl (by omega) (by omega)) | exact z_on_t (z_on_t (z_on_h rfl (by omega) (by omega))) | exact z_on_t (z_on_t (z_on_t (z_on_h rfl (by omega) (by omega)))) | exact z_on_t (z_on_t (z_on_t (z_on_t (z_on_h rfl (by omega) (by omega))))) | exact z_on_t (z_on_t (z_on_t (z_on_t (z_on_t (z_on_h rfl (by omega) (by omega)))))) | exact z_on_t (z_on_t (z_on_t (z_on_t (z_on_t (z_on_t (z_on_h rfl (by omega) (by omega))))))) | exact z_on_t (z_on_t (z_on_t (z_on_t (z_on_t (z_on_t (z_on_t (z_on_h rfl (by omega) (by omega)))))))) | exact z_on_t (z_on_t (z_on_t (z_on_t (z_on_t (z_on_t (z_on_t (z_on_t (z_on_h rfl (by omega) (by omega))))))))) | exact z_on_t (z_on_t (z_on_t (z_on_t (z_on_t (z_on_t (z_on_t (z_on_t (z_on_t (z_on_h rfl (by omega) (by omega)))))))))) | exact z_on_t (z_on_t (z_on_t (z_on_t (z_on_t (z_on_t (z_on_t (z_on_t (z_on_t (z_on_t (z_on_h rfl (by omega) (by omega))))))))))) | exact z_on_t (z_on_t (z_on_t (z_on_t (z_on_t (z_on_t (z_on_t (z_on_t (z_on_t (z_on_t (z_on_t (z_on_h rfl (by omega) (by omega)))))))))))) | exact z_on_t (z_on_t (z_on_t (z_on_t (z_on_t (z_on_t (z_on_t (z_on_t (z_on_t (z_on_t (z_on_t (z_on_t (z_on_h rfl (by omega) (by omega))))))))))))))).upo (by (try unfold r_RL); first | exact z_on_h rfl (by omega) (by omega) | exact z_on_t (z_on_h rfl (by omega) (by omega)) | exact z_on_t (z_on_t (z_on_h rfl (by omega) (by omega))) | exact z_on_t (z_on_t (z_on_t (z_on_h rfl (by omega) (by omega)))) | exact z_on_t (z_on_t (z_on_t (z_on_t (z_on_h rfl (by omega) (by omega))))) | exact z_on_t (z_on_t (z_on_t (z_on_t (z_on_t (z_on_h rfl (by omega) (by omega)))))) | exact z_on_t (z_on_t (z_on_t (z_on_t (z_on_t (z_on_t (z_on_h rfl (by omega) (by omega))))))) | exact z_on_t (z_on_t (z_on_t (z_on_t (z_on_t (z_on_t (z_on_t (z_on_h rfl (by omega) (by omega)))))))) | exact z_on_t (z_on_t (z_on_t (z_on_t (z_on_t (z_on_t (z_on_t (z_on_t (z_on_h rfl (by omega) (by omega))))))))) | exact z_on_t (z_on_t (z_on_t (z_on_t (z_on_t (z_on_t (z_on_t (z_on_t (z_on_t (z_on_h rfl (by omega) (by omega)))))))))) | exact z_on_t (z_on_t (z_on_t (z_on_t (z_on_t (z_on_t (z_on_t (z_on_t (z_on_t (z_on_t (z_on_h rfl (by omega) (by omega))))))))))) | exact z_on_t (z_on_t (z_on_t (z_on_t (z_on_t (z_on_t (z_on_t (z_on_t (z_on_t (z_on_t (z_on_t (z_on_h rfl (by omega) (by omega)))))))))))) | exact z_on_t (z_on_t (z_on_t (z_on_t (z_on_t (z_on_t (z_on_t (z_on_t (z_on_t (z_on_t (z_on_t (z_on_t (z_on_h rfl (by omega) (by omega))))))))))))))).upo (by (try unfold r_RL); first | exact z_on_h rfl (by omega) (by omega) | exact z_on_t (z_on_h rfl (by omega) (by omega)) | exact z_on_t (z_on_t (z_on_h rfl (by omega) (by omega))) | exact z_on_t (z_on_t (z_on_t (z_on_h rfl (by omega) (by omega)))) | exact z_on_t (z_on_t (z_on_t (z_on_t (z_on_h rfl (by omega) (by omega))))) | exact z_on_t (z_on_t (z_on_t (z_on_t (z_on_t (z_on_h rfl (by omega) (by omega)))))) | exact z_on_t (z_on_t (z_on_t (z_on_t (z_on_t (z_on_t (z_on_h rfl (by omega) (by omega))))))) | exact z_on_t (z_on_t (z_on_t (z_on_t (z_on_t (z_on_t (z_on_t (z_on_h rfl (by omega) (by omega)))))))) | exact z_on_t (z_on_t (z_on_t (z_on_t (z_on_t (z_on_t (z_on_t (z_on_t (z_on_h rfl (by omega) (by omega))))))))) | exact z_on_t (z_on_t (z_on_t (z_on_t (z_on_t (z_on_t (z_on_t (z_on_t (z_on_t (z_on_h rfl (by omega) (by omega)))))))))) | exact z_on_t (z_on_t (z_on_t (z_on_t (z_on_t (z_on_t (z_on_t (z_on_t (z_on_t (z_on_t (z_on_h rfl (by omega) (by omega))))))))))) | exact z_on_t (z_on_t (z_on_t (z_on_t (z_on_t (z_on_t (z_on_t (z_on_t (z_on_t (z_on_t (z_on_t (z_on_h rfl (by omega) (by omega)))))))))))) | exact z_on_t (z_on_t (z_on_t (z_on_t (z_on_t (z_on_t (z_on_t (z_on_t (z_on_t (z_on_t (z_on_t (z_on_t (z_on_h rfl (by omega) (by omega))))))))))))))).upo (by (try unfold r_RL); first | exact z_on_h rfl (by omega) (by omega) | exact z_on_t (z_on_h rfl (by omega) (by omega)) | exact z_on_t (z_on_t (z_on_h rfl (by omega) (by omega))) | exact z_on_t (z_on_t (z_on_t (z_on_h rfl (by omega) (by omega)))) | exact z_on_t (z_on_t (z_on_t (z_on_t (z_on_h rfl (by omega) (by omega))))) | exact z_on_t (z_on_t (z_on_t (z_on_t (z_on_t (z_on_h rfl (by omega) (by omega)))))) | exact z_on_t (z_on_t (z_on_t (z_on_t (z_on_t (z_on_t (z_on_h rfl (by omega) (by omega))))))) | exact z_on_t (z_on_t (z_on_t (z_on_t (z_on_t (z_on_t (z_on_t (z_on_h rfl (by omega) (by omega)))))))) | exact z_on_t (z_on_t (z_on_t (z_on_t (z_on_t (z_on_t (z_on_t (z_on_t (z_on_h rfl (by omega) (by omega))))))))) | exact z_on_t (z_on_t (z_on_t (z_on_t (z_on_t (z_on_t (z_on_t (z_on_t (z_on_t (z_on_h rfl (by omega) (by omega)))))))))) | exact z_on_t (z_on_t (z_on_t (z_on_t (z_on_t (z_on_t (z_on_t (z_on_t (z_on_t (z_on_t (z_on_h rfl (by omega) (by omega))))))))))) | exact z_on_t (z_on_t (z_on_t (z_on_t (z_on_t (z_on_t (z_on_t (z_on_t (z_on_t (z_on_t (z_on_t (z_on_h rfl (by omega) (by omega)))))))))))) | exact z_on_t (z_on_t (z_on_t (z_on_t (z_on_t (z_on_t (z_on_t (z_on_t (z_on_t (z_on_t (z_on_t (z_on_t (z_on_h rfl (by omega) (by omega))))))))))))))
  have ev7 : ∀ k, k < 7 → (z_up (z_up (z_up (z_up (z_up (z_up (z_up m2 7 0 w) 7 1 i) 7 2 a) 7 3 f) 7 4 y) 7 5 n) 7 6 hh) 7 k = c_env w i a f y n hh k := fun k hk => by
    rcases (show k = 0 ∨ k = 1 ∨ k = 2 ∨ k = 3 ∨ k = 4 ∨ k = 5 ∨ k = 6 by omega) with rfl | rfl | rfl | rfl | rfl | rfl | rfl
    · rw [zu_k (by decide), zu_k (by decide), zu_k (by decide), zu_k (by decide), zu_k (by decide), zu_k (by decide), zu_self]; rfl
    · rw [zu_k (by decide), zu_k (by decide), zu_k (by decide), zu_k (by decide), zu_k (by decide), zu_self]; rfl
    · rw [zu_k (by decide), zu_k (by decide), zu_k (by decide), zu_k (by decide), zu_self]; rfl
    · rw [zu_k (by decide), zu_k (by decide), zu_k (by decide), zu_self]; rfl
    · rw [zu_k (by decide), zu_k (by decide), zu_self]; rfl
    · rw [zu_k (by decide), zu_self]; rfl
    · rw [zu_self]; rfl
  generalize z_up (z_up (z_up (z_up (z_up (z_up (z_up m2 7 0 w) 7 1 i) 7 2 a) 7 3 f) 7 4 y) 7 5 n) 7 6 hh = m3 at s0 ev7 ⊢
  obtain ⟨m', a1, a2⟩ := c_run (env := c_env w i a f y n hh) (x1 := w) (x2 := i) (x3 := a) (x4 := f) (x5 := y) (x6 := n) (x7 := hh) cs 0 [] (9, 0) m3 h3 (by rw [s0.of (by (try unfold r_RL); (repeat' (first | exact trivial | refine z_of_c ?_ ?_)) <;> omega), e4, h1, Nat.zero_add]) (by omega) (by rw [s0.ofr (by (try unfold r_RL); (repeat' (first | exact trivial | refine z_ofr_c ?_ ?_)) <;> omega), e5]; exact h4) trivial (Nat.le_refl _) ev7
  exact ⟨m', a1, (s0.subo (by (try unfold r_RL); (repeat' (first | exact trivial | refine z_sbo_c ?_ ?_)) <;> (intro k h1 h2; first | exact z_on_h rfl (by omega) (by omega) | exact z_on_t (z_on_h rfl (by omega) (by omega)) | exact z_on_t (z_on_t (z_on_h rfl (by omega) (by omega))) | exact z_on_t (z_on_t (z_on_t (z_on_h rfl (by omega) (by omega)))) | exact z_on_t (z_on_t (z_on_t (z_on_t (z_on_h rfl (by omega) (by omega))))) | exact z_on_t (z_on_t (z_on_t (z_on_t (z_on_t (z_on_h rfl (by omega) (by omega)))))) | exact z_on_t (z_on_t (z_on_t (z_on_t (z_on_t (z_on_t (z_on_h rfl (by omega) (by omega))))))) | exact z_on_t (z_on_t (z_on_t (z_on_t (z_on_t (z_on_t (z_on_t (z_on_h rfl (by omega) (by omega)))))))) | exact z_on_t (z_on_t (z_on_t (z_on_t (z_on_t (z_on_t (z_on_t (z_on_t (z_on_h rfl (by omega) (by omega))))))))) | exact z_on_t (z_on_t (z_on_t (z_on_t (z_on_t (z_on_t (z_on_t (z_on_t (z_on_t (z_on_h rfl (by omega) (by omega)))))))))) | exact z_on_t (z_on_t (z_on_t (z_on_t (z_on_t (z_on_t (z_on_t (z_on_t (z_on_t (z_on_t (z_on_h rfl (by omega) (by omega))))))))))) | exact z_on_t (z_on_t (z_on_t (z_on_t (z_on_t (z_on_t (z_on_t (z_on_t (z_on_t (z_on_t (z_on_t (z_on_h rfl (by omega) (by omega)))))))))))) | exact z_on_t (z_on_t (z_on_t (z_on_t (z_on_t (z_on_t (z_on_t (z_on_t (z_on_t (z_on_t (z_on_t (z_on_t (z_on_h rfl (by omega) (by omega)))))))))))))))).tr (a2.subo (by (try unfold r_RL); (repeat' (first | exact trivial | refine z_sbo_c ?_ ?_)) <;> (intro k h1 h2; first | exact z_on_h rfl (by omega) (by omega) | exact z_on_t (z_on_h rfl (by omega) (by omega)) | exact z_on_t (z_on_t (z_on_h rfl (by omega) (by omega))) | exact z_on_t (z_on_t (z_on_t (z_on_h rfl (by omega) (by omega)))) | exact z_on_t (z_on_t (z_on_t (z_on_t (z_on_h rfl (by omega) (by omega))))) | exact z_on_t (z_on_t (z_on_t (z_on_t (z_on_t (z_on_h rfl (by omega) (by omega)))))) | exact z_on_t (z_on_t (z_on_t (z_on_t (z_on_t (z_on_t (z_on_h rfl (by omega) (by omega))))))) | exact z_on_t (z_on_t (z_on_t (z_on_t (z_on_t (z_on_t (z_on_t (z_on_h rfl (by omega) (by omega)))))))) | exact z_on_t (z_on_t (z_on_t (z_on_t (z_on_t (z_on_t (z_on_t (z_on_t (z_on_h rfl (by omega) (by omega))))))))) | exact z_on_t (z_on_t (z_on_t (z_on_t (z_on_t (z_on_t (z_on_t (z_on_t (z_on_t (z_on_h rfl (by omega) (by omega)))))))))) | exact z_on_t (z_on_t (z_on_t (z_on_t (z_on_t (z_on_t (z_on_t (z_on_t (z_on_t (z_on_t (z_on_h rfl (by omega) (by omega))))))))))) | exact z_on_t (z_on_t (z_on_t (z_on_t (z_on_t (z_on_t (z_on_t (z_on_t (z_on_t (z_on_t (z_on_t (z_on_h rfl (by omega) (by omega)))))))))))) | exact z_on_t (z_on_t (z_on_t (z_on_t (z_on_t (z_on_t (z_on_t (z_on_t (z_on_t (z_on_t (z_on_t (z_on_t (z_on_h rfl (by omega) (by omega))))))))))))))))⟩
theorem mm_clamp {v i : Int} (h : 0 ≤ i) : (if 0 < (if v < i then v else i) then (if v < i then v else i) else 0) = clampv v i := by
  unfold clampv
  by_cases c1 : v < i
  · rw [if_pos c1]
    by_cases c2 : 0 < v
    · rw [if_pos c2, if_pos (by omega), if_pos (by omega)]
    · rw [if_neg c2]
      by_cases c3 : 0 ≤ v
      · rw [if_pos c3, if_pos (by omega)]; omega
      · rw [if_neg c3]
  · rw [if_neg c1]
    by_cases c2 : 0 < i
    · rw [if_pos c2, if_pos (by omega)]
      by_cases c3 : v ≤ i
      · rw [if_pos c3]; omega
      · rw [if_neg c3]
    · rw [if_neg c2, if_pos (by omega)]
      by_cases c3 : v ≤ i
      · rw [if_pos c3]; omega
      · rw [if_neg c3]; omega
theorem K_rule_r {m : z_M} {cs : List Int} (h5 : (m 251 20 = 0 ∧ cs = [1000, 2, 2047]) ∨ (0 < m 251 20 ∧ m 251 20 ≤ 40 ∧ (∀ k, k < 40 → -128 ≤ m 258 k ∧ m 258 k ≤ 127) ∧ (q_ex (u_nx (fun k => z_and (m 258 k) 255) (m 251 20) 40) 4 0).1 = true ∧ (q_ex (u_nx (fun k => z_and (m 258 k) 255) (m 251 20) 40) 4 0).2.2 = cs)) : r_Hml (c_ml cs) m := by
  intro m2 e258 e20 a ha ha2 k w n hk hrg hW hN
  have ha3 := r_ne251 ha2
  obtain ⟨g1, g2, g3⟩ := hrg
  have gk := g1 k hk
  rw [t_mel_0 ha ha2 m2 k w n ⟨by omega, by omega⟩, Int.toNat_natCast]
  rcases h5 with ⟨h5, h6⟩ | ⟨h5, h6, h7, h8⟩
  · rw [if_pos (by rw [e20]; omega), mm_clamp gk.1.1]
    refine ⟨m2, ?_, z_same.rf⟩
    rw [h6]
    rfl
  · rw [if_neg (by rw [e20]; omega), tn9]
    have s0 : z_same [(259, 0, 6)] m2 (z_up (z_up (z_up (z_up (z_up (z_up (z_up m2 259 0 w) 259 1 (m2 a k)) 259 2 (m2 a (k + 9))) 259 3 (m2 a 36)) 259 4 ((k : Int) / 3)) 259 5 n) 259 6 (m2 a 35)) := ((((((z_same.rf.upo (by (try unfold r_RL); first | exact z_on_h rfl (by omega) (by omega) | exact z_on_t (z_on_h rfl (by omega) (by omega)) | exact z_on_t (z_on_t (z_on_h rfl (by omega) (by omega))) | exact z_on_t (z_on_t (z_on_t (z_on_h rfl (by omega) (by omega)))) | exact z_on_t (z_on_t (z_on_t (z_on_t (z_on_h rfl (by omega) (by omega))))) | exact z_on_t (z_on_t (z_on_t (z_on_t (z_on_t (z_on_h rfl (by omega) (by omega)))))) | exact z_on_t (z_on_t (z_on_t (z_on_t (z_on_t (z_on_t (z_on_h rfl (by omega) (by omega))))))) | exact z_on_t (z_on_t (z_on_t (z_on_t (z_on_t (z_on_t (z_on_t (z_on_h rfl (by omega) (by omega)))))))) | exact z_on_t (z_on_t (z_on_t (z_on_t (z_on_t (z_on_t (z_on_t (z_on_t (z_on_h rfl (by omega) (by omega))))))))) | exact z_on_t (z_on_t (z_on_t (z_on_t (z_on_t (z_on_t (z_on_t (z_on_t (z_on_t (z_on_h rfl (by omega) (by omega)))))))))) | exact z_on_t (z_on_t (z_on_t (z_on_t (z_on_t (z_on_t (z_on_t (z_on_t (z_on_t (z_on_t (z_on_h rfl (by omega) (by omega))))))))))) | exact z_on_t (z_on_t (z_on_t (z_on_t (z_on_t (z_on_t (z_on_t (z_on_t (z_on_t (z_on_t (z_on_t (z_on_h rfl (by omega) (by omega)))))))))))) | exact z_on_t (z_on_t (z_on_t (z_on_t (z_on_t (z_on_t (z_on_t (z_on_t (z_on_t (z_on_t (z_on_t (z_on_t (z_on_h rfl (by omega) (by omega))))))))))))))).upo (by (try unfold r_RL); first | exact z_on_h rfl (by omega) (by omega) | exact z_on_t (z_on_h rfl (by omega) (by omega)) | exact z_on_t (z_on_t (z_on_h rfl (by omega) (by omega))) | exact z_on_t (z_on_t (z_on_t (z_on_h rfl (by omega) (by omega)))) | exact z_on_t (z_on_t (z_on_t (z_on_t (z_on_h rfl (by omega) (by omega))))) | exact z_on_t (z_on_t (z_on_t (z_on_t (z_on_t (z_on_h rfl (by omega) (by omega)))))) | exact z_on_t (z_on_t (z_on_t (z_on_t (z_on_t (z_on_t (z_on_h rfl (by omega) (by omega))))))) | exact z_on_t (z_on_t (z_on_t (z_on_t (z_on_t (z_on_t (z_on_t (z_on_h rfl (by omega) (by omega)))))))) | exact z_on_t (z_on_t (z_on_t (z_on_t (z_on_t (z_on_t (z_on_t (z_on_t (z_on_h rfl (by omega) (by omega))))))))) | exact z_on_t (z_on_t (z_on_t (z_on_t (z_on_t (z_on_t (z_on_t (z_on_t (z_on_t (z_on_h rfl (by omega) (by omega)))))))))) | exact z_on_t (z_on_t (z_on_t (z_on_t (z_on_t (z_on_t (z_on_t (z_on_t (z_on_t (z_on_t (z_on_h rfl (by omega) (by omega))))))))))) | exact z_on_t (z_on_t (z_on_t (z_on_t (z_on_t (z_on_t (z_on_t (z_on_t (z_on_t (z_on_t (z_on_t (z_on_h rfl (by omega) (by omega)))))))))))) | exact z_on_t (z_on_t (z_on_t (z_on_t (z_on_t (z_on_t (z_on_t (z_on_t (z_on_t (z_on_t (z_on_t (z_on_t (z_on_h rfl (by omega) (by omega))))))))))))))).upo (by (try unfold r_RL); first | exact z_on_h rfl (by omega) (by omega) | exact z_on_t (z_on_h rfl (by omega) (by omega)) | exact z_on_t (z_on_t (z_on_h rfl (by omega) (by omega))) | exact z_on_t (z_on_t (z_on_t (z_on_h rfl (by omega) (by omega)))) | exact z_on_t (z_on_t (z_on_t (z_on_t (z_on_h rfl (by omega) (by omega))))) | exact z_on_t (z_on_t (z_on_t (z_on_t (z_on_t (z_on_h rfl (by omega) (by omega)))))) | exact z_on_t (z_on_t (z_on_t (z_on_t (z_on_t (z_on_t (z_on_h rfl (by omega) (by omega))))))) | exact z_on_t (z_on_t (z_on_t (z_on_t (z_on_t (z_on_t (z_on_t (z_on_h rfl (by omega) (by omega)))))))) | exact z_on_t (z_on_t (z_on_t (z_on_t (z_on_t (z_on_t (z_on_t (z_on_t (z_on_h rfl (by omega) (by omega))))))))) | exact z_on_t (z_on_t (z_on_t (z_on_t (z_on_t (z_on_t (z_on_t (z_on_t (z_on_t (z_on_h rfl (by omega) (by omega)))))))))) | exact z_on_t (z_on_t (z_on_t (z_on_t (z_on_t (z_on_t (z_on_t (z_on_t (z_on_t (z_on_t (z_on_h rfl (by omega) (by omega))))))))))) | exact z_on_t (z_on_t (z_on_t (z_on_t (z_on_t (z_on_t (z_on_t (z_on_t (z_on_t (z_on_t (z_on_t (z_on_h rfl (by omega) (by omega)))))))))))) | exact z_on_t (z_on_t (z_on_t (z_on_t (z_on_t (z_on_t (z_on_t (z_on_t (z_on_t (z_on_t (z_on_t (z_on_t (z_on_h rfl (by omega) (by omega))))))))))))))).upo (by (try unfold r_RL); first | exact z_on_h rfl (by omega) (by omega) | exact z_on_t (z_on_h rfl (by omega) (by omega)) | exact z_on_t (z_on_t (z_on_h rfl (by omega) (by omega))) | exact z_on_t (z_on_t (z_on_t (z_on_h rfl (by omega) (by omega)))) | exact z_on_t (z_on_t (z_on_t (z_on_t (z_on_h rfl (by omega) (by omega))))) | exact z_on_t (z_on_t (z_on_t (z_on_t (z_on_t (z_on_h rfl (by omega) (by omega)))))) | exact z_on_t (z_on_t (z_on_t (z_on_t (z_on_t (z_on_t (z_on_h rfl (by omega) (by omega))))))) | exact z_on_t (z_on_t (z_on_t (z_on_t (z_on_t (z_on_t (z_on_t (z_on_h rfl (by omega) (by omega)))))))) | exact z_on_t (z_on_t (z_on_t (z_on_t (z_on_t (z_on_t (z_on_t (z_on_t (z_on_h rfl (by omega) (by omega))))))))) | exact z_on_t (z_on_t (z_on_t (z_on_t (z_on_t (z_on_t (z_on_t (z_on_t (z_on_t (z_on_h rfl (by omega) (by omega)))))))))) | exact z_on_t (z_on_t (z_on_t (z_on_t (z_on_t (z_on_t (z_on_t (z_on_t (z_on_t (z_on_t (z_on_h rfl (by omega) (by omega))))))))))) | exact z_on_t (z_on_t (z_on_t (z_on_t (z_on_t (z_on_t (z_on_t (z_on_t (z_on_t (z_on_t (z_on_t (z_on_h rfl (by omega) (by omega)))))))))))) | exact z_on_t (z_on_t (z_on_t (z_on_t (z_on_t (z_on_t (z_on_t (z_on_t (z_on_t (z_on_t (z_on_t (z_on_t (z_on_h rfl (by omega) (by omega))))))))))))))).upo (by (try unfold r_RL); first | exact z_on_h rfl (by omega) (by omega) | exact z_on_t (z_on_h rfl (by omega) (by omega)) | exact z_on_t (z_on_t (z_on_h rfl (by omega) (by omega))) | exact z_on_t (z_on_t (z_on_t (z_on_h rfl (by omega) (by omega)))) | exact z_on_t (z_on_t (z_on_t (z_on_t (z_on_h rfl (by omega) (by omega))))) | exact z_on_t (z_on_t (z_on_t (z_on_t (z_on_t (z_on_h rfl (by omega) (by omega)))))) | exact z_on_t (z_on_t (z_on_t (z_on_t (z_on_t (z_on_t (z_on_h rfl (by omega) (by omega))))))) | exact z_on_t (z_on_t (z_on_t (z_on_t (z_on_t (z_on_t (z_on_t (z_on_h rfl (by omega) (by omega)))))))) | exact z_on_t (z_on_t (z_on_t (z_on_t (z_on_t (z_on_t (z_on_t (z_on_t (z_on_h rfl (by omega) (by omega))))))))) | exact z_on_t (z_on_t (z_on_t (z_on_t (z_on_t (z_on_t (z_on_t (z_on_t (z_on_t (z_on_h rfl (by omega) (by omega)))))))))) | exact z_on_t (z_on_t (z_on_t (z_on_t (z_on_t (z_on_t (z_on_t (z_on_t (z_on_t (z_on_t (z_on_h rfl (by omega) (by omega))))))))))) | exact z_on_t (z_on_t (z_on_t (z_on_t (z_on_t (z_on_t (z_on_t (z_on_t (z_on_t (z_on_t (z_on_t (z_on_h rfl (by omega) (by omega)))))))))))) | exact z_on_t (z_on_t (z_on_t (z_on_t (z_on_t (z_on_t (z_on_t (z_on_t (z_on_t (z_on_t (z_on_t (z_on_t (z_on_h rfl (by omega) (by omega))))))))))))))).upo (by (try unfold r_RL); first | exact z_on_h rfl (by omega) (by omega) | exact z_on_t (z_on_h rfl (by omega) (by omega)) | exact z_on_t (z_on_t (z_on_h rfl (by omega) (by omega))) | exact z_on_t (z_on_t (z_on_t (z_on_h rfl (by omega) (by omega)))) | exact z_on_t (z_on_t (z_on_t (z_on_t (z_on_h rfl (by omega) (by omega))))) | exact z_on_t (z_on_t (z_on_t (z_on_t (z_on_t (z_on_h rfl (by omega) (by omega)))))) | exact z_on_t (z_on_t (z_on_t (z_on_t (z_on_t (z_on_t (z_on_h rfl (by omega) (by omega))))))) | exact z_on_t (z_on_t (z_on_t (z_on_t (z_on_t (z_on_t (z_on_t (z_on_h rfl (by omega) (by omega)))))))) | exact z_on_t (z_on_t (z_on_t (z_on_t (z_on_t (z_on_t (z_on_t (z_on_t (z_on_h rfl (by omega) (by omega))))))))) | exact z_on_t (z_on_t (z_on_t (z_on_t (z_on_t (z_on_t (z_on_t (z_on_t (z_on_t (z_on_h rfl (by omega) (by omega)))))))))) | exact z_on_t (z_on_t (z_on_t (z_on_t (z_on_t (z_on_t (z_on_t (z_on_t (z_on_t (z_on_t (z_on_h rfl (by omega) (by omega))))))))))) | exact z_on_t (z_on_t (z_on_t (z_on_t (z_on_t (z_on_t (z_on_t (z_on_t (z_on_t (z_on_t (z_on_t (z_on_h rfl (by omega) (by omega)))))))))))) | exact z_on_t (z_on_t (z_on_t (z_on_t (z_on_t (z_on_t (z_on_t (z_on_t (z_on_t (z_on_t (z_on_t (z_on_t (z_on_h rfl (by omega) (by omega))))))))))))))).upo (by (try unfold r_RL); first | exact z_on_h rfl (by omega) (by omega) | exact z_on_t (z_on_h rfl (by omega) (by omega)) | exact z_on_t (z_on_t (z_on_h rfl (by omega) (by omega))) | exact z_on_t (z_on_t (z_on_t (z_on_h rfl (by omega) (by omega)))) | exact z_on_t (z_on_t (z_on_t (z_on_t (z_on_h rfl (by omega) (by omega))))) | exact z_on_t (z_on_t (z_on_t (z_on_t (z_on_t (z_on_h rfl (by omega) (by omega)))))) | exact z_on_t (z_on_t (z_on_t (z_on_t (z_on_t (z_on_t (z_on_h rfl (by omega) (by omega))))))) | exact z_on_t (z_on_t (z_on_t (z_on_t (z_on_t (z_on_t (z_on_t (z_on_h rfl (by omega) (by omega)))))))) | exact z_on_t (z_on_t (z_on_t (z_on_t (z_on_t (z_on_t (z_on_t (z_on_t (z_on_h rfl (by omega) (by omega))))))))) | exact z_on_t (z_on_t (z_on_t (z_on_t (z_on_t (z_on_t (z_on_t (z_on_t (z_on_t (z_on_h rfl (by omega) (by omega)))))))))) | exact z_on_t (z_on_t (z_on_t (z_on_t (z_on_t (z_on_t (z_on_t (z_on_t (z_on_t (z_on_t (z_on_h rfl (by omega) (by omega))))))))))) | exact z_on_t (z_on_t (z_on_t (z_on_t (z_on_t (z_on_t (z_on_t (z_on_t (z_on_t (z_on_t (z_on_t (z_on_h rfl (by omega) (by omega)))))))))))) | exact z_on_t (z_on_t (z_on_t (z_on_t (z_on_t (z_on_t (z_on_t (z_on_t (z_on_t (z_on_t (z_on_t (z_on_t (z_on_h rfl (by omega) (by omega))))))))))))))
    have ev7 : ∀ j, j < 7 → (z_up (z_up (z_up (z_up (z_up (z_up (z_up m2 259 0 w) 259 1 (m2 a k)) 259 2 (m2 a (k + 9))) 259 3 (m2 a 36)) 259 4 ((k : Int) / 3)) 259 5 n) 259 6 (m2 a 35)) 259 j = c_env w (m2 a k) (m2 a (k + 9)) (m2 a 36) ((k : Int) / 3) n (m2 a 35) j := fun j hj => by
      rcases (show j = 0 ∨ j = 1 ∨ j = 2 ∨ j = 3 ∨ j = 4 ∨ j = 5 ∨ j = 6 by omega) with rfl | rfl | rfl | rfl | rfl | rfl | rfl
      · rw [zu_k (by decide), zu_k (by decide), zu_k (by decide), zu_k (by decide), zu_k (by decide), zu_k (by decide), zu_self]; rfl
      · rw [zu_k (by decide), zu_k (by decide), zu_k (by decide), zu_k (by decide), zu_k (by decide), zu_self]; rfl
      · rw [zu_k (by decide), zu_k (by decide), zu_k (by decide), zu_k (by decide), zu_self]; rfl
      · rw [zu_k (by decide), zu_k (by decide), zu_k (by decide), zu_self]; rfl
      · rw [zu_k (by decide), zu_k (by decide), zu_self]; rfl
      · rw [zu_k (by decide), zu_self]; rfl
      · rw [zu_self]; rfl
    have henv : ∀ j, j < 7 → -2147483648 ≤ c_env w (m2 a k) (m2 a (k + 9)) (m2 a 36) ((k : Int) / 3) n (m2 a 35) j ∧ c_env w (m2 a k) (m2 a (k + 9)) (m2 a 36) ((k : Int) / 3) n (m2 a 35) j ≤ 2147483647 := fun j hj => by
      unfold r_i at hW hN
      rcases (show j = 0 ∨ j = 1 ∨ j = 2 ∨ j = 3 ∨ j = 4 ∨ j = 5 ∨ j = 6 by omega) with rfl | rfl | rfl | rfl | rfl | rfl | rfl
      · show -2147483648 ≤ w ∧ w ≤ 2147483647; omega
      · show -2147483648 ≤ m2 a k ∧ m2 a k ≤ 2147483647; omega
      · show -2147483648 ≤ m2 a (k + 9) ∧ m2 a (k + 9) ≤ 2147483647; omega
      · show -2147483648 ≤ m2 a 36 ∧ m2 a 36 ≤ 2147483647; omega
      · show -2147483648 ≤ (k : Int) / 3 ∧ (k : Int) / 3 ≤ 2147483647; omega
      · show -2147483648 ≤ n ∧ n ≤ 2147483647; omega
      · show -2147483648 ≤ m2 a 35 ∧ m2 a 35 ≤ 2147483647; omega
    generalize z_up (z_up (z_up (z_up (z_up (z_up (z_up m2 259 0 w) 259 1 (m2 a k)) 259 2 (m2 a (k + 9))) 259 3 (m2 a 36)) 259 4 ((k : Int) / 3)) 259 5 n) 259 6 (m2 a 35) = m3 at s0 ev7 ⊢
    rw [t_begin_0]
    have s1 : z_same r_RL m2 (z_up (z_up (z_up (z_up (z_up m3 251 12 258) 251 13 (m2 251 20)) 251 14 40) 251 15 0) 251 16 (-1)) := (((((s0.subo (by (try unfold r_RL); (repeat' (first | exact trivial | refine z_sbo_c ?_ ?_)) <;> (intro k h1 h2; first | exact z_on_h rfl (by omega) (by omega) | exact z_on_t (z_on_h rfl (by omega) (by omega)) | exact z_on_t (z_on_t (z_on_h rfl (by omega) (by omega))) | exact z_on_t (z_on_t (z_on_t (z_on_h rfl (by omega) (by omega)))) | exact z_on_t (z_on_t (z_on_t (z_on_t (z_on_h rfl (by omega) (by omega))))) | exact z_on_t (z_on_t (z_on_t (z_on_t (z_on_t (z_on_h rfl (by omega) (by omega)))))) | exact z_on_t (z_on_t (z_on_t (z_on_t (z_on_t (z_on_t (z_on_h rfl (by omega) (by omega))))))) | exact z_on_t (z_on_t (z_on_t (z_on_t (z_on_t (z_on_t (z_on_t (z_on_h rfl (by omega) (by omega)))))))) | exact z_on_t (z_on_t (z_on_t (z_on_t (z_on_t (z_on_t (z_on_t (z_on_t (z_on_h rfl (by omega) (by omega))))))))) | exact z_on_t (z_on_t (z_on_t (z_on_t (z_on_t (z_on_t (z_on_t (z_on_t (z_on_t (z_on_h rfl (by omega) (by omega)))))))))) | exact z_on_t (z_on_t (z_on_t (z_on_t (z_on_t (z_on_t (z_on_t (z_on_t (z_on_t (z_on_t (z_on_h rfl (by omega) (by omega))))))))))) | exact z_on_t (z_on_t (z_on_t (z_on_t (z_on_t (z_on_t (z_on_t (z_on_t (z_on_t (z_on_t (z_on_t (z_on_h rfl (by omega) (by omega)))))))))))) | exact z_on_t (z_on_t (z_on_t (z_on_t (z_on_t (z_on_t (z_on_t (z_on_t (z_on_t (z_on_t (z_on_t (z_on_t (z_on_h rfl (by omega) (by omega)))))))))))))))).upo (by (try unfold r_RL); first | exact z_on_h rfl (by omega) (by omega) | exact z_on_t (z_on_h rfl (by omega) (by omega)) | exact z_on_t (z_on_t (z_on_h rfl (by omega) (by omega))) | exact z_on_t (z_on_t (z_on_t (z_on_h rfl (by omega) (by omega)))) | exact z_on_t (z_on_t (z_on_t (z_on_t (z_on_h rfl (by omega) (by omega))))) | exact z_on_t (z_on_t (z_on_t (z_on_t (z_on_t (z_on_h rfl (by omega) (by omega)))))) | exact z_on_t (z_on_t (z_on_t (z_on_t (z_on_t (z_on_t (z_on_h rfl (by omega) (by omega))))))) | exact z_on_t (z_on_t (z_on_t (z_on_t (z_on_t (z_on_t (z_on_t (z_on_h rfl (by omega) (by omega)))))))) | exact z_on_t (z_on_t (z_on_t (z_on_t (z_on_t (z_on_t (z_on_t (z_on_t (z_on_h rfl (by omega) (by omega))))))))) | exact z_on_t (z_on_t (z_on_t (z_on_t (z_on_t (z_on_t (z_on_t (z_on_t (z_on_t (z_on_h rfl (by omega) (by omega)))))))))) | exact z_on_t (z_on_t (z_on_t (z_on_t (z_on_t (z_on_t (z_on_t (z_on_t (z_on_t (z_on_t (z_on_h rfl (by omega) (by omega))))))))))) | exact z_on_t (z_on_t (z_on_t (z_on_t (z_on_t (z_on_t (z_on_t (z_on_t (z_on_t (z_on_t (z_on_t (z_on_h rfl (by omega) (by omega)))))))))))) | exact z_on_t (z_on_t (z_on_t (z_on_t (z_on_t (z_on_t (z_on_t (z_on_t (z_on_t (z_on_t (z_on_t (z_on_t (z_on_h rfl (by omega) (by omega))))))))))))))).upo (by (try unfold r_RL); first | exact z_on_h rfl (by omega) (by omega) | exact z_on_t (z_on_h rfl (by omega) (by omega)) | exact z_on_t (z_on_t (z_on_h rfl (by omega) (by omega))) | exact z_on_t (z_on_t (z_on_t (z_on_h rfl (by omega) (by omega)))) | exact z_on_t (z_on_t (z_on_t (z_on_t (z_on_h rfl (by omega) (by omega))))) | exact z_on_t (z_on_t (z_on_t (z_on_t (z_on_t (z_on_h rfl (by omega) (by omega)))))) | exact z_on_t (z_on_t (z_on_t (z_on_t (z_on_t (z_on_t (z_on_h rfl (by omega) (by omega))))))) | exact z_on_t (z_on_t (z_on_t (z_on_t (z_on_t (z_on_t (z_on_t (z_on_h rfl (by omega) (by omega)))))))) | exact z_on_t (z_on_t (z_on_t (z_on_t (z_on_t (z_on_t (z_on_t (z_on_t (z_on_h rfl (by omega) (by omega))))))))) | exact z_on_t (z_on_t (z_on_t (z_on_t (z_on_t (z_on_t (z_on_t (z_on_t (z_on_t (z_on_h rfl (by omega) (by omega)))))))))) | exact z_on_t (z_on_t (z_on_t (z_on_t (z_on_t (z_on_t (z_on_t (z_on_t (z_on_t (z_on_t (z_on_h rfl (by omega) (by omega))))))))))) | exact z_on_t (z_on_t (z_on_t (z_on_t (z_on_t (z_on_t (z_on_t (z_on_t (z_on_t (z_on_t (z_on_t (z_on_h rfl (by omega) (by omega)))))))))))) | exact z_on_t (z_on_t (z_on_t (z_on_t (z_on_t (z_on_t (z_on_t (z_on_t (z_on_t (z_on_t (z_on_t (z_on_t (z_on_h rfl (by omega) (by omega))))))))))))))).upo (by (try unfold r_RL); first | exact z_on_h rfl (by omega) (by omega) | exact z_on_t (z_on_h rfl (by omega) (by omega)) | exact z_on_t (z_on_t (z_on_h rfl (by omega) (by omega))) | exact z_on_t (z_on_t (z_on_t (z_on_h rfl (by omega) (by omega)))) | exact z_on_t (z_on_t (z_on_t (z_on_t (z_on_h rfl (by omega) (by omega))))) | exact z_on_t (z_on_t (z_on_t (z_on_t (z_on_t (z_on_h rfl (by omega) (by omega)))))) | exact z_on_t (z_on_t (z_on_t (z_on_t (z_on_t (z_on_t (z_on_h rfl (by omega) (by omega))))))) | exact z_on_t (z_on_t (z_on_t (z_on_t (z_on_t (z_on_t (z_on_t (z_on_h rfl (by omega) (by omega)))))))) | exact z_on_t (z_on_t (z_on_t (z_on_t (z_on_t (z_on_t (z_on_t (z_on_t (z_on_h rfl (by omega) (by omega))))))))) | exact z_on_t (z_on_t (z_on_t (z_on_t (z_on_t (z_on_t (z_on_t (z_on_t (z_on_t (z_on_h rfl (by omega) (by omega)))))))))) | exact z_on_t (z_on_t (z_on_t (z_on_t (z_on_t (z_on_t (z_on_t (z_on_t (z_on_t (z_on_t (z_on_h rfl (by omega) (by omega))))))))))) | exact z_on_t (z_on_t (z_on_t (z_on_t (z_on_t (z_on_t (z_on_t (z_on_t (z_on_t (z_on_t (z_on_t (z_on_h rfl (by omega) (by omega)))))))))))) | exact z_on_t (z_on_t (z_on_t (z_on_t (z_on_t (z_on_t (z_on_t (z_on_t (z_on_t (z_on_t (z_on_t (z_on_t (z_on_h rfl (by omega) (by omega))))))))))))))).upo (by (try unfold r_RL); first | exact z_on_h rfl (by omega) (by omega) | exact z_on_t (z_on_h rfl (by omega) (by omega)) | exact z_on_t (z_on_t (z_on_h rfl (by omega) (by omega))) | exact z_on_t (z_on_t (z_on_t (z_on_h rfl (by omega) (by omega)))) | exact z_on_t (z_on_t (z_on_t (z_on_t (z_on_h rfl (by omega) (by omega))))) | exact z_on_t (z_on_t (z_on_t (z_on_t (z_on_t (z_on_h rfl (by omega) (by omega)))))) | exact z_on_t (z_on_t (z_on_t (z_on_t (z_on_t (z_on_t (z_on_h rfl (by omega) (by omega))))))) | exact z_on_t (z_on_t (z_on_t (z_on_t (z_on_t (z_on_t (z_on_t (z_on_h rfl (by omega) (by omega)))))))) | exact z_on_t (z_on_t (z_on_t (z_on_t (z_on_t (z_on_t (z_on_t (z_on_t (z_on_h rfl (by omega) (by omega))))))))) | exact z_on_t (z_on_t (z_on_t (z_on_t (z_on_t (z_on_t (z_on_t (z_on_t (z_on_t (z_on_h rfl (by omega) (by omega)))))))))) | exact z_on_t (z_on_t (z_on_t (z_on_t (z_on_t (z_on_t (z_on_t (z_on_t (z_on_t (z_on_t (z_on_h rfl (by omega) (by omega))))))))))) | exact z_on_t (z_on_t (z_on_t (z_on_t (z_on_t (z_on_t (z_on_t (z_on_t (z_on_t (z_on_t (z_on_t (z_on_h rfl (by omega) (by omega)))))))))))) | exact z_on_t (z_on_t (z_on_t (z_on_t (z_on_t (z_on_t (z_on_t (z_on_t (z_on_t (z_on_t (z_on_t (z_on_t (z_on_h rfl (by omega) (by omega))))))))))))))).upo (by (try unfold r_RL); first | exact z_on_h rfl (by omega) (by omega) | exact z_on_t (z_on_h rfl (by omega) (by omega)) | exact z_on_t (z_on_t (z_on_h rfl (by omega) (by omega))) | exact z_on_t (z_on_t (z_on_t (z_on_h rfl (by omega) (by omega)))) | exact z_on_t (z_on_t (z_on_t (z_on_t (z_on_h rfl (by omega) (by omega))))) | exact z_on_t (z_on_t (z_on_t (z_on_t (z_on_t (z_on_h rfl (by omega) (by omega)))))) | exact z_on_t (z_on_t (z_on_t (z_on_t (z_on_t (z_on_t (z_on_h rfl (by omega) (by omega))))))) | exact z_on_t (z_on_t (z_on_t (z_on_t (z_on_t (z_on_t (z_on_t (z_on_h rfl (by omega) (by omega)))))))) | exact z_on_t (z_on_t (z_on_t (z_on_t (z_on_t (z_on_t (z_on_t (z_on_t (z_on_h rfl (by omega) (by omega))))))))) | exact z_on_t (z_on_t (z_on_t (z_on_t (z_on_t (z_on_t (z_on_t (z_on_t (z_on_t (z_on_h rfl (by omega) (by omega)))))))))) | exact z_on_t (z_on_t (z_on_t (z_on_t (z_on_t (z_on_t (z_on_t (z_on_t (z_on_t (z_on_t (z_on_h rfl (by omega) (by omega))))))))))) | exact z_on_t (z_on_t (z_on_t (z_on_t (z_on_t (z_on_t (z_on_t (z_on_t (z_on_t (z_on_t (z_on_t (z_on_h rfl (by omega) (by omega)))))))))))) | exact z_on_t (z_on_t (z_on_t (z_on_t (z_on_t (z_on_t (z_on_t (z_on_t (z_on_t (z_on_t (z_on_t (z_on_t (z_on_h rfl (by omega) (by omega))))))))))))))
    have q12 : (z_up (z_up (z_up (z_up (z_up m3 251 12 258) 251 13 (m2 251 20)) 251 14 40) 251 15 0) 251 16 (-1)) 251 12 = 258 := by rw [zu_k (by decide), zu_k (by decide), zu_k (by decide), zu_k (by decide), zu_self]
    have q13 : (z_up (z_up (z_up (z_up (z_up m3 251 12 258) 251 13 (m2 251 20)) 251 14 40) 251 15 0) 251 16 (-1)) 251 13 = m2 251 20 := by rw [zu_k (by decide), zu_k (by decide), zu_k (by decide), zu_self]
    have q14 : (z_up (z_up (z_up (z_up (z_up m3 251 12 258) 251 13 (m2 251 20)) 251 14 40) 251 15 0) 251 16 (-1)) 251 14 = 40 := by rw [zu_k (by decide), zu_k (by decide), zu_self]
    have q15 : (z_up (z_up (z_up (z_up (z_up m3 251 12 258) 251 13 (m2 251 20)) 251 14 40) 251 15 0) 251 16 (-1)) 251 15 = 0 := by rw [zu_k (by decide), zu_self]
    have q16 : (z_up (z_up (z_up (z_up (z_up m3 251 12 258) 251 13 (m2 251 20)) 251 14 40) 251 15 0) 251 16 (-1)) 251 16 = -1 := zu_self
    have q259 : (z_up (z_up (z_up (z_up (z_up m3 251 12 258) 251 13 (m2 251 20)) 251 14 40) 251 15 0) 251 16 (-1)) 259 = m3 259 := by rw [zu_rowne (by decide), zu_rowne (by decide), zu_rowne (by decide), zu_rowne (by decide), zu_rowne (by decide)]
    show ∃ m', ((some (z_up (z_up (z_up (z_up (z_up m3 251 12 258) 251 13 (m2 251 20)) 251 14 40) 251 15 0) 251 16 (-1), none) : Option z_Q).bind fun qq => z_R 189 (qq.1, 92, [(2, 251), (2, ((a : Nat) : Int)), (0, (k : Int)), (0, w), (0, n), (0, z_div w 2)], qq.2.toList ++ [])) = _ ∧ _
    generalize z_up (z_up (z_up (z_up (z_up m3 251 12 258) 251 13 (m2 251 20)) 251 14 40) 251 15 0) 251 16 (-1) = m4 at s1 q12 q13 q14 q15 q16 q259 ⊢
    have u259 : (z_up m4 251 21 1) 259 = m3 259 := (zu_rowne (by decide)).trans q259
    have u258 : (z_up m4 251 21 1) 258 = m 258 := ((zu_rowne (by decide)).trans (s1.ofr (by (try unfold r_RL); (repeat' (first | exact trivial | refine z_ofr_c ?_ ?_)) <;> omega))).trans e258
    have hB : r_RB 258 (u_nx (fun k => z_and (m 258 k) 255) (m 251 20) 40) (z_up m4 251 21 1) := by
      refine ⟨⟨by rw [zu_k (by decide)]; exact q12, Or.inr rfl, by rw [zu_k (by decide)]; exact q14, by rw [zu_k (by decide), q13, e20]; omega, by rw [zu_k (by decide), q15]; omega, ?_, ?_⟩, by rw [zu_k (by decide)]; exact q16, by rw [zu_k (by decide), q15]; omega, Or.inr zu_self, fun j hj => ?_⟩
      · rw [u258, zu_k (by decide), q13, e20]
      · rw [u258]; exact h7
      · rw [u259, ev7 j hj]; exact henv j hj
    obtain ⟨m5, v, a1, a2, a3, a4⟩ := r_exprs (P := 258) (g := u_nx (fun k => z_and (m 258 k) 255) (m 251 20) 40) 4 (by decide) (z_up m4 251 21 1) hB
    rw [show (z_up m4 251 21 1) 251 15 = 0 from (zu_k (by decide)).trans q15, show 4 - (4 - 4) = 4 from rfl] at a3
    obtain ⟨-, -, -, b4⟩ := a3 h8.1
    have bv := b4 zu_self
    rw [u259, h8.2] at bv
    have a1 : z_R 176 (z_up m4 251 21 1, 0, [(2, 251), (0, 0), (9, 0)], []) = some (m5, some (0, v)) := a1
    have s2 : z_same r_RL m2 m5 := (s1.upo (p := 251) (k := 21) (v := 1) (by (try unfold r_RL); first | exact z_on_h rfl (by omega) (by omega) | exact z_on_t (z_on_h rfl (by omega) (by omega)) | exact z_on_t (z_on_t (z_on_h rfl (by omega) (by omega))) | exact z_on_t (z_on_t (z_on_t (z_on_h rfl (by omega) (by omega)))) | exact z_on_t (z_on_t (z_on_t (z_on_t (z_on_h rfl (by omega) (by omega))))) | exact z_on_t (z_on_t (z_on_t (z_on_t (z_on_t (z_on_h rfl (by omega) (by omega)))))) | exact z_on_t (z_on_t (z_on_t (z_on_t (z_on_t (z_on_t (z_on_h rfl (by omega) (by omega))))))) | exact z_on_t (z_on_t (z_on_t (z_on_t (z_on_t (z_on_t (z_on_t (z_on_h rfl (by omega) (by omega)))))))) | exact z_on_t (z_on_t (z_on_t (z_on_t (z_on_t (z_on_t (z_on_t (z_on_t (z_on_h rfl (by omega) (by omega))))))))) | exact z_on_t (z_on_t (z_on_t (z_on_t (z_on_t (z_on_t (z_on_t (z_on_t (z_on_t (z_on_h rfl (by omega) (by omega)))))))))) | exact z_on_t (z_on_t (z_on_t (z_on_t (z_on_t (z_on_t (z_on_t (z_on_t (z_on_t (z_on_t (z_on_h rfl (by omega) (by omega))))))))))) | exact z_on_t (z_on_t (z_on_t (z_on_t (z_on_t (z_on_t (z_on_t (z_on_t (z_on_t (z_on_t (z_on_t (z_on_h rfl (by omega) (by omega)))))))))))) | exact z_on_t (z_on_t (z_on_t (z_on_t (z_on_t (z_on_t (z_on_t (z_on_t (z_on_t (z_on_t (z_on_t (z_on_t (z_on_h rfl (by omega) (by omega))))))))))))))).tr (a2.subo (by (try unfold r_RL); (repeat' (first | exact trivial | refine z_sbo_c ?_ ?_)) <;> (intro k h1 h2; first | exact z_on_h rfl (by omega) (by omega) | exact z_on_t (z_on_h rfl (by omega) (by omega)) | exact z_on_t (z_on_t (z_on_h rfl (by omega) (by omega))) | exact z_on_t (z_on_t (z_on_t (z_on_h rfl (by omega) (by omega)))) | exact z_on_t (z_on_t (z_on_t (z_on_t (z_on_h rfl (by omega) (by omega))))) | exact z_on_t (z_on_t (z_on_t (z_on_t (z_on_t (z_on_h rfl (by omega) (by omega)))))) | exact z_on_t (z_on_t (z_on_t (z_on_t (z_on_t (z_on_t (z_on_h rfl (by omega) (by omega))))))) | exact z_on_t (z_on_t (z_on_t (z_on_t (z_on_t (z_on_t (z_on_t (z_on_h rfl (by omega) (by omega)))))))) | exact z_on_t (z_on_t (z_on_t (z_on_t (z_on_t (z_on_t (z_on_t (z_on_t (z_on_h rfl (by omega) (by omega))))))))) | exact z_on_t (z_on_t (z_on_t (z_on_t (z_on_t (z_on_t (z_on_t (z_on_t (z_on_t (z_on_h rfl (by omega) (by omega)))))))))) | exact z_on_t (z_on_t (z_on_t (z_on_t (z_on_t (z_on_t (z_on_t (z_on_t (z_on_t (z_on_t (z_on_h rfl (by omega) (by omega))))))))))) | exact z_on_t (z_on_t (z_on_t (z_on_t (z_on_t (z_on_t (z_on_t (z_on_t (z_on_t (z_on_t (z_on_t (z_on_h rfl (by omega) (by omega)))))))))))) | exact z_on_t (z_on_t (z_on_t (z_on_t (z_on_t (z_on_t (z_on_t (z_on_t (z_on_t (z_on_t (z_on_t (z_on_t (z_on_h rfl (by omega) (by omega))))))))))))))))
    have s3 : z_same r_RL m2 (z_up m5 251 21 0) := s2.upo (by (try unfold r_RL); first | exact z_on_h rfl (by omega) (by omega) | exact z_on_t (z_on_h rfl (by omega) (by omega)) | exact z_on_t (z_on_t (z_on_h rfl (by omega) (by omega))) | exact z_on_t (z_on_t (z_on_t (z_on_h rfl (by omega) (by omega)))) | exact z_on_t (z_on_t (z_on_t (z_on_t (z_on_h rfl (by omega) (by omega))))) | exact z_on_t (z_on_t (z_on_t (z_on_t (z_on_t (z_on_h rfl (by omega) (by omega)))))) | exact z_on_t (z_on_t (z_on_t (z_on_t (z_on_t (z_on_t (z_on_h rfl (by omega) (by omega))))))) | exact z_on_t (z_on_t (z_on_t (z_on_t (z_on_t (z_on_t (z_on_t (z_on_h rfl (by omega) (by omega)))))))) | exact z_on_t (z_on_t (z_on_t (z_on_t (z_on_t (z_on_t (z_on_t (z_on_t (z_on_h rfl (by omega) (by omega))))))))) | exact z_on_t (z_on_t (z_on_t (z_on_t (z_on_t (z_on_t (z_on_t (z_on_t (z_on_t (z_on_h rfl (by omega) (by omega)))))))))) | exact z_on_t (z_on_t (z_on_t (z_on_t (z_on_t (z_on_t (z_on_t (z_on_t (z_on_t (z_on_t (z_on_h rfl (by omega) (by omega))))))))))) | exact z_on_t (z_on_t (z_on_t (z_on_t (z_on_t (z_on_t (z_on_t (z_on_t (z_on_t (z_on_t (z_on_t (z_on_h rfl (by omega) (by omega)))))))))))) | exact z_on_t (z_on_t (z_on_t (z_on_t (z_on_t (z_on_t (z_on_t (z_on_t (z_on_t (z_on_t (z_on_t (z_on_t (z_on_h rfl (by omega) (by omega))))))))))))))
    have eA : m5 a k = m2 a k := s2.of (by (try unfold r_RL); (repeat' (first | exact trivial | refine z_of_c ?_ ?_)) <;> omega)
    refine ⟨z_up m5 251 21 0, ?_, s3⟩
    rw [zb_n, t_mel_92 ha ha2 m4 k w n _ ⟨by omega, by omega⟩, a1, zb_v, t_mel_102 ha ha2 m5 k w n _ v ⟨by omega, by omega⟩, Int.toNat_natCast, eA, mm_clamp gk.1.1]
    unfold c_ml
    rw [ev_cg (env' := m3 259) (fun j hj => (ev7 j hj).symm), bv []]
    rfl
