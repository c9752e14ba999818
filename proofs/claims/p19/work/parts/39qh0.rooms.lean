/-! WHERE ANYONE IS, AND ANY ICE: in a ROOM that there is -/
def wi (w h n : Nat) (A : Nat → Int) : Prop := (∀ p, p < n → A (p + 18) = -1 ∨ ¬ u_hs (w : Int) (h : Int) (A (p + 18)) = 0) ∧ (∀ k : Nat, k < 9 → u_hs (w : Int) (h : Int) (k : Int) = 0 → A k = 0 ∧ A (k + 9) = 0) ∧ (A 34 = -1 ∨ ¬ u_hs (w : Int) (h : Int) (A 34) = 0)
section
variable {w h n : Nat} {A : Nat → Int}
theorem wi_off (n5 : n ≤ 5) (hi : wi w h n A) {j : Nat} {v : Int} (hj : 23 ≤ j) (h34 : ¬ 34 = j) : wi w h n (u_up A j v) := by
  refine ⟨fun p hp => ?_, fun k hk hz => ?_, by rw [u_up_ne (by omega)]; exact hi.2.2⟩
  · rw [u_up_ne (by omega)]
    exact hi.1 p hp
  · rw [u_up_ne (by omega), u_up_ne (by omega)]
    exact hi.2.1 k hk hz
/-- ice or water of a ROOM that there is -/
theorem wi_lo (hi : wi w h n A) {r : Nat} {v : Int} (hr : r < 9) (hx : ¬ u_hs (w : Int) (h : Int) (r : Int) = 0) : wi w h n (u_up A r v) := by
  refine ⟨fun p hp => ?_, fun k hk hz => ?_, by rw [u_up_ne (by omega)]; exact hi.2.2⟩
  · rw [u_up_ne (by omega)]
    exact hi.1 p hp
  · have hn : ¬ k = r := fun z => hx (by rw [← z]; exact hz)
    rw [u_up_ne hn, u_up_ne (by omega)]
    exact hi.2.1 k hk hz
theorem wi_wa (hi : wi w h n A) {r : Nat} {v : Int} (hr : r < 9) (hx : ¬ u_hs (w : Int) (h : Int) (r : Int) = 0) : wi w h n (u_up A (r + 9) v) := by
  refine ⟨fun p hp => ?_, fun k hk hz => ?_, by rw [u_up_ne (by omega)]; exact hi.2.2⟩
  · rw [u_up_ne (by omega)]
    exact hi.1 p hp
  · have hn : ¬ k = r := fun z => hx (by rw [← z]; exact hz)
    rw [u_up_ne (by omega), u_up_ne (by omega)]
    exact hi.2.1 k hk hz
theorem wi_go (n5 : n ≤ 5) (hi : wi w h n A) {p : Nat} {v : Int} (hv : v = -1 ∨ ¬ u_hs (w : Int) (h : Int) v = 0) (hp5 : p < 5) : wi w h n (u_up A (p + 18) v) := by
  refine ⟨fun q hq => ?_, fun k hk hz => ?_, by rw [u_up_ne (by omega)]; exact hi.2.2⟩
  · by_cases e : q = p
    · rw [e, u_up_self]
      exact hv
    · rw [u_up_ne (by omega)]
      exact hi.1 q hq
  · rw [u_up_ne (by omega), u_up_ne (by omega)]
    exact hi.2.1 k hk hz
theorem wi_st (hi : wi w h n A) {v : Int} (n5 : n ≤ 5) (hv : v = -1 ∨ ¬ u_hs (w : Int) (h : Int) v = 0) : wi w h n (u_up A 34 v) := by
  refine ⟨fun p hp => ?_, fun k hk hz => ?_, by rw [u_up_self]; exact hv⟩
  · rw [u_up_ne (by omega)]
    exact hi.1 p hp
  · rw [u_up_ne (by omega), u_up_ne (by omega)]
    exact hi.2.1 k hk hz
theorem wi_o (n5 : n ≤ 5) {wm : Nat → Int} {price : Int} : ∀ (f x : Nat) (A : Nat → Int), x + f ≤ 5 → wi w h n A → wi w h n (hr_o wm price f x A) := by
  intro f
  induction f with
  | zero => intro x A hx hi; exact hi
  | succ f ih =>
    intro x A hx hi
    unfold hr_o
    by_cases c : A (x + 18) = -1
    · rw [if_pos c]
      exact ih (x + 1) A (by omega) hi
    · rw [if_neg c]
      exact ih (x + 1) _ (by omega) (wi_off n5 hi (by omega) (by omega))
theorem wi_d1 (n5 : n ≤ 5) (hi : wi w h n A) {u e : Int} {r : Nat} (hr : r < 9) (hx : ¬ u_hs (w : Int) (h : Int) (r : Int) = 0) (hu : u = 0 ∨ (r + 3 < 9 ∧ ¬ u_hs (w : Int) (h : Int) ((r + 3 : Nat) : Int) = 0)) : wi w h n (hr_d1 u e r A) := by
  unfold hr_d1
  refine wi_lo (wi_wa ?_ hr hx) hr hx
  by_cases c : u = 0
  · rw [if_pos c]
    exact wi_off n5 hi (by decide) (by decide)
  · rw [if_neg c]
    rcases hu with z | z
    · exact absurd z c
    · exact wi_wa (r := r + 3) hi z.1 z.2
theorem wi_x (hw : w ≤ 3) (hh : h ≤ 3) (n5 : n ≤ 5) {e : Nat → Int} {y : Nat} (hy : y < h) : ∀ (f x : Nat) (A : Nat → Int), x + f = w → wi w h n A → wi w h n (hr_x h e y f x A) := by
  intro f
  induction f with
  | zero => intro x A hx hi; exact hi
  | succ f ih =>
    intro x A hx hi
    show wi w h n (hr_x h e y f (x + 1) (hr_d1 (if y + 1 = h then 0 else 1) (e (3 * y + x)) (3 * y + x) A))
    refine ih (x + 1) _ (by omega) (wi_d1 n5 hi (by omega) ?_ ?_)
    · rw [u_hs_eq hw hh (by omega), if_pos (by omega)]
      decide
    · by_cases c : y + 1 = h
      · exact Or.inl (if_pos c)
      · refine Or.inr ⟨by omega, ?_⟩
        rw [u_hs_eq hw hh (by omega), if_pos (by omega)]
        decide
theorem wi_y (hw : w ≤ 3) (hh : h ≤ 3) (n5 : n ≤ 5) {e : Nat → Int} : ∀ (y : Nat) (A : Nat → Int), y ≤ h → wi w h n A → wi w h n (hr_y w h e y A) := by
  intro y
  induction y with
  | zero => intro A hy hi; exact hi
  | succ y ih =>
    intro A hy hi
    show wi w h n (hr_y w h e y (hr_x h e y w 0 A))
    exact ih _ (by omega) (wi_x hw hh n5 (by omega) w 0 A (by omega) hi)
theorem wi_F : ∀ (f x : Nat) (A : Nat → Int), x + f = 9 → wi w h n A → wi w h n (hr_F (w : Int) (h : Int) f x A) := by
  intro f
  induction f with
  | zero => intro x A hx hi; exact hi
  | succ f ih =>
    intro x A hx hi
    unfold hr_F
    by_cases c : u_hs (w : Int) (h : Int) (x : Int) = 0
    · rw [if_pos c]
      exact ih (x + 1) A (by omega) hi
    · rw [if_neg c]
      refine ih (x + 1) _ (by omega) ?_
      unfold hr_f
      exact wi_lo (wi_wa hi (by omega) c) (by omega) c
theorem wi_p (n5 : n ≤ 5) {r to : Int} (hto : to = -1 ∨ ¬ u_hs (w : Int) (h : Int) to = 0) : ∀ (f x : Nat) (A : Nat → Int) (fb fm : Int), x + f ≤ 5 → wi w h n A → wi w h n (hr_p r to f x A fb fm).1 := by
  intro f
  induction f with
  | zero => intro x A fb fm hx hi; exact hi
  | succ f ih =>
    intro x A fb fm hx hi
    unfold hr_p
    by_cases c : A (x + 18) = r
    · rw [if_pos c]
      exact ih (x + 1) _ _ _ (by omega) (wi_off n5 (wi_go n5 hi hto (by omega)) (by omega) (by omega))
    · rw [if_neg c]
      exact ih (x + 1) A _ _ (by omega) hi
theorem wi_k (hw : w ≤ 3) (hh : h ≤ 3) (n5 : n ≤ 5) : ∀ (f x : Nat) (A : Nat → Int) (g fb fm : Int), wi w h n A → wi w h n (hr_k (w : Int) (h : Int) n f x A g fb fm).1 := by
  intro f
  induction f with
  | zero => intro x A g fb fm hi; exact hi
  | succ f ih =>
    intro x A g fb fm hi
    unfold hr_k
    by_cases c : u_hs (w : Int) (h : Int) (x : Int) = 0
    · rw [if_pos c]
      exact ih (x + 1) A _ _ _ hi
    · rw [if_neg c]
      by_cases d : A x = 0
      · rw [if_pos d]
        have hto : hr_to (w : Int) (h : Int) x = -1 ∨ ¬ u_hs (w : Int) (h : Int) (hr_to (w : Int) (h : Int) x) = 0 := by
          unfold hr_to
          by_cases z : u_hs (w : Int) (h : Int) ((x : Int) + 3) = 0
          · rw [if_pos z]
            exact Or.inl rfl
          · rw [if_neg z]
            exact Or.inr z
        refine ih (x + 1) _ _ _ _ (wi_p n5 hto n 0 _ fb fm (by omega) ?_)
        unfold hr_st
        by_cases s : A 34 = (x : Int)
        · rw [if_pos s]
          exact wi_st hi n5 hto
        · rw [if_neg s]
          exact hi
      · rw [if_neg d]
        exact ih (x + 1) A _ _ _ hi
theorem wi_A (hw : w ≤ 3) (hh : h ≤ 3) (n5 : n ≤ 5) {heat price : Int} {ml : hr_M} {wm : Nat → Int} (hi : wi w h n A) : wi w h n (hr_A w h heat price ml wm n A) := wi_off n5 (wi_k hw hh n5 9 0 _ 0 0 0 (wi_F 9 0 _ (by decide) (wi_y hw hh n5 h _ (Nat.le_refl _) (wi_o n5 n 0 A (by omega) hi)))) (by decide) (by decide)
theorem wi_H (hw : w ≤ 3) (hh : h ≤ 3) (n5 : n ≤ 5) {heat price : Int} {ml : hr_M} {wmt : Int → Nat → Int} : ∀ (f : Nat) (A : Nat → Int) (M G F T : Int), wi w h n A → wi w h n (hr_H w h heat price ml wmt n f A M G F T).1 := by
  intro f
  induction f with
  | zero => intro A M G F T hi; exact hi
  | succ f ih =>
    intro A M G F T hi
    exact ih _ _ _ _ _ (wi_A hw hh n5 hi)
end
/-- so of now, of what undo brings back, of what is kept; columns and storeys go together -/
def w_W (w h n : Nat) (A : Nat → Int) (c : Nat) (U : Nat → Nat → Int) (kn : Nat → Int) (KS : Nat → Nat → Int) : Prop := (w = 0 ↔ h = 0) ∧ wi w h n A ∧ (∀ i, i < c → wi w h n (U i)) ∧ ∀ i, i < 2 → kn i = (n : Int) → wi w h n (KS i)
theorem w_W_A {w h n : Nat} {A B : Nat → Int} {c : Nat} {U : Nat → Nat → Int} {kn : Nat → Int} {KS : Nat → Nat → Int} (hW : w_W w h n A c U kn KS) (hB : wi w h n B) : w_W w h n B c U kn KS := ⟨hW.1, hB, hW.2.2⟩
theorem w_W_0 {w h n : Nat} {A : Nat → Int} {U : Nat → Nat → Int} {kn : Nat → Int} {KS : Nat → Nat → Int} (h0 : w = 0 ↔ h = 0) (hA : wi w h n A) (hk : ∀ i, i < 2 → ¬ kn i = (n : Int)) : w_W w h n A 0 U kn KS := ⟨h0, hA, fun i hi => absurd hi (Nat.not_lt_zero i), fun i hi z => absurd z (hk i hi)⟩
theorem w_W_keep {w h n : Nat} {A : Nat → Int} {c : Nat} {U : Nat → Nat → Int} {kn : Nat → Int} {KS : Nat → Nat → Int} {i : Nat} (hW : w_W w h n A c U kn KS) : w_W w h n A c U (u_up kn i (n : Int)) (fun j => if j = i then A else KS j) := ⟨hW.1, hW.2.1, hW.2.2.1, fun j hj hk => by
  show wi w h n (if j = i then A else KS j)
  by_cases e : j = i
  · rw [if_pos e]
    exact hW.2.1
  · rw [if_neg e]
    rw [u_up_ne e] at hk
    exact hW.2.2.2 j hj hk⟩
theorem w_W_again {w h n : Nat} {A : Nat → Int} {c : Nat} {U : Nat → Nat → Int} {kn : Nat → Int} {KS : Nat → Nat → Int} {i : Nat} (hW : w_W w h n A c U kn KS) (hi : i < 2) (hk : kn i = (n : Int)) : w_W w h n (KS i) 0 U kn KS := ⟨hW.1, hW.2.2.2 i hi hk, fun j hj => absurd hj (Nat.not_lt_zero j), hW.2.2.2⟩
theorem w_W_un {w h n : Nat} {A : Nat → Int} {c j : Nat} {U : Nat → Nat → Int} {kn : Nat → Int} {KS : Nat → Nat → Int} (hc : c = j + 1) (hW : w_W w h n A c U kn KS) : w_W w h n (U 0) j (fun i => U (i + 1)) kn KS := ⟨hW.1, hW.2.2.1 0 (by omega), fun i hi => hW.2.2.1 (i + 1) (by omega), hW.2.2.2⟩
