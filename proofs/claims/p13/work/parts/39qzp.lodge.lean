/-! LODGE: who should live where; ways are tried by columns -/
def lo_P (l : List Nat) (i : Nat) : Nat := l.getD i 0
/-- who are in rooms -/
def lo_ok (n : Nat) (A : Nat → Int) (l : List Nat) : Prop := (∀ i, i < l.length → lo_P l i < n) ∧ (∀ i j, i < j → j < l.length → lo_P l i < lo_P l j) ∧ ∀ p, p < n → A (p + 18) = -1 ∨ ∃ i, i < l.length ∧ lo_P l i = p
theorem lo_ls {A : Nat → Int} : ∀ (f x : Nat), (∀ i, i < (o_ls A f x).length → x ≤ lo_P (o_ls A f x) i ∧ lo_P (o_ls A f x) i < x + f) ∧ (∀ i j, i < j → j < (o_ls A f x).length → lo_P (o_ls A f x) i < lo_P (o_ls A f x) j) ∧ ∀ p, x ≤ p → p < x + f → A (p + 18) = -1 ∨ ∃ i, i < (o_ls A f x).length ∧ lo_P (o_ls A f x) i = p := by
  intro f
  induction f with
  | zero => intro x; exact ⟨fun i hi => absurd hi (Nat.not_lt_zero i), fun i j _ hj => absurd hj (Nat.not_lt_zero j), fun p h1 h2 => by omega⟩
  | succ f ih =>
    intro x
    obtain ⟨i1, i2, i3⟩ := ih (x + 1)
    unfold o_ls
    by_cases c : A (x + 18) = -1
    · rw [if_pos c]
      refine ⟨fun i hi => by have := i1 i hi; omega, i2, fun p h1 h2 => ?_⟩
      by_cases e : p = x
      · rw [e]
        exact Or.inl c
      · exact i3 p (by omega) (by omega)
    · rw [if_neg c]
      have e0 : lo_P (x :: o_ls A f (x + 1)) 0 = x := rfl
      have es : ∀ i, lo_P (x :: o_ls A f (x + 1)) (i + 1) = lo_P (o_ls A f (x + 1)) i := fun i => rfl
      refine ⟨fun i hi => ?_, fun i j hij hj => ?_, fun p h1 h2 => ?_⟩
      · cases i with
        | zero => rw [e0]; omega
        | succ i =>
          rw [es]
          have := i1 i (Nat.lt_of_succ_lt_succ hi)
          omega
      · cases j with
        | zero => omega
        | succ j =>
          rw [es]
          cases i with
          | zero =>
            rw [e0]
            have := i1 j (Nat.lt_of_succ_lt_succ hj)
            omega
          | succ i =>
            rw [es]
            exact i2 i j (by omega) (Nat.lt_of_succ_lt_succ hj)
      · by_cases e : p = x
        · exact Or.inr ⟨0, Nat.succ_pos _, by rw [e0, e]⟩
        · rcases i3 p (by omega) (by omega) with z | ⟨i, z1, z2⟩
          · exact Or.inl z
          · exact Or.inr ⟨i + 1, Nat.succ_lt_succ z1, by rw [es]; exact z2⟩
theorem lo_ls_ok (n : Nat) (A : Nat → Int) : lo_ok n A (o_ls A n 0) := by
  obtain ⟨i1, i2, i3⟩ := lo_ls (A := A) n 0
  exact ⟨fun i hi => by have := i1 i hi; omega, i2, fun p hp => i3 p (Nat.zero_le p) (by omega)⟩
theorem lo_inj {n : Nat} {A : Nat → Int} {l : List Nat} (h : lo_ok n A l) {i j : Nat} (hi : i < l.length) (hj : j < l.length) (e : lo_P l i = lo_P l j) : i = j := by
  rcases Nat.lt_trichotomy i j with y | y | y
  · have := h.2.1 i j y hj
    omega
  · exact y
  · have := h.2.1 j i y hi
    omega
/-- all of them OUT -/
def lo_b (n : Nat) (A : Nat → Int) : Nat → Int := fun j => if 18 ≤ j ∧ j < 18 + n then -1 else A j
/-- the first k of them where they are told to live -/
def lo_pl (l : List Nat) (rr : Nat → Nat) : Nat → (Nat → Int) → (Nat → Int)
  | 0, A => A
  | k + 1, A => u_up (lo_pl l rr k A) (lo_P l k + 18) (rr k : Int)
theorem lo_pl_ne {l : List Nat} {rr : Nat → Nat} {A : Nat → Int} {j : Nat} : ∀ k, (∀ i, i < k → ¬ j = lo_P l i + 18) → lo_pl l rr k A j = A j
  | 0, _ => rfl
  | k + 1, h => by
    unfold lo_pl
    rw [u_up_ne (h k (by omega))]
    exact lo_pl_ne k (fun i hi => h i (by omega))
theorem lo_pl_at {n : Nat} {A : Nat → Int} {l : List Nat} {rr : Nat → Nat} (h : lo_ok n A l) {i : Nat} : ∀ k, k ≤ l.length → i < k → lo_pl l rr k A (lo_P l i + 18) = (rr i : Int)
  | 0, _, hi => absurd hi (Nat.not_lt_zero i)
  | k + 1, hk, hi => by
    unfold lo_pl
    by_cases e : i = k
    · rw [e, u_up_self]
    · rw [u_up_ne (fun z => e (lo_inj h (by omega) (by omega) (by omega)))]
      exact lo_pl_at h k (by omega) (by omega)
theorem lo_pl_cg {l : List Nat} {rr rr' : Nat → Nat} {A : Nat → Int} : ∀ k, (∀ i, i < k → rr i = rr' i) → lo_pl l rr k A = lo_pl l rr' k A
  | 0, _ => rfl
  | k + 1, h => by
    unfold lo_pl
    rw [lo_pl_cg k (fun i hi => h i (by omega)), h k (by omega)]
/-- those of a column, by its digits -/
def lo_c (n : Nat) (A : Nat → Int) (l : List Nat) (c : Nat) (dg : Nat → Nat) : Nat → (Nat → Int)
  | 0 => lo_b n A
  | y + 1 => if dg y = 0 then lo_c n A l c dg y else u_up (lo_c n A l c dg y) (lo_P l (dg y - 1) + 18) ((3 * y + c : Nat) : Int)
def lo_lv (w h : Nat) (l : List Nat) (c : Nat) (dg : Nat → Nat) (y : Nat) : Prop := dg y = 0 ∨ (dg y ≤ l.length ∧ (¬ u_hs (w : Int) (h : Int) ((3 * y + c : Nat) : Int) = 0) ∧ ∀ y', y' < y → ¬ dg y' = dg y)
theorem lo_c_hi {n : Nat} {A : Nat → Int} {l : List Nat} (hl : lo_ok n A l) {c : Nat} {dg : Nat → Nat} {j : Nat} (hj : j < 18 ∨ 18 + n ≤ j) : ∀ y, (∀ y', y' < y → dg y' = 0 ∨ dg y' ≤ l.length) → lo_c n A l c dg y j = A j
  | 0, _ => if_neg (by omega)
  | y + 1, h => by
    have ih := lo_c_hi (c := c) hl hj y (fun y' hy => h y' (by omega))
    unfold lo_c
    by_cases e : dg y = 0
    · rw [if_pos e]
      exact ih
    · have h1 := (h y (by omega)).resolve_left e
      have h2 := hl.1 (dg y - 1) (by omega)
      rw [if_neg e, u_up_ne (by omega)]
      exact ih
theorem lo_c_no {n : Nat} {A : Nat → Int} {l : List Nat} {c : Nat} {dg : Nat → Nat} {p : Nat} (hp : p < n) : ∀ y, (∀ y', y' < y → dg y' = 0 ∨ ¬ lo_P l (dg y' - 1) = p) → lo_c n A l c dg y (p + 18) = -1
  | 0, _ => if_pos (by omega)
  | y + 1, h => by
    have ih := lo_c_no (A := A) (c := c) hp y (fun y' hy => h y' (by omega))
    unfold lo_c
    by_cases e : dg y = 0
    · rw [if_pos e]
      exact ih
    · have h1 := (h y (by omega)).resolve_left e
      rw [if_neg e, u_up_ne (by omega)]
      exact ih
theorem lo_c_at {n : Nat} {A : Nat → Int} {l : List Nat} (hl : lo_ok n A l) {c : Nat} {dg : Nat → Nat} {y' : Nat} (h0 : ¬ dg y' = 0) : ∀ y, y' < y → (∀ y1, y1 < y → dg y1 = 0 ∨ (dg y1 ≤ l.length ∧ ∀ y2, y2 < y1 → ¬ dg y2 = dg y1)) → lo_c n A l c dg y (lo_P l (dg y' - 1) + 18) = ((3 * y' + c : Nat) : Int)
  | 0, h, _ => absurd h (Nat.not_lt_zero _)
  | y + 1, h, hv => by
    unfold lo_c
    by_cases e : y' = y
    · rw [← e, if_neg h0, u_up_self]
    · have ih := lo_c_at hl (c := c) h0 y (by omega) (fun y1 h1 => hv y1 (by omega))
      by_cases z : dg y = 0
      · rw [if_pos z]
        exact ih
      · have v1 := (hv y (by omega)).resolve_left z
        have v2 := (hv y' (by omega)).resolve_left h0
        have hn : ¬ lo_P l (dg y' - 1) + 18 = lo_P l (dg y - 1) + 18 := fun q => by
          have := lo_inj hl (i := dg y' - 1) (j := dg y - 1) (by omega) (by omega) (by omega)
          exact v1.2 y' (by omega) (by omega)
        rw [if_neg z, u_up_ne hn]
        exact ih
/-- who lives in a column, as a number; by its storeys -/
def lo_dg (rr : Nat → Nat) (c y : Nat) : Nat → Nat
  | 0 => 0
  | k + 1 => lo_dg rr c y k + (if rr k = 3 * y + c then k + 1 else 0)
def lo_cd (rr : Nat → Nat) (c k : Nat) : Nat := lo_dg rr c 0 k + 5 * lo_dg rr c 1 k + 25 * lo_dg rr c 2 k
theorem lo_dg_is {rr : Nat → Nat} {c y : Nat} : ∀ k, (∀ i j, i < j → j < k → ¬ rr i = rr j) → (lo_dg rr c y k = 0 ∧ ∀ i, i < k → ¬ rr i = 3 * y + c) ∨ ∃ i, i < k ∧ rr i = 3 * y + c ∧ lo_dg rr c y k = i + 1
  | 0, _ => Or.inl ⟨rfl, fun i hi => absurd hi (Nat.not_lt_zero i)⟩
  | k + 1, h => by
    unfold lo_dg
    rcases lo_dg_is (c := c) (y := y) k (fun i j h1 h2 => h i j h1 (by omega)) with ⟨a1, a2⟩ | ⟨i, a1, a2, a3⟩
    · by_cases e : rr k = 3 * y + c
      · rw [if_pos e, a1]
        exact Or.inr ⟨k, by omega, e, by omega⟩
      · rw [if_neg e, a1]
        refine Or.inl ⟨rfl, fun i hi => ?_⟩
        by_cases q : i = k
        · rw [q]
          exact e
        · exact a2 i (by omega)
    · have e : ¬ rr k = 3 * y + c := fun z => h i k a1 (by omega) (a2.trans z.symm)
      rw [if_neg e]
      exact Or.inr ⟨i, by omega, a2, by omega⟩
theorem lo_cd_s {rr : Nat → Nat} {c k : Nat} (hr : rr k < 9) (hc : c < 3) : lo_cd rr c (k + 1) = lo_cd rr c k + (if rr k % 3 = c then (k + 1) * (if rr k / 3 = 0 then 1 else if rr k / 3 = 1 then 5 else 25) else 0) := by
  unfold lo_cd
  show (lo_dg rr c 0 k + (if rr k = 3 * 0 + c then k + 1 else 0)) + 5 * (lo_dg rr c 1 k + (if rr k = 3 * 1 + c then k + 1 else 0)) + 25 * (lo_dg rr c 2 k + (if rr k = 3 * 2 + c then k + 1 else 0)) = _
  by_cases e : rr k % 3 = c
  · rw [if_pos e]
    rcases (show rr k = 3 * 0 + c ∨ rr k = 3 * 1 + c ∨ rr k = 3 * 2 + c by omega) with z | z | z
    · rw [if_pos z, if_neg (show ¬ rr k = 3 * 1 + c by omega), if_neg (show ¬ rr k = 3 * 2 + c by omega), if_pos (show rr k / 3 = 0 by omega)]
      omega
    · rw [if_neg (show ¬ rr k = 3 * 0 + c by omega), if_pos z, if_neg (show ¬ rr k = 3 * 2 + c by omega), if_neg (show ¬ rr k / 3 = 0 by omega), if_pos (show rr k / 3 = 1 by omega)]
      omega
    · rw [if_neg (show ¬ rr k = 3 * 0 + c by omega), if_neg (show ¬ rr k = 3 * 1 + c by omega), if_pos z, if_neg (show ¬ rr k / 3 = 0 by omega), if_neg (show ¬ rr k / 3 = 1 by omega)]
      omega
  · rw [if_neg e, if_neg (show ¬ rr k = 3 * 0 + c by omega), if_neg (show ¬ rr k = 3 * 1 + c by omega), if_neg (show ¬ rr k = 3 * 2 + c by omega)]
    omega
theorem lo_cd_cg {rr rr' : Nat → Nat} {c : Nat} : ∀ k, (∀ i, i < k → rr i = rr' i) → lo_cd rr c k = lo_cd rr' c k := by
  have d : ∀ y k, (∀ i, i < k → rr i = rr' i) → lo_dg rr c y k = lo_dg rr' c y k := fun y k => by
    induction k with
    | zero => intro _; rfl
    | succ k ih =>
      intro h
      unfold lo_dg
      rw [ih (fun i hi => h i (by omega)), h k (by omega)]
  intro k h
  unfold lo_cd
  rw [d 0 k h, d 1 k h, d 2 k h]
/-- the digits again -/
theorem lo_cd_dg {rr : Nat → Nat} {c k : Nat} (hk : k ≤ 4) (hd : ∀ i j, i < j → j < k → ¬ rr i = rr j) : lo_cd rr c k < 125 ∧ ∀ y, y < 3 → lo_cd rr c k / 5 ^ y % 5 = lo_dg rr c y k := by
  have b : ∀ y, lo_dg rr c y k ≤ 4 := fun y => by
    rcases lo_dg_is (c := c) (y := y) k hd with ⟨a1, a2⟩ | ⟨i, a1, a2, a3⟩ <;> omega
  have b0 := b 0
  have b1 := b 1
  have b2 := b 2
  unfold lo_cd
  refine ⟨by omega, fun y hy => ?_⟩
  rcases (show y = 0 ∨ y = 1 ∨ y = 2 by omega) with rfl | rfl | rfl
  · show (lo_dg rr c 0 k + 5 * lo_dg rr c 1 k + 25 * lo_dg rr c 2 k) / 1 % 5 = _
    omega
  · show (lo_dg rr c 0 k + 5 * lo_dg rr c 1 k + 25 * lo_dg rr c 2 k) / 5 % 5 = _
    omega
  · show (lo_dg rr c 0 k + 5 * lo_dg rr c 1 k + 25 * lo_dg rr c 2 k) / 25 % 5 = _
    omega
/-- a placing that can be: unlike rooms that there are -/
def lo_va (w h : Nat) (rr : Nat → Nat) (k : Nat) : Prop := (∀ i, i < k → rr i < 9 ∧ ¬ u_hs (w : Int) (h : Int) (rr i : Int) = 0) ∧ ∀ i j, i < j → j < k → ¬ rr i = rr j
theorem lo_lv_va {w h : Nat} {l : List Nat} {rr : Nat → Nat} (hv : lo_va w h rr l.length) (c y : Nat) : lo_lv w h l c (fun y => lo_dg rr c y l.length) y := by
  rcases lo_dg_is (c := c) (y := y) l.length hv.2 with ⟨a1, a2⟩ | ⟨i, a1, a2, a3⟩
  · exact Or.inl a1
  · refine Or.inr ⟨by show lo_dg rr c y l.length ≤ _; omega, by rw [← a2]; exact (hv.1 i a1).2, fun y' hy' z => ?_⟩
    have z : lo_dg rr c y' l.length = lo_dg rr c y l.length := z
    rcases lo_dg_is (c := c) (y := y') l.length hv.2 with ⟨b1, b2⟩ | ⟨j, b1, b2, b3⟩
    · omega
    · have : j = i := by omega
      rw [this] at b2
      omega
/-- in a column, both are alike -/
theorem lo_ag {w h n : Nat} {A : Nat → Int} {l : List Nat} (n5 : n ≤ 5) (hl : lo_ok n A l) {rr : Nat → Nat} (hv : lo_va w h rr l.length) {c : Nat} (hc : c < 3) : ag c n (lo_pl l rr l.length A) (lo_c n A l c (fun y => lo_dg rr c y l.length) 3) := by
  have hlv := lo_lv_va (w := w) (h := h) hv c
  have hd : ∀ y, y < 3 → lo_dg rr c y l.length = 0 ∨ (lo_dg rr c y l.length ≤ l.length ∧ ∀ y2, y2 < y → ¬ lo_dg rr c y2 l.length = lo_dg rr c y l.length) := fun y _ => (hlv y).imp id (fun z => ⟨z.1, z.2.2⟩)
  have hi : ∀ j, (j < 18 ∨ 18 + n ≤ j) → lo_pl l rr l.length A j = lo_c n A l c (fun y => lo_dg rr c y l.length) 3 j := fun j hj => by
    rw [lo_c_hi hl hj 3 (fun y hy => (hd y hy).imp id (fun z => z.1))]
    exact lo_pl_ne _ (fun i hi => by have := hl.1 i hi; omega)
  refine ⟨fun r h1 h2 => ⟨hi r (by omega), hi (r + 9) (by omega)⟩, fun p hp r h1 h2 => ?_, fun r h1 h2 => by rw [hi 34 (by omega)], hi 35 (by omega), hi 36 (by omega)⟩
  by_cases e : ∃ i, i < l.length ∧ lo_P l i = p
  · obtain ⟨i, i1, i2⟩ := e
    rw [← i2, lo_pl_at hl l.length (Nat.le_refl _) i1]
    by_cases q : rr i % 3 = c
    · have hr := (hv.1 i i1).1
      rcases lo_dg_is (c := c) (y := rr i / 3) l.length hv.2 with ⟨a1, a2⟩ | ⟨j, a1, a2, a3⟩
      · exact absurd (show rr i = 3 * (rr i / 3) + c by omega) (a2 i i1)
      · have ej : j = i := by
          rcases Nat.lt_trichotomy i j with y | y | y
          · exact absurd (show rr i = rr j by omega) (hv.2 i j y a1)
          · exact y.symm
          · exact absurd (show rr j = rr i by omega) (hv.2 j i y i1)
        have at3 := lo_c_at (A := A) hl (c := c) (dg := fun y => lo_dg rr c y l.length) (y' := rr i / 3) (by show ¬ lo_dg rr c (rr i / 3) l.length = 0; omega) 3 (by omega) hd
        have at3 : lo_c n A l c (fun y => lo_dg rr c y l.length) 3 (lo_P l (lo_dg rr c (rr i / 3) l.length - 1) + 18) = ((3 * (rr i / 3) + c : Nat) : Int) := at3
        rw [a3, ej, Nat.add_sub_cancel] at at3
        rw [at3, show 3 * (rr i / 3) + c = rr i by omega]
    · have no := lo_c_no (A := A) (l := l) (c := c) (dg := fun y => lo_dg rr c y l.length) (p := lo_P l i) (by rw [i2]; exact hp) 3 (fun y' hy' => by
        rcases lo_dg_is (c := c) (y := y') l.length hv.2 with ⟨a1, a2⟩ | ⟨j, a1, a2, a3⟩
        · exact Or.inl a1
        · refine Or.inr fun z => ?_
          have z : lo_P l (lo_dg rr c y' l.length - 1) = lo_P l i := z
          rw [a3, Nat.add_sub_cancel] at z
          have := lo_inj hl a1 i1 z
          rw [this] at a2
          omega)
      rw [no]
      exact ⟨fun z => by omega, fun z => by omega⟩
  · have hp1 : A (p + 18) = -1 := (hl.2.2 p hp).resolve_right e
    have no := lo_c_no (A := A) (l := l) (c := c) (dg := fun y => lo_dg rr c y l.length) (p := p) hp 3 (fun y' hy' => by
      rcases lo_dg_is (c := c) (y := y') l.length hv.2 with ⟨a1, a2⟩ | ⟨j, a1, a2, a3⟩
      · exact Or.inl a1
      · refine Or.inr fun z => e ⟨lo_dg rr c y' l.length - 1, by omega, z⟩)
    rw [no, lo_pl_ne _ (fun i hi z => e ⟨i, hi, by omega⟩), hp1]
/-- ways, the most, the rooms by which -/
abbrev lo_a : Type := Int × Int × (Nat → Nat)
def lo_w (N : Int) (v : Int) (rr : Nat → Nat) (a : lo_a) : lo_a := (if v = N then z_add a.1 1 else a.1, if a.2.1 < v then v else a.2.1, if a.2.1 < v then rr else a.2.2)
def lo_can (w h k : Nat) (rr : Nat → Nat) (r : Nat) : Bool := decide (¬ u_hs (w : Int) (h : Int) (r : Int) = 0) && (List.range k).all (fun i => !(decide (rr i = r)))
def lo_up (rr : Nat → Nat) (k r : Nat) : Nat → Nat := fun i => if i = k then r else rr i
def lo_rs : Nat → Nat → List Nat
  | 0, _ => []
  | f + 1, r => r :: lo_rs f (r + 1)
def lo_g (V : (Nat → Nat) → Int) (N : Int) (w h : Nat) : Nat → Nat → (Nat → Nat) → lo_a → lo_a
  | 0, _, rr, a => lo_w N (V rr) rr a
  | j + 1, k, rr, a => (lo_rs 9 0).foldl (fun a r => if lo_can w h k rr r = true then lo_g V N w h j (k + 1) (lo_up rr k r) a else a) a
theorem lo_can_va {w h k r : Nat} {rr : Nat → Nat} (hv : lo_va w h rr k) (hc : lo_can w h k rr r = true) : lo_va w h (lo_up rr k r) (k + 1) := by
  unfold lo_can at hc
  obtain ⟨c1, c2⟩ := Bool.and_eq_true _ _ |>.mp hc
  have c1 := of_decide_eq_true c1
  have hr := u_hs_rng c1
  have c2 : ∀ i, i < k → ¬ rr i = r := fun i hi z => by
    have := List.all_eq_true.mp c2 i (List.mem_range.mpr hi)
    rw [decide_eq_true z] at this
    cases this
  refine ⟨fun i hi => ?_, fun i j hij hj => ?_⟩
  · unfold lo_up
    by_cases e : i = k
    · rw [if_pos e]
      exact ⟨by omega, c1⟩
    · rw [if_neg e]
      exact hv.1 i (by omega)
  · unfold lo_up
    rw [if_neg (show ¬ i = k by omega)]
    by_cases e : j = k
    · rw [if_pos e]
      exact c2 i (by omega)
    · rw [if_neg e]
      exact hv.2 i j hij (by omega)
/-- which rooms are taken, as bits -/
def lo_tk (k : Nat) (rr : Nat → Nat) (t : Int) : Prop := ∀ r, r < 9 → (zb t r = true ↔ ∃ i, i < k ∧ rr i = r)
theorem lo_tk_0 (rr : Nat → Nat) : lo_tk 0 rr 0 := fun r _ => ⟨fun z => absurd z (by rw [zb_0]; exact Bool.false_ne_true), fun ⟨i, hi, _⟩ => absurd hi (Nat.not_lt_zero i)⟩
theorem lo_tk_s {k r : Nat} {rr : Nat → Nat} {t : Int} (h : lo_tk k rr t) (hr : r < 9) : lo_tk (k + 1) (lo_up rr k r) (z_or t (z_shl 1 (r : Int))) := fun q hq => by
  rw [zb_or, zb_shl (by omega) (by omega), Bool.or_eq_true, decide_eq_true_iff, h q hq]
  constructor
  · rintro (⟨i, i1, i2⟩ | e)
    · exact ⟨i, by omega, by unfold lo_up; rw [if_neg (by omega)]; exact i2⟩
    · exact ⟨k, by omega, by unfold lo_up; rw [if_pos rfl]; exact e.symm⟩
  · rintro ⟨i, i1, i2⟩
    unfold lo_up at i2
    by_cases e : i = k
    · rw [if_pos e] at i2
      exact Or.inr i2.symm
    · rw [if_neg e] at i2
      exact Or.inl ⟨i, by omega, i2⟩
theorem lo_can_tk {w h k r : Nat} {rr : Nat → Nat} {t : Int} (h1 : lo_tk k rr t) (hr : r < 9) : lo_can w h k rr r = true ↔ (¬ u_hs (w : Int) (h : Int) (r : Int) = 0) ∧ zb t r = false := by
  unfold lo_can
  rw [Bool.and_eq_true, decide_eq_true_iff, List.all_eq_true]
  constructor
  · rintro ⟨a, b⟩
    refine ⟨a, ?_⟩
    cases e : zb t r
    · rfl
    · obtain ⟨i, i1, i2⟩ := (h1 r hr).mp e
      have := b i (List.mem_range.mpr i1)
      rw [decide_eq_true i2] at this
      cases this
  · rintro ⟨a, b⟩
    refine ⟨a, fun i hi => ?_⟩
    have : ¬ rr i = r := fun z => by
      have := (h1 r hr).mpr ⟨i, List.mem_range.mp hi, z⟩
      rw [b] at this
      cases this
    rw [decide_eq_false this]
    rfl
/-! the class -/
section
variable {w h n : Nat} {heat price : Int} {D A : Nat → Int} {c : Nat} {U : Nat → Nat → Int} {kn : Nat → Int} {KS : Nat → Nat → Int} {cs : List Int} {m : z_M}
/-- what the search holds -/
def lo_I (w h n : Nat) (heat price : Int) (D A : Nat → Int) (c : Nat) (U : Nat → Nat → Int) (kn : Nat → Int) (KS : Nat → Nat → Int) (cs : List Int) (l : List Nat) (N : Nat) (m : z_M) : Prop := C_is w h n heat price D A c U kn KS cs m ∧ m 122 9 = (l.length : Int) ∧ m 122 10 = (N : Int) ∧ (∀ i, i < l.length → m 135 i = (lo_P l i : Int)) ∧ cS m 123 n = lo_b n A
theorem lo_I_fr {l : List Nat} {N : Nat} {m m' : z_M} (hv : lo_I w h n heat price D A c U kn KS cs l N m) (hf : ∀ p k, C_hit p k k = true → m' p k = m p k) (h1 : m' 122 9 = m 122 9) (h2 : m' 122 10 = m 122 10) (h3 : ∀ i, m' 135 i = m 135 i) (h4 : ∀ j k, j ≤ 5 → m' (123 + j) k = m (123 + j) k) : lo_I w h n heat price D A c U kn KS cs l N m' := by
  obtain ⟨a, b1, b2, b3, b4⟩ := hv
  exact ⟨C_fr a hf, h1.trans b1, h2.trans b2, fun i hi => (h3 i).trans (b3 i hi), (cS_fr (m := m) (fun j k hj _ => h4 j k hj)).trans b4⟩
theorem lo_st1 : z_st 123 := ⟨by decide, by omega⟩
theorem lo_st2 : z_st 129 := ⟨by decide, by omega⟩
theorem lo_canL {l : List Nat} (n5 : n ≤ 5) (hl : lo_ok n A l) (hl4 : l.length ≤ 4) {b code : Nat} (hb : b < 3) (hcode : code < 125) : ∀ (f y : Nat) (v5 : z_V) (m : z_M), y + f = 3 → m 3 8 = (w : Int) → m 3 9 = (h : Int) → m 122 9 = (l.length : Int) → (∀ i, i < l.length → m 135 i = (lo_P l i : Int)) → cS m 129 n = lo_c n A l b (fun y => code / 5 ^ y % 5) y → (∀ y', y' < y → lo_lv w h l b (fun y => code / 5 ^ y % 5) y') → ∃ m1 v, z_R 104 (m, 16, [(2, 122), (0, (b : Int)), (0, (code : Int)), (0, ((code / 5 ^ y : Nat) : Int)), (0, (y : Int)), v5], []) = some (m1, some (0, v)) ∧ (∀ p k, ¬ p = 132 → m1 p k = m p k) ∧ ((v = 1 ∧ cS m1 129 n = lo_c n A l b (fun y => code / 5 ^ y % 5) 3 ∧ ∀ y', y' < 3 → lo_lv w h l b (fun y => code / 5 ^ y % 5) y') ∨ (v = 0 ∧ ¬ ∀ y', y' < 3 → lo_lv w h l b (fun y => code / 5 ^ y % 5) y')) := by
  intro f
  induction f with
  | zero =>
    intro y v5 m hy h8 h9 h122 h135 hS hlv
    obtain rfl : y = 3 := by omega
    rw [lo_can_16, if_pos (by decide)]
    exact ⟨m, 1, rfl, fun _ _ _ => rfl, Or.inl ⟨rfl, hS, hlv⟩⟩
  | succ f ih =>
    intro y v5 m hy h8 h9 h122 h135 hS hlv
    have hrest : code / 5 ^ y < 125 := Nat.lt_of_le_of_lt (Nat.div_le_self _ _) hcode
    have enx : code / 5 ^ y / 5 = code / 5 ^ (y + 1) := by rw [Nat.pow_succ, Nat.div_div_eq_div_mul]
    generalize hrr : code / 5 ^ y = rest at hrest enx
    have er : z_rem ((rest : Nat) : Int) 5 = ((rest % 5 : Nat) : Int) := by rw [z_rem_nn (by omega) (by omega) (by decide) (by decide)]; omega
    have ed : z_div ((rest : Nat) : Int) 5 = ((code / 5 ^ (y + 1) : Nat) : Int) := by rw [z_div_nn (by omega) (by omega) (by decide) (by decide), ← enx]; omega
    have edg : (fun y => code / 5 ^ y % 5) y = rest % 5 := by show code / 5 ^ y % 5 = rest % 5; rw [hrr]
    rw [lo_can_16, if_neg (by omega), er, ed, z_sub_eq (x := ((rest % 5 : Nat) : Int)) (y := 1) (by omega) (by omega), z_add_eq (x := (y : Int)) (y := 1) (by omega) (by omega), tc1, h122, h8, h9, z_mul_eq (x := 3) (y := (y : Int)) (by omega) (by omega), z_add_eq (x := 3 * (y : Int)) (y := (b : Int)) (by omega) (by omega), show 3 * (y : Int) + (b : Int) = ((3 * y + b : Nat) : Int) by omega]
    by_cases c0 : rest % 5 = 0
    · rw [if_pos (by omega)]
      refine ih (y + 1) _ m (by omega) h8 h9 h122 h135 ?_ (fun y' hy' => ?_)
      · rw [hS]
        show _ = if (fun y => code / 5 ^ y % 5) y = 0 then _ else _
        rw [edg, if_pos c0]
      · by_cases e : y' = y
        · rw [e]
          exact Or.inl (edg.trans c0)
        · exact hlv y' (by omega)
    rw [if_neg (by omega)]
    have no : ∀ q : ¬ lo_lv w h l b (fun y => code / 5 ^ y % 5) y, ¬ ∀ y', y' < 3 → lo_lv w h l b (fun y => code / 5 ^ y % 5) y' := fun q z => q (z y (by omega))
    by_cases c1 : l.length < rest % 5
    · rw [if_pos (by omega)]
      refine ⟨m, 0, rfl, fun _ _ _ => rfl, Or.inr ⟨rfl, no fun z => ?_⟩⟩
      rcases z with z | ⟨z, -⟩
      · exact c0 (edg.symm.trans z)
      · rw [edg] at z
        omega
    rw [if_neg (by omega)]
    by_cases c2 : u_hs (w : Int) (h : Int) ((3 * y + b : Nat) : Int) = 0
    · rw [if_neg (not_not_intro c2)]
      refine ⟨m, 0, rfl, fun _ _ _ => rfl, Or.inr ⟨rfl, no fun z => ?_⟩⟩
      rcases z with z | ⟨-, z, -⟩
      · exact c0 (edg.symm.trans z)
      · exact z c2
    have eP : m 135 (rest % 5 - 1) = (lo_P l (rest % 5 - 1) : Int) := h135 _ (by omega)
    have hP := hl.1 (rest % 5 - 1) (by omega)
    rw [if_pos c2, if_pos (by omega), show (((rest % 5 : Nat) : Int) - 1).toNat = rest % 5 - 1 by omega, eP, if_pos (by omega), Int.toNat_natCast]
    have e132 : m 132 (lo_P l (rest % 5 - 1)) = lo_c n A l b (fun y => code / 5 ^ y % 5) y (lo_P l (rest % 5 - 1) + 18) := by
      rw [← hS]
      exact (cS_at3 (s := 129) (by omega) (by omega)).symm
    have hvv : ∀ y1, y1 < y → (fun y => code / 5 ^ y % 5) y1 = 0 ∨ ((fun y => code / 5 ^ y % 5) y1 ≤ l.length ∧ ∀ y2, y2 < y1 → ¬ (fun y => code / 5 ^ y % 5) y2 = (fun y => code / 5 ^ y % 5) y1) := fun y1 h1 => (hlv y1 h1).imp id (fun z => ⟨z.1, z.2.2⟩)
    by_cases c3 : ∃ y', y' < y ∧ (fun y => code / 5 ^ y % 5) y' = rest % 5
    · obtain ⟨y', k1, k2⟩ := c3
      have at3 := lo_c_at (A := A) hl (c := b) (dg := fun y => code / 5 ^ y % 5) (y' := y') (fun z => c0 (k2.symm.trans z)) y k1 hvv
      have k3 : code / 5 ^ y' % 5 = rest % 5 := k2
      rw [k3] at at3
      rw [e132, at3, if_neg (by omega)]
      refine ⟨m, 0, rfl, fun _ _ _ => rfl, Or.inr ⟨rfl, no fun z => ?_⟩⟩
      rcases z with z | ⟨-, -, z⟩
      · exact c0 (edg.symm.trans z)
      · exact z y' k1 (k2.trans edg.symm)
    · have nn := lo_c_no (A := A) (l := l) (c := b) (dg := fun y => code / 5 ^ y % 5) (p := lo_P l (rest % 5 - 1)) hP y (fun y' hy' => by
        by_cases z0 : (fun y => code / 5 ^ y % 5) y' = 0
        · exact Or.inl z0
        · refine Or.inr fun z => c3 ⟨y', hy', ?_⟩
          have v1 := (hvv y' hy').resolve_left z0
          have := lo_inj hl (i := (fun y => code / 5 ^ y % 5) y' - 1) (j := rest % 5 - 1) (by omega) (by omega) z
          omega)
      rw [e132, nn, if_pos rfl]
      obtain ⟨m1, v, a1, a2, a3⟩ := ih (y + 1) (0, ((rest % 5 : Nat) : Int) - 1) (z_up m 132 (lo_P l (rest % 5 - 1)) ((3 * y + b : Nat) : Int)) (by omega) ((zu_p (by decide)).trans h8) ((zu_p (by decide)).trans h9) ((zu_p (by decide)).trans h122) (fun i hi => (zu_p (by decide)).trans (h135 i hi)) (by
        rw [cS_up3 (s := 129) (by omega) (by omega), hS]
        show _ = if (fun y => code / 5 ^ y % 5) y = 0 then _ else u_up _ (lo_P l ((fun y => code / 5 ^ y % 5) y - 1) + 18) _
        rw [edg, if_neg c0]) (fun y' hy' => by
        by_cases e : y' = y
        · rw [e]
          exact Or.inr ⟨by rw [edg]; omega, c2, fun y2 h2 z => c3 ⟨y2, h2, z.trans edg⟩⟩
        · exact hlv y' (by omega))
      exact ⟨m1, v, a1, fun p k hp => (a2 p k hp).trans (zu_p hp), a3⟩
/-- the hours that a column stands, by its number -/
def lo_tab (w h n : Nat) (heat price : Int) (cs : List Int) (D A : Nat → Int) (l : List Nat) (N b : Nat) (m : z_M) : Prop := ∀ code, code < 125 → (∀ y', y' < 3 → lo_lv w h l b (fun y => code / 5 ^ y % 5) y') → m 139 (125 * b + code) = s_stc w h n heat price cs D (s_fl A) b N N 0 (lo_c n A l b (fun y => code / 5 ^ y % 5) 3)
theorem lo_hok {l : List Nat} (hok : hr_ok n A) (n5 : n ≤ 5) (hl : lo_ok n A l) {b : Nat} (hb : b < 3) {dg : Nat → Nat} (hd : ∀ y, y < 3 → dg y = 0 ∨ dg y ≤ l.length) : hr_ok n (lo_c n A l b dg 3) := by
  have hi : ∀ j, (j < 18 ∨ 18 + n ≤ j) → lo_c n A l b dg 3 j = A j := fun j hj => lo_c_hi hl hj 3 hd
  refine ⟨fun k hk => by rw [hi k (by omega)]; exact hok.1 k hk, fun k hk => by rw [hi (k + 9) (by omega)]; exact hok.2.1 k hk, fun p hp => ?_, by rw [hi 36 (by omega)]; exact hok.2.2.2⟩
  have key : ∀ y, y ≤ 3 → -1 ≤ lo_c n A l b dg y (p + 18) ∧ lo_c n A l b dg y (p + 18) ≤ 8 := fun y => by
    induction y with
    | zero =>
      intro _
      show -1 ≤ (if 18 ≤ p + 18 ∧ p + 18 < 18 + n then (-1 : Int) else A (p + 18)) ∧ (if 18 ≤ p + 18 ∧ p + 18 < 18 + n then (-1 : Int) else A (p + 18)) ≤ 8
      rw [if_pos (by omega)]
      decide
    | succ y ih =>
      intro hy
      have ih := ih (by omega)
      unfold lo_c
      by_cases e : dg y = 0
      · rw [if_pos e]
        exact ih
      · rw [if_neg e]
        unfold u_up
        by_cases q : p + 18 = lo_P l (dg y - 1) + 18
        · rw [if_pos q]
          omega
        · rw [if_neg q]
          exact ih
  exact key 3 (Nat.le_refl 3)
theorem lo_scoL {l : List Nat} {N : Nat} (hN40 : N ≤ 100) (hN : w_N w h n heat D) (hok : hr_ok n A) (ht : 0 ≤ A 35 ∧ A 35 ≤ 1073741824) (hl : lo_ok n A l) (hl4 : l.length ≤ 4) {b : Nat} (hb : b < 3) : ∀ (f x : Nat) (m : z_M), x + f = 125 → lo_I w h n heat price D A c U kn KS cs l N m → (∀ code, code < x → (∀ y', y' < 3 → lo_lv w h l b (fun y => code / 5 ^ y % 5) y') → m 139 (125 * b + code) = s_stc w h n heat price cs D (s_fl A) b N N 0 (lo_c n A l b (fun y => code / 5 ^ y % 5) 3)) → ∃ m1, z_R 103 (m, 2, [(2, 122), (0, (b : Int)), (0, (x : Int))], []) = some (m1, none) ∧ lo_I w h n heat price D A c U kn KS cs l N m1 ∧ lo_tab w h n heat price cs D A l N b m1 ∧ (∀ k, m1 122 k = m 122 k) ∧ (∀ k, m1 138 k = m 138 k) ∧ ∀ k, ¬ (125 * b ≤ k ∧ k < 125 * b + 125) → m1 139 k = m 139 k := by
  have n5 := hN.1.2.2
  intro f
  induction f with
  | zero =>
    intro x m hx hv hT
    obtain rfl : x = 125 := by omega
    rw [lo_sco_2, if_pos (by decide)]
    exact ⟨m, rfl, hv, hT, fun _ => rfl, fun _ => rfl, fun _ _ => rfl⟩
  | succ f ih =>
    intro x m hx hv hT
    obtain ⟨m2, b1, b2, b3⟩ := c_become lo_st1 lo_st2 (by decide) m
    have b1 : z_R 61 (m, 0, [(2, 129), (2, 123)], []) = some (m2, none) := b1
    have hv2 : lo_I w h n heat price D A c U kn KS cs l N m2 := lo_I_fr hv (fun p k hk => by
      have hk' := hk
      unfold C_hit at hk'
      have hk' := of_decide_eq_true hk'
      exact b3.of (by (repeat' (first | exact trivial | refine z_of_c ?_ ?_)) <;> omega)) (b3.of (by (repeat' (first | exact trivial | refine z_of_c ?_ ?_)) <;> omega)) (b3.of (by (repeat' (first | exact trivial | refine z_of_c ?_ ?_)) <;> omega)) (fun i => b3.of (by (repeat' (first | exact trivial | refine z_of_c ?_ ?_)) <;> omega)) (fun j k hj => b3.of (by (repeat' (first | exact trivial | refine z_of_c ?_ ?_)) <;> omega))
    obtain ⟨m3, v, d1, d2, d3⟩ := lo_canL n5 hl hl4 hb (code := x) (by omega) 3 0 (9, 0) m2 (by decide) hv2.1.1.1 hv2.1.1.2.1 hv2.2.1 hv2.2.2.2.1 ((cS_cR b2).trans hv.2.2.2.2) (fun y' hy' => absurd hy' (Nat.not_lt_zero y'))
    have d1 : z_R 104 (m2, 16, [(2, 122), (0, (b : Int)), (0, (x : Int)), (0, (x : Int)), (0, 0), (9, 0)], []) = some (m3, some (0, v)) := by
      rw [Nat.pow_zero, Nat.div_one] at d1
      exact d1
    have hv3 : lo_I w h n heat price D A c U kn KS cs l N m3 := lo_I_fr hv2 (fun p k hk => d2 p k fun z => by
      have hk' := hk
      unfold C_hit at hk'
      have hk' := of_decide_eq_true hk'
      omega) (d2 _ _ (by decide)) (d2 _ _ (by decide)) (fun i => d2 _ _ (by decide)) (fun j k hj => d2 _ _ (by omega))
    have s3 : ∀ p k, (p = 122 ∨ p = 138 ∨ p = 139) → m3 p k = m p k := fun p k hp => (d2 p k (by omega)).trans (b3.of (by (repeat' (first | exact trivial | refine z_of_c ?_ ?_)) <;> omega))
    rw [lo_sco_2, if_neg (by omega), lo_can_0 m _ _ ⟨by omega, by omega⟩ ⟨by omega, by omega⟩, b1, zb_n, lo_can_11, d1, zb_v, lo_sco_14, z_add_eq (x := (x : Int)) (y := 1) (by omega) (by omega), tc1]
    rcases d3 with ⟨v1, hS, hlv⟩ | ⟨v0, hlv⟩
    · have hd : ∀ y, y < 3 → (fun y => x / 5 ^ y % 5) y = 0 ∨ (fun y => x / 5 ^ y % 5) y ≤ l.length := fun y hy => (hlv y hy).imp id (fun z => z.1)
      have hoS := lo_hok hok n5 hl hb hd
      have e35 : lo_c n A l b (fun y => x / 5 ^ y % 5) 3 35 = A 35 := lo_c_hi hl (by omega) 3 hd
      obtain ⟨m4, g1, g2⟩ := sc_st (D := D) (A := lo_c n A l b (fun y => x / 5 ^ y % 5) 3) (N := N) lo_st2 hb (by omega) hN (C_cfg hv3.1) hS ag_rf hoS (by rw [e35]; exact ht.1) (by rw [e35]; omega) (fun _ _ _ _ _ => rfl)
      have g1 : z_R 97 (m3, 0, [(2, 24), (2, 129), (0, (N : Int)), (0, z_and (m3 3 10) (z_shl 73 (b : Int))), (9, 0), (9, 0)], []) = some (m4, some (0, s_stc w h n heat price cs D (s_fl (lo_c n A l b (fun y => x / 5 ^ y % 5) 3)) b N N 0 (lo_c n A l b (fun y => x / 5 ^ y % 5) 3))) := g1
      have eF : s_stc w h n heat price cs D (s_fl (lo_c n A l b (fun y => x / 5 ^ y % 5) 3)) b N N 0 (lo_c n A l b (fun y => x / 5 ^ y % 5) 3) = s_stc w h n heat price cs D (s_fl A) b N N 0 (lo_c n A l b (fun y => x / 5 ^ y % 5) 3) := s_stc_ag hN hN (fun r hr _ _ => by unfold s_fl; rw [lo_c_hi hl (by omega) 3 hd]) N 0 _ _ ag_rf hoS hoS (by rw [e35]; exact ht.1) (by rw [e35]; omega) (fun _ _ _ _ _ => rfl)
      rw [eF] at g1
      have hv4 : lo_I w h n heat price D A c U kn KS cs l N m4 := lo_I_fr hv3 (fun p k hk => by
        have hk' := hk
        unfold C_hit at hk'
        have hk' := of_decide_eq_true hk'
        exact g2.of (by (repeat' (first | exact trivial | refine z_of_c ?_ ?_)) <;> omega)) (g2.of (by (repeat' (first | exact trivial | refine z_of_c ?_ ?_)) <;> omega)) (g2.of (by (repeat' (first | exact trivial | refine z_of_c ?_ ?_)) <;> omega)) (fun i => g2.of (by (repeat' (first | exact trivial | refine z_of_c ?_ ?_)) <;> omega)) (fun j k hj => g2.of (by (repeat' (first | exact trivial | refine z_of_c ?_ ?_)) <;> omega))
      have s4 : ∀ p k, (p = 122 ∨ p = 138 ∨ p = 139) → m4 p k = m p k := fun p k hp => (show m4 p k = m3 p k from g2.of (by (repeat' (first | exact trivial | refine z_of_c ?_ ?_)) <;> omega)).trans (s3 p k hp)
      rw [v1, if_neg (show ¬ (1 : Int) = 0 by decide), sc_roc_0, zb_v, lo_sco_47, hv3.2.2.1, g1, zb_v, lo_sco_50, z_mul_eq (x := (b : Int)) (y := 125) (by omega) (by omega), z_add_eq (x := (b : Int) * 125) (y := (x : Int)) (by omega) (by omega), if_pos (by omega), show ((b : Int) * 125 + (x : Int)).toNat = 125 * b + x by omega, z_add_eq (x := (x : Int)) (y := 1) (by omega) (by omega), tc1]
      have hv5 : lo_I w h n heat price D A c U kn KS cs l N (z_up m4 139 (125 * b + x) (s_stc w h n heat price cs D (s_fl A) b N N 0 (lo_c n A l b (fun y => x / 5 ^ y % 5) 3))) := lo_I_fr hv4 (fun p k hk => zu_p fun z => by
        have hk' := hk
        unfold C_hit at hk'
        have hk' := of_decide_eq_true hk'
        omega) (zu_p (by decide)) (zu_p (by decide)) (fun i => zu_p (by decide)) (fun j k hj => zu_p (by omega))
      obtain ⟨m6, k1, k2, k3, k4, k5, k6⟩ := ih (x + 1) _ (by omega) hv5 (fun code hc hcl => by
        by_cases e : code = x
        · rw [e, zu_self]
        · rw [zu_k (by omega), s4 139 _ (Or.inr (Or.inr rfl))]
          exact hT code (by omega) hcl)
      exact ⟨m6, k1, k2, k3, fun k => ((k4 k).trans (zu_p (by decide))).trans (s4 122 k (Or.inl rfl)), fun k => ((k5 k).trans (zu_p (by decide))).trans (s4 138 k (Or.inr (Or.inl rfl))), fun k hk => ((k6 k hk).trans (zu_k (by omega))).trans (s4 139 k (Or.inr (Or.inr rfl)))⟩
    · rw [v0, if_pos (show (0 : Int) = 0 from rfl)]
      obtain ⟨m6, k1, k2, k3, k4, k5, k6⟩ := ih (x + 1) m3 (by omega) hv3 (fun code hc hcl => by
        by_cases e : code = x
        · rw [e] at hcl
          exact absurd hcl hlv
        · rw [s3 139 _ (Or.inr (Or.inr rfl))]
          exact hT code (by omega) hcl)
      exact ⟨m6, k1, k2, k3, fun k => (k4 k).trans (s3 122 k (Or.inl rfl)), fun k => (k5 k).trans (s3 138 k (Or.inr (Or.inl rfl))), fun k hk => (k6 k hk).trans (s3 139 k (Or.inr (Or.inr rfl)))⟩
end
