/-! THE RULE: what can be read, where reading stands, the code -/
abbrev q_Q : Type := Bool × Int × List Int
def q_op (c l r : Int) : Int := if c = 43 then z_add l r else if c = 45 then z_sub l r else if c = 42 then z_mul l r else if c = 47 then (if r = 0 then 0 else z_div l r) else if c = 60 then (if l < r then 1 else 0) else if c = 62 then (if r < l then 1 else 0) else (if l = r then 1 else 0)
def q_nm (g : Int → Int) : Nat → Int → Int → Int × Int
  | 0, i, v => (i, v)
  | k + 1, i, v => if u_dg (g i) = -1 then (i, v) else q_nm g k (i + 1) (10 * v + u_dg (g i))
def q_th (g : Int → Int) (E : Option (Int → q_Q)) (i : Int) : q_Q := if g i = 40 then (match E with
    | none => (false, i, [])
    | some e => if (e (i + 1)).1 = true ∧ g (e (i + 1)).2.1 = 41 then (true, (e (i + 1)).2.1 + 1, (e (i + 1)).2.2) else (false, (e (i + 1)).2.1, [])) else
  if u_dg (g i) = -1 then (if z_idx (g i) = -1 then (false, i, []) else (true, i + 1, [1000 + z_idx (g i)])) else (true, (q_nm g 3 i 0).1, [(q_nm g 3 i 0).2])
/-- so many - from here on -/
def q_mn (g : Int → Int) : Nat → Int → Nat
  | 0, _ => 0
  | f + 1, i => if g i = 45 then q_mn g f (i + 1) + 1 else 0
def q_sg (g : Int → Int) (E : Option (Int → q_Q)) (i : Int) : q_Q := ((q_th g E (i + q_mn g 40 i)).1, (q_th g E (i + q_mn g 40 i)).2.1, (q_th g E (i + q_mn g 40 i)).2.2 ++ (if q_mn g 40 i % 2 = 1 then [2126] else []))
def q_lp (g : Int → Int) (part : Int → q_Q) (a b : Int) : Nat → q_Q → q_Q
  | 0, r => r
  | k + 1, r => if r.1 = true ∧ (g r.2.1 = a ∨ g r.2.1 = b) then q_lp g part a b k ((part (r.2.1 + 1)).1, (part (r.2.1 + 1)).2.1, r.2.2 ++ (part (r.2.1 + 1)).2.2 ++ [2000 + g r.2.1]) else r
def q_pr (g : Int → Int) (E : Option (Int → q_Q)) (i : Int) : q_Q := q_lp g (q_sg g E) 42 47 40 (q_sg g E i)
def q_su (g : Int → Int) (E : Option (Int → q_Q)) (i : Int) : q_Q := q_lp g (q_pr g E) 43 45 40 (q_pr g E i)
def q_he (g : Int → Int) (E : Option (Int → q_Q)) (i : Int) : q_Q := if (q_su g E i).1 = true ∧ (g (q_su g E i).2.1 = 60 ∨ g (q_su g E i).2.1 = 62 ∨ g (q_su g E i).2.1 = 61) then ((q_su g E ((q_su g E i).2.1 + 1)).1, (q_su g E ((q_su g E i).2.1 + 1)).2.1, (q_su g E i).2.2 ++ (q_su g E ((q_su g E i).2.1 + 1)).2.2 ++ [2000 + g (q_su g E i).2.1]) else q_su g E i
def q_ex (g : Int → Int) : Nat → Int → q_Q
  | 0 => q_he g none
  | D + 1 => q_he g (some (q_ex g D))
/-- for the depth d (0 .. 4) -/
def q_E (g : Int → Int) (d : Nat) : Option (Int → q_Q) := if 4 ≤ d then none else some (q_ex g (3 - d))
theorem q_ex_he (g : Int → Int) {d : Nat} (hd : d ≤ 4) : q_ex g (4 - d) = q_he g (q_E g d) := by
  unfold q_E
  rcases (show d = 0 ∨ d = 1 ∨ d = 2 ∨ d = 3 ∨ d = 4 by omega) with rfl | rfl | rfl | rfl | rfl <;> rfl
/-! bounds: reading goes on, code is no longer than what was read -/
def q_gb (g : Int → Int) : Prop := ∀ i, ¬ g i = -1 → 0 ≤ i ∧ i < 40
def q_good (e : Int → q_Q) : Prop := ∀ i, 0 ≤ i → i ≤ 40 → i ≤ (e i).2.1 ∧ (e i).2.1 ≤ 40 ∧ ((e i).1 = true → i < (e i).2.1 ∧ (((e i).2.2).length : Int) ≤ (e i).2.1 - i)
theorem q_nm_b {g : Int → Int} (hg : q_gb g) : ∀ (k : Nat) (i v : Int), 0 ≤ i → i ≤ 40 → 0 ≤ v → i ≤ (q_nm g k i v).1 ∧ (q_nm g k i v).1 ≤ 40 := by
  intro k
  induction k with
  | zero => intro i v h0 h1 h2; exact ⟨Int.le_refl _, h1⟩
  | succ k ih =>
    intro i v h0 h1 h2
    unfold q_nm
    by_cases c : u_dg (g i) = -1
    · rw [if_pos c]; exact ⟨Int.le_refl _, h1⟩
    · rw [if_neg c]
      have d := u_dg_ne c
      have := hg i (by omega)
      have := ih (i + 1) (10 * v + u_dg (g i)) (by omega) (by omega) (by have := u_dg_rng (g i); omega)
      omega
theorem q_nm_v {g : Int → Int} : ∀ (k : Nat) (i v : Int) (B : Int), 0 ≤ v → v ≤ B - 1 → 0 ≤ (q_nm g k i v).2 ∧ (q_nm g k i v).2 ≤ B * 10 ^ k - 1 := by
  intro k
  induction k with
  | zero => intro i v B h0 h1; show 0 ≤ v ∧ v ≤ B * 1 - 1; omega
  | succ k ih =>
    intro i v B h0 h1
    unfold q_nm
    have r := u_dg_rng (g i)
    have e : B * 10 ^ (k + 1) = B * 10 * 10 ^ k := by rw [Int.pow_succ, Int.mul_assoc, Int.mul_comm (10 ^ k) 10]
    by_cases c : u_dg (g i) = -1
    · rw [if_pos c]
      have hp : (0 : Int) < 10 ^ k := Int.pow_pos (by decide)
      have : B * 1 ≤ B * 10 * 10 ^ k := by
        rw [Int.mul_assoc]
        exact Int.mul_le_mul_of_nonneg_left (by omega) (by omega)
      rw [e]
      show 0 ≤ v ∧ v ≤ B * 10 * 10 ^ k - 1
      omega
    · rw [if_neg c, e]
      exact ih (i + 1) (10 * v + u_dg (g i)) (B * 10) (by omega) (by omega)
theorem q_th_good {g : Int → Int} (hg : q_gb g) {E : Option (Int → q_Q)} (hE : ∀ e, E = some e → q_good e) : q_good (q_th g E) := by
  intro i h0 h1
  unfold q_th
  by_cases c1 : g i = 40
  · have b := hg i (by omega)
    rw [if_pos c1]
    cases hEe : E with
    | none => exact ⟨Int.le_refl _, h1, fun z => by cases z⟩
    | some e =>
      have ge := hE e hEe (i + 1) (by omega) (by omega)
      simp only
      by_cases c2 : (e (i + 1)).1 = true ∧ g (e (i + 1)).2.1 = 41
      · rw [if_pos c2]
        have b2 := hg (e (i + 1)).2.1 (by omega)
        have := ge.2.2 c2.1
        refine ⟨?_, ?_, fun _ => ⟨?_, ?_⟩⟩
        · show i ≤ (e (i + 1)).2.1 + 1; omega
        · show (e (i + 1)).2.1 + 1 ≤ 40; omega
        · show i < (e (i + 1)).2.1 + 1; omega
        · show (((e (i + 1)).2.2).length : Int) ≤ (e (i + 1)).2.1 + 1 - i; omega
      · rw [if_neg c2]
        exact ⟨by show i ≤ (e (i + 1)).2.1; omega, ge.2.1, fun z => by cases z⟩
  rw [if_neg c1]
  by_cases c2 : u_dg (g i) = -1
  · rw [if_pos c2]
    by_cases c3 : z_idx (g i) = -1
    · rw [if_pos c3]; exact ⟨Int.le_refl _, h1, fun z => by cases z⟩
    · rw [if_neg c3]
      have b := hg i (fun z => c3 (by rw [z]; decide))
      refine ⟨?_, ?_, fun _ => ⟨?_, ?_⟩⟩
      · show i ≤ i + 1; omega
      · show i + 1 ≤ 40; omega
      · show i < i + 1; omega
      · show ((1 : Nat) : Int) ≤ i + 1 - i; omega
  · rw [if_neg c2]
    have d := u_dg_ne c2
    have b := hg i (by omega)
    have e : q_nm g 3 i 0 = q_nm g 2 (i + 1) (10 * 0 + u_dg (g i)) := by
      show (if u_dg (g i) = -1 then (i, 0) else q_nm g 2 (i + 1) (10 * 0 + u_dg (g i))) = _
      rw [if_neg c2]
    have n := q_nm_b hg 2 (i + 1) (10 * 0 + u_dg (g i)) (by omega) (by omega) (by have := u_dg_rng (g i); omega)
    rw [e]
    refine ⟨?_, n.2, fun _ => ⟨?_, ?_⟩⟩
    · show i ≤ (q_nm g 2 (i + 1) (10 * 0 + u_dg (g i))).1; omega
    · show i < (q_nm g 2 (i + 1) (10 * 0 + u_dg (g i))).1; omega
    · show ((1 : Nat) : Int) ≤ (q_nm g 2 (i + 1) (10 * 0 + u_dg (g i))).1 - i; omega
theorem q_mn_b {g : Int → Int} (hg : q_gb g) : ∀ (f : Nat) (i : Int), 0 ≤ i → i ≤ 40 → i + (q_mn g f i : Int) ≤ 40 := by
  intro f
  induction f with
  | zero => intro i h0 h1; show i + ((0 : Nat) : Int) ≤ 40; omega
  | succ f ih =>
    intro i h0 h1
    unfold q_mn
    by_cases c : g i = 45
    · rw [if_pos c]
      have := hg i (by omega)
      have := ih (i + 1) (by omega) (by omega)
      omega
    · rw [if_neg c]; omega
theorem q_sg_good {g : Int → Int} (hg : q_gb g) {E : Option (Int → q_Q)} (hE : ∀ e, E = some e → q_good e) : q_good (q_sg g E) := by
  intro i h0 h1
  have b := q_mn_b hg 40 i h0 h1
  have t := q_th_good hg hE (i + (q_mn g 40 i : Int)) (by omega) b
  unfold q_sg
  generalize hn : q_mn g 40 i = n at b t ⊢
  refine ⟨?_, t.2.1, fun z => ⟨?_, ?_⟩⟩
  · show i ≤ (q_th g E (i + (n : Int))).2.1; omega
  · have := t.2.2 z
    show i < (q_th g E (i + (n : Int))).2.1; omega
  · have := t.2.2 z
    show ((((q_th g E (i + (n : Int))).2.2 ++ (if n % 2 = 1 then [2126] else [])).length : Nat) : Int) ≤ (q_th g E (i + (n : Int))).2.1 - i
    rw [List.length_append]
    by_cases c : n % 2 = 1
    · rw [if_pos c]
      show ((((q_th g E (i + (n : Int))).2.2).length + 1 : Nat) : Int) ≤ _
      omega
    · rw [if_neg c]
      show ((((q_th g E (i + (n : Int))).2.2).length + 0 : Nat) : Int) ≤ _
      omega
theorem q_lp_good {g : Int → Int} (hg : q_gb g) {part : Int → q_Q} (hp : q_good part) {a b : Int} (ha : ¬ a = -1) (hb : ¬ b = -1) : ∀ (k : Nat) (r : q_Q) (i : Int), 0 ≤ i → i ≤ r.2.1 → r.2.1 ≤ 40 → (r.1 = true → i < r.2.1 ∧ ((r.2.2).length : Int) ≤ r.2.1 - i) → i ≤ (q_lp g part a b k r).2.1 ∧ (q_lp g part a b k r).2.1 ≤ 40 ∧ ((q_lp g part a b k r).1 = true → i < (q_lp g part a b k r).2.1 ∧ (((q_lp g part a b k r).2.2).length : Int) ≤ (q_lp g part a b k r).2.1 - i) := by
  intro k
  induction k with
  | zero => intro r i h0 h1 h2 h3; exact ⟨h1, h2, h3⟩
  | succ k ih =>
    intro r i h0 h1 h2 h3
    unfold q_lp
    by_cases c : r.1 = true ∧ (g r.2.1 = a ∨ g r.2.1 = b)
    · rw [if_pos c]
      have bb := hg r.2.1 (by rcases c.2 with z | z <;> rw [z] <;> assumption)
      have pp := hp (r.2.1 + 1) (by omega) (by omega)
      have h4 := h3 c.1
      refine ih _ i h0 ?_ pp.2.1 (fun z => ⟨?_, ?_⟩)
      · show i ≤ (part (r.2.1 + 1)).2.1; omega
      · show i < (part (r.2.1 + 1)).2.1; omega
      · have := pp.2.2 z
        show (((r.2.2 ++ (part (r.2.1 + 1)).2.2 ++ [2000 + g r.2.1]).length : Nat) : Int) ≤ (part (r.2.1 + 1)).2.1 - i
        rw [List.length_append, List.length_append]
        show (((r.2.2).length + ((part (r.2.1 + 1)).2.2).length + 1 : Nat) : Int) ≤ _
        omega
    · rw [if_neg c]; exact ⟨h1, h2, h3⟩
theorem q_pr_good {g : Int → Int} (hg : q_gb g) {E : Option (Int → q_Q)} (hE : ∀ e, E = some e → q_good e) : q_good (q_pr g E) := by
  intro i h0 h1
  have s := q_sg_good hg hE i h0 h1
  exact q_lp_good hg (q_sg_good hg hE) (by decide) (by decide) 40 _ i h0 s.1 s.2.1 s.2.2
theorem q_su_good {g : Int → Int} (hg : q_gb g) {E : Option (Int → q_Q)} (hE : ∀ e, E = some e → q_good e) : q_good (q_su g E) := by
  intro i h0 h1
  have s := q_pr_good hg hE i h0 h1
  exact q_lp_good hg (q_pr_good hg hE) (by decide) (by decide) 40 _ i h0 s.1 s.2.1 s.2.2
theorem q_he_good {g : Int → Int} (hg : q_gb g) {E : Option (Int → q_Q)} (hE : ∀ e, E = some e → q_good e) : q_good (q_he g E) := by
  intro i h0 h1
  have s := q_su_good hg hE i h0 h1
  unfold q_he
  by_cases c : (q_su g E i).1 = true ∧ (g (q_su g E i).2.1 = 60 ∨ g (q_su g E i).2.1 = 62 ∨ g (q_su g E i).2.1 = 61)
  · rw [if_pos c]
    have bb := hg (q_su g E i).2.1 (by rcases c.2 with z | z | z <;> rw [z] <;> decide)
    have s2 := q_su_good hg hE ((q_su g E i).2.1 + 1) (by omega) (by omega)
    have s3 := s.2.2 c.1
    refine ⟨?_, s2.2.1, fun z => ⟨?_, ?_⟩⟩
    · show i ≤ (q_su g E ((q_su g E i).2.1 + 1)).2.1; omega
    · show i < (q_su g E ((q_su g E i).2.1 + 1)).2.1; omega
    · have := s2.2.2 z
      show ((((q_su g E i).2.2 ++ (q_su g E ((q_su g E i).2.1 + 1)).2.2 ++ [2000 + g (q_su g E i).2.1]).length : Nat) : Int) ≤ (q_su g E ((q_su g E i).2.1 + 1)).2.1 - i
      rw [List.length_append, List.length_append]
      show ((((q_su g E i).2.2).length + ((q_su g E ((q_su g E i).2.1 + 1)).2.2).length + 1 : Nat) : Int) ≤ _
      omega
  · rw [if_neg c]; exact s
theorem q_ex_good {g : Int → Int} (hg : q_gb g) : ∀ D, q_good (q_ex g D)
  | 0 => q_he_good hg (fun e h => by cases h)
  | D + 1 => q_he_good hg (fun e h => by cases h; exact q_ex_good hg D)
theorem q_E_good {g : Int → Int} (hg : q_gb g) (d : Nat) : ∀ e, q_E g d = some e → q_good e := by
  intro e h
  unfold q_E at h
  by_cases c : 4 ≤ d
  · rw [if_pos c] at h; cases h
  · rw [if_neg c] at h; cases h; exact q_ex_good hg _
/-! the stack machine -/
def ev1 (env : Nat → Int) (c : Int) (S : List Int) : List Int := if c = 2126 then (match S with
    | x :: S => z_neg x :: S
    | [] => []) else if 2000 ≤ c then (match S with
    | y :: x :: S => q_op (c - 2000) x y :: S
    | S => S) else (if c < 1000 then c else if c - 1000 < 7 then env (c - 1000).toNat else 0) :: S
def ev (env : Nat → Int) : List Int → List Int → List Int
  | [], S => S
  | c :: cs, S => ev env cs (ev1 env c S)
theorem ev_app (env : Nat → Int) : ∀ (a b S : List Int), ev env (a ++ b) S = ev env b (ev env a S)
  | [], b, S => rfl
  | c :: a, b, S => ev_app env a b (ev1 env c S)
/-- the code makes this number -/
def evs (env : Nat → Int) (c : List Int) (v : Int) : Prop := ∀ S, ev env c S = v :: S
theorem evs_op {env : Nat → Int} {a b : List Int} {c v w : Int} (ha : evs env a v) (hb : evs env b w) (hc : 0 ≤ c) (hc2 : ¬ c = 126) : evs env (a ++ b ++ [2000 + c]) (q_op c v w) := by
  intro S
  rw [ev_app, ev_app, ha, hb]
  show ev1 env (2000 + c) (w :: v :: S) = _
  unfold ev1
  rw [if_neg (by omega), if_pos (by omega)]
  simp only
  rw [show 2000 + c - 2000 = c by omega]
theorem z_neg_b (x : Int) : -2147483648 ≤ z_neg x ∧ z_neg x ≤ 2147483647 := i32_rng _
theorem z_neg_neg {x : Int} (h1 : -2147483648 ≤ x) (h2 : x ≤ 2147483647) : z_neg (z_neg x) = x := by
  unfold z_neg
  rw [Int32.ofInt_toInt, Int32.neg_neg, zr_of h1 h2]
def q_ng : Nat → Int → Int
  | 0, v => v
  | n + 1, v => z_neg (q_ng n v)
theorem q_ng_b {v : Int} (h1 : -2147483648 ≤ v) (h2 : v ≤ 2147483647) : ∀ n, -2147483648 ≤ q_ng n v ∧ q_ng n v ≤ 2147483647
  | 0 => ⟨h1, h2⟩
  | n + 1 => z_neg_b _
theorem q_ng_2 {v : Int} (h1 : -2147483648 ≤ v) (h2 : v ≤ 2147483647) : ∀ n, q_ng n v = (if n % 2 = 1 then z_neg v else v)
  | 0 => rfl
  | 1 => rfl
  | n + 2 => by
    show z_neg (z_neg (q_ng n v)) = _
    have b := q_ng_b h1 h2 n
    rw [z_neg_neg b.1 b.2, q_ng_2 h1 h2 n, show (n + 2) % 2 = n % 2 by omega]
theorem evs_ng {env : Nat → Int} {a : List Int} {v : Int} (ha : evs env a v) (h1 : -2147483648 ≤ v) (h2 : v ≤ 2147483647) (n : Nat) : evs env (a ++ (if n % 2 = 1 then [2126] else [])) (q_ng n v) := by
  intro S
  rw [ev_app, ha, q_ng_2 h1 h2]
  by_cases c : n % 2 = 1
  · rw [if_pos c, if_pos c]; rfl
  · rw [if_neg c, if_neg c]; rfl
