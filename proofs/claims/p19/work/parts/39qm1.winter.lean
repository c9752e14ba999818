/-! WINTER as the text tells it, in plain numbers; as the class reads it -/
def w_b : Bool → Int
  | true => 1
  | false => 0
theorem w_ft {P : Prop} (h : false = true) : P := by cases h
theorem w_tf {P : Prop} (h : true = false) : P := by cases h
theorem w_b_if {m : z_M} {b : Bool} : (if w_b b = 0 then some (m, some (0, 0)) else some (m, some (0, 1)) : Option z_Q) = some (m, some (0, w_b b)) := by
  cases b with
  | true => exact if_neg (show ¬ (1 : Int) = 0 by decide)
  | false => exact if_pos rfl
/-- a ROOM at i: whether it can be read, where reading stands -/
def w_rm (g : Int → Int) (i : Int) : Bool × Int := if ¬ (97 ≤ g i ∧ g i ≤ 99) then (false, i) else if ¬ (1 ≤ u_dg (g (i + 1)) ∧ u_dg (g (i + 1)) ≤ 3) then (false, i + 1) else (true, i + 2)
section
variable {g : Int → Int} {i : Int}
theorem w_rm_1 (c1 : ¬ (97 ≤ g i ∧ g i ≤ 99)) : w_rm g i = (false, i) := by
  unfold w_rm
  rw [if_pos c1]
theorem w_rm_2 (c1 : 97 ≤ g i ∧ g i ≤ 99) (c2 : ¬ (1 ≤ u_dg (g (i + 1)) ∧ u_dg (g (i + 1)) ≤ 3)) : w_rm g i = (false, i + 1) := by
  unfold w_rm
  rw [if_neg (not_not_intro c1), if_pos c2]
theorem w_rm_3 (c1 : 97 ≤ g i ∧ g i ≤ 99) (c2 : 1 ≤ u_dg (g (i + 1)) ∧ u_dg (g (i + 1)) ≤ 3) : w_rm g i = (true, i + 2) := by
  unfold w_rm
  rw [if_neg (not_not_intro c1), if_neg (not_not_intro c2)]
theorem w_rm_b (hg : u_gb g) (h0 : 0 ≤ i) (h1 : i ≤ 80) : i ≤ (w_rm g i).2 ∧ (w_rm g i).2 ≤ 80 := by
  by_cases c1 : 97 ≤ g i ∧ g i ≤ 99
  · have b1 := hg i (by omega)
    by_cases c2 : 1 ≤ u_dg (g (i + 1)) ∧ u_dg (g (i + 1)) ≤ 3
    · have b2 := u_dg_b hg (i := i + 1) (by omega)
      rw [w_rm_3 c1 c2]
      show i ≤ i + 2 ∧ i + 2 ≤ 80
      omega
    · rw [w_rm_2 c1 c2]
      show i ≤ i + 1 ∧ i + 1 ≤ 80
      omega
  · rw [w_rm_1 c1]
    exact ⟨Int.le_refl _, h1⟩
/-- an ACT at i: whether it can be read, where reading stands, what, who, how much -/
def w_ac (g : Int → Int) (i : Int) : Bool × Int × Int × Int × Int := if g i = 104 then (if 1 ≤ u_dg (g (i + 1)) then (true, i + 2, 104, 0, u_dg (g (i + 1))) else (true, i + 1, 104, 0, 1)) else if g i = 102 then (if u_dg (g (i + 1)) = -1 then (false, i + 1, 102, 0, 0) else (true, i + 2, 102, 0, u_dg (g (i + 1)))) else if g i = 109 then (if u_dg (g (i + 1)) = -1 then (false, i + 1, 109, 0, 0) else ((w_rm g (i + 2)).1, (w_rm g (i + 2)).2, 109, u_dg (g (i + 1)), u_rm g (i + 2))) else if g i = 115 then (if g (i + 1) = 45 then (true, i + 2, 115, 0, -1) else ((w_rm g (i + 1)).1, (w_rm g (i + 1)).2, 115, 0, u_rm g (i + 1))) else (false, i, 0, 0, 0)
theorem w_ac_h1 (e : g i = 104) (d : 1 ≤ u_dg (g (i + 1))) : w_ac g i = (true, i + 2, 104, 0, u_dg (g (i + 1))) := by
  unfold w_ac
  rw [if_pos e, if_pos d]
theorem w_ac_h0 (e : g i = 104) (d : ¬ 1 ≤ u_dg (g (i + 1))) : w_ac g i = (true, i + 1, 104, 0, 1) := by
  unfold w_ac
  rw [if_pos e, if_neg d]
theorem w_ac_f0 (e : g i = 102) (d : u_dg (g (i + 1)) = -1) : w_ac g i = (false, i + 1, 102, 0, 0) := by
  unfold w_ac
  rw [if_neg (show ¬ g i = 104 by omega), if_pos e, if_pos d]
theorem w_ac_f1 (e : g i = 102) (d : ¬ u_dg (g (i + 1)) = -1) : w_ac g i = (true, i + 2, 102, 0, u_dg (g (i + 1))) := by
  unfold w_ac
  rw [if_neg (show ¬ g i = 104 by omega), if_pos e, if_neg d]
theorem w_ac_m0 (e : g i = 109) (d : u_dg (g (i + 1)) = -1) : w_ac g i = (false, i + 1, 109, 0, 0) := by
  unfold w_ac
  rw [if_neg (show ¬ g i = 104 by omega), if_neg (show ¬ g i = 102 by omega), if_pos e, if_pos d]
theorem w_ac_m1 (e : g i = 109) (d : ¬ u_dg (g (i + 1)) = -1) : w_ac g i = ((w_rm g (i + 2)).1, (w_rm g (i + 2)).2, 109, u_dg (g (i + 1)), u_rm g (i + 2)) := by
  unfold w_ac
  rw [if_neg (show ¬ g i = 104 by omega), if_neg (show ¬ g i = 102 by omega), if_pos e, if_neg d]
theorem w_ac_s1 (e : g i = 115) (d : g (i + 1) = 45) : w_ac g i = (true, i + 2, 115, 0, -1) := by
  unfold w_ac
  rw [if_neg (show ¬ g i = 104 by omega), if_neg (show ¬ g i = 102 by omega), if_neg (show ¬ g i = 109 by omega), if_pos e, if_pos d]
theorem w_ac_s0 (e : g i = 115) (d : ¬ g (i + 1) = 45) : w_ac g i = ((w_rm g (i + 1)).1, (w_rm g (i + 1)).2, 115, 0, u_rm g (i + 1)) := by
  unfold w_ac
  rw [if_neg (show ¬ g i = 104 by omega), if_neg (show ¬ g i = 102 by omega), if_neg (show ¬ g i = 109 by omega), if_pos e, if_neg d]
theorem w_ac_n (e : ¬ (g i = 104 ∨ g i = 102 ∨ g i = 109 ∨ g i = 115)) : w_ac g i = (false, i, 0, 0, 0) := by
  unfold w_ac
  rw [if_neg (fun z => e (Or.inl z)), if_neg (fun z => e (Or.inr (Or.inl z))), if_neg (fun z => e (Or.inr (Or.inr (Or.inl z)))), if_neg (fun z => e (Or.inr (Or.inr (Or.inr z))))]
/-- what an ACT can be -/
def w_av (a : Int × Int × Int) : Prop := (a.1 = 104 ∧ 1 ≤ a.2.2 ∧ a.2.2 ≤ 9) ∨ (a.1 = 102 ∧ 0 ≤ a.2.2 ∧ a.2.2 ≤ 9) ∨ (a.1 = 109 ∧ 0 ≤ a.2.1 ∧ a.2.1 ≤ 9) ∨ a.1 = 115
theorem w_ac_b (hg : u_gb g) (h0 : 0 ≤ i) (h1 : i ≤ 80) : (i ≤ (w_ac g i).2.1 ∧ (w_ac g i).2.1 ≤ 80) ∧ ((w_ac g i).1 = true → i + 1 ≤ (w_ac g i).2.1 ∧ w_av (w_ac g i).2.2) := by
  have d1 := u_dg_rng (g (i + 1))
  by_cases e1 : g i = 104
  · have b1 := hg i (by omega)
    by_cases d : 1 ≤ u_dg (g (i + 1))
    · have b2 := u_dg_b hg (i := i + 1) (by omega)
      rw [w_ac_h1 e1 d]
      exact ⟨⟨show i ≤ i + 2 by omega, show i + 2 ≤ 80 by omega⟩, fun _ => ⟨show i + 1 ≤ i + 2 by omega, Or.inl ⟨rfl, d, d1.2⟩⟩⟩
    · rw [w_ac_h0 e1 d]
      exact ⟨⟨show i ≤ i + 1 by omega, show i + 1 ≤ 80 by omega⟩, fun _ => ⟨Int.le_refl _, Or.inl ⟨rfl, (show (1 : Int) ≤ 1 by decide), (show (1 : Int) ≤ 9 by decide)⟩⟩⟩
  by_cases e2 : g i = 102
  · have b1 := hg i (by omega)
    by_cases d : u_dg (g (i + 1)) = -1
    · rw [w_ac_f0 e2 d]
      exact ⟨⟨show i ≤ i + 1 by omega, show i + 1 ≤ 80 by omega⟩, fun z => w_ft z⟩
    · have b2 := u_dg_b hg d
      rw [w_ac_f1 e2 d]
      exact ⟨⟨show i ≤ i + 2 by omega, show i + 2 ≤ 80 by omega⟩, fun _ => ⟨show i + 1 ≤ i + 2 by omega, Or.inr (Or.inl ⟨rfl, show 0 ≤ u_dg (g (i + 1)) by omega, d1.2⟩)⟩⟩
  by_cases e3 : g i = 109
  · have b1 := hg i (by omega)
    by_cases d : u_dg (g (i + 1)) = -1
    · rw [w_ac_m0 e3 d]
      exact ⟨⟨show i ≤ i + 1 by omega, show i + 1 ≤ 80 by omega⟩, fun z => w_ft z⟩
    · have b2 := u_dg_b hg d
      have b3 := w_rm_b hg (i := i + 2) (by omega) (by omega)
      rw [w_ac_m1 e3 d]
      exact ⟨⟨show i ≤ (w_rm g (i + 2)).2 by omega, b3.2⟩, fun _ => ⟨show i + 1 ≤ (w_rm g (i + 2)).2 by omega, Or.inr (Or.inr (Or.inl ⟨rfl, show 0 ≤ u_dg (g (i + 1)) by omega, d1.2⟩))⟩⟩
  by_cases e4 : g i = 115
  · have b1 := hg i (by omega)
    by_cases d : g (i + 1) = 45
    · have b2 := hg (i + 1) (by omega)
      rw [w_ac_s1 e4 d]
      exact ⟨⟨show i ≤ i + 2 by omega, show i + 2 ≤ 80 by omega⟩, fun _ => ⟨show i + 1 ≤ i + 2 by omega, Or.inr (Or.inr (Or.inr rfl))⟩⟩
    · have b3 := w_rm_b hg (i := i + 1) (by omega) (by omega)
      rw [w_ac_s0 e4 d]
      exact ⟨⟨show i ≤ (w_rm g (i + 1)).2 by omega, b3.2⟩, fun _ => ⟨b3.1, Or.inr (Or.inr (Or.inr rfl))⟩⟩
  rw [w_ac_n (by omega)]
  exact ⟨⟨Int.le_refl _, h1⟩, fun z => w_ft z⟩
/-- ACTS from i on: whether they can be read, where reading stands, the acts -/
def w_ls (g : Int → Int) (N : Int) : Nat → Int → Bool × Int × List (Int × Int × Int)
  | 0, i => (false, i, [])
  | f + 1, i => if (w_ac g i).1 = false then (false, (w_ac g i).2.1, []) else if N ≤ (w_ac g i).2.1 then (true, (w_ac g i).2.1, [(w_ac g i).2.2]) else if g (w_ac g i).2.1 = 59 then ((w_ls g N f ((w_ac g i).2.1 + 1)).1, (w_ls g N f ((w_ac g i).2.1 + 1)).2.1, (w_ac g i).2.2 :: (w_ls g N f ((w_ac g i).2.1 + 1)).2.2) else (false, (w_ac g i).2.1, [])
theorem w_ls_s {N : Int} {f : Nat} : w_ls g N (f + 1) i = if (w_ac g i).1 = false then (false, (w_ac g i).2.1, []) else if N ≤ (w_ac g i).2.1 then (true, (w_ac g i).2.1, [(w_ac g i).2.2]) else if g (w_ac g i).2.1 = 59 then ((w_ls g N f ((w_ac g i).2.1 + 1)).1, (w_ls g N f ((w_ac g i).2.1 + 1)).2.1, (w_ac g i).2.2 :: (w_ls g N f ((w_ac g i).2.1 + 1)).2.2) else (false, (w_ac g i).2.1, []) := rfl
theorem w_ls_1 {N : Int} {f : Nat} {j : Int} {a : Int × Int × Int} (h : w_ac g i = (false, j, a)) : w_ls g N (f + 1) i = (false, j, []) := by
  rw [w_ls_s, h]
  exact if_pos rfl
theorem w_ls_2 {N : Int} {f : Nat} {j : Int} {a : Int × Int × Int} (h : w_ac g i = (true, j, a)) (c : N ≤ j) : w_ls g N (f + 1) i = (true, j, [a]) := by
  rw [w_ls_s, h]
  exact (if_neg (fun z => w_tf z)).trans (if_pos c)
theorem w_ls_3 {N : Int} {f : Nat} {j : Int} {a : Int × Int × Int} (h : w_ac g i = (true, j, a)) (c : ¬ N ≤ j) (d : g j = 59) : w_ls g N (f + 1) i = ((w_ls g N f (j + 1)).1, (w_ls g N f (j + 1)).2.1, a :: (w_ls g N f (j + 1)).2.2) := by
  rw [w_ls_s, h]
  exact (if_neg (fun z => w_tf z)).trans ((if_neg c).trans (if_pos d))
theorem w_ls_4 {N : Int} {f : Nat} {j : Int} {a : Int × Int × Int} (h : w_ac g i = (true, j, a)) (c : ¬ N ≤ j) (d : ¬ g j = 59) : w_ls g N (f + 1) i = (false, j, []) := by
  rw [w_ls_s, h]
  exact (if_neg (fun z => w_tf z)).trans ((if_neg c).trans (if_neg d))
end
theorem w_ls_b {g : Int → Int} (hg : u_gb g) {N : Int} : ∀ (f : Nat) (i : Int), 0 ≤ i → i ≤ 80 → (0 ≤ (w_ls g N f i).2.1 ∧ (w_ls g N f i).2.1 ≤ 80) ∧ (∀ a ∈ (w_ls g N f i).2.2, w_av a) ∧ (w_ls g N f i).2.2.length ≤ f := by
  intro f
  induction f with
  | zero => intro i h0 h1; exact ⟨⟨h0, h1⟩, fun a ha => absurd ha List.not_mem_nil, Nat.le_refl _⟩
  | succ f ih =>
    intro i h0 h1
    have b := w_ac_b hg h0 h1
    rcases hA : w_ac g i with ⟨k, j, a⟩
    rw [hA] at b
    obtain ⟨⟨b1, b2⟩, b3⟩ := b
    have b1 : i ≤ j := b1
    have b2 : j ≤ 80 := b2
    cases k with
    | false =>
      rw [w_ls_1 hA]
      exact ⟨⟨by show 0 ≤ j; omega, b2⟩, fun a ha => absurd ha List.not_mem_nil, Nat.zero_le _⟩
    | true =>
      obtain ⟨b4, b5⟩ := b3 rfl
      by_cases c : N ≤ j
      · rw [w_ls_2 hA c]
        exact ⟨⟨by show 0 ≤ j; omega, b2⟩, fun x hx => by rw [List.mem_singleton.mp hx]; exact b5, Nat.succ_le_succ (Nat.zero_le _)⟩
      by_cases d : g j = 59
      · rw [w_ls_3 hA c d]
        have b6 := hg j (by omega)
        obtain ⟨i1, i2, i3⟩ := ih (j + 1) (by omega) (by omega)
        refine ⟨i1, fun x hx => ?_, Nat.succ_le_succ i3⟩
        rcases List.mem_cons.mp hx with e | e
        · rw [e]; exact b5
        · exact i2 x e
      · rw [w_ls_4 hA c d]
        exact ⟨⟨by show 0 ≤ j; omega, b2⟩, fun a ha => absurd ha List.not_mem_nil, Nat.zero_le _⟩
/-- A WINTER -/
def w_rd (g : Int → Int) (N : Int) : Bool × Int × List (Int × Int × Int) := if N ≤ 0 then (true, 0, []) else w_ls g N 30 0
/-! where the class stands in its text -/
def w_T (g : Int → Int) (N i : Int) (m : z_M) : Prop := u_g m = g ∧ m 1 2 = i ∧ m 1 1 = N
section
variable {g : Int → Int} {N i : Int} {m : z_M}
theorem w_T_at {j : Int} (h : w_T g N i m) : w_T g N j (z_up m 1 2 j) := ⟨u_g_at.trans h.1, zu_self, (zu_k (by decide)).trans h.2.2⟩
theorem w_T_up {p k : Nat} {v : Int} (h : w_T g N i m) (h1 : ¬ 1 = p) (h2 : ¬ 2 = p) : w_T g N i (z_up m p k v) := ⟨(u_g_eq (zu_rowne h2) (zu_p h1) (zu_p h1)).trans h.1, (zu_p h1).trans h.2.1, (zu_p h1).trans h.2.2⟩
theorem w_nx (h : w_T g N i m) (h0 : 0 ≤ i) (hN : N ≤ 80) : z_R 24 (m, 0, [(2, 1)], []) = some (m, some (0, g i)) := by
  obtain ⟨rfl, rfl, rfl⟩ := h
  exact c_next m h0 hN
theorem w_nd (h : w_T g N i m) (h0 : 0 ≤ i) (hN : N ≤ 80) : z_R 23 (m, 0, [(2, 1)], []) = some (m, some (0, u_dg (g i))) := by
  obtain ⟨rfl, rfl, rfl⟩ := h
  exact c_nd m h0 hN
theorem w_s1 (h : w_T g N i m) (h0 : 0 ≤ i) (h1 : i ≤ 90) : z_R 26 (m, 0, [(2, 1), (0, 1)], []) = some (z_up m 1 2 (i + 1), some (0, 1)) := by
  obtain ⟨rfl, rfl, rfl⟩ := h
  exact c_step1 m h0 (by omega)
theorem w_ovr (h : w_T g N i m) (h0 : 0 ≤ i) (h1 : i ≤ 90) (hN : N ≤ 80) (c : Int) : z_R 27 (m, 0, [(2, 1), (0, c)], []) = if g i = c then some (z_up m 1 2 (i + 1), some (0, 1)) else some (m, some (0, 0)) := by
  obtain ⟨rfl, rfl, rfl⟩ := h
  exact c_over m c h0 hN (by omega)
theorem w_en (h : w_T g N i m) : z_R 28 (m, 0, [(2, 1)], []) = if i < N then some (m, some (0, 0)) else some (m, some (0, 1)) := by
  obtain ⟨-, rfl, rfl⟩ := h
  exact s_ended_0 m
theorem w_place {k : Nat} (hk : k ≤ 29) (hN : N ≤ 80) (hr : u_gr g) (hg : u_gb g) (h0 : 0 ≤ i) (h1 : i ≤ 80) (h : w_T g N i m) : ∃ m', z_R 85 (m, 0, [(2, 118), (0, (k : Int)), (9, 0), (9, 0)], []) = some (m', some (0, w_b (w_rm g i).1)) ∧ w_T g N (w_rm g i).2 m' ∧ ((w_rm g i).1 = true → m' 121 k = u_rm g i) ∧ z_same [(1, 2, 2), (121, k, k)] m m' := by
  have g0 := hr i
  have d1 := u_dg_rng (g (i + 1))
  rw [w_pl_0 m k ⟨by omega, by omega⟩, w_nx h h0 hN, zb_v, w_pl_7 m k _ g0]
  by_cases c1 : 97 ≤ g i ∧ g i ≤ 99
  · have b1 := hg i (by omega)
    have t1 := w_T_at (j := i + 1) h
    have s1 : z_same [(1, 2, 2), (121, k, k)] m (z_up m 1 2 (i + 1)) := z_same.rf.upo (by (try unfold w_LA); (try unfold w_LK); (try unfold w_L0); first | exact z_on_h rfl (by omega) (by omega) | exact z_on_t (z_on_h rfl (by omega) (by omega)) | exact z_on_t (z_on_t (z_on_h rfl (by omega) (by omega))) | exact z_on_t (z_on_t (z_on_t (z_on_h rfl (by omega) (by omega)))) | exact z_on_t (z_on_t (z_on_t (z_on_t (z_on_h rfl (by omega) (by omega))))) | exact z_on_t (z_on_t (z_on_t (z_on_t (z_on_t (z_on_h rfl (by omega) (by omega)))))) | exact z_on_t (z_on_t (z_on_t (z_on_t (z_on_t (z_on_t (z_on_h rfl (by omega) (by omega))))))) | exact z_on_t (z_on_t (z_on_t (z_on_t (z_on_t (z_on_t (z_on_t (z_on_h rfl (by omega) (by omega)))))))) | exact z_on_t (z_on_t (z_on_t (z_on_t (z_on_t (z_on_t (z_on_t (z_on_t (z_on_h rfl (by omega) (by omega))))))))) | exact z_on_t (z_on_t (z_on_t (z_on_t (z_on_t (z_on_t (z_on_t (z_on_t (z_on_t (z_on_h rfl (by omega) (by omega)))))))))) | exact z_on_t (z_on_t (z_on_t (z_on_t (z_on_t (z_on_t (z_on_t (z_on_t (z_on_t (z_on_t (z_on_h rfl (by omega) (by omega))))))))))) | exact z_on_t (z_on_t (z_on_t (z_on_t (z_on_t (z_on_t (z_on_t (z_on_t (z_on_t (z_on_t (z_on_t (z_on_h rfl (by omega) (by omega)))))))))))) | exact z_on_t (z_on_t (z_on_t (z_on_t (z_on_t (z_on_t (z_on_t (z_on_t (z_on_t (z_on_t (z_on_t (z_on_t (z_on_h rfl (by omega) (by omega))))))))))))))
    rw [if_neg (show ¬ g i - 97 < 0 by omega), if_neg (show ¬ 3 ≤ g i - 97 by omega), w_s1 h h0 (by omega), zb_v, w_pl_32, if_neg (show ¬ (1 : Int) = 0 by decide)]
    generalize z_up m 1 2 (i + 1) = m1 at t1 s1 ⊢
    have t2 := w_T_up (p := 121) (k := k) (v := 3 * u_dg (g (i + 1)) + (g i - 97) - 3) t1 (by decide) (by decide)
    have s2 : z_same [(1, 2, 2), (121, k, k)] m (z_up m1 121 k (3 * u_dg (g (i + 1)) + (g i - 97) - 3)) := s1.upo (by (try unfold w_LA); (try unfold w_LK); (try unfold w_L0); first | exact z_on_h rfl (by omega) (by omega) | exact z_on_t (z_on_h rfl (by omega) (by omega)) | exact z_on_t (z_on_t (z_on_h rfl (by omega) (by omega))) | exact z_on_t (z_on_t (z_on_t (z_on_h rfl (by omega) (by omega)))) | exact z_on_t (z_on_t (z_on_t (z_on_t (z_on_h rfl (by omega) (by omega))))) | exact z_on_t (z_on_t (z_on_t (z_on_t (z_on_t (z_on_h rfl (by omega) (by omega)))))) | exact z_on_t (z_on_t (z_on_t (z_on_t (z_on_t (z_on_t (z_on_h rfl (by omega) (by omega))))))) | exact z_on_t (z_on_t (z_on_t (z_on_t (z_on_t (z_on_t (z_on_t (z_on_h rfl (by omega) (by omega)))))))) | exact z_on_t (z_on_t (z_on_t (z_on_t (z_on_t (z_on_t (z_on_t (z_on_t (z_on_h rfl (by omega) (by omega))))))))) | exact z_on_t (z_on_t (z_on_t (z_on_t (z_on_t (z_on_t (z_on_t (z_on_t (z_on_t (z_on_h rfl (by omega) (by omega)))))))))) | exact z_on_t (z_on_t (z_on_t (z_on_t (z_on_t (z_on_t (z_on_t (z_on_t (z_on_t (z_on_t (z_on_h rfl (by omega) (by omega))))))))))) | exact z_on_t (z_on_t (z_on_t (z_on_t (z_on_t (z_on_t (z_on_t (z_on_t (z_on_t (z_on_t (z_on_t (z_on_h rfl (by omega) (by omega)))))))))))) | exact z_on_t (z_on_t (z_on_t (z_on_t (z_on_t (z_on_t (z_on_t (z_on_t (z_on_t (z_on_t (z_on_t (z_on_t (z_on_h rfl (by omega) (by omega))))))))))))))
    have e5 : (z_up m1 121 k (3 * u_dg (g (i + 1)) + (g i - 97) - 3)) 121 k = u_rm g i := by
      rw [zu_self]
      unfold u_rm
      omega
    rw [w_nd t1 (by omega) hN, zb_v, w_pl_44 m1 k _ _ ⟨by omega, by omega⟩ ⟨by omega, by omega⟩ ⟨by omega, by omega⟩, Int.toNat_natCast]
    generalize z_up m1 121 k (3 * u_dg (g (i + 1)) + (g i - 97) - 3) = m2 at t2 s2 e5 ⊢
    by_cases c2 : 1 ≤ u_dg (g (i + 1)) ∧ u_dg (g (i + 1)) ≤ 3
    · have t3 : w_T g N (i + 2) (z_up m2 1 2 (i + 1 + 1)) := by
        rw [show i + 1 + 1 = i + 2 by omega]
        exact w_T_at t2
      rw [if_neg (show ¬ u_dg (g (i + 1)) - 1 < 0 by omega), if_neg (show ¬ 3 ≤ u_dg (g (i + 1)) - 1 by omega), w_s1 t2 (by omega) (by omega), zb_v, w_pl_79, w_rm_3 c1 c2]
      exact ⟨_, rfl, t3, fun _ => (zu_p (by decide)).trans e5, s2.upo (by (try unfold w_LA); (try unfold w_LK); (try unfold w_L0); first | exact z_on_h rfl (by omega) (by omega) | exact z_on_t (z_on_h rfl (by omega) (by omega)) | exact z_on_t (z_on_t (z_on_h rfl (by omega) (by omega))) | exact z_on_t (z_on_t (z_on_t (z_on_h rfl (by omega) (by omega)))) | exact z_on_t (z_on_t (z_on_t (z_on_t (z_on_h rfl (by omega) (by omega))))) | exact z_on_t (z_on_t (z_on_t (z_on_t (z_on_t (z_on_h rfl (by omega) (by omega)))))) | exact z_on_t (z_on_t (z_on_t (z_on_t (z_on_t (z_on_t (z_on_h rfl (by omega) (by omega))))))) | exact z_on_t (z_on_t (z_on_t (z_on_t (z_on_t (z_on_t (z_on_t (z_on_h rfl (by omega) (by omega)))))))) | exact z_on_t (z_on_t (z_on_t (z_on_t (z_on_t (z_on_t (z_on_t (z_on_t (z_on_h rfl (by omega) (by omega))))))))) | exact z_on_t (z_on_t (z_on_t (z_on_t (z_on_t (z_on_t (z_on_t (z_on_t (z_on_t (z_on_h rfl (by omega) (by omega)))))))))) | exact z_on_t (z_on_t (z_on_t (z_on_t (z_on_t (z_on_t (z_on_t (z_on_t (z_on_t (z_on_t (z_on_h rfl (by omega) (by omega))))))))))) | exact z_on_t (z_on_t (z_on_t (z_on_t (z_on_t (z_on_t (z_on_t (z_on_t (z_on_t (z_on_t (z_on_t (z_on_h rfl (by omega) (by omega)))))))))))) | exact z_on_t (z_on_t (z_on_t (z_on_t (z_on_t (z_on_t (z_on_t (z_on_t (z_on_t (z_on_t (z_on_t (z_on_t (z_on_h rfl (by omega) (by omega))))))))))))))⟩
    · by_cases c3 : u_dg (g (i + 1)) - 1 < 0
      · rw [if_pos c3, c_step0, zb_v, w_pl_79, w_rm_2 c1 c2]
        exact ⟨_, rfl, t2, fun z => w_ft z, s2⟩
      · rw [if_neg c3, if_pos (show 3 ≤ u_dg (g (i + 1)) - 1 by omega), c_step0, zb_v, w_pl_79, w_rm_2 c1 c2]
        exact ⟨_, rfl, t2, fun z => w_ft z, s2⟩
  · by_cases c3 : g i - 97 < 0
    · rw [if_pos c3, c_step0, zb_v, w_pl_32, if_pos rfl, w_rm_1 c1]
      exact ⟨_, rfl, h, fun z => w_ft z, z_same.rf⟩
    · rw [if_neg c3, if_pos (show 3 ≤ g i - 97 by omega), c_step0, zb_v, w_pl_32, if_pos rfl, w_rm_1 c1]
      exact ⟨_, rfl, h, fun z => w_ft z, z_same.rf⟩
/-- an act that the class holds -/
def w_c1 (m : z_M) (k : Nat) (a : Int × Int × Int) : Prop := m 119 k = a.1 ∧ (a.1 = 109 → m 120 k = a.2.1) ∧ m 121 k = a.2.2
abbrev w_LA (k : Nat) : List (Nat × Nat × Nat) := [(1, 2, 2), (119, k, k), (120, k, k), (121, k, k)]
theorem w_act_in {k : Nat} (hk : k ≤ 29) (hN : N ≤ 80) (h0 : 0 ≤ i) (h1 : i ≤ 80) (h : w_T g N i m) (e : g i = 104 ∨ g i = 102 ∨ g i = 109 ∨ g i = 115) : z_R 84 (m, 0, [(2, 118), (0, (k : Int)), (9, 0)], []) = z_R 84 (z_up m 1 2 (i + 1), 56, [(2, 118), (0, (k : Int)), (0, g i)], [(0, 1)]) := by
  rw [w_act_0 m k ⟨by omega, by omega⟩, w_nx h h0 hN, zb_v, w_act_19]
  rcases e with e | e | e | e
  · rw [if_pos e, w_s1 h h0 (by omega), zb_v]
  · rw [if_neg (show ¬ g i = 104 by omega), if_neg (show ¬ g i = 109 by omega), if_neg (show ¬ g i = 115 by omega), if_pos e, w_s1 h h0 (by omega), zb_v]
  · rw [if_neg (show ¬ g i = 104 by omega), if_pos e, w_s1 h h0 (by omega), zb_v]
  · rw [if_neg (show ¬ g i = 104 by omega), if_neg (show ¬ g i = 109 by omega), if_pos e, w_s1 h h0 (by omega), zb_v]
theorem w_actc {k : Nat} (hk : k ≤ 29) (hN : N ≤ 80) (hr : u_gr g) (hg : u_gb g) (h0 : 0 ≤ i) (h1 : i ≤ 80) (h : w_T g N i m) : ∃ m', z_R 84 (m, 0, [(2, 118), (0, (k : Int)), (9, 0)], []) = some (m', some (0, w_b (w_ac g i).1)) ∧ w_T g N (w_ac g i).2.1 m' ∧ ((w_ac g i).1 = true → w_c1 m' k (w_ac g i).2.2) ∧ z_same (w_LA k) m m' := by
  by_cases e : g i = 104 ∨ g i = 102 ∨ g i = 109 ∨ g i = 115
  · have b1 := hg i (by omega)
    have d1 := u_dg_rng (g (i + 1))
    have t1 := w_T_at (j := i + 1) h
    have s1 : z_same (w_LA k) m (z_up m 1 2 (i + 1)) := z_same.rf.upo (by (try unfold w_LA); (try unfold w_LK); (try unfold w_L0); first | exact z_on_h rfl (by omega) (by omega) | exact z_on_t (z_on_h rfl (by omega) (by omega)) | exact z_on_t (z_on_t (z_on_h rfl (by omega) (by omega))) | exact z_on_t (z_on_t (z_on_t (z_on_h rfl (by omega) (by omega)))) | exact z_on_t (z_on_t (z_on_t (z_on_t (z_on_h rfl (by omega) (by omega))))) | exact z_on_t (z_on_t (z_on_t (z_on_t (z_on_t (z_on_h rfl (by omega) (by omega)))))) | exact z_on_t (z_on_t (z_on_t (z_on_t (z_on_t (z_on_t (z_on_h rfl (by omega) (by omega))))))) | exact z_on_t (z_on_t (z_on_t (z_on_t (z_on_t (z_on_t (z_on_t (z_on_h rfl (by omega) (by omega)))))))) | exact z_on_t (z_on_t (z_on_t (z_on_t (z_on_t (z_on_t (z_on_t (z_on_t (z_on_h rfl (by omega) (by omega))))))))) | exact z_on_t (z_on_t (z_on_t (z_on_t (z_on_t (z_on_t (z_on_t (z_on_t (z_on_t (z_on_h rfl (by omega) (by omega)))))))))) | exact z_on_t (z_on_t (z_on_t (z_on_t (z_on_t (z_on_t (z_on_t (z_on_t (z_on_t (z_on_t (z_on_h rfl (by omega) (by omega))))))))))) | exact z_on_t (z_on_t (z_on_t (z_on_t (z_on_t (z_on_t (z_on_t (z_on_t (z_on_t (z_on_t (z_on_t (z_on_h rfl (by omega) (by omega)))))))))))) | exact z_on_t (z_on_t (z_on_t (z_on_t (z_on_t (z_on_t (z_on_t (z_on_t (z_on_t (z_on_t (z_on_t (z_on_t (z_on_h rfl (by omega) (by omega))))))))))))))
    rw [w_act_in hk hN h0 h1 h e]
    generalize z_up m 1 2 (i + 1) = m1 at t1 s1 ⊢
    have t2 := w_T_up (p := 119) (k := k) (v := g i) t1 (by decide) (by decide)
    have s2 : z_same (w_LA k) m (z_up m1 119 k (g i)) := s1.upo (by (try unfold w_LA); (try unfold w_LK); (try unfold w_L0); first | exact z_on_h rfl (by omega) (by omega) | exact z_on_t (z_on_h rfl (by omega) (by omega)) | exact z_on_t (z_on_t (z_on_h rfl (by omega) (by omega))) | exact z_on_t (z_on_t (z_on_t (z_on_h rfl (by omega) (by omega)))) | exact z_on_t (z_on_t (z_on_t (z_on_t (z_on_h rfl (by omega) (by omega))))) | exact z_on_t (z_on_t (z_on_t (z_on_t (z_on_t (z_on_h rfl (by omega) (by omega)))))) | exact z_on_t (z_on_t (z_on_t (z_on_t (z_on_t (z_on_t (z_on_h rfl (by omega) (by omega))))))) | exact z_on_t (z_on_t (z_on_t (z_on_t (z_on_t (z_on_t (z_on_t (z_on_h rfl (by omega) (by omega)))))))) | exact z_on_t (z_on_t (z_on_t (z_on_t (z_on_t (z_on_t (z_on_t (z_on_t (z_on_h rfl (by omega) (by omega))))))))) | exact z_on_t (z_on_t (z_on_t (z_on_t (z_on_t (z_on_t (z_on_t (z_on_t (z_on_t (z_on_h rfl (by omega) (by omega)))))))))) | exact z_on_t (z_on_t (z_on_t (z_on_t (z_on_t (z_on_t (z_on_t (z_on_t (z_on_t (z_on_t (z_on_h rfl (by omega) (by omega))))))))))) | exact z_on_t (z_on_t (z_on_t (z_on_t (z_on_t (z_on_t (z_on_t (z_on_t (z_on_t (z_on_t (z_on_t (z_on_h rfl (by omega) (by omega)))))))))))) | exact z_on_t (z_on_t (z_on_t (z_on_t (z_on_t (z_on_t (z_on_t (z_on_t (z_on_t (z_on_t (z_on_t (z_on_t (z_on_h rfl (by omega) (by omega))))))))))))))
    have f2 : (z_up m1 119 k (g i)) 119 k = g i := zu_self
    rw [w_act_56 m1 k _ _ ⟨by omega, by omega⟩, if_neg (show ¬ (1 : Int) = 0 by decide), Int.toNat_natCast]
    generalize z_up m1 119 k (g i) = m2 at t2 s2 f2 ⊢
    by_cases e2 : g i = 102
    · have t3 := w_T_up (p := 121) (k := k) (v := u_dg (g (i + 1))) t2 (by decide) (by decide)
      have s3 : z_same (w_LA k) m (z_up m2 121 k (u_dg (g (i + 1)))) := s2.upo (by (try unfold w_LA); (try unfold w_LK); (try unfold w_L0); first | exact z_on_h rfl (by omega) (by omega) | exact z_on_t (z_on_h rfl (by omega) (by omega)) | exact z_on_t (z_on_t (z_on_h rfl (by omega) (by omega))) | exact z_on_t (z_on_t (z_on_t (z_on_h rfl (by omega) (by omega)))) | exact z_on_t (z_on_t (z_on_t (z_on_t (z_on_h rfl (by omega) (by omega))))) | exact z_on_t (z_on_t (z_on_t (z_on_t (z_on_t (z_on_h rfl (by omega) (by omega)))))) | exact z_on_t (z_on_t (z_on_t (z_on_t (z_on_t (z_on_t (z_on_h rfl (by omega) (by omega))))))) | exact z_on_t (z_on_t (z_on_t (z_on_t (z_on_t (z_on_t (z_on_t (z_on_h rfl (by omega) (by omega)))))))) | exact z_on_t (z_on_t (z_on_t (z_on_t (z_on_t (z_on_t (z_on_t (z_on_t (z_on_h rfl (by omega) (by omega))))))))) | exact z_on_t (z_on_t (z_on_t (z_on_t (z_on_t (z_on_t (z_on_t (z_on_t (z_on_t (z_on_h rfl (by omega) (by omega)))))))))) | exact z_on_t (z_on_t (z_on_t (z_on_t (z_on_t (z_on_t (z_on_t (z_on_t (z_on_t (z_on_t (z_on_h rfl (by omega) (by omega))))))))))) | exact z_on_t (z_on_t (z_on_t (z_on_t (z_on_t (z_on_t (z_on_t (z_on_t (z_on_t (z_on_t (z_on_t (z_on_h rfl (by omega) (by omega)))))))))))) | exact z_on_t (z_on_t (z_on_t (z_on_t (z_on_t (z_on_t (z_on_t (z_on_t (z_on_t (z_on_t (z_on_t (z_on_t (z_on_h rfl (by omega) (by omega))))))))))))))
      have f3 : (z_up m2 121 k (u_dg (g (i + 1)))) 119 k = g i := (zu_p (by decide)).trans f2
      have f4 : (z_up m2 121 k (u_dg (g (i + 1)))) 121 k = u_dg (g (i + 1)) := zu_self
      rw [if_pos e2.symm, w_nd t2 (by omega) hN, zb_v, w_act_159 m2 k _ k _ ⟨by omega, by omega⟩ ⟨by omega, by omega⟩, Int.toNat_natCast, f4]
      generalize z_up m2 121 k (u_dg (g (i + 1))) = m3 at t3 s3 f3 f4 ⊢
      by_cases d : u_dg (g (i + 1)) = -1
      · rw [if_pos d, c_step0, zb_v, w_act_182, w_ac_f0 e2 d]
        exact ⟨_, rfl, t3, fun z => w_ft z, s3⟩
      · have t4 : w_T g N (i + 2) (z_up m3 1 2 (i + 1 + 1)) := by
          rw [show i + 1 + 1 = i + 2 by omega]
          exact w_T_at t3
        rw [if_neg d, w_s1 t3 (by omega) (by omega), zb_v, w_act_182, w_ac_f1 e2 d]
        exact ⟨_, rfl, t4, fun _ => ⟨((zu_p (by decide)).trans f3).trans e2, fun z => absurd (show (102 : Int) = 109 from z) (by decide), (zu_p (by decide)).trans f4⟩, s3.upo (by (try unfold w_LA); (try unfold w_LK); (try unfold w_L0); first | exact z_on_h rfl (by omega) (by omega) | exact z_on_t (z_on_h rfl (by omega) (by omega)) | exact z_on_t (z_on_t (z_on_h rfl (by omega) (by omega))) | exact z_on_t (z_on_t (z_on_t (z_on_h rfl (by omega) (by omega)))) | exact z_on_t (z_on_t (z_on_t (z_on_t (z_on_h rfl (by omega) (by omega))))) | exact z_on_t (z_on_t (z_on_t (z_on_t (z_on_t (z_on_h rfl (by omega) (by omega)))))) | exact z_on_t (z_on_t (z_on_t (z_on_t (z_on_t (z_on_t (z_on_h rfl (by omega) (by omega))))))) | exact z_on_t (z_on_t (z_on_t (z_on_t (z_on_t (z_on_t (z_on_t (z_on_h rfl (by omega) (by omega)))))))) | exact z_on_t (z_on_t (z_on_t (z_on_t (z_on_t (z_on_t (z_on_t (z_on_t (z_on_h rfl (by omega) (by omega))))))))) | exact z_on_t (z_on_t (z_on_t (z_on_t (z_on_t (z_on_t (z_on_t (z_on_t (z_on_t (z_on_h rfl (by omega) (by omega)))))))))) | exact z_on_t (z_on_t (z_on_t (z_on_t (z_on_t (z_on_t (z_on_t (z_on_t (z_on_t (z_on_t (z_on_h rfl (by omega) (by omega))))))))))) | exact z_on_t (z_on_t (z_on_t (z_on_t (z_on_t (z_on_t (z_on_t (z_on_t (z_on_t (z_on_t (z_on_t (z_on_h rfl (by omega) (by omega)))))))))))) | exact z_on_t (z_on_t (z_on_t (z_on_t (z_on_t (z_on_t (z_on_t (z_on_t (z_on_t (z_on_t (z_on_t (z_on_t (z_on_h rfl (by omega) (by omega))))))))))))))⟩
    rw [if_neg (show ¬ 102 = g i by omega)]
    by_cases e1 : g i = 104
    · rw [if_pos e1.symm, w_nd t2 (by omega) hN, zb_v, w_act_117 m2 k _ 1 k _ ⟨by omega, by omega⟩ ⟨by decide, by decide⟩ ⟨by omega, by omega⟩ ⟨by omega, by omega⟩, Int.toNat_natCast]
      by_cases d : 1 ≤ u_dg (g (i + 1))
      · have ev : (if (1 : Int) < u_dg (g (i + 1)) then u_dg (g (i + 1)) else 1) = u_dg (g (i + 1)) := by
          by_cases q : 1 < u_dg (g (i + 1))
          · rw [if_pos q]
          · rw [if_neg q]; omega
        rw [ev]
        have t3 := w_T_up (p := 121) (k := k) (v := u_dg (g (i + 1))) t2 (by decide) (by decide)
        have s3 : z_same (w_LA k) m (z_up m2 121 k (u_dg (g (i + 1)))) := s2.upo (by (try unfold w_LA); (try unfold w_LK); (try unfold w_L0); first | exact z_on_h rfl (by omega) (by omega) | exact z_on_t (z_on_h rfl (by omega) (by omega)) | exact z_on_t (z_on_t (z_on_h rfl (by omega) (by omega))) | exact z_on_t (z_on_t (z_on_t (z_on_h rfl (by omega) (by omega)))) | exact z_on_t (z_on_t (z_on_t (z_on_t (z_on_h rfl (by omega) (by omega))))) | exact z_on_t (z_on_t (z_on_t (z_on_t (z_on_t (z_on_h rfl (by omega) (by omega)))))) | exact z_on_t (z_on_t (z_on_t (z_on_t (z_on_t (z_on_t (z_on_h rfl (by omega) (by omega))))))) | exact z_on_t (z_on_t (z_on_t (z_on_t (z_on_t (z_on_t (z_on_t (z_on_h rfl (by omega) (by omega)))))))) | exact z_on_t (z_on_t (z_on_t (z_on_t (z_on_t (z_on_t (z_on_t (z_on_t (z_on_h rfl (by omega) (by omega))))))))) | exact z_on_t (z_on_t (z_on_t (z_on_t (z_on_t (z_on_t (z_on_t (z_on_t (z_on_t (z_on_h rfl (by omega) (by omega)))))))))) | exact z_on_t (z_on_t (z_on_t (z_on_t (z_on_t (z_on_t (z_on_t (z_on_t (z_on_t (z_on_t (z_on_h rfl (by omega) (by omega))))))))))) | exact z_on_t (z_on_t (z_on_t (z_on_t (z_on_t (z_on_t (z_on_t (z_on_t (z_on_t (z_on_t (z_on_t (z_on_h rfl (by omega) (by omega)))))))))))) | exact z_on_t (z_on_t (z_on_t (z_on_t (z_on_t (z_on_t (z_on_t (z_on_t (z_on_t (z_on_t (z_on_t (z_on_t (z_on_h rfl (by omega) (by omega))))))))))))))
        have f3 : (z_up m2 121 k (u_dg (g (i + 1)))) 119 k = g i := (zu_p (by decide)).trans f2
        have f4 : (z_up m2 121 k (u_dg (g (i + 1)))) 121 k = u_dg (g (i + 1)) := zu_self
        generalize z_up m2 121 k (u_dg (g (i + 1))) = m3 at t3 s3 f3 f4 ⊢
        have t4 : w_T g N (i + 2) (z_up m3 1 2 (i + 1 + 1)) := by
          rw [show i + 1 + 1 = i + 2 by omega]
          exact w_T_at t3
        rw [w_nd t3 (by omega) hN, zb_v, w_act_132, if_neg (show ¬ u_dg (g (i + 1)) < 1 by omega), w_s1 t3 (by omega) (by omega), zb_v, w_act_144, w_ac_h1 e1 d]
        exact ⟨_, rfl, t4, fun _ => ⟨((zu_p (by decide)).trans f3).trans e1, fun z => absurd (show (104 : Int) = 109 from z) (by decide), (zu_p (by decide)).trans f4⟩, s3.upo (by (try unfold w_LA); (try unfold w_LK); (try unfold w_L0); first | exact z_on_h rfl (by omega) (by omega) | exact z_on_t (z_on_h rfl (by omega) (by omega)) | exact z_on_t (z_on_t (z_on_h rfl (by omega) (by omega))) | exact z_on_t (z_on_t (z_on_t (z_on_h rfl (by omega) (by omega)))) | exact z_on_t (z_on_t (z_on_t (z_on_t (z_on_h rfl (by omega) (by omega))))) | exact z_on_t (z_on_t (z_on_t (z_on_t (z_on_t (z_on_h rfl (by omega) (by omega)))))) | exact z_on_t (z_on_t (z_on_t (z_on_t (z_on_t (z_on_t (z_on_h rfl (by omega) (by omega))))))) | exact z_on_t (z_on_t (z_on_t (z_on_t (z_on_t (z_on_t (z_on_t (z_on_h rfl (by omega) (by omega)))))))) | exact z_on_t (z_on_t (z_on_t (z_on_t (z_on_t (z_on_t (z_on_t (z_on_t (z_on_h rfl (by omega) (by omega))))))))) | exact z_on_t (z_on_t (z_on_t (z_on_t (z_on_t (z_on_t (z_on_t (z_on_t (z_on_t (z_on_h rfl (by omega) (by omega)))))))))) | exact z_on_t (z_on_t (z_on_t (z_on_t (z_on_t (z_on_t (z_on_t (z_on_t (z_on_t (z_on_t (z_on_h rfl (by omega) (by omega))))))))))) | exact z_on_t (z_on_t (z_on_t (z_on_t (z_on_t (z_on_t (z_on_t (z_on_t (z_on_t (z_on_t (z_on_t (z_on_h rfl (by omega) (by omega)))))))))))) | exact z_on_t (z_on_t (z_on_t (z_on_t (z_on_t (z_on_t (z_on_t (z_on_t (z_on_t (z_on_t (z_on_t (z_on_t (z_on_h rfl (by omega) (by omega))))))))))))))⟩
      · have ev : (if (1 : Int) < u_dg (g (i + 1)) then u_dg (g (i + 1)) else 1) = 1 := if_neg (by omega)
        rw [ev]
        have t3 := w_T_up (p := 121) (k := k) (v := 1) t2 (by decide) (by decide)
        have s3 : z_same (w_LA k) m (z_up m2 121 k 1) := s2.upo (by (try unfold w_LA); (try unfold w_LK); (try unfold w_L0); first | exact z_on_h rfl (by omega) (by omega) | exact z_on_t (z_on_h rfl (by omega) (by omega)) | exact z_on_t (z_on_t (z_on_h rfl (by omega) (by omega))) | exact z_on_t (z_on_t (z_on_t (z_on_h rfl (by omega) (by omega)))) | exact z_on_t (z_on_t (z_on_t (z_on_t (z_on_h rfl (by omega) (by omega))))) | exact z_on_t (z_on_t (z_on_t (z_on_t (z_on_t (z_on_h rfl (by omega) (by omega)))))) | exact z_on_t (z_on_t (z_on_t (z_on_t (z_on_t (z_on_t (z_on_h rfl (by omega) (by omega))))))) | exact z_on_t (z_on_t (z_on_t (z_on_t (z_on_t (z_on_t (z_on_t (z_on_h rfl (by omega) (by omega)))))))) | exact z_on_t (z_on_t (z_on_t (z_on_t (z_on_t (z_on_t (z_on_t (z_on_t (z_on_h rfl (by omega) (by omega))))))))) | exact z_on_t (z_on_t (z_on_t (z_on_t (z_on_t (z_on_t (z_on_t (z_on_t (z_on_t (z_on_h rfl (by omega) (by omega)))))))))) | exact z_on_t (z_on_t (z_on_t (z_on_t (z_on_t (z_on_t (z_on_t (z_on_t (z_on_t (z_on_t (z_on_h rfl (by omega) (by omega))))))))))) | exact z_on_t (z_on_t (z_on_t (z_on_t (z_on_t (z_on_t (z_on_t (z_on_t (z_on_t (z_on_t (z_on_t (z_on_h rfl (by omega) (by omega)))))))))))) | exact z_on_t (z_on_t (z_on_t (z_on_t (z_on_t (z_on_t (z_on_t (z_on_t (z_on_t (z_on_t (z_on_t (z_on_t (z_on_h rfl (by omega) (by omega))))))))))))))
        have f3 : (z_up m2 121 k 1) 119 k = g i := (zu_p (by decide)).trans f2
        have f4 : (z_up m2 121 k 1) 121 k = 1 := zu_self
        generalize z_up m2 121 k 1 = m3 at t3 s3 f3 f4 ⊢
        rw [w_nd t3 (by omega) hN, zb_v, w_act_132, if_pos (show u_dg (g (i + 1)) < 1 by omega), c_step0, zb_v, w_act_144, w_ac_h0 e1 d]
        exact ⟨_, rfl, t3, fun _ => ⟨f3.trans e1, fun z => absurd (show (104 : Int) = 109 from z) (by decide), f4⟩, s3⟩
    rw [if_neg (show ¬ 104 = g i by omega)]
    by_cases e3 : g i = 109
    · have t3 := w_T_up (p := 120) (k := k) (v := u_dg (g (i + 1))) t2 (by decide) (by decide)
      have s3 : z_same (w_LA k) m (z_up m2 120 k (u_dg (g (i + 1)))) := s2.upo (by (try unfold w_LA); (try unfold w_LK); (try unfold w_L0); first | exact z_on_h rfl (by omega) (by omega) | exact z_on_t (z_on_h rfl (by omega) (by omega)) | exact z_on_t (z_on_t (z_on_h rfl (by omega) (by omega))) | exact z_on_t (z_on_t (z_on_t (z_on_h rfl (by omega) (by omega)))) | exact z_on_t (z_on_t (z_on_t (z_on_t (z_on_h rfl (by omega) (by omega))))) | exact z_on_t (z_on_t (z_on_t (z_on_t (z_on_t (z_on_h rfl (by omega) (by omega)))))) | exact z_on_t (z_on_t (z_on_t (z_on_t (z_on_t (z_on_t (z_on_h rfl (by omega) (by omega))))))) | exact z_on_t (z_on_t (z_on_t (z_on_t (z_on_t (z_on_t (z_on_t (z_on_h rfl (by omega) (by omega)))))))) | exact z_on_t (z_on_t (z_on_t (z_on_t (z_on_t (z_on_t (z_on_t (z_on_t (z_on_h rfl (by omega) (by omega))))))))) | exact z_on_t (z_on_t (z_on_t (z_on_t (z_on_t (z_on_t (z_on_t (z_on_t (z_on_t (z_on_h rfl (by omega) (by omega)))))))))) | exact z_on_t (z_on_t (z_on_t (z_on_t (z_on_t (z_on_t (z_on_t (z_on_t (z_on_t (z_on_t (z_on_h rfl (by omega) (by omega))))))))))) | exact z_on_t (z_on_t (z_on_t (z_on_t (z_on_t (z_on_t (z_on_t (z_on_t (z_on_t (z_on_t (z_on_t (z_on_h rfl (by omega) (by omega)))))))))))) | exact z_on_t (z_on_t (z_on_t (z_on_t (z_on_t (z_on_t (z_on_t (z_on_t (z_on_t (z_on_t (z_on_t (z_on_t (z_on_h rfl (by omega) (by omega))))))))))))))
      have f3 : (z_up m2 120 k (u_dg (g (i + 1)))) 119 k = g i := (zu_p (by decide)).trans f2
      have f4 : (z_up m2 120 k (u_dg (g (i + 1)))) 120 k = u_dg (g (i + 1)) := zu_self
      rw [if_pos e3.symm, w_nd t2 (by omega) hN, zb_v, w_act_195 m2 k _ k _ ⟨by omega, by omega⟩ ⟨by omega, by omega⟩, Int.toNat_natCast, f4]
      generalize z_up m2 120 k (u_dg (g (i + 1))) = m3 at t3 s3 f3 f4 ⊢
      by_cases d : u_dg (g (i + 1)) = -1
      · rw [if_pos d, c_step0, zb_v, w_act_218, if_pos rfl, w_ac_m0 e3 d]
        exact ⟨_, rfl, t3, fun z => w_ft z, s3⟩
      · have b2 := u_dg_b hg d
        have t4 : w_T g N (i + 2) (z_up m3 1 2 (i + 1 + 1)) := by
          rw [show i + 1 + 1 = i + 2 by omega]
          exact w_T_at t3
        have s4 : z_same (w_LA k) m (z_up m3 1 2 (i + 1 + 1)) := s3.upo (by (try unfold w_LA); (try unfold w_LK); (try unfold w_L0); first | exact z_on_h rfl (by omega) (by omega) | exact z_on_t (z_on_h rfl (by omega) (by omega)) | exact z_on_t (z_on_t (z_on_h rfl (by omega) (by omega))) | exact z_on_t (z_on_t (z_on_t (z_on_h rfl (by omega) (by omega)))) | exact z_on_t (z_on_t (z_on_t (z_on_t (z_on_h rfl (by omega) (by omega))))) | exact z_on_t (z_on_t (z_on_t (z_on_t (z_on_t (z_on_h rfl (by omega) (by omega)))))) | exact z_on_t (z_on_t (z_on_t (z_on_t (z_on_t (z_on_t (z_on_h rfl (by omega) (by omega))))))) | exact z_on_t (z_on_t (z_on_t (z_on_t (z_on_t (z_on_t (z_on_t (z_on_h rfl (by omega) (by omega)))))))) | exact z_on_t (z_on_t (z_on_t (z_on_t (z_on_t (z_on_t (z_on_t (z_on_t (z_on_h rfl (by omega) (by omega))))))))) | exact z_on_t (z_on_t (z_on_t (z_on_t (z_on_t (z_on_t (z_on_t (z_on_t (z_on_t (z_on_h rfl (by omega) (by omega)))))))))) | exact z_on_t (z_on_t (z_on_t (z_on_t (z_on_t (z_on_t (z_on_t (z_on_t (z_on_t (z_on_t (z_on_h rfl (by omega) (by omega))))))))))) | exact z_on_t (z_on_t (z_on_t (z_on_t (z_on_t (z_on_t (z_on_t (z_on_t (z_on_t (z_on_t (z_on_t (z_on_h rfl (by omega) (by omega)))))))))))) | exact z_on_t (z_on_t (z_on_t (z_on_t (z_on_t (z_on_t (z_on_t (z_on_t (z_on_t (z_on_t (z_on_t (z_on_t (z_on_h rfl (by omega) (by omega))))))))))))))
        have f5 : (z_up m3 1 2 (i + 1 + 1)) 119 k = g i := (zu_p (by decide)).trans f3
        have f6 : (z_up m3 1 2 (i + 1 + 1)) 120 k = u_dg (g (i + 1)) := (zu_p (by decide)).trans f4
        rw [if_neg d, w_s1 t3 (by omega) (by omega), zb_v, w_act_218, if_neg (show ¬ (1 : Int) = 0 by decide)]
        generalize z_up m3 1 2 (i + 1 + 1) = m4 at t4 s4 f5 f6 ⊢
        obtain ⟨m5, a1, a2, a3, a4⟩ := w_place hk hN hr hg (by omega) (by omega) t4
        rw [a1, zb_v, w_act_226, w_b_if, w_ac_m1 e3 d]
        exact ⟨m5, rfl, a2, fun z => ⟨((a4.of (by (try unfold w_LA); (try unfold w_LK); (try unfold w_L0); (repeat' (first | exact trivial | refine z_of_c ?_ ?_)) <;> omega)).trans f5).trans e3, fun _ => (a4.of (by (try unfold w_LA); (try unfold w_LK); (try unfold w_L0); (repeat' (first | exact trivial | refine z_of_c ?_ ?_)) <;> omega)).trans f6, a3 z⟩, s4.tr (a4.subo (by (try unfold w_LA); (try unfold w_LK); (try unfold w_L0); (repeat' (first | exact trivial | refine z_sbo_c ?_ ?_)) <;> (intro k h1 h2; first | exact z_on_h rfl (by omega) (by omega) | exact z_on_t (z_on_h rfl (by omega) (by omega)) | exact z_on_t (z_on_t (z_on_h rfl (by omega) (by omega))) | exact z_on_t (z_on_t (z_on_t (z_on_h rfl (by omega) (by omega)))) | exact z_on_t (z_on_t (z_on_t (z_on_t (z_on_h rfl (by omega) (by omega))))) | exact z_on_t (z_on_t (z_on_t (z_on_t (z_on_t (z_on_h rfl (by omega) (by omega)))))) | exact z_on_t (z_on_t (z_on_t (z_on_t (z_on_t (z_on_t (z_on_h rfl (by omega) (by omega))))))) | exact z_on_t (z_on_t (z_on_t (z_on_t (z_on_t (z_on_t (z_on_t (z_on_h rfl (by omega) (by omega)))))))) | exact z_on_t (z_on_t (z_on_t (z_on_t (z_on_t (z_on_t (z_on_t (z_on_t (z_on_h rfl (by omega) (by omega))))))))) | exact z_on_t (z_on_t (z_on_t (z_on_t (z_on_t (z_on_t (z_on_t (z_on_t (z_on_t (z_on_h rfl (by omega) (by omega)))))))))) | exact z_on_t (z_on_t (z_on_t (z_on_t (z_on_t (z_on_t (z_on_t (z_on_t (z_on_t (z_on_t (z_on_h rfl (by omega) (by omega))))))))))) | exact z_on_t (z_on_t (z_on_t (z_on_t (z_on_t (z_on_t (z_on_t (z_on_t (z_on_t (z_on_t (z_on_t (z_on_h rfl (by omega) (by omega)))))))))))) | exact z_on_t (z_on_t (z_on_t (z_on_t (z_on_t (z_on_t (z_on_t (z_on_t (z_on_t (z_on_t (z_on_t (z_on_t (z_on_h rfl (by omega) (by omega))))))))))))))))⟩
    · have e4 : g i = 115 := by omega
      rw [if_neg (show ¬ 109 = g i by omega)]
      have t3 := w_T_up (p := 121) (k := k) (v := -1) t2 (by decide) (by decide)
      have s3 : z_same (w_LA k) m (z_up m2 121 k (-1)) := s2.upo (by (try unfold w_LA); (try unfold w_LK); (try unfold w_L0); first | exact z_on_h rfl (by omega) (by omega) | exact z_on_t (z_on_h rfl (by omega) (by omega)) | exact z_on_t (z_on_t (z_on_h rfl (by omega) (by omega))) | exact z_on_t (z_on_t (z_on_t (z_on_h rfl (by omega) (by omega)))) | exact z_on_t (z_on_t (z_on_t (z_on_t (z_on_h rfl (by omega) (by omega))))) | exact z_on_t (z_on_t (z_on_t (z_on_t (z_on_t (z_on_h rfl (by omega) (by omega)))))) | exact z_on_t (z_on_t (z_on_t (z_on_t (z_on_t (z_on_t (z_on_h rfl (by omega) (by omega))))))) | exact z_on_t (z_on_t (z_on_t (z_on_t (z_on_t (z_on_t (z_on_t (z_on_h rfl (by omega) (by omega)))))))) | exact z_on_t (z_on_t (z_on_t (z_on_t (z_on_t (z_on_t (z_on_t (z_on_t (z_on_h rfl (by omega) (by omega))))))))) | exact z_on_t (z_on_t (z_on_t (z_on_t (z_on_t (z_on_t (z_on_t (z_on_t (z_on_t (z_on_h rfl (by omega) (by omega)))))))))) | exact z_on_t (z_on_t (z_on_t (z_on_t (z_on_t (z_on_t (z_on_t (z_on_t (z_on_t (z_on_t (z_on_h rfl (by omega) (by omega))))))))))) | exact z_on_t (z_on_t (z_on_t (z_on_t (z_on_t (z_on_t (z_on_t (z_on_t (z_on_t (z_on_t (z_on_t (z_on_h rfl (by omega) (by omega)))))))))))) | exact z_on_t (z_on_t (z_on_t (z_on_t (z_on_t (z_on_t (z_on_t (z_on_t (z_on_t (z_on_t (z_on_t (z_on_t (z_on_h rfl (by omega) (by omega))))))))))))))
      have f3 : (z_up m2 121 k (-1)) 119 k = g i := (zu_p (by decide)).trans f2
      have f4 : (z_up m2 121 k (-1)) 121 k = -1 := zu_self
      generalize z_up m2 121 k (-1) = m3 at t3 s3 f3 f4 ⊢
      rw [w_ovr t3 (by omega) (by omega) hN]
      by_cases d : g (i + 1) = 45
      · have t4 : w_T g N (i + 2) (z_up m3 1 2 (i + 1 + 1)) := by
          rw [show i + 1 + 1 = i + 2 by omega]
          exact w_T_at t3
        rw [if_pos d, zb_v, w_act_251, if_neg (show ¬ (1 : Int) = 0 by decide), w_ac_s1 e4 d]
        exact ⟨_, rfl, t4, fun _ => ⟨((zu_p (by decide)).trans f3).trans e4, fun z => absurd (show (115 : Int) = 109 from z) (by decide), (zu_p (by decide)).trans f4⟩, s3.upo (by (try unfold w_LA); (try unfold w_LK); (try unfold w_L0); first | exact z_on_h rfl (by omega) (by omega) | exact z_on_t (z_on_h rfl (by omega) (by omega)) | exact z_on_t (z_on_t (z_on_h rfl (by omega) (by omega))) | exact z_on_t (z_on_t (z_on_t (z_on_h rfl (by omega) (by omega)))) | exact z_on_t (z_on_t (z_on_t (z_on_t (z_on_h rfl (by omega) (by omega))))) | exact z_on_t (z_on_t (z_on_t (z_on_t (z_on_t (z_on_h rfl (by omega) (by omega)))))) | exact z_on_t (z_on_t (z_on_t (z_on_t (z_on_t (z_on_t (z_on_h rfl (by omega) (by omega))))))) | exact z_on_t (z_on_t (z_on_t (z_on_t (z_on_t (z_on_t (z_on_t (z_on_h rfl (by omega) (by omega)))))))) | exact z_on_t (z_on_t (z_on_t (z_on_t (z_on_t (z_on_t (z_on_t (z_on_t (z_on_h rfl (by omega) (by omega))))))))) | exact z_on_t (z_on_t (z_on_t (z_on_t (z_on_t (z_on_t (z_on_t (z_on_t (z_on_t (z_on_h rfl (by omega) (by omega)))))))))) | exact z_on_t (z_on_t (z_on_t (z_on_t (z_on_t (z_on_t (z_on_t (z_on_t (z_on_t (z_on_t (z_on_h rfl (by omega) (by omega))))))))))) | exact z_on_t (z_on_t (z_on_t (z_on_t (z_on_t (z_on_t (z_on_t (z_on_t (z_on_t (z_on_t (z_on_t (z_on_h rfl (by omega) (by omega)))))))))))) | exact z_on_t (z_on_t (z_on_t (z_on_t (z_on_t (z_on_t (z_on_t (z_on_t (z_on_t (z_on_t (z_on_t (z_on_t (z_on_h rfl (by omega) (by omega))))))))))))))⟩
      · rw [if_neg d, zb_v, w_act_251, if_pos rfl]
        obtain ⟨m5, a1, a2, a3, a4⟩ := w_place hk hN hr hg (by omega) (by omega) t3
        rw [a1, zb_v, w_act_259, w_b_if, w_ac_s0 e4 d]
        exact ⟨m5, rfl, a2, fun z => ⟨((a4.of (by (try unfold w_LA); (try unfold w_LK); (try unfold w_L0); (repeat' (first | exact trivial | refine z_of_c ?_ ?_)) <;> omega)).trans f3).trans e4, fun y => absurd (show (115 : Int) = 109 from y) (by decide), a3 z⟩, s3.tr (a4.subo (by (try unfold w_LA); (try unfold w_LK); (try unfold w_L0); (repeat' (first | exact trivial | refine z_sbo_c ?_ ?_)) <;> (intro k h1 h2; first | exact z_on_h rfl (by omega) (by omega) | exact z_on_t (z_on_h rfl (by omega) (by omega)) | exact z_on_t (z_on_t (z_on_h rfl (by omega) (by omega))) | exact z_on_t (z_on_t (z_on_t (z_on_h rfl (by omega) (by omega)))) | exact z_on_t (z_on_t (z_on_t (z_on_t (z_on_h rfl (by omega) (by omega))))) | exact z_on_t (z_on_t (z_on_t (z_on_t (z_on_t (z_on_h rfl (by omega) (by omega)))))) | exact z_on_t (z_on_t (z_on_t (z_on_t (z_on_t (z_on_t (z_on_h rfl (by omega) (by omega))))))) | exact z_on_t (z_on_t (z_on_t (z_on_t (z_on_t (z_on_t (z_on_t (z_on_h rfl (by omega) (by omega)))))))) | exact z_on_t (z_on_t (z_on_t (z_on_t (z_on_t (z_on_t (z_on_t (z_on_t (z_on_h rfl (by omega) (by omega))))))))) | exact z_on_t (z_on_t (z_on_t (z_on_t (z_on_t (z_on_t (z_on_t (z_on_t (z_on_t (z_on_h rfl (by omega) (by omega)))))))))) | exact z_on_t (z_on_t (z_on_t (z_on_t (z_on_t (z_on_t (z_on_t (z_on_t (z_on_t (z_on_t (z_on_h rfl (by omega) (by omega))))))))))) | exact z_on_t (z_on_t (z_on_t (z_on_t (z_on_t (z_on_t (z_on_t (z_on_t (z_on_t (z_on_t (z_on_t (z_on_h rfl (by omega) (by omega)))))))))))) | exact z_on_t (z_on_t (z_on_t (z_on_t (z_on_t (z_on_t (z_on_t (z_on_t (z_on_t (z_on_t (z_on_t (z_on_t (z_on_h rfl (by omega) (by omega))))))))))))))))⟩
  · rw [w_act_0 m k ⟨by omega, by omega⟩, w_nx h h0 hN, zb_v, w_act_19, if_neg (fun z => e (Or.inl z)), if_neg (fun z => e (Or.inr (Or.inr (Or.inl z)))), if_neg (fun z => e (Or.inr (Or.inr (Or.inr z)))), if_neg (fun z => e (Or.inr (Or.inl z))), c_step0, zb_v, w_act_56 m k _ _ ⟨by omega, by omega⟩, if_pos rfl, w_ac_n e]
    exact ⟨_, rfl, h, fun z => w_ft z, z_same.rf⟩
/-- acts that the class holds, from k on -/
def w_cl (m : z_M) : Nat → List (Int × Int × Int) → Prop
  | _, [] => True
  | k, a :: l => w_c1 m k a ∧ w_cl m (k + 1) l
abbrev w_LK (k : Nat) : List (Nat × Nat × Nat) := [(1, 2, 2), (118, 4, 4), (119, k, 29), (120, k, 29), (121, k, 29)]
theorem w_c1_fr {m' : z_M} {k : Nat} {a : Int × Int × Int} (h : w_c1 m k a) (h1 : m' 119 k = m 119 k) (h2 : m' 120 k = m 120 k) (h3 : m' 121 k = m 121 k) : w_c1 m' k a := ⟨h1.trans h.1, fun z => h2.trans (h.2.1 z), h3.trans h.2.2⟩
theorem w_lsc (hN : N ≤ 80) (hr : u_gr g) (hg : u_gb g) : ∀ (f k : Nat) (i : Int) (m : z_M), k + f = 30 → 0 ≤ i → i ≤ 80 → w_T g N i m → m 118 4 = (k : Int) → ∃ m', z_R 83 (m, 28, [(2, 118), (0, (k : Int))], []) = some (m', some (0, w_b (w_ls g N f i).1)) ∧ w_T g N (w_ls g N f i).2.1 m' ∧ ((w_ls g N f i).1 = true → m' 118 4 = ((k + (w_ls g N f i).2.2.length : Nat) : Int) ∧ w_cl m' k (w_ls g N f i).2.2) ∧ z_same (w_LK k) m m' := by
  intro f
  induction f with
  | zero =>
    intro k i m hk h0 h1 h h4
    rw [w_read_28, if_pos (by omega)]
    exact ⟨m, rfl, h, fun z => w_ft z, z_same.rf⟩
  | succ f ih =>
    intro k i m hk h0 h1 h h4
    obtain ⟨m1, a1, a2, a3, a4⟩ := w_actc (k := k) (by omega) hN hr hg h0 h1 h
    have b := w_ac_b hg h0 h1
    rcases hA : w_ac g i with ⟨x, j, a⟩
    rw [hA] at a1 a2 a3 b
    obtain ⟨⟨b1, b2⟩, b3⟩ := b
    have b1 : i ≤ j := b1
    have b2 : j ≤ 80 := b2
    have a2 : w_T g N j m1 := a2
    have s1 : z_same (w_LK k) m m1 := a4.subo (by (try unfold w_LA); (try unfold w_LK); (try unfold w_L0); (repeat' (first | exact trivial | refine z_sbo_c ?_ ?_)) <;> (intro k h1 h2; first | exact z_on_h rfl (by omega) (by omega) | exact z_on_t (z_on_h rfl (by omega) (by omega)) | exact z_on_t (z_on_t (z_on_h rfl (by omega) (by omega))) | exact z_on_t (z_on_t (z_on_t (z_on_h rfl (by omega) (by omega)))) | exact z_on_t (z_on_t (z_on_t (z_on_t (z_on_h rfl (by omega) (by omega))))) | exact z_on_t (z_on_t (z_on_t (z_on_t (z_on_t (z_on_h rfl (by omega) (by omega)))))) | exact z_on_t (z_on_t (z_on_t (z_on_t (z_on_t (z_on_t (z_on_h rfl (by omega) (by omega))))))) | exact z_on_t (z_on_t (z_on_t (z_on_t (z_on_t (z_on_t (z_on_t (z_on_h rfl (by omega) (by omega)))))))) | exact z_on_t (z_on_t (z_on_t (z_on_t (z_on_t (z_on_t (z_on_t (z_on_t (z_on_h rfl (by omega) (by omega))))))))) | exact z_on_t (z_on_t (z_on_t (z_on_t (z_on_t (z_on_t (z_on_t (z_on_t (z_on_t (z_on_h rfl (by omega) (by omega)))))))))) | exact z_on_t (z_on_t (z_on_t (z_on_t (z_on_t (z_on_t (z_on_t (z_on_t (z_on_t (z_on_t (z_on_h rfl (by omega) (by omega))))))))))) | exact z_on_t (z_on_t (z_on_t (z_on_t (z_on_t (z_on_t (z_on_t (z_on_t (z_on_t (z_on_t (z_on_t (z_on_h rfl (by omega) (by omega)))))))))))) | exact z_on_t (z_on_t (z_on_t (z_on_t (z_on_t (z_on_t (z_on_t (z_on_t (z_on_t (z_on_t (z_on_t (z_on_t (z_on_h rfl (by omega) (by omega)))))))))))))))
    cases x with
    | false =>
      have a1 : z_R 84 (m, 0, [(2, 118), (0, (k : Int)), (9, 0)], []) = some (m1, some (0, 0)) := a1
      rw [w_ls_1 hA, w_read_28, if_neg (by omega), a1, zb_v, w_read_39, if_pos rfl]
      exact ⟨m1, rfl, a2, fun z => w_ft z, s1⟩
    | true =>
      have a3 : w_c1 m1 k a := a3 rfl
      have e4 : m1 118 4 = (k : Int) := (a4.of (by (try unfold w_LA); (try unfold w_LK); (try unfold w_L0); (repeat' (first | exact trivial | refine z_of_c ?_ ?_)) <;> omega)).trans h4
      have a1 : z_R 84 (m, 0, [(2, 118), (0, (k : Int)), (9, 0)], []) = some (m1, some (0, 1)) := a1
      rw [w_read_28, if_neg (by omega), a1, zb_v, w_read_39, if_neg (show ¬ (1 : Int) = 0 by decide), e4, z_add_eq (by omega) (by omega), tc1]
      have t2 : w_T g N j (z_up m1 118 4 ((k + 1 : Nat) : Int)) := w_T_up (p := 118) (k := 4) (v := ((k + 1 : Nat) : Int)) a2 (by decide) (by decide)
      have s2 : z_same (w_LK k) m (z_up m1 118 4 ((k + 1 : Nat) : Int)) := s1.upo (by (try unfold w_LA); (try unfold w_LK); (try unfold w_L0); first | exact z_on_h rfl (by omega) (by omega) | exact z_on_t (z_on_h rfl (by omega) (by omega)) | exact z_on_t (z_on_t (z_on_h rfl (by omega) (by omega))) | exact z_on_t (z_on_t (z_on_t (z_on_h rfl (by omega) (by omega)))) | exact z_on_t (z_on_t (z_on_t (z_on_t (z_on_h rfl (by omega) (by omega))))) | exact z_on_t (z_on_t (z_on_t (z_on_t (z_on_t (z_on_h rfl (by omega) (by omega)))))) | exact z_on_t (z_on_t (z_on_t (z_on_t (z_on_t (z_on_t (z_on_h rfl (by omega) (by omega))))))) | exact z_on_t (z_on_t (z_on_t (z_on_t (z_on_t (z_on_t (z_on_t (z_on_h rfl (by omega) (by omega)))))))) | exact z_on_t (z_on_t (z_on_t (z_on_t (z_on_t (z_on_t (z_on_t (z_on_t (z_on_h rfl (by omega) (by omega))))))))) | exact z_on_t (z_on_t (z_on_t (z_on_t (z_on_t (z_on_t (z_on_t (z_on_t (z_on_t (z_on_h rfl (by omega) (by omega)))))))))) | exact z_on_t (z_on_t (z_on_t (z_on_t (z_on_t (z_on_t (z_on_t (z_on_t (z_on_t (z_on_t (z_on_h rfl (by omega) (by omega))))))))))) | exact z_on_t (z_on_t (z_on_t (z_on_t (z_on_t (z_on_t (z_on_t (z_on_t (z_on_t (z_on_t (z_on_t (z_on_h rfl (by omega) (by omega)))))))))))) | exact z_on_t (z_on_t (z_on_t (z_on_t (z_on_t (z_on_t (z_on_t (z_on_t (z_on_t (z_on_t (z_on_t (z_on_t (z_on_h rfl (by omega) (by omega))))))))))))))
      have c2 : w_c1 (z_up m1 118 4 ((k + 1 : Nat) : Int)) k a := w_c1_fr a3 (zu_p (by decide)) (zu_p (by decide)) (zu_p (by decide))
      have f4 : (z_up m1 118 4 ((k + 1 : Nat) : Int)) 118 4 = ((k + 1 : Nat) : Int) := zu_self
      generalize z_up m1 118 4 ((k + 1 : Nat) : Int) = m2 at t2 s2 c2 f4 ⊢
      rw [w_en t2]
      by_cases n1 : N ≤ j
      · rw [if_neg (show ¬ j < N by omega), zb_v, w_read_61, if_neg (show ¬ (1 : Int) = 0 by decide), w_ls_2 hA n1]
        exact ⟨m2, rfl, t2, fun _ => ⟨f4, c2, trivial⟩, s2⟩
      rw [if_pos (show j < N by omega), zb_v, w_read_61, if_pos rfl, w_ovr t2 (by omega) (by omega) hN]
      by_cases n2 : g j = 59
      · have b5 := hg j (by omega)
        rw [if_pos n2, zb_v, w_read_75 _ _ _ ⟨by omega, by omega⟩, if_neg (show ¬ (1 : Int) = 0 by decide), tc1, w_ls_3 hA n1 n2]
        obtain ⟨m3, d1, d2, d3, d4⟩ := ih (k + 1) (j + 1) (z_up m2 1 2 (j + 1)) (by omega) (by omega) (by omega) (w_T_at t2) ((zu_p (by decide)).trans f4)
        refine ⟨m3, d1, d2, fun z => ?_, (s2.upo (by (try unfold w_LA); (try unfold w_LK); (try unfold w_L0); first | exact z_on_h rfl (by omega) (by omega) | exact z_on_t (z_on_h rfl (by omega) (by omega)) | exact z_on_t (z_on_t (z_on_h rfl (by omega) (by omega))) | exact z_on_t (z_on_t (z_on_t (z_on_h rfl (by omega) (by omega)))) | exact z_on_t (z_on_t (z_on_t (z_on_t (z_on_h rfl (by omega) (by omega))))) | exact z_on_t (z_on_t (z_on_t (z_on_t (z_on_t (z_on_h rfl (by omega) (by omega)))))) | exact z_on_t (z_on_t (z_on_t (z_on_t (z_on_t (z_on_t (z_on_h rfl (by omega) (by omega))))))) | exact z_on_t (z_on_t (z_on_t (z_on_t (z_on_t (z_on_t (z_on_t (z_on_h rfl (by omega) (by omega)))))))) | exact z_on_t (z_on_t (z_on_t (z_on_t (z_on_t (z_on_t (z_on_t (z_on_t (z_on_h rfl (by omega) (by omega))))))))) | exact z_on_t (z_on_t (z_on_t (z_on_t (z_on_t (z_on_t (z_on_t (z_on_t (z_on_t (z_on_h rfl (by omega) (by omega)))))))))) | exact z_on_t (z_on_t (z_on_t (z_on_t (z_on_t (z_on_t (z_on_t (z_on_t (z_on_t (z_on_t (z_on_h rfl (by omega) (by omega))))))))))) | exact z_on_t (z_on_t (z_on_t (z_on_t (z_on_t (z_on_t (z_on_t (z_on_t (z_on_t (z_on_t (z_on_t (z_on_h rfl (by omega) (by omega)))))))))))) | exact z_on_t (z_on_t (z_on_t (z_on_t (z_on_t (z_on_t (z_on_t (z_on_t (z_on_t (z_on_t (z_on_t (z_on_t (z_on_h rfl (by omega) (by omega))))))))))))))).tr (d4.subo (by (try unfold w_LA); (try unfold w_LK); (try unfold w_L0); (repeat' (first | exact trivial | refine z_sbo_c ?_ ?_)) <;> (intro k h1 h2; first | exact z_on_h rfl (by omega) (by omega) | exact z_on_t (z_on_h rfl (by omega) (by omega)) | exact z_on_t (z_on_t (z_on_h rfl (by omega) (by omega))) | exact z_on_t (z_on_t (z_on_t (z_on_h rfl (by omega) (by omega)))) | exact z_on_t (z_on_t (z_on_t (z_on_t (z_on_h rfl (by omega) (by omega))))) | exact z_on_t (z_on_t (z_on_t (z_on_t (z_on_t (z_on_h rfl (by omega) (by omega)))))) | exact z_on_t (z_on_t (z_on_t (z_on_t (z_on_t (z_on_t (z_on_h rfl (by omega) (by omega))))))) | exact z_on_t (z_on_t (z_on_t (z_on_t (z_on_t (z_on_t (z_on_t (z_on_h rfl (by omega) (by omega)))))))) | exact z_on_t (z_on_t (z_on_t (z_on_t (z_on_t (z_on_t (z_on_t (z_on_t (z_on_h rfl (by omega) (by omega))))))))) | exact z_on_t (z_on_t (z_on_t (z_on_t (z_on_t (z_on_t (z_on_t (z_on_t (z_on_t (z_on_h rfl (by omega) (by omega)))))))))) | exact z_on_t (z_on_t (z_on_t (z_on_t (z_on_t (z_on_t (z_on_t (z_on_t (z_on_t (z_on_t (z_on_h rfl (by omega) (by omega))))))))))) | exact z_on_t (z_on_t (z_on_t (z_on_t (z_on_t (z_on_t (z_on_t (z_on_t (z_on_t (z_on_t (z_on_t (z_on_h rfl (by omega) (by omega)))))))))))) | exact z_on_t (z_on_t (z_on_t (z_on_t (z_on_t (z_on_t (z_on_t (z_on_t (z_on_t (z_on_t (z_on_t (z_on_t (z_on_h rfl (by omega) (by omega))))))))))))))))⟩
        obtain ⟨q1, q2⟩ := d3 z
        refine ⟨?_, w_c1_fr c2 ((d4.of (by (try unfold w_LA); (try unfold w_LK); (try unfold w_L0); (repeat' (first | exact trivial | refine z_of_c ?_ ?_)) <;> omega)).trans (zu_p (by decide))) ((d4.of (by (try unfold w_LA); (try unfold w_LK); (try unfold w_L0); (repeat' (first | exact trivial | refine z_of_c ?_ ?_)) <;> omega)).trans (zu_p (by decide))) ((d4.of (by (try unfold w_LA); (try unfold w_LK); (try unfold w_L0); (repeat' (first | exact trivial | refine z_of_c ?_ ?_)) <;> omega)).trans (zu_p (by decide))), q2⟩
        rw [q1]
        show ((k + 1 + (w_ls g N f (j + 1)).2.2.length : Nat) : Int) = ((k + ((w_ls g N f (j + 1)).2.2.length + 1) : Nat) : Int)
        omega
      · rw [if_neg n2, zb_v, w_read_75 _ _ _ ⟨by omega, by omega⟩, if_pos rfl, w_ls_4 hA n1 n2]
        exact ⟨m2, rfl, t2, fun z => w_ft z, s2⟩
end
abbrev w_L0 : List (Nat × Nat × Nat) := [(1, 2, 3), (118, 4, 4), (119, 0, 29), (120, 0, 29), (121, 0, 29)]
theorem w_readc (m : z_M) (h1 : m 1 1 ≤ 80) {G : Int → Int} (hr : u_gr G) (hG : u_nx (m 2) (m 1 1) 60 = G) : ∃ m', z_R 83 (m, 0, [(2, 118), (9, 0)], []) = some (m', some (0, w_b (w_rd G (m 1 1)).1)) ∧ w_T G (m 1 1) (w_rd G (m 1 1)).2.1 m' ∧ ((w_rd G (m 1 1)).1 = true → m' 118 4 = ((w_rd G (m 1 1)).2.2.length : Int) ∧ w_cl m' 0 (w_rd G (m 1 1)).2.2) ∧ z_same w_L0 m m' := by
  have hg : u_gb G := by
    rw [← hG]
    exact u_nx_b h1
  have t0 : w_T G (m 1 1) 0 (z_up (z_up (z_up m 1 2 0) 1 3 60) 118 4 0) := by
    refine ⟨?_, ?_, ?_⟩
    · unfold u_g
      rw [zu_rowne (by decide), zu_rowne (by decide), zu_rowne (by decide), zu_p (by decide), zu_k (by decide), zu_k (by decide), zu_p (by decide), zu_self]
      exact hG
    · rw [zu_p (by decide), zu_k (by decide), zu_self]
    · rw [zu_p (by decide), zu_k (by decide), zu_k (by decide)]
  have s0 : z_same w_L0 m (z_up (z_up (z_up m 1 2 0) 1 3 60) 118 4 0) := ((z_same.rf.upo (by (try unfold w_LA); (try unfold w_LK); (try unfold w_L0); first | exact z_on_h rfl (by omega) (by omega) | exact z_on_t (z_on_h rfl (by omega) (by omega)) | exact z_on_t (z_on_t (z_on_h rfl (by omega) (by omega))) | exact z_on_t (z_on_t (z_on_t (z_on_h rfl (by omega) (by omega)))) | exact z_on_t (z_on_t (z_on_t (z_on_t (z_on_h rfl (by omega) (by omega))))) | exact z_on_t (z_on_t (z_on_t (z_on_t (z_on_t (z_on_h rfl (by omega) (by omega)))))) | exact z_on_t (z_on_t (z_on_t (z_on_t (z_on_t (z_on_t (z_on_h rfl (by omega) (by omega))))))) | exact z_on_t (z_on_t (z_on_t (z_on_t (z_on_t (z_on_t (z_on_t (z_on_h rfl (by omega) (by omega)))))))) | exact z_on_t (z_on_t (z_on_t (z_on_t (z_on_t (z_on_t (z_on_t (z_on_t (z_on_h rfl (by omega) (by omega))))))))) | exact z_on_t (z_on_t (z_on_t (z_on_t (z_on_t (z_on_t (z_on_t (z_on_t (z_on_t (z_on_h rfl (by omega) (by omega)))))))))) | exact z_on_t (z_on_t (z_on_t (z_on_t (z_on_t (z_on_t (z_on_t (z_on_t (z_on_t (z_on_t (z_on_h rfl (by omega) (by omega))))))))))) | exact z_on_t (z_on_t (z_on_t (z_on_t (z_on_t (z_on_t (z_on_t (z_on_t (z_on_t (z_on_t (z_on_t (z_on_h rfl (by omega) (by omega)))))))))))) | exact z_on_t (z_on_t (z_on_t (z_on_t (z_on_t (z_on_t (z_on_t (z_on_t (z_on_t (z_on_t (z_on_t (z_on_t (z_on_h rfl (by omega) (by omega))))))))))))))).upo (by (try unfold w_LA); (try unfold w_LK); (try unfold w_L0); first | exact z_on_h rfl (by omega) (by omega) | exact z_on_t (z_on_h rfl (by omega) (by omega)) | exact z_on_t (z_on_t (z_on_h rfl (by omega) (by omega))) | exact z_on_t (z_on_t (z_on_t (z_on_h rfl (by omega) (by omega)))) | exact z_on_t (z_on_t (z_on_t (z_on_t (z_on_h rfl (by omega) (by omega))))) | exact z_on_t (z_on_t (z_on_t (z_on_t (z_on_t (z_on_h rfl (by omega) (by omega)))))) | exact z_on_t (z_on_t (z_on_t (z_on_t (z_on_t (z_on_t (z_on_h rfl (by omega) (by omega))))))) | exact z_on_t (z_on_t (z_on_t (z_on_t (z_on_t (z_on_t (z_on_t (z_on_h rfl (by omega) (by omega)))))))) | exact z_on_t (z_on_t (z_on_t (z_on_t (z_on_t (z_on_t (z_on_t (z_on_t (z_on_h rfl (by omega) (by omega))))))))) | exact z_on_t (z_on_t (z_on_t (z_on_t (z_on_t (z_on_t (z_on_t (z_on_t (z_on_t (z_on_h rfl (by omega) (by omega)))))))))) | exact z_on_t (z_on_t (z_on_t (z_on_t (z_on_t (z_on_t (z_on_t (z_on_t (z_on_t (z_on_t (z_on_h rfl (by omega) (by omega))))))))))) | exact z_on_t (z_on_t (z_on_t (z_on_t (z_on_t (z_on_t (z_on_t (z_on_t (z_on_t (z_on_t (z_on_t (z_on_h rfl (by omega) (by omega)))))))))))) | exact z_on_t (z_on_t (z_on_t (z_on_t (z_on_t (z_on_t (z_on_t (z_on_t (z_on_t (z_on_t (z_on_t (z_on_t (z_on_h rfl (by omega) (by omega))))))))))))))).upo (by (try unfold w_LA); (try unfold w_LK); (try unfold w_L0); first | exact z_on_h rfl (by omega) (by omega) | exact z_on_t (z_on_h rfl (by omega) (by omega)) | exact z_on_t (z_on_t (z_on_h rfl (by omega) (by omega))) | exact z_on_t (z_on_t (z_on_t (z_on_h rfl (by omega) (by omega)))) | exact z_on_t (z_on_t (z_on_t (z_on_t (z_on_h rfl (by omega) (by omega))))) | exact z_on_t (z_on_t (z_on_t (z_on_t (z_on_t (z_on_h rfl (by omega) (by omega)))))) | exact z_on_t (z_on_t (z_on_t (z_on_t (z_on_t (z_on_t (z_on_h rfl (by omega) (by omega))))))) | exact z_on_t (z_on_t (z_on_t (z_on_t (z_on_t (z_on_t (z_on_t (z_on_h rfl (by omega) (by omega)))))))) | exact z_on_t (z_on_t (z_on_t (z_on_t (z_on_t (z_on_t (z_on_t (z_on_t (z_on_h rfl (by omega) (by omega))))))))) | exact z_on_t (z_on_t (z_on_t (z_on_t (z_on_t (z_on_t (z_on_t (z_on_t (z_on_t (z_on_h rfl (by omega) (by omega)))))))))) | exact z_on_t (z_on_t (z_on_t (z_on_t (z_on_t (z_on_t (z_on_t (z_on_t (z_on_t (z_on_t (z_on_h rfl (by omega) (by omega))))))))))) | exact z_on_t (z_on_t (z_on_t (z_on_t (z_on_t (z_on_t (z_on_t (z_on_t (z_on_t (z_on_t (z_on_t (z_on_h rfl (by omega) (by omega)))))))))))) | exact z_on_t (z_on_t (z_on_t (z_on_t (z_on_t (z_on_t (z_on_t (z_on_t (z_on_t (z_on_t (z_on_t (z_on_t (z_on_h rfl (by omega) (by omega))))))))))))))
  have f0 : (z_up (z_up (z_up m 1 2 0) 1 3 60) 118 4 0) 118 4 = 0 := zu_self
  rw [w_read_0, s_begin_0, zb_n, w_read_9]
  generalize z_up (z_up (z_up m 1 2 0) 1 3 60) 118 4 0 = m0 at t0 s0 f0 ⊢
  rw [w_en t0]
  by_cases z : m 1 1 ≤ 0
  · have e : w_rd G (m 1 1) = (true, 0, []) := by unfold w_rd; rw [if_pos z]
    rw [if_neg (by omega), zb_v, w_read_21, if_neg (show ¬ (1 : Int) = 0 by decide), e]
    exact ⟨m0, rfl, t0, fun _ => ⟨f0, trivial⟩, s0⟩
  · have e : w_rd G (m 1 1) = w_ls G (m 1 1) 30 0 := by unfold w_rd; rw [if_neg z]
    rw [if_pos (by omega), zb_v, w_read_21, if_pos rfl, e]
    obtain ⟨m1, a1, a2, a3, a4⟩ := w_lsc h1 hr hg 30 0 0 m0 (by decide) (by decide) (by decide) t0 f0
    refine ⟨m1, a1, a2, fun y => ?_, s0.tr (a4.subo (by (try unfold w_LA); (try unfold w_LK); (try unfold w_L0); (repeat' (first | exact trivial | refine z_sbo_c ?_ ?_)) <;> (intro k h1 h2; first | exact z_on_h rfl (by omega) (by omega) | exact z_on_t (z_on_h rfl (by omega) (by omega)) | exact z_on_t (z_on_t (z_on_h rfl (by omega) (by omega))) | exact z_on_t (z_on_t (z_on_t (z_on_h rfl (by omega) (by omega)))) | exact z_on_t (z_on_t (z_on_t (z_on_t (z_on_h rfl (by omega) (by omega))))) | exact z_on_t (z_on_t (z_on_t (z_on_t (z_on_t (z_on_h rfl (by omega) (by omega)))))) | exact z_on_t (z_on_t (z_on_t (z_on_t (z_on_t (z_on_t (z_on_h rfl (by omega) (by omega))))))) | exact z_on_t (z_on_t (z_on_t (z_on_t (z_on_t (z_on_t (z_on_t (z_on_h rfl (by omega) (by omega)))))))) | exact z_on_t (z_on_t (z_on_t (z_on_t (z_on_t (z_on_t (z_on_t (z_on_t (z_on_h rfl (by omega) (by omega))))))))) | exact z_on_t (z_on_t (z_on_t (z_on_t (z_on_t (z_on_t (z_on_t (z_on_t (z_on_t (z_on_h rfl (by omega) (by omega)))))))))) | exact z_on_t (z_on_t (z_on_t (z_on_t (z_on_t (z_on_t (z_on_t (z_on_t (z_on_t (z_on_t (z_on_h rfl (by omega) (by omega))))))))))) | exact z_on_t (z_on_t (z_on_t (z_on_t (z_on_t (z_on_t (z_on_t (z_on_t (z_on_t (z_on_t (z_on_t (z_on_h rfl (by omega) (by omega)))))))))))) | exact z_on_t (z_on_t (z_on_t (z_on_t (z_on_t (z_on_t (z_on_t (z_on_t (z_on_t (z_on_t (z_on_t (z_on_t (z_on_h rfl (by omega) (by omega))))))))))))))))⟩
    obtain ⟨q1, q2⟩ := a3 y
    refine ⟨?_, q2⟩
    rw [q1, Nat.zero_add]
