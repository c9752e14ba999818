section
/-! WHAT IS TOLD by longest: the class stops where all stands -/
def lo_gs (V : (Nat → Nat) → Int) (N : Int) (w h : Nat) : Nat → Nat → (Nat → Nat) → lo_a → lo_a
  | 0, _, rr, a => lo_w N (V rr) rr a
  | j + 1, k, rr, a => (lo_rs 9 0).foldl (fun a r => if a.1 = 0 then if lo_can w h k rr r = true then lo_gs V N w h j (k + 1) (lo_up rr k r) a else a else a) a
theorem lo_fold_n {g : lo_a → Nat → lo_a} {a : lo_a} (ha : ¬ a.1 = 0) : ∀ l : List Nat, l.foldl (fun a r => if a.1 = 0 then g a r else a) a = a := by
  intro l
  induction l with
  | nil => rfl
  | cons r l ih =>
    show l.foldl (fun a r => if a.1 = 0 then g a r else a) (if a.1 = 0 then g a r else a) = a
    rw [if_neg ha]
    exact ih
theorem lo_w_N {N v : Int} {rr : Nat → Nat} {a : lo_a} (hv : v ≤ N) (ha : N ≤ a.2.1) : (lo_w N v rr a).2 = a.2 := by
  show ((if a.2.1 < v then v else a.2.1, if a.2.1 < v then rr else a.2.2) : Int × (Nat → Nat)) = a.2
  rw [if_neg (by omega), if_neg (by omega)]
theorem lo_fold_2 {f : lo_a → Nat → lo_a} {N : Int} (hf : ∀ a r, N ≤ a.2.1 → (f a r).2 = a.2) : ∀ (l : List Nat) (a : lo_a), N ≤ a.2.1 → (l.foldl f a).2 = a.2 := by
  intro l
  induction l with
  | nil => intro a _; rfl
  | cons r l ih =>
    intro a ha
    have e := hf a r ha
    show (l.foldl f (f a r)).2 = a.2
    rw [ih (f a r) (by rw [e]; exact ha), e]
theorem lo_g_N {V : (Nat → Nat) → Int} {N : Int} (hV : ∀ rr, V rr ≤ N) {w h : Nat} : ∀ (j k : Nat) (rr : Nat → Nat) (a : lo_a), N ≤ a.2.1 → (lo_g V N w h j k rr a).2 = a.2 := by
  intro j
  induction j with
  | zero => intro k rr a ha; exact lo_w_N (hV rr) ha
  | succ j ih =>
    intro k rr a ha
    refine lo_fold_2 (N := N) (fun a r h1 => ?_) (lo_rs 9 0) a ha
    by_cases e : lo_can w h k rr r = true
    · rw [if_pos e]
      exact ih (k + 1) (lo_up rr k r) a h1
    · rw [if_neg e]
def lo_sg (N : Int) (as ag : lo_a) : Prop := as.2 = ag.2 ∧ (as.1 = 0 ∨ N ≤ as.2.1)
theorem lo_fold_sg {f g : lo_a → Nat → lo_a} {N : Int} (hf : ∀ a b r, lo_sg N a b → lo_sg N (f a r) (g b r)) : ∀ (l : List Nat) (a b : lo_a), lo_sg N a b → lo_sg N (l.foldl f a) (l.foldl g b) := by
  intro l
  induction l with
  | nil => intro a b h; exact h
  | cons r l ih => intro a b h; exact ih (f a r) (g b r) (hf a b r h)
theorem lo_gs_g {V : (Nat → Nat) → Int} {N : Int} (hV : ∀ rr, V rr ≤ N) {w h : Nat} : ∀ (j k : Nat) (rr : Nat → Nat) (a b : lo_a), lo_sg N a b → lo_sg N (lo_gs V N w h j k rr a) (lo_g V N w h j k rr b) := by
  intro j
  induction j with
  | zero =>
    intro k rr a b hab
    obtain ⟨h1, h2⟩ := hab
    have hv := hV rr
    refine ⟨?_, ?_⟩
    · show ((if a.2.1 < V rr then V rr else a.2.1, if a.2.1 < V rr then rr else a.2.2) : Int × (Nat → Nat)) = (if b.2.1 < V rr then V rr else b.2.1, if b.2.1 < V rr then rr else b.2.2)
      rw [h1]
    · show (if V rr = N then z_add a.1 1 else a.1) = 0 ∨ N ≤ (if a.2.1 < V rr then V rr else a.2.1)
      by_cases e : V rr = N
      · refine Or.inr ?_
        by_cases c : a.2.1 < V rr
        · rw [if_pos c]; omega
        · rw [if_neg c]; omega
      · rw [if_neg e]
        refine h2.imp id (fun z => ?_)
        rw [if_neg (by omega)]
        exact z
  | succ j ih =>
    intro k rr a b hab
    refine lo_fold_sg (fun a b r hab => ?_) (lo_rs 9 0) a b hab
    by_cases e : lo_can w h k rr r = true
    · rw [if_pos e, if_pos e]
      by_cases c : a.1 = 0
      · rw [if_pos c]
        exact ih (k + 1) (lo_up rr k r) a b hab
      · rw [if_neg c]
        have hN := hab.2.resolve_left c
        exact ⟨hab.1.trans (lo_g_N hV j (k + 1) (lo_up rr k r) b (by rw [← hab.1]; exact hN)).symm, Or.inr hN⟩
    · rw [if_neg e, if_neg e, ite_self]
      exact hab
/-! one is found, where there are ROOMS enough -/
def lo_exb : Bool := (List.range 4).all fun w => (List.range 4).all fun h => (List.range 4).all fun k => Nat.ble (w * h) k || (List.range 9).all fun a => (List.range 9).all fun b => (List.range 9).all fun c => (List.range 9).any fun r => Nat.ble (r % 3 + 1) w && (Nat.ble (r / 3 + 1) h && ((Nat.ble k 0 || !Nat.beq a r) && ((Nat.ble k 1 || !Nat.beq b r) && (Nat.ble k 2 || !Nat.beq c r))))
theorem lo_exb_t : lo_exb = true := by decide +kernel
theorem lo_ex1 {w h k a b c : Nat} (hw : w ≤ 3) (hh : h ≤ 3) (hk : k ≤ 3) (hwh : k < w * h) (ha : a < 9) (hb : b < 9) (hc : c < 9) : ∃ r, r < 9 ∧ r % 3 < w ∧ r / 3 < h ∧ (k ≤ 0 ∨ ¬ a = r) ∧ (k ≤ 1 ∨ ¬ b = r) ∧ (k ≤ 2 ∨ ¬ c = r) := by
  have h1 := List.all_eq_true.mp lo_exb_t w (List.mem_range.mpr (by omega))
  have h2 := List.all_eq_true.mp h1 h (List.mem_range.mpr (by omega))
  have h3 := List.all_eq_true.mp h2 k (List.mem_range.mpr (by omega))
  rcases Bool.or_eq_true _ _ |>.mp h3 with h4 | h4
  · have := Nat.le_of_ble_eq_true h4
    omega
  have h5 := List.all_eq_true.mp h4 a (List.mem_range.mpr ha)
  have h6 := List.all_eq_true.mp h5 b (List.mem_range.mpr hb)
  have h7 := List.all_eq_true.mp h6 c (List.mem_range.mpr hc)
  obtain ⟨r, hr, h8⟩ := List.any_eq_true.mp h7
  have nb : ∀ {k u x : Nat}, (Nat.ble k u || !Nat.beq x r) = true → k ≤ u ∨ ¬ x = r := fun {k u x} z => by
    rcases Bool.or_eq_true _ _ |>.mp z with y | y
    · exact Or.inl (Nat.le_of_ble_eq_true y)
    · refine Or.inr fun e => ?_
      subst e
      rw [Nat.beq_refl] at y
      cases y
  obtain ⟨b1, h8⟩ := Bool.and_eq_true _ _ |>.mp h8
  obtain ⟨b2, h8⟩ := Bool.and_eq_true _ _ |>.mp h8
  obtain ⟨b3, h8⟩ := Bool.and_eq_true _ _ |>.mp h8
  obtain ⟨b4, b5⟩ := Bool.and_eq_true _ _ |>.mp h8
  exact ⟨r, List.mem_range.mp hr, Nat.le_of_ble_eq_true b1, Nat.le_of_ble_eq_true b2, nb b3, nb b4, nb b5⟩
theorem lo_rs_mem : ∀ (f x r : Nat), x ≤ r → r < x + f → r ∈ lo_rs f x := by
  intro f
  induction f with
  | zero => intro x r h1 h2; omega
  | succ f ih =>
    intro x r h1 h2
    show r ∈ x :: lo_rs f (x + 1)
    by_cases e : r = x
    · rw [e]; exact List.mem_cons_self
    · exact List.mem_cons_of_mem _ (ih (x + 1) r (by omega) (by omega))
theorem lo_ex {w h k : Nat} {rr : Nat → Nat} (hw : w ≤ 3) (hh : h ≤ 3) (hk : k ≤ 3) (hwh : k < w * h) (hr : ∀ i, i < k → rr i < 9) : ∃ r, r < 9 ∧ lo_can w h k rr r = true := by
  obtain ⟨r, h1, h2, h3, h4, h5, h6⟩ := lo_ex1 (a := if 0 < k then rr 0 else 0) (b := if 1 < k then rr 1 else 0) (c := if 2 < k then rr 2 else 0) hw hh hk hwh (by
    by_cases e : 0 < k
    · rw [if_pos e]; exact hr 0 e
    · rw [if_neg e]; decide) (by
    by_cases e : 1 < k
    · rw [if_pos e]; exact hr 1 e
    · rw [if_neg e]; decide) (by
    by_cases e : 2 < k
    · rw [if_pos e]; exact hr 2 e
    · rw [if_neg e]; decide)
  refine ⟨r, h1, ?_⟩
  unfold lo_can
  have hu : ¬ u_hs (w : Int) (h : Int) (r : Int) = 0 := by
    rw [u_hs_eq hw hh (by omega), if_pos ⟨h1, h2, h3⟩]
    decide
  rw [decide_eq_true hu, Bool.true_and]
  refine List.all_eq_true.mpr fun i hi => ?_
  have hi := List.mem_range.mp hi
  have ne : ¬ rr i = r := by
    rcases (show i = 0 ∨ i = 1 ∨ i = 2 by omega) with rfl | rfl | rfl
    · rw [if_pos (show 0 < k by omega)] at h4
      exact h4.resolve_left (by omega)
    · rw [if_pos (show 1 < k by omega)] at h5
      exact h5.resolve_left (by omega)
    · rw [if_pos (show 2 < k by omega)] at h6
      exact h6.resolve_left (by omega)
  rw [decide_eq_false ne]
  rfl
theorem lo_fold_k {f : lo_a → Nat → lo_a} (hf : ∀ a r, 0 ≤ a.2.1 → 0 ≤ (f a r).2.1) : ∀ (l : List Nat) (a : lo_a), 0 ≤ a.2.1 → 0 ≤ (l.foldl f a).2.1 := by
  intro l
  induction l with
  | nil => intro a h; exact h
  | cons r l ih => intro a h; exact ih (f a r) (hf a r h)
theorem lo_fold_m {f : lo_a → Nat → lo_a} (hf : ∀ a r, 0 ≤ a.2.1 → 0 ≤ (f a r).2.1) {r : Nat} (hr : ∀ a, 0 ≤ (f a r).2.1) : ∀ (l : List Nat) (a : lo_a), r ∈ l → 0 ≤ (l.foldl f a).2.1 := by
  intro l
  induction l with
  | nil => intro a h; cases h
  | cons x l ih =>
    intro a h
    rcases List.mem_cons.mp h with e | e
    · rw [← e]
      exact lo_fold_k hf l (f a r) (hr a)
    · exact ih (f a x) e
theorem lo_g_k {V : (Nat → Nat) → Int} {N : Int} {w h : Nat} (hV : ∀ rr, 0 ≤ V rr) : ∀ (j k : Nat) (rr : Nat → Nat) (a : lo_a), 0 ≤ a.2.1 → 0 ≤ (lo_g V N w h j k rr a).2.1 := by
  intro j
  induction j with
  | zero => intro k rr a _; exact lo_w_P (hV rr)
  | succ j ih =>
    intro k rr a ha
    refine lo_fold_k (fun a r h1 => ?_) (lo_rs 9 0) a ha
    by_cases e : lo_can w h k rr r = true
    · rw [if_pos e]
      exact ih (k + 1) (lo_up rr k r) a h1
    · rw [if_neg e]
      exact h1
theorem lo_g_ex {V : (Nat → Nat) → Int} {N : Int} {w h : Nat} (hw : w ≤ 3) (hh : h ≤ 3) (hV : ∀ rr, 0 ≤ V rr) : ∀ (j k : Nat) (rr : Nat → Nat) (a : lo_a), k + j ≤ 4 → k + j ≤ w * h → (∀ i, i < k → rr i < 9) → 0 ≤ (lo_g V N w h j k rr a).2.1 := by
  intro j
  induction j with
  | zero => intro k rr a _ _ _; exact lo_w_P (hV rr)
  | succ j ih =>
    intro k rr a h4 hwh hr
    obtain ⟨r, hr9, hc⟩ := lo_ex (rr := rr) hw hh (show k ≤ 3 by omega) (show k < w * h by omega) hr
    refine lo_fold_m (r := r) (fun a x h1 => ?_) (fun a => ?_) (lo_rs 9 0) a (lo_rs_mem 9 0 r (by omega) (by omega))
    · by_cases e : lo_can w h k rr x = true
      · rw [if_pos e]
        exact lo_g_k hV j (k + 1) (lo_up rr k x) a h1
      · rw [if_neg e]
        exact h1
    · rw [if_pos hc]
      refine ih (k + 1) (lo_up rr k r) a (by omega) (by omega) (fun i hi => ?_)
      unfold lo_up
      by_cases e : i = k
      · rw [if_pos e]; exact hr9
      · rw [if_neg e]; exact hr i (by omega)
section
variable {w h n : Nat} {heat price : Int} {D A : Nat → Int} {c : Nat} {U : Nat → Nat → Int} {kn : Nat → Int} {KS : Nat → Nat → Int} {cs : List Int} {m : z_M}
theorem lo_V_le {l : List Nat} {N : Nat} (rr : Nat → Nat) : lo_V w h n heat price cs D A l N rr ≤ (N : Int) := by
  unfold lo_V
  rcases s_sta_x (w := w) (h := h) (n := n) (heat := heat) (price := price) (cs := cs) (D := D) (F := s_F w h A) (N := N) N 0 (lo_pl l rr l.length A) (Nat.zero_add N) with z | z
  · rw [z]; exact Int.le_refl _
  · omega
def lo_J0 (w h n : Nat) (heat price : Int) (D A : Nat → Int) (c : Nat) (U : Nat → Nat → Int) (kn : Nat → Int) (KS : Nat → Nat → Int) (cs : List Int) (l : List Nat) (N : Nat) (a : lo_a) (m : z_M) : Prop := lo_I w h n heat price D A c U kn KS cs l N m ∧ (∀ b, b < w → lo_tab w h n heat price cs D A l N b m) ∧ m 122 11 = 0 ∧ m 122 12 = a.1 ∧ z_w a.1 = a.1 ∧ m 122 13 = a.2.1 ∧ -1 ≤ a.2.1 ∧ (a.2.1 = -1 ∨ ∀ i, i < l.length → m 137 i = (a.2.2 i : Int))
theorem lo_J0_fr {l : List Nat} {N : Nat} {a : lo_a} {m m' : z_M} (hv : lo_J0 w h n heat price D A c U kn KS cs l N a m) (hf : ∀ p k, ¬ p = 136 → ¬ p = 138 → m' p k = m p k) : lo_J0 w h n heat price D A c U kn KS cs l N a m' := by
  obtain ⟨a1, a2, a3, a4, a5, a6, a7, a8⟩ := hv
  refine ⟨lo_I_fr a1 (fun p k hk => ?_) (hf _ _ (by decide) (by decide)) (hf _ _ (by decide) (by decide)) (fun i => hf _ _ (by decide) (by decide)) (fun j k hj => hf _ _ (by omega) (by omega)), fun b hb code hc hlv => (hf _ _ (by decide) (by decide)).trans (a2 b hb code hc hlv), (hf _ _ (by decide) (by decide)).trans a3, (hf _ _ (by decide) (by decide)).trans a4, a5, (hf _ _ (by decide) (by decide)).trans a6, a7, a8.imp id (fun z i hi => (hf _ _ (by decide) (by decide)).trans (z i hi))⟩
  have hk' := hk
  unfold C_hit at hk'
  have hk' := of_decide_eq_true hk'
  exact hf p k (by omega) (by omega)
theorem lo_wei0 {l : List Nat} {N : Nat} (hN40 : N ≤ 100) (hN : w_N w h n heat D) (hok : hr_ok n A) (ht : 0 ≤ A 35 ∧ A 35 ≤ 1073741824) (hl : lo_ok n A l) (hl4 : l.length ≤ 4) {rr : Nat → Nat} (hva : lo_va w h rr l.length) {a : lo_a} {m : z_M} (hv : lo_J0 w h n heat price D A c U kn KS cs l N a m) (h136 : ∀ i, i < l.length → m 136 i = (rr i : Int)) (h138 : ∀ b, b < 3 → m 138 b = (lo_cd rr b l.length : Int)) : ∃ m1, z_R 107 (m, 0, [(2, 122), (9, 0), (9, 0), (9, 0)], []) = some (m1, none) ∧ lo_J0 w h n heat price D A c U kn KS cs l N (lo_w (N : Int) (lo_V w h n heat price cs D A l N rr) rr a) m1 ∧ ∀ p k, (p = 136 ∨ p = 138) → m1 p k = m p k := by
  have n5 := hN.1.2.2
  have hw3 := hN.1.1
  obtain ⟨a1, a2, a3, a4, a5, a6, a7, a8⟩ := hv
  have h8 := a1.1.1.1
  have h10 := a1.2.2.1
  have hoP := lo_plok hok n5 hl l.length (Nat.le_refl _) (fun i hi => (hva.1 i hi).1)
  have eP35 : lo_pl l rr l.length A 35 = A 35 := lo_pl_ne _ (fun i hi => by have := hl.1 i hi; omega)
  have lp : ∀ (f b : Nat) (v3 : z_V), b + f = w → ∃ v3', z_R 107 (m, 7, [(2, 122), (0, lo_st (N : Int) (fun b => s_stc w h n heat price cs D (s_fl A) b N N 0 (lo_pl l rr l.length A)) b), (0, (b : Int)), v3], []) = z_R 107 (m, 7, [(2, 122), (0, lo_st (N : Int) (fun b => s_stc w h n heat price cs D (s_fl A) b N N 0 (lo_pl l rr l.length A)) w), (0, (w : Int)), v3'], []) := by
    intro f
    induction f with
    | zero =>
      intro b v3 hb
      obtain rfl : b = w := by omega
      exact ⟨v3, rfl⟩
    | succ f ih =>
      intro b v3 hb
      obtain ⟨d1, d2⟩ := lo_cd_dg (c := b) hl4 hva.2
      have hdg : (fun y => lo_cd rr b l.length / 5 ^ y % 5) 0 = lo_dg rr b 0 l.length ∧ (fun y => lo_cd rr b l.length / 5 ^ y % 5) 1 = lo_dg rr b 1 l.length ∧ (fun y => lo_cd rr b l.length / 5 ^ y % 5) 2 = lo_dg rr b 2 l.length := ⟨d2 0 (by decide), d2 1 (by decide), d2 2 (by decide)⟩
      have hlv0 := lo_lv_va (w := w) (h := h) (l := l) hva b
      have hlv : ∀ y', y' < 3 → lo_lv w h l b (fun y => lo_cd rr b l.length / 5 ^ y % 5) y' := fun y' hy' => by
        have z := hlv0 y'
        unfold lo_lv at z ⊢
        have e : ∀ y, y < 3 → (fun y => lo_cd rr b l.length / 5 ^ y % 5) y = (fun y => lo_dg rr b y l.length) y := d2
        rw [e y' hy']
        refine z.imp id (fun q => ⟨q.1, q.2.1, fun y2 h2 => ?_⟩)
        rw [e y2 (by omega)]
        exact q.2.2 y2 h2
      have ec : lo_c n A l b (fun y => lo_cd rr b l.length / 5 ^ y % 5) 3 = lo_c n A l b (fun y => lo_dg rr b y l.length) 3 := by
        unfold lo_c lo_c lo_c lo_c
        have hdg2 : lo_cd rr b l.length / 5 ^ 0 % 5 = lo_dg rr b 0 l.length ∧ lo_cd rr b l.length / 5 ^ 1 % 5 = lo_dg rr b 1 l.length ∧ lo_cd rr b l.length / 5 ^ 2 % 5 = lo_dg rr b 2 l.length := hdg
        rw [hdg2.1, hdg2.2.1, hdg2.2.2]
      have tb := a2 b (by omega) (lo_cd rr b l.length) d1 hlv
      rw [ec] at tb
      have hd : ∀ y, y < 3 → (fun y => lo_dg rr b y l.length) y = 0 ∨ (fun y => lo_dg rr b y l.length) y ≤ l.length := fun y _ => (hlv0 y).imp id (fun z => z.1)
      have eS : s_stc w h n heat price cs D (s_fl A) b N N 0 (lo_c n A l b (fun y => lo_dg rr b y l.length) 3) = s_stc w h n heat price cs D (s_fl A) b N N 0 (lo_pl l rr l.length A) := (s_stc_ag hN hN (fun _ _ _ _ => rfl) N 0 _ _ (lo_ag (w := w) (h := h) n5 hl hva (by omega)) hoP (lo_hok hok n5 hl (by omega) hd) (by rw [eP35]; exact ht.1) (by rw [eP35]; omega) (fun _ _ _ _ _ => rfl)).symm
      rw [eS] at tb
      rw [lo_wei_7, h8, if_neg (by omega), if_neg (by omega), if_pos (by omega), Int.toNat_natCast, h138 b (by omega), z_mul_eq (x := (b : Int)) (y := 125) (by omega) (by omega), z_add_eq (x := (b : Int) * 125) (y := ((lo_cd rr b l.length : Nat) : Int)) (by omega) (by omega), if_neg (by omega), if_neg (by omega), show ((b : Int) * 125 + ((lo_cd rr b l.length : Nat) : Int)).toNat = 125 * b + lo_cd rr b l.length by omega, tb, tc1]
      exact ih (b + 1) _ (by omega)
  obtain ⟨v3', e0⟩ := lp w 0 (9, 0) (by omega)
  have e0 : z_R 107 (m, 7, [(2, 122), (0, (N : Int)), (0, 0), (9, 0)], []) = z_R 107 (m, 7, [(2, 122), (0, lo_V w h n heat price cs D A l N rr), (0, (w : Int)), v3'], []) := by
    rw [lo_V_st hN.1.1 hN.1.2.1]
    exact e0
  rw [lo_wei_0, h10, e0, lo_wei_7, h8, if_pos (Int.le_refl _), a6, h10, a4]
  generalize lo_V w h n heat price cs D A l N rr = v
  have cp : ∀ i, i < l.length → (z_cp (z_up m 122 13 v) 136 0 137 0 4) 137 i = (rr i : Int) := fun i hi => by
    rw [zc_in (by omega), zu_p (by decide)]
    exact h136 i hi
  have hit : ∀ p k, C_hit p k k = true → ¬ p = 122 ∧ ¬ p = 137 := fun p k hk => by
    have hk' := hk
    unfold C_hit at hk'
    have hk' := of_decide_eq_true hk'
    omega
  unfold lo_w
  by_cases z1 : v ≤ a.2.1
  · rw [if_pos z1]
    by_cases z2 : v = (N : Int)
    · rw [if_pos z2]
      refine ⟨_, rfl, ⟨lo_I_fr a1 (fun p k hk => zu_p (hit p k hk).1) (zu_k (by decide)) (zu_k (by decide)) (fun i => zu_p (by decide)) (fun j k hj => zu_p (by omega)), fun b hb code hc hlv => (zu_p (by decide)).trans (a2 b hb code hc hlv), (zu_k (by decide)).trans a3, ?_, ?_, ?_, ?_, ?_⟩, fun p k hp => zu_p (by omega)⟩
      · rw [zu_self, if_pos z2]
      · show z_w (if v = (N : Int) then z_add a.1 1 else a.1) = _
        rw [if_pos z2, z_add_w]
        exact z_w_w
      · rw [zu_k (by decide), a6]
        exact (if_neg (show ¬ a.2.1 < v by omega)).symm
      · show -1 ≤ (if a.2.1 < v then v else a.2.1)
        rw [if_neg (by omega)]
        exact a7
      · show (if a.2.1 < v then v else a.2.1) = -1 ∨ ∀ i, i < l.length → _ = (((if a.2.1 < v then rr else a.2.2) i : Nat) : Int)
        rw [if_neg (by omega), if_neg (by omega)]
        exact a8.imp id (fun q i hi => (zu_p (by decide)).trans (q i hi))
    · rw [if_neg z2]
      refine ⟨_, rfl, ⟨a1, a2, a3, ?_, ?_, ?_, ?_, ?_⟩, fun p k hp => rfl⟩
      · rw [if_neg z2]
        exact a4
      · show z_w (if v = (N : Int) then z_add a.1 1 else a.1) = _
        rw [if_neg z2]
        exact a5
      · exact a6.trans (if_neg (show ¬ a.2.1 < v by omega)).symm
      · show -1 ≤ (if a.2.1 < v then v else a.2.1)
        rw [if_neg (by omega)]
        exact a7
      · show (if a.2.1 < v then v else a.2.1) = -1 ∨ ∀ i, i < l.length → _ = (((if a.2.1 < v then rr else a.2.2) i : Nat) : Int)
        rw [if_neg (by omega), if_neg (by omega)]
        exact a8
  · rw [if_neg z1]
    have hlt : a.2.1 < v := by omega
    have base : lo_I w h n heat price D A c U kn KS cs l N (z_cp (z_up m 122 13 v) 136 0 137 0 4) := lo_I_fr a1 (fun p k hk => (zc_p (hit p k hk).2).trans (zu_p (hit p k hk).1)) ((zc_p (by decide)).trans (zu_k (by decide))) ((zc_p (by decide)).trans (zu_k (by decide))) (fun i => (zc_p (by decide)).trans (zu_p (by decide))) (fun j k hj => (zc_p (by omega)).trans (zu_p (by omega)))
    by_cases z2 : v = (N : Int)
    · rw [if_pos z2]
      refine ⟨_, rfl, ⟨lo_I_fr base (fun p k hk => zu_p (hit p k hk).1) (zu_k (by decide)) (zu_k (by decide)) (fun i => zu_p (by decide)) (fun j k hj => zu_p (by omega)), fun b hb code hc hlv => ((zu_p (by decide)).trans ((zc_p (by decide)).trans (zu_p (by decide)))).trans (a2 b hb code hc hlv), ((zu_k (by decide)).trans ((zc_p (by decide)).trans (zu_k (by decide)))).trans a3, ?_, ?_, ?_, ?_, ?_⟩, fun p k hp => (zu_p (by omega)).trans ((zc_p (by omega)).trans (zu_p (by omega)))⟩
      · rw [zu_self, if_pos z2]
      · show z_w (if v = (N : Int) then z_add a.1 1 else a.1) = _
        rw [if_pos z2, z_add_w]
        exact z_w_w
      · rw [zu_k (by decide), zc_p (by decide), zu_self]
        exact (if_pos hlt).symm
      · show -1 ≤ (if a.2.1 < v then v else a.2.1)
        rw [if_pos hlt]
        omega
      · refine Or.inr fun i hi => ?_
        show _ = (((if a.2.1 < v then rr else a.2.2) i : Nat) : Int)
        rw [zu_p (by decide), cp i hi, if_pos hlt]
    · rw [if_neg z2]
      refine ⟨_, rfl, ⟨base, fun b hb code hc hlv => ((zc_p (by decide)).trans (zu_p (by decide))).trans (a2 b hb code hc hlv), ((zc_p (by decide)).trans (zu_k (by decide))).trans a3, ?_, ?_, ?_, ?_, ?_⟩, fun p k hp => (zc_p (by omega)).trans (zu_p (by omega))⟩
      · rw [zc_p (by decide), zu_k (by decide), if_neg z2]
        exact a4
      · show z_w (if v = (N : Int) then z_add a.1 1 else a.1) = _
        rw [if_neg z2]
        exact a5
      · rw [zc_p (by decide), zu_self]
        exact (if_pos hlt).symm
      · show -1 ≤ (if a.2.1 < v then v else a.2.1)
        rw [if_pos hlt]
        omega
      · refine Or.inr fun i hi => ?_
        show _ = (((if a.2.1 < v then rr else a.2.2) i : Nat) : Int)
        rw [cp i hi, if_pos hlt]
theorem lo_plaS {l : List Nat} {N : Nat} (hN40 : N ≤ 100) (hN : w_N w h n heat D) (hok : hr_ok n A) (ht : 0 ≤ A 35 ∧ A 35 ≤ 1073741824) (hl : lo_ok n A l) (hl4 : l.length ≤ 4) : ∀ (j k : Nat), k + j = l.length → ∀ (t : Int) (rr : Nat → Nat) (a : lo_a) (m : z_M), lo_va w h rr k → lo_tk k rr t → lo_J0 w h n heat price D A c U kn KS cs l N a m → (∀ i, i < k → m 136 i = (rr i : Int)) → (∀ b, b < 3 → m 138 b = (lo_cd rr b k : Int)) → ∃ m1, z_R 106 (m, 0, [(2, 122), (0, (k : Int)), (0, t), (9, 0), (9, 0)], []) = some (m1, none) ∧ lo_J0 w h n heat price D A c U kn KS cs l N (lo_gs (lo_V w h n heat price cs D A l N) (N : Int) w h j k rr a) m1 ∧ (∀ i, i < k → m1 136 i = m 136 i) ∧ ∀ b, b < 3 → m1 138 b = m 138 b := by
  intro j
  induction j with
  | zero =>
    intro k hk t rr a m hva htk hv h136 h138
    obtain rfl : k = l.length := by omega
    obtain ⟨m1, a1, a2, a3⟩ := lo_wei0 hN40 hN hok ht hl hl4 hva hv h136 h138
    rw [lo_pla_0, hv.1.2.1, if_pos (Int.le_refl _), a1, zb_n, lo_pla_17]
    exact ⟨m1, rfl, a2, fun i _ => a3 136 i (Or.inl rfl), fun b _ => a3 138 b (Or.inr rfl)⟩
  | succ j ih =>
    intro k hk t rr a m hva htk hv h136 h138
    have IH := ih (k + 1) (by omega)
    have lp : ∀ (f r : Nat) (v4 : z_V) (a' : lo_a) (m' : z_M), r + f = 9 → lo_J0 w h n heat price D A c U kn KS cs l N a' m' → (∀ i, i < k → m' 136 i = m 136 i) → (∀ b, b < 3 → m' 138 b = m 138 b) → ∃ m1, z_R 106 (m', 20, [(2, 122), (0, (k : Int)), (0, t), (0, (r : Int)), v4], []) = some (m1, none) ∧ lo_J0 w h n heat price D A c U kn KS cs l N ((lo_rs f r).foldl (fun a r => if a.1 = 0 then if lo_can w h k rr r = true then lo_gs (lo_V w h n heat price cs D A l N) (N : Int) w h j (k + 1) (lo_up rr k r) a else a else a) a') m1 ∧ (∀ i, i < k → m1 136 i = m 136 i) ∧ ∀ b, b < 3 → m1 138 b = m 138 b := by
      intro f
      induction f with
      | zero =>
        intro r v4 a' m' hr hv' h1 h2
        rw [lo_pla_20, if_pos (by omega)]
        exact ⟨m', rfl, hv', h1, h2⟩
      | succ f ihf =>
        intro r v4 a' m' hr hv' h1 h2
        have hcan := lo_can_tk (w := w) (h := h) htk (show r < 9 by omega)
        have hbit := zb_test (a := t) (k := r) (by omega)
        have er3 : ((r : Int) % 3).toNat = r % 3 := by omega
        have ed3 : ((r : Int) / 3).toNat = r / 3 := by omega
        rw [lo_pla_20, if_neg (by omega), hv'.2.2.1, if_pos rfl]
        unfold lo_rs
        show ∃ m1, _ ∧ lo_J0 w h n heat price D A c U kn KS cs l N ((lo_rs f (r + 1)).foldl (fun a r => if a.1 = 0 then if lo_can w h k rr r = true then lo_gs (lo_V w h n heat price cs D A l N) (N : Int) w h j (k + 1) (lo_up rr k r) a else a else a) (if a'.1 = 0 then if lo_can w h k rr r = true then lo_gs (lo_V w h n heat price cs D A l N) (N : Int) w h j (k + 1) (lo_up rr k r) a' else a' else a')) m1 ∧ _
        by_cases cn : ¬ a'.1 = 0
        · rw [if_neg cn, hv'.2.2.2.1, if_neg cn, lo_fold_n cn]
          exact ⟨m', rfl, hv', h1, h2⟩
        have cz : a'.1 = 0 := Decidable.not_not.mp cn
        rw [if_pos cz, hv'.2.2.2.1, if_pos cz, hv'.1.1.1.1, hv'.1.1.1.2.1, z_add_eq (x := (r : Int)) (y := 1) (by omega) (by omega), er3, ed3, tc1, tc1]
        by_cases cu : u_hs (w : Int) (h : Int) (r : Int) = 0
        · rw [if_neg (not_not_intro cu), if_neg (show ¬ lo_can w h k rr r = true from fun z => (hcan.mp z).1 cu)]
          exact ihf (r + 1) _ a' m' (by omega) hv' h1 h2
        rw [if_pos cu]
        by_cases cb : zb t r = true
        · rw [if_neg (fun z => by rw [hbit.mp z] at cb; cases cb), if_neg (show ¬ lo_can w h k rr r = true from fun z => by rw [(hcan.mp z).2] at cb; cases cb)]
          exact ihf (r + 1) _ a' m' (by omega) hv' h1 h2
        have cb' : zb t r = false := by
          cases y : zb t r
          · rfl
          · exact absurd y cb
        have hc : lo_can w h k rr r = true := hcan.mpr ⟨cu, cb'⟩
        rw [if_pos (hbit.mpr cb'), if_pos (by omega), if_pos hc, Int.toNat_natCast, z_add_eq (x := (k : Int)) (y := 1) (by omega) (by omega), tc1, lo_plc (by omega) m']
        have hplc : (if r / 3 = 0 then 1 else if r / 3 = 1 then 5 else 25 : Nat) ≤ 25 := by
          (repeat' split) <;> omega
        have el : z_mul ((k + 1 : Nat) : Int) (((if r / 3 = 0 then 1 else if r / 3 = 1 then 5 else 25 : Nat)) : Int) = (((k + 1) * (if r / 3 = 0 then 1 else if r / 3 = 1 then 5 else 25) : Nat) : Int) := by
          have hk4 : k + 1 ≤ 4 := by omega
          have hb : (k + 1) * (if r / 3 = 0 then 1 else if r / 3 = 1 then 5 else 25) ≤ 4 * 25 := Nat.mul_le_mul hk4 hplc
          rw [z_mul_eq (by rw [← Int.natCast_mul]; omega) (by rw [← Int.natCast_mul]; omega)]
          exact (Int.natCast_mul _ _).symm
        rw [el]
        have hb100 : (k + 1) * (if r / 3 = 0 then 1 else if r / 3 = 1 then 5 else 25) ≤ 100 := by
          have := Nat.mul_le_mul (show k + 1 ≤ 4 by omega) hplc
          omega
        generalize hq : (k + 1) * (if r / 3 = 0 then 1 else if r / 3 = 1 then 5 else 25) = q at hb100
        have hcd := (lo_cd_dg (c := r % 3) (show k ≤ 4 by omega) hva.2).1
        have e138 : m' 138 (r % 3) = (lo_cd rr (r % 3) k : Int) := (h2 (r % 3) (by omega)).trans (h138 (r % 3) (by omega))
        rw [e138, z_add_eq (x := (lo_cd rr (r % 3) k : Int)) (y := (q : Int)) (by omega) (by omega), show (lo_cd rr (r % 3) k : Int) + (q : Int) = ((lo_cd rr (r % 3) k + q : Nat) : Int) by omega]
        have hcd1 : ∀ b, b < 3 → lo_cd (lo_up rr k r) b (k + 1) = lo_cd rr b k + (if r % 3 = b then q else 0) := fun b hb => by
          have ek : lo_up rr k r k = r := if_pos rfl
          rw [lo_cd_s (by rw [ek]; omega) hb, ek, lo_cd_cg (rr := lo_up rr k r) (rr' := rr) k (fun i hi => if_neg (by omega)), hq]
        have hv2 : lo_J0 w h n heat price D A c U kn KS cs l N a' (z_up (z_up m' 136 k (r : Int)) 138 (r % 3) ((lo_cd rr (r % 3) k + q : Nat) : Int)) := lo_J0_fr hv' (fun p i h136' h138' => by rw [zu_p h138', zu_p h136'])
        obtain ⟨m2, b1, b2, b3, b4⟩ := IH (z_or t (z_shl 1 (r : Int))) (lo_up rr k r) a' _ (lo_can_va hva hc) (lo_tk_s htk (by omega)) hv2 (fun i hi => by
          rw [zu_p (by decide)]
          unfold lo_up
          by_cases e : i = k
          · rw [e, zu_self, if_pos rfl]
          · rw [zu_k e, if_neg e, h1 i (by omega), h136 i (by omega)]) (fun b hb => by
          rw [hcd1 b hb]
          by_cases e : r % 3 = b
          · rw [← e, zu_self, if_pos rfl]
          · rw [zu_k (fun z => e z.symm), zu_p (by decide), if_neg e, Nat.add_zero, h2 b hb, h138 b hb])
        rw [b1, zb_n, lo_pla_104, z_rem_nn (x := (r : Int)) (by omega) (by omega) (by decide) (by decide), if_pos (by omega), er3, z_add_eq (x := (r : Int)) (y := 1) (by omega) (by omega), tc1]
        have e1 : m2 138 (r % 3) = ((lo_cd rr (r % 3) k + q : Nat) : Int) := (b4 (r % 3) (by omega)).trans zu_self
        rw [e1, z_sub_eq (by omega) (by omega), show ((lo_cd rr (r % 3) k + q : Nat) : Int) - (q : Int) = (lo_cd rr (r % 3) k : Int) by omega]
        refine ihf (r + 1) _ _ _ (by omega) (lo_J0_fr b2 (fun p i h136' h138' => zu_p h138')) (fun i hi => ?_) (fun b hb => ?_)
        · rw [zu_p (by decide), b3 i (by omega), zu_p (by decide), zu_k (by omega)]
          exact h1 i hi
        · by_cases e : b = r % 3
          · rw [e, zu_self]
            exact (h138 (r % 3) (by omega)).symm
          · rw [zu_k e, b4 b hb, zu_k e, zu_p (by decide)]
            exact h2 b hb
    obtain ⟨m1, a1, a2, a3, a4⟩ := lp 9 0 (9, 0) a m (by decide) hv (fun _ _ => rfl) (fun _ _ => rfl)
    have a1 : z_R 106 (m, 20, [(2, 122), (0, (k : Int)), (0, t), (0, 0), (9, 0)], []) = some (m1, none) := a1
    rw [lo_pla_0, hv.1.2.1, if_neg (by omega), if_pos (by omega), a1]
    exact ⟨m1, rfl, a2, a3, a4⟩
def ro_lonv (w h n : Nat) (heat price : Int) (cs : List Int) (D A : Nat → Int) : Option (List Int) := if z_mul (w : Int) (h : Int) < ((o_ls A n 0).length : Int) ∨ 4 < (o_ls A n 0).length then none else some (rw_of (o_ls A n 0).length (fun i => z_i2l (((lo_g (lo_V w h n heat price cs D A (o_ls A n 0) 100) ((100 : Nat) : Int) w h (o_ls A n 0).length 0 (fun _ => 0) (0, -1, fun _ => 0)).2.2 i : Nat) : Int)))
theorem lo_wh (hw : w ≤ 3) (hh : h ≤ 3) {L : Nat} (hL : (L : Int) ≤ z_mul (w : Int) (h : Int)) : L ≤ w * h := by
  have e : ∀ w, w < 4 → ∀ h, h < 4 → z_mul ((w : Nat) : Int) ((h : Nat) : Int) = ((w * h : Nat) : Int) := by decide +kernel
  rw [e w (by omega) h (by omega)] at hL
  exact Int.ofNat_le.mp hL
theorem X_longest (hi : C_is w h n heat price D A c U kn KS cs m) (hN : w_N w h n heat D) (hok : hr_ok n A) (ht : 0 ≤ A 35 ∧ A 35 ≤ 1073741824) (h138 : ∀ b, b < 3 → m 138 b = 0) : ∃ m1 v, z_R 109 (m, 0, [(2, 0), (9, 0)], []) = some (m1, some (0, v)) ∧ c_rw m m1 (ro_lonv w h n heat price cs D A) := by
  have n5 := hN.1.2.2
  rw [lo_lon_0, lo_inrL hi n5, zb_v, lo_lon_11, hi.1.1, hi.1.2.1]
  by_cases c1 : ((o_ls A n 0).length : Int) ≤ z_mul (w : Int) (h : Int)
  · rw [if_pos c1]
    by_cases c2 : 4 < (o_ls A n 0).length
    · rw [if_neg (by omega)]
      exact ⟨m, _, rfl, c_rw_n (if_pos (Or.inr c2))⟩
    obtain ⟨m2, b1, b2, b3, b4, b5, b6, b7⟩ := lo_seaJ (N := 100) (by omega) hN hok ht hi h138 (by omega) 0
    have b1 : z_R 102 (m, 0, [(2, 122), (2, 12), (0, 100), (0, 0), (9, 0)], []) = ((z_R 106 (m2, 0, [(2, 122), (0, 0), (0, 0), (9, 0), (9, 0)], [])).bind fun qq => z_R 102 (qq.1, 147, [(2, 122), (2, 12), (0, 100), (0, 0), (0, (w : Int))], qq.2.toList ++ [])) := b1
    have hJ : lo_J0 w h n heat price D A c U kn KS cs (o_ls A n 0) 100 (0, -1, fun _ => 0) m2 := ⟨b2, b3, b4, b5, by decide +kernel, b6, Int.le_refl (-1), Or.inl rfl⟩
    obtain ⟨m3, d1, d2, -, -⟩ := lo_plaS (N := 100) (by omega) hN hok ht (lo_ls_ok n A) (by omega) (o_ls A n 0).length 0 (by omega) 0 (fun _ => 0) (0, -1, fun _ => 0) m2 ⟨fun i hi => absurd hi (Nat.not_lt_zero i), fun i j _ hj => absurd hj (Nat.not_lt_zero j)⟩ (lo_tk_0 _) hJ (fun i hi => absurd hi (Nat.not_lt_zero i)) (fun b hb => b7 b hb)
    have hsg := lo_gs_g (V := lo_V w h n heat price cs D A (o_ls A n 0) 100) (N := ((100 : Nat) : Int)) lo_V_le (w := w) (h := h) (o_ls A n 0).length 0 (fun _ => 0) (0, -1, fun _ => 0) (0, -1, fun _ => 0) ⟨rfl, Or.inl rfl⟩
    have hex := lo_g_ex (V := lo_V w h n heat price cs D A (o_ls A n 0) 100) (N := ((100 : Nat) : Int)) hN.1.1 hN.1.2.1 lo_V_nn (o_ls A n 0).length 0 (fun _ => 0) (0, -1, fun _ => 0) (by omega) (by rw [Nat.zero_add]; exact lo_wh hN.1.1 hN.1.2.1 c1) (fun i hi => absurd hi (Nat.not_lt_zero i))
    have e137 : ∀ i, i < (o_ls A n 0).length → z_i2l ((z_up m3 0 13 0) 137 i) = z_i2l (((lo_g (lo_V w h n heat price cs D A (o_ls A n 0) 100) ((100 : Nat) : Int) w h (o_ls A n 0).length 0 (fun _ => 0) (0, -1, fun _ => 0)).2.2 i : Nat) : Int) := fun i hi => by
      rw [zu_p (by decide), (d2.2.2.2.2.2.2.2.resolve_left (fun z => by
        rw [hsg.1] at z
        omega)) i hi, hsg.1]
    have d1 : z_R 106 (m2, 0, [(2, 122), (0, 0), (0, 0), (9, 0), (9, 0)], []) = some (m3, none) := d1
    have e9 : (z_up m3 0 13 0) 122 9 = ((o_ls A n 0).length : Int) := (zu_p (by decide)).trans d2.1.2.1
    obtain ⟨m5, f1, f2, f3, f4⟩ := X_telL (L := (o_ls A n 0).length) (by omega) (S := fun i => z_i2l (((lo_g (lo_V w h n heat price cs D A (o_ls A n 0) 100) ((100 : Nat) : Int) w h (o_ls A n 0).length 0 (fun _ => 0) (0, -1, fun _ => 0)).2.2 i : Nat) : Int)) (o_ls A n 0).length 0 (z_up m3 0 13 0) (by omega) e9 zu_self e137 (fun j hj => absurd hj (Nat.not_lt_zero j))
    have f1 : z_R 108 (z_up m3 0 13 0, 2, [(2, 0), (0, 0)], []) = some (m5, none) := f1
    rw [if_pos (by omega), b1, d1, zb_n, lo_sea_147, zb_n, lo_lon_56, s_tell0_0, zb_n, lo_lon_60, lo_tel_0, f1, zb_n, lo_lon_64]
    exact ⟨m5, _, rfl, c_rw_s (if_neg (by omega)) (c_rw_of f3 f4)⟩
  · rw [if_neg c1]
    exact ⟨m, _, rfl, c_rw_n (if_pos (Or.inl (by omega)))⟩
theorem Y_longest (hi : R_is w h n heat price D A c U kn KS cs m) (hN : w_N w h n heat D) (hok : hr_ok n A) (ht : 0 ≤ A 35 ∧ A 35 ≤ 1073741824) : ∃ m1 v, z_R 232 (m, 0, [(2, 251)], []) = some (m1, some (0, v)) ∧ r_rw m m1 (ro_lonv w h n heat price cs D A) := by
  have n5 := hN.1.2.2
  have hu := R_upn (p0 := 251) (k0 := 39) (v := 0) (R_upn (p0 := 251) (k0 := 11) (v := 0) hi (by decide)) (by decide)
  have g0 : (z_up (z_up m 251 11 0) 251 39 0) 251 39 = ((0 : Nat) : Int) := zu_self
  have hw : r_rw m (z_up (z_up m 251 11 0) 251 39 0) none := r_rw_fr r_rw_11 (zu_k (by decide)) (fun _ _ => zu_p (by decide))
  rw [ll_tlo_0, b_fl_0]
  generalize z_up (z_up m 251 11 0) 251 39 0 = m0 at hu g0 hw ⊢
  obtain ⟨m1, a1, a2, a3, a4⟩ := R_fl1 n5 n 0 0 m0 (by omega) (Nat.le_refl _) hu g0
  have a1 : z_R 228 (m0, 7, [(2, 251), (0, 0)], []) = some (m1, none) := a1
  rw [Nat.zero_add] at a2
  have hR1 : R_is w h n heat price D A c U kn KS cs m1 := R_fr hu fun p k hk => by
    have z := R_hit_no hk
    exact a4 p k (by omega) (by omega)
  rw [a1, zb_n, ll_tlo_9, a2, hR1.1.1, hR1.1.2.1]
  by_cases c3 : 4 < (o_ls A n 0).length
  · rw [if_neg (by omega)]
    exact ⟨m1, _, rfl, r_rw_m (r_rw_fr hw (a4 251 10 (by decide) (by decide)) (fun i _ => a4 255 i (by omega) (by omega))) (if_pos (Or.inr c3))⟩
  rw [if_pos (by omega)]
  by_cases c2 : ((o_ls A n 0).length : Int) ≤ z_mul (w : Int) (h : Int)
  · rw [if_pos c2, lo_tla_0]
    have hK : lo_K w h n heat price D A c U kn KS cs (o_ls A n 0) (0, -1, fun _ => 0) (z_up (z_up m1 251 42 0) 251 43 (-1)) := by
      refine ⟨R_upn (R_upn hR1 (by decide)) (by decide), ?_, fun i hi => ?_, ?_, by decide +kernel, zu_self, Int.le_refl (-1), Or.inl rfl⟩
      · rw [zu_k (by decide), zu_k (by decide), a2]
      · have := lo_hl (l := []) (o_ls A n 0) 0 a3 i hi
        rw [Nat.zero_add] at this
        rw [zu_p (by decide), zu_p (by decide)]
        exact this
      · rw [zu_k (by decide), zu_self]
    generalize z_up (z_up m1 251 42 0) 251 43 (-1) = m2 at hK ⊢
    obtain ⟨m3, d1, d2, d3⟩ := lo_glL (N := 100) (by omega) hN hok ht (lo_ls_ok n A) (by omega) (o_ls A n 0).length 0 (by omega) 0 (fun _ => 0) (0, -1, fun _ => 0) m2 (fun i hi => absurd hi (Nat.not_lt_zero i)) (lo_tk_0 _) hK (fun i hi => absurd hi (Nat.not_lt_zero i))
    have d1 : z_R 230 (m2, 0, [(2, 251), (0, 0), (0, 0), (0, 100), (9, 0), (9, 0)], []) = some (m3, none) := d1
    have hex := lo_g_ex (V := lo_V w h n heat price cs D A (o_ls A n 0) 100) (N := ((100 : Nat) : Int)) hN.1.1 hN.1.2.1 lo_V_nn (o_ls A n 0).length 0 (fun _ => 0) (0, -1, fun _ => 0) (by omega) (by rw [Nat.zero_add]; exact lo_wh hN.1.1 hN.1.2.1 c2) (fun i hi => absurd hi (Nat.not_lt_zero i))
    have e267 : ∀ i, i < (o_ls A n 0).length → z_i2l ((z_up m3 251 10 0) 267 i) = z_i2l (((lo_g (lo_V w h n heat price cs D A (o_ls A n 0) 100) ((100 : Nat) : Int) w h (o_ls A n 0).length 0 (fun _ => 0) (0, -1, fun _ => 0)).2.2 i : Nat) : Int) := fun i hi => by
      rw [zu_p (by decide), (d2.2.2.2.2.2.2.2.resolve_left (fun z => by omega)) i hi]
    obtain ⟨m5, f1, f2, f3, f4⟩ := Y_tteL (L := (o_ls A n 0).length) (by omega) (S := fun i => z_i2l (((lo_g (lo_V w h n heat price cs D A (o_ls A n 0) 100) ((100 : Nat) : Int) w h (o_ls A n 0).length 0 (fun _ => 0) (0, -1, fun _ => 0)).2.2 i : Nat) : Int)) (o_ls A n 0).length 0 (z_up m3 251 10 0) (by omega) ((zu_k (by decide)).trans d2.2.1) zu_self e267 (fun j hj => absurd hj (Nat.not_lt_zero j))
    have f1 : z_R 231 (z_up m3 251 10 0, 2, [(2, 251), (0, 0)], []) = some (m5, none) := f1
    rw [d1, zb_n, lo_tla_17, zb_n, ll_tlo_45, lo_tte_0, f1, zb_n, ll_tlo_54]
    exact ⟨m5, _, rfl, r_rw_s (if_neg (by omega)) (r_rw_of f3 f4)⟩
  · rw [if_neg c2]
    exact ⟨m1, _, rfl, r_rw_m (r_rw_fr hw (a4 251 10 (by decide) (by decide)) (fun i _ => a4 255 i (by omega) (by omega))) (if_pos (Or.inl (by omega)))⟩
end
end
section
/-! WHAT IS TOLD by quiet: the least row -/
def q_LL (X Y : Nat → Bool) : Prop := ∀ j, j < 30 → (∀ i, i < j → X i = Y i) → Y j = true → X j = true
theorem q_LL_eq {X Y : Nat → Bool} (h1 : q_LL X Y) (h2 : q_LL Y X) : ∀ j, j < 30 → X j = Y j := by
  intro j
  induction j using Nat.strongRecOn with
  | ind j ih =>
    intro hj
    have hag : ∀ i, i < j → X i = Y i := fun i hi => ih i hi (by omega)
    cases hx : X j
    · cases hy : Y j
      · rfl
      · have := h1 j hj hag hy
        rw [hx] at this
        cases this
    · exact (h2 j hj (fun i hi => (hag i hi).symm) hx).symm
def q_rl (S : Nat → Bool) : Nat → List Int
  | 0 => []
  | d + 1 => if S d = true then q_rl S d ++ [z_i2l (d : Int)] else q_rl S d
theorem q_rl_t {S : Nat → Bool} {d : Nat} (h : S d = true) : q_rl S (d + 1) = q_rl S d ++ [z_i2l (d : Int)] := if_pos h
theorem q_rl_f {S : Nat → Bool} {d : Nat} (h : S d = false) : q_rl S (d + 1) = q_rl S d := if_neg (fun z => by rw [h] at z; cases z)
theorem qc_t {S : Nat → Bool} {d : Nat} (h : S d = true) : qc S (d + 1) = qc S d + 1 := by
  show qc S d + (if S d = true then 1 else 0) = _
  rw [if_pos h]
theorem qc_f {S : Nat → Bool} {d : Nat} (h : S d = false) : qc S (d + 1) = qc S d := by
  show qc S d + (if S d = true then 1 else 0) = _
  rw [if_neg (fun z => by rw [h] at z; cases z), Nat.add_zero]
theorem q_rl_len {S : Nat → Bool} : ∀ d, (q_rl S d).length = qc S d
  | 0 => rfl
  | d + 1 => by
    cases h : S d
    · rw [q_rl_f h, qc_f h, q_rl_len d]
    · rw [q_rl_t h, qc_t h, List.length_append, q_rl_len d, List.length_singleton]
theorem q_rl_cg {S S' : Nat → Bool} : ∀ d, (∀ j, j < d → S j = S' j) → q_rl S d = q_rl S' d
  | 0, _ => rfl
  | d + 1, h => by
    have hd := h d (Nat.lt_succ_self d)
    have ih := q_rl_cg d (fun j hj => h j (by omega))
    cases y : S d
    · rw [q_rl_f y, q_rl_f (hd.symm.trans y), ih]
    · rw [q_rl_t y, q_rl_t (hd.symm.trans y), ih]
theorem q_rl_n {S : Nat → Bool} {x : Nat} : ∀ f, (∀ i, x ≤ i → i < x + f → S i = false) → q_rl S (x + f) = q_rl S x
  | 0, _ => rfl
  | f + 1, h => by
    have e : S (x + f) = false := h (x + f) (by omega) (by omega)
    show q_rl S ((x + f) + 1) = _
    rw [q_rl_f e, q_rl_n f (fun i h1 h2 => h i h1 (by omega))]
theorem q_rl_b {S : Nat → Bool} {x y : Nat} (hxy : x ≤ y) (h : ∀ i, x ≤ i → i < y → S i = false) : q_rl S y = q_rl S x := by
  have := q_rl_n (S := S) (x := x) (y - x) (fun i h1 h2 => h i h1 (by omega))
  rw [show x + (y - x) = y by omega] at this
  exact this
theorem q_rl_get {S : Nat → Bool} {d i : Nat} (h : S d = true) (hi : i < qc S d) : (q_rl S (d + 1)).getD i 0 = (q_rl S d).getD i 0 := by
  rw [q_rl_t h, List.getD_eq_getElem?_getD, List.getElem?_append_left (by rw [q_rl_len]; exact hi), ← List.getD_eq_getElem?_getD]
theorem q_rl_last {S : Nat → Bool} {d : Nat} (h : S d = true) : (q_rl S (d + 1)).getD (qc S d) 0 = z_i2l (d : Int) := by
  rw [q_rl_t h, List.getD_eq_getElem?_getD, List.getElem?_append_right (by rw [q_rl_len]; exact Nat.le_refl _), q_rl_len, Nat.sub_self]
  rfl
theorem q_3m {a b d : Int} {j : Nat} : q_3 a b d j = true ↔ (j : Int) = a ∨ (j : Int) = b ∨ (j : Int) = d := by
  unfold q_3
  constructor
  · intro z
    rcases Bool.or_eq_true _ _ |>.mp z with y | y
    · exact Or.inl (of_decide_eq_true y)
    · rcases Bool.or_eq_true _ _ |>.mp y with x | x
      · exact Or.inr (Or.inl (of_decide_eq_true x))
      · exact Or.inr (Or.inr (of_decide_eq_true x))
  · intro z
    rcases z with z | z | z
    · exact Bool.or_eq_true _ _ |>.mpr (Or.inl (decide_eq_true z))
    · exact Bool.or_eq_true _ _ |>.mpr (Or.inr (Bool.or_eq_true _ _ |>.mpr (Or.inl (decide_eq_true z))))
    · exact Bool.or_eq_true _ _ |>.mpr (Or.inr (Bool.or_eq_true _ _ |>.mpr (Or.inr (decide_eq_true z))))
theorem q_3n {a b d : Int} {j : Nat} (h : ¬ ((j : Int) = a ∨ (j : Int) = b ∨ (j : Int) = d)) : q_3 a b d j = false := by
  cases y : q_3 a b d j
  · rfl
  · exact absurd (q_3m.mp y) h
theorem q_rl0 : q_rl (q_3 (-1) (-1) (-1)) 30 = [] := q_rl_b (S := q_3 (-1) (-1) (-1)) (x := 0) (Nat.zero_le 30) (fun i _ _ => q_3n (by omega))
theorem q_rl1 {a : Nat} (ha : a < 30) : q_rl (q_3 (a : Int) (-1) (-1)) 30 = [z_i2l (a : Int)] := by
  rw [q_rl_b (S := q_3 (a : Int) (-1) (-1)) (x := a + 1) (by omega) (fun i h1 _ => q_3n (by omega)), q_rl_t (q_3m.mpr (Or.inl rfl)), q_rl_b (S := q_3 (a : Int) (-1) (-1)) (x := 0) (Nat.zero_le a) (fun i _ h2 => q_3n (by omega))]
  rfl
theorem q_rl2 {a b : Nat} (hab : a < b) (hb : b < 30) : q_rl (q_3 (a : Int) (b : Int) (-1)) 30 = [z_i2l (a : Int), z_i2l (b : Int)] := by
  rw [q_rl_b (S := q_3 (a : Int) (b : Int) (-1)) (x := b + 1) (by omega) (fun i h1 _ => q_3n (by omega)), q_rl_t (q_3m.mpr (Or.inr (Or.inl rfl))), q_rl_b (S := q_3 (a : Int) (b : Int) (-1)) (x := a + 1) (by omega) (fun i h1 h2 => q_3n (by omega)), q_rl_t (q_3m.mpr (Or.inl rfl)), q_rl_b (S := q_3 (a : Int) (b : Int) (-1)) (x := 0) (Nat.zero_le a) (fun i _ h2 => q_3n (by omega))]
  rfl
theorem q_rl3 {a b d : Nat} (hab : a < b) (hb : b < d) (hd : d < 30) : q_rl (q_3 (a : Int) (b : Int) (d : Int)) 30 = [z_i2l (a : Int), z_i2l (b : Int), z_i2l (d : Int)] := by
  rw [q_rl_b (S := q_3 (a : Int) (b : Int) (d : Int)) (x := d + 1) (by omega) (fun i h1 _ => q_3n (by omega)), q_rl_t (q_3m.mpr (Or.inr (Or.inr rfl))), q_rl_b (S := q_3 (a : Int) (b : Int) (d : Int)) (x := b + 1) (by omega) (fun i h1 h2 => q_3n (by omega)), q_rl_t (q_3m.mpr (Or.inr (Or.inl rfl))), q_rl_b (S := q_3 (a : Int) (b : Int) (d : Int)) (x := a + 1) (by omega) (fun i h1 h2 => q_3n (by omega)), q_rl_t (q_3m.mpr (Or.inl rfl)), q_rl_b (S := q_3 (a : Int) (b : Int) (d : Int)) (x := 0) (Nat.zero_le a) (fun i _ h2 => q_3n (by omega))]
  rfl
/-- the first found is the least -/
theorem q_ag {X Y : Nat → Bool} {i j : Nat} (hag : ∀ i, i < j → X i = Y i) (hi : i < j) : X i = true ↔ Y i = true := by rw [hag i hi]
theorem q_LLa {x y z a b d : Nat} (h1 : x < y) (h2 : y < z) (h3 : a < b) (h4 : b < d) (h : x < a ∨ (x = a ∧ (y < b ∨ (y = b ∧ z ≤ d)))) : q_LL (q_3 (x : Int) (y : Int) (z : Int)) (q_3 (a : Int) (b : Int) (d : Int)) := by
  intro j hj hag hy
  have m1 := q_3m.mp hy
  refine q_3m.mpr ?_
  by_cases c : x < a
  · have := (q_ag hag (i := x) (by omega)).mp (q_3m.mpr (Or.inl rfl))
    have := q_3m.mp this
    omega
  · by_cases c2 : y < b
    · by_cases e : j = a
      · omega
      · have := (q_ag hag (i := y) (by omega)).mp (q_3m.mpr (Or.inr (Or.inl rfl)))
        have := q_3m.mp this
        omega
    · by_cases c3 : z < d
      · by_cases e : j = d
        · have := (q_ag hag (i := z) (by omega)).mp (q_3m.mpr (Or.inr (Or.inr rfl)))
          have := q_3m.mp this
          omega
        · omega
      · omega
theorem q_LLb {x y a b : Nat} (h1 : x < y) (h3 : a < b) (h : x < a ∨ (x = a ∧ y ≤ b)) : q_LL (q_3 (x : Int) (y : Int) (-1)) (q_3 (a : Int) (b : Int) (-1)) := by
  intro j hj hag hy
  have m1 := q_3m.mp hy
  refine q_3m.mpr ?_
  by_cases c : x < a
  · have := (q_ag hag (i := x) (by omega)).mp (q_3m.mpr (Or.inl rfl))
    have := q_3m.mp this
    omega
  · by_cases c2 : y < b
    · by_cases e : j = a
      · omega
      · have := (q_ag hag (i := y) (by omega)).mp (q_3m.mpr (Or.inr (Or.inl rfl)))
        have := q_3m.mp this
        omega
    · omega
theorem q_LLc {x a : Nat} (h : x ≤ a) : q_LL (q_3 (x : Int) (-1) (-1)) (q_3 (a : Int) (-1) (-1)) := by
  intro j hj hag hy
  have m1 := q_3m.mp hy
  refine q_3m.mpr ?_
  by_cases c : x < a
  · have := (q_ag hag (i := x) (by omega)).mp (q_3m.mpr (Or.inl rfl))
    have := q_3m.mp this
    omega
  · omega
theorem qc_sub {X Y : Nat → Bool} : ∀ f, (∀ j, j < f → X j = true → Y j = true) → qc X f = qc Y f → ∀ j, j < f → X j = Y j
  | 0, _, _, j, hj => absurd hj (Nat.not_lt_zero j)
  | f + 1, h, he, j, hj => by
    have hle := qc_le (S := X) (S' := Y) f (fun i hi => h i (by omega))
    have hf := h f (by omega)
    have key : qc X f = qc Y f ∧ X f = Y f := by
      cases hx : X f
      · cases hy : Y f
        · rw [qc_f hx, qc_f hy] at he
          exact ⟨he, rfl⟩
        · rw [qc_f hx, qc_t hy] at he
          omega
      · have hy := hf hx
        rw [qc_t hx, qc_t hy] at he
        exact ⟨by omega, hy.symm⟩
    by_cases e : j = f
    · rw [e]
      exact key.2
    · exact qc_sub f (fun i hi => h i (by omega)) key.1 j (by omega)
/-- what is to be told -/
def q_ar (w h n : Nat) (heat price : Int) (cs : List Int) (D A : Nat → Int) (N : Nat) (r : Option (List Int)) : Prop := (r = none ∧ ∀ S, (∀ j, S j = true → j < 6 * n) → q_full w h n heat price cs D A N S → 3 < qc S 30) ∨ ∃ S, (∀ j, S j = true → j < 6 * n) ∧ q_full w h n heat price cs D A N S ∧ qc S 30 ≤ 3 ∧ r = some (q_rl S 30) ∧ (∀ S', (∀ j, S' j = true → j < 6 * n) → q_full w h n heat price cs D A N S' → qc S 30 ≤ qc S' 30) ∧ ∀ S', (∀ j, S' j = true → j < 6 * n) → q_full w h n heat price cs D A N S' → qc S' 30 = qc S 30 → q_LL S S'
theorem q_ar_1 {w h n : Nat} {heat price : Int} {cs : List Int} {D A : Nat → Int} {N : Nat} {r r' : Option (List Int)} (h1 : q_ar w h n heat price cs D A N r) (h2 : q_ar w h n heat price cs D A N r') : r = r' := by
  rcases h1 with ⟨a1, a2⟩ | ⟨S, a1, a2, a3, a4, a5, a6⟩
  · rcases h2 with ⟨b1, b2⟩ | ⟨S', b1, b2, b3, b4, b5, b6⟩
    · rw [a1, b1]
    · have := a2 S' b1 b2
      omega
  · rcases h2 with ⟨b1, b2⟩ | ⟨S', b1, b2, b3, b4, b5, b6⟩
    · have := b2 S a1 a2
      omega
    · have c1 := a5 S' b1 b2
      have c2 := b5 S a1 a2
      rw [a4, b4, q_rl_cg 30 (q_LL_eq (a6 S' b1 b2 (by omega)) (b6 S a1 a2 (by omega)))]
theorem q_bU : ∀ l x s u m : Bool, (l || x) = (s && (u || m)) → (l = true → u = true) → (x = true → m = true) → (m = true → u = false) → (l = (s && u) ∧ x = (s && m)) := by decide
section
variable {w h n : Nat} {heat price : Int} {D A : Nat → Int} {c : Nat} {U : Nat → Nat → Int} {kn : Nat → Int} {KS : Nat → Nat → Int} {cs : List Int} {m m0 : z_M}
theorem X_cho (hi : C_is w h n heat price D A c U kn KS cs m0) (hw : w ≤ 3 ∧ h ≤ 3 ∧ n ≤ 5) (hh : 0 ≤ heat ∧ heat ≤ 9) (hD : q_D D) (hok : hr_ok n A) (ht : 0 ≤ A 35 ∧ A 35 ≤ 1073741824) {N : Nat} (hN : N ≤ 40) {b : Nat} (hb : b < 3) : ∀ (k : Nat), k ≤ 3 → ∀ (a : Nat) (m : z_M), a ≤ 30 → q_I m0 n N A m → z_w (m 140 5) = m 140 5 → (∀ j, a ≤ j → q_M n D A N b j = true → zb (m 140 5) j = false) → ∃ m1 v, z_R 112 (m, 0, [(2, 140), (0, (b : Int)), (0, (a : Int)), (0, (k : Int)), (9, 0)], []) = some (m1, some (0, v)) ∧ q_I m0 n N A m1 ∧ z_w (m1 140 5) = m1 140 5 ∧ ((v = 1 ∧ ∃ X, q_X n D A N b a k X ∧ (∀ j, zb (m1 140 5) j = (zb (m 140 5) j || X j)) ∧ q_T w h n heat price cs D A N b (zb (m1 140 5)) ∧ ∀ Y, q_X n D A N b a k Y → q_T w h n heat price cs D A N b (fun j => zb (m 140 5) j || Y j) → q_LL X Y) ∨ (v = 0 ∧ m1 140 5 = m 140 5 ∧ ∀ X, q_X n D A N b a k X → ¬ q_T w h n heat price cs D A N b (fun j => zb (m 140 5) j || X j))) := by
  intro k
  induction k with
  | zero =>
    intro hk a m ha hv hL hM
    obtain ⟨m1, v, a1, a2, a3, a4⟩ := q_cho0 hi hw hh hD hok ht hN hv hb (x2 := (a : Int)) (x3 := ((0 : Nat) : Int)) (by omega)
    refine ⟨m1, v, a1, a2, by rw [a3]; exact hL, ?_⟩
    rcases a4 with ⟨v1, t⟩ | ⟨v0, t⟩
    · refine Or.inl ⟨v1, fun _ => false, ⟨fun j hj => (by cases hj), qc_0 30⟩, fun j => by rw [a3, Bool.or_false], by rw [a3]; exact t, fun Y hY _ j hj _ hy => ?_⟩
      rw [qc_no 30 hY.2 j hj] at hy
      cases hy
    · refine Or.inr ⟨v0, a3, fun X hX z => t ?_⟩
      refine (q_T_cg hw hh hD hok ht hN (fun d hd _ => ?_)).mp z
      rw [qc_no 30 hX.2 d hd, Bool.or_false]
  | succ k ih =>
    intro hk a m ha hv hL hM
    have lp : ∀ (f d : Nat) (m : z_M), d + f = 30 → a ≤ d → q_I m0 n N A m → z_w (m 140 5) = m 140 5 → (∀ j, a ≤ j → q_M n D A N b j = true → zb (m 140 5) j = false) → ∃ m1 v, z_R 112 (m, 65, [(2, 140), (0, (b : Int)), (0, (a : Int)), (0, ((k + 1 : Nat) : Int)), (0, (d : Int))], []) = some (m1, some (0, v)) ∧ q_I m0 n N A m1 ∧ z_w (m1 140 5) = m1 140 5 ∧ ((v = 1 ∧ ∃ X, q_X n D A N b d (k + 1) X ∧ (∀ j, zb (m1 140 5) j = (zb (m 140 5) j || X j)) ∧ q_T w h n heat price cs D A N b (zb (m1 140 5)) ∧ ∀ Y, q_X n D A N b d (k + 1) Y → q_T w h n heat price cs D A N b (fun j => zb (m 140 5) j || Y j) → q_LL X Y) ∨ (v = 0 ∧ m1 140 5 = m 140 5 ∧ ∀ X, q_X n D A N b d (k + 1) X → ¬ q_T w h n heat price cs D A N b (fun j => zb (m 140 5) j || X j))) := by
      intro f
      induction f with
      | zero =>
        intro d m hd had hv hL hM
        rw [qt_cho_65, if_pos (by omega)]
        refine ⟨m, 0, rfl, hv, hL, Or.inr ⟨rfl, rfl, fun X hX _ => ?_⟩⟩
        have e : qc X 30 = 0 := by
          rw [qc_cg (S' := fun _ => false) 30 (fun j hj => by
            cases y : X j
            · rfl
            · have := hX.1 j y
              omega)]
          exact qc_0 30
        have := hX.2
        omega
      | succ f ihf =>
        intro d m hd had hv hL hM
        rw [qt_cho_65, if_neg (by omega), q_mat hi hw hok ht hN hv (by omega), zb_v, qt_cho_79, z_add_eq (x := (d : Int)) (y := 1) (by omega) (by omega), tc1]
        by_cases y : q_M n D A N b d = true
        · have n5 := hw.2.2
          have hz : zb (m 140 5) d = false := hM d had y
          rw [if_pos y, if_neg (show ¬ (1 : Int) = 0 by decide), z_sub_eq (x := ((k + 1 : Nat) : Int)) (y := 1) (by omega) (by omega), show ((k + 1 : Nat) : Int) - 1 = (k : Int) by omega]
          have bl : ∀ j, zb (z_or (m 140 5) (z_shl 1 (d : Int))) j = (zb (m 140 5) j || q_1 (d : Int) j) := fun j => by
            by_cases hj : j < 32
            · rw [zb_or, zb_shl (by omega) hj]
              congr 1
              exact decide_eq_decide.mpr ⟨fun z => by omega, fun z => by omega⟩
            · rw [zb_32 (by omega), zb_32 (a := m 140 5) (by omega)]
              exact (decide_eq_false (by omega)).symm
          have hv2 : q_I m0 n N A (z_up m 140 5 (z_or (m 140 5) (z_shl 1 (d : Int)))) := ⟨fun p q hk hn => by
            have hk' := hk
            unfold C_hit at hk'
            have hk' := of_decide_eq_true hk'
            rw [zu_p (by omega)]
            exact hv.1 p q hk hn, (zu_k (by decide)).trans hv.2.1, (by rw [cS_fr (m := m) (fun j q hj _ => zu_p (by omega))]; exact hv.2.2.1), ⟨(zu_p (by decide)).trans hv.2.2.2.1, fun i => (zu_p (by decide)).trans (hv.2.2.2.2 i)⟩⟩
          have g5 : (z_up m 140 5 (z_or (m 140 5) (z_shl 1 (d : Int)))) 140 5 = z_or (m 140 5) (z_shl 1 (d : Int)) := zu_self
          generalize z_up m 140 5 (z_or (m 140 5) (z_shl 1 (d : Int))) = m2 at hv2 g5 ⊢
          obtain ⟨m3, v, a1, a2, a3, a4⟩ := ih (by omega) (d + 1) m2 (by omega) hv2 (by rw [g5]; exact z_or_w) (fun j hj hjM => by
            rw [g5, bl, hM j (by omega) hjM, Bool.false_or]
            exact decide_eq_false (by omega))
          rw [a1, zb_v, qt_cho_107]
          have un : ∀ X, q_X n D A N b (d + 1) k X → q_X n D A N b d (k + 1) (fun j => X j || q_1 (d : Int) j) := fun X hX => by
            refine ⟨fun j hj => ?_, ?_⟩
            · rcases Bool.or_eq_true _ _ |>.mp hj with z | z
              · have := hX.1 j z
                exact ⟨by omega, this.2⟩
              · have := of_decide_eq_true z
                obtain rfl : j = d := by omega
                exact ⟨Nat.le_refl _, by omega, y⟩
            · rw [qc_or 30 (fun j _ ⟨z1, z2⟩ => by
                have := (hX.1 j z1).1
                have := of_decide_eq_true z2
                omega), hX.2, qc_1, if_pos (by omega)]
          have cut : ∀ Y, q_X n D A N b d (k + 1) Y → Y d = true → q_T w h n heat price cs D A N b (fun j => zb (m 140 5) j || Y j) → q_X n D A N b (d + 1) k (fun j => Y j && !(q_1 (d : Int) j)) ∧ q_T w h n heat price cs D A N b (fun j => zb (m2 140 5) j || (Y j && !(q_1 (d : Int) j))) := fun X hX hXd z => by
            refine ⟨⟨fun j hj => ?_, ?_⟩, ?_⟩
            · obtain ⟨y1, y2⟩ := Bool.and_eq_true _ _ |>.mp hj
              have := hX.1 j y1
              have y2 : q_1 (d : Int) j = false := by
                cases yy : q_1 (d : Int) j
                · rfl
                · rw [yy] at y2
                  cases y2
              have y2 := of_decide_eq_false y2
              exact ⟨by omega, this.2⟩
            · have e1 := qc_out (S := X) (a := d) (by omega) hXd
              have e2 := hX.2
              omega
            · refine (q_T_cg hw hh hD hok ht hN (fun j hj _ => ?_)).mp z
              show (zb (m 140 5) j || X j) = (zb (m2 140 5) j || (X j && !(q_1 (d : Int) j)))
              rw [g5, bl]
              by_cases e : j = d
              · have : q_1 (d : Int) j = true := decide_eq_true (by omega)
                rw [this, e, hXd]
                simp
              · have : q_1 (d : Int) j = false := decide_eq_false (by omega)
                rw [this]
                simp
          have nod : ∀ Y, q_X n D A N b d (k + 1) Y → ¬ Y d = true → q_X n D A N b (d + 1) (k + 1) Y := fun Y hY hYd => ⟨fun j hj => by
            have := hY.1 j hj
            have e : ¬ j = d := fun e => hYd (by rw [← e]; exact hj)
            exact ⟨by omega, this.2⟩, hY.2⟩
          rcases a4 with ⟨v1, X, x1, x2, x3, x4⟩ | ⟨v0, e3, t⟩
          · rw [v1, if_neg (show ¬ (1 : Int) = 0 by decide)]
            refine ⟨m3, 1, rfl, a2, a3, Or.inl ⟨rfl, _, un X x1, fun j => ?_, x3, ?_⟩⟩
            · rw [x2 j, g5, bl, Bool.or_assoc, Bool.or_comm (q_1 (d : Int) j)]
            · intro Y hY hYT j hj hag hyj
              have qd : q_1 (d : Int) d = true := decide_eq_true rfl
              have qn : ∀ i, ¬ i = d → q_1 (d : Int) i = false := fun i e => decide_eq_false (by omega)
              have Xd : X d = false := by
                cases z : X d
                · rfl
                · have := (x1.1 d z).1
                  omega
              show (X j || q_1 (d : Int) j) = true
              by_cases e : j = d
              · rw [e, qd, Bool.or_true]
              · by_cases hYd : Y d = true
                · obtain ⟨k1, k2⟩ := cut Y hY hYd hYT
                  have hz : ∀ i, i < j → X i = (Y i && !(q_1 (d : Int) i)) := fun i hi => by
                    by_cases ei : i = d
                    · rw [ei, Xd, qd]
                      simp
                    · have this : (X i || q_1 (d : Int) i) = Y i := hag i hi
                      rw [qn i ei, Bool.or_false] at this
                      rw [this, qn i ei]
                      simp
                  have z := x4 _ k1 k2 j hj hz (by
                    show (Y j && !(q_1 (d : Int) j)) = true
                    rw [hyj, qn j e]
                    rfl)
                  rw [z, Bool.true_or]
                · have hj2 := (hY.1 j hyj).1
                  have this : (X d || q_1 (d : Int) d) = Y d := hag d (by omega)
                  rw [qd, Bool.or_true] at this
                  exact absurd this.symm hYd
          · have e5 : z_and (m3 140 5) (z_xor (z_shl 1 (d : Int)) (-1)) = m 140 5 := by
              rw [e3, g5]
              refine zb_ext z_and_w hL fun j hj => ?_
              rw [zb_and, bl, zb_xor, zb_shl (by omega) hj, zb_m1 hj]
              by_cases e : j = d
              · rw [decide_eq_true e, e, hz]
                simp
              · rw [decide_eq_false e, show q_1 (d : Int) j = false from decide_eq_false (by omega)]
                simp
            rw [v0, if_pos (show (0 : Int) = 0 from rfl), e5, z_add_eq (x := (d : Int)) (y := 1) (by omega) (by omega), tc1]
            have hv4 : q_I m0 n N A (z_up m3 140 5 (m 140 5)) := ⟨fun p q hk hn => by
              have hk' := hk
              unfold C_hit at hk'
              have hk' := of_decide_eq_true hk'
              rw [zu_p (by omega)]
              exact a2.1 p q hk hn, (zu_k (by decide)).trans a2.2.1, (by rw [cS_fr (m := m3) (fun j q hj _ => zu_p (by omega))]; exact a2.2.2.1), ⟨(zu_p (by decide)).trans a2.2.2.2.1, fun i => (zu_p (by decide)).trans (a2.2.2.2.2 i)⟩⟩
            have k5 : (z_up m3 140 5 (m 140 5)) 140 5 = m 140 5 := zu_self
            obtain ⟨m4, v', c1, c2, c3, c4⟩ := ihf (d + 1) (z_up m3 140 5 (m 140 5)) (by omega) (by omega) hv4 (by rw [k5]; exact hL) (by rw [k5]; exact hM)
            refine ⟨m4, v', c1, c2, c3, ?_⟩
            rw [k5] at c4
            rcases c4 with ⟨v1, X, x1, x2, x3, x4⟩ | ⟨v0', e4, t4⟩
            · refine Or.inl ⟨v1, X, ⟨fun j hj => ⟨by have := (x1.1 j hj).1; omega, (x1.1 j hj).2⟩, x1.2⟩, x2, x3, fun Y hY hYT => ?_⟩
              by_cases hYd : Y d = true
              · obtain ⟨k1, k2⟩ := cut Y hY hYd hYT
                exact absurd k2 (t _ k1)
              · exact x4 Y (nod Y hY hYd) hYT
            · refine Or.inr ⟨v0', e4, fun X hX z => ?_⟩
              by_cases hXd : X d = true
              · obtain ⟨k1, k2⟩ := cut X hX hXd z
                exact t _ k1 k2
              · exact t4 X (nod X hX hXd) z
        · rw [if_neg y, if_pos (show (0 : Int) = 0 from rfl)]
          obtain ⟨m4, v', c1, c2, c3, c4⟩ := ihf (d + 1) m (by omega) (by omega) hv hL hM
          refine ⟨m4, v', c1, c2, c3, ?_⟩
          rcases c4 with ⟨v1, X, x1, x2, x3, x4⟩ | ⟨v0, e4, t4⟩
          · refine Or.inl ⟨v1, X, ⟨fun j hj => ⟨by have := (x1.1 j hj).1; omega, (x1.1 j hj).2⟩, x1.2⟩, x2, x3, fun Y hY hYT => x4 Y ⟨fun j hj => ?_, hY.2⟩ hYT⟩
            have := hY.1 j hj
            have e : ¬ j = d := fun e => y (by rw [← e]; exact this.2.2)
            exact ⟨by omega, this.2⟩
          · refine Or.inr ⟨v0, e4, fun X hX => t4 X ⟨fun j hj => ?_, hX.2⟩⟩
            have := hX.1 j hj
            have e : ¬ j = d := fun e => y (by rw [← e]; exact this.2.2)
            exact ⟨by omega, this.2⟩
    rw [qt_cho_0, if_pos (by omega)]
    exact lp (30 - a) a m (by omega) (Nat.le_refl a) hv hL hM
/-- the fewest, and the least row of them -/
def q_V (w h n : Nat) (heat price : Int) (cs : List Int) (D A : Nat → Int) (N b : Nat) (L : Int) : Prop := q_W w h n heat price cs D A N b L ∧ ∀ S, (∀ b', b' < b → q_T w h n heat price cs D A N b' S) → qc (fun j => S j && q_U n D A N b j) 30 = qc (zb L) 30 → q_LL (zb L) (fun j => S j && q_U n D A N b j)
theorem q_V_s (hw : w ≤ 3 ∧ h ≤ 3 ∧ n ≤ 5) (hh : 0 ≤ heat ∧ heat ≤ 9) (hD : q_D D) (hok : hr_ok n A) (ht : 0 ≤ A 35 ∧ A 35 ≤ 1073741824) {N b : Nat} (hN : N ≤ 40) {L L1 : Int} (hV : q_V w h n heat price cs D A N b L) {X : Nat → Bool} {k : Nat} (hX : q_X n D A N b 0 k X) (hk : qc (zb L) 30 + k ≤ 3) (hL1 : ∀ j, zb L1 j = (zb L j || X j)) (hT : q_T w h n heat price cs D A N b (zb L1)) (hmin : ∀ k', k' < k → ∀ Y, q_X n D A N b 0 k' Y → ¬ q_T w h n heat price cs D A N b (fun j => zb L j || Y j)) (hXL : ∀ Y, q_X n D A N b 0 k Y → q_T w h n heat price cs D A N b (fun j => zb L j || Y j) → q_LL X Y) : q_V w h n heat price cs D A N (b + 1) L1 := by
  refine ⟨q_W_s hw hh hD hok ht hN hV.1 hX hk hL1 hT hmin, fun S hS hc => ?_⟩
  obtain ⟨⟨w1, w2, w3, w4⟩, hVL⟩ := hV
  have n5 := hw.2.2
  have hU : ∀ d, q_U n D A N (b + 1) d = (q_U n D A N b d || q_M n D A N b d) := fun d => q_U_s (fun hd => (hok.2.2.1 (d / 6) (by omega)).1)
  have eL1 : zb L1 = fun j => zb L j || X j := funext hL1
  have dis : ∀ j, j < 30 → ¬ (zb L j = true ∧ X j = true) := fun j _ ⟨z1, z2⟩ => by
    have e1 := (w1 j z1).2
    have e2 := (q_M_U (hX.1 j z2).2.2).2
    rw [e1] at e2
    cases e2
  have ec : qc (zb L1) 30 = qc (zb L) 30 + k := by
    rw [eL1, qc_or 30 dis, hX.2]
  have h1 := w4 S (fun b' hb' => hS b' (by omega))
  have e : qc (fun j => S j && q_U n D A N (b + 1) j) 30 = qc (fun j => S j && q_U n D A N b j) 30 + qc (fun j => (S j && q_M n D A N b j) && decide (j < 30)) 30 := by
    rw [← qc_or 30 (fun j _ ⟨z1, z2⟩ => by
      have y1 := (Bool.and_eq_true _ _ |>.mp z1).2
      have y2 := (q_M_U (Bool.and_eq_true _ _ |>.mp (Bool.and_eq_true _ _ |>.mp z2).1).2).2
      rw [y1] at y2
      cases y2)]
    refine qc_cg 30 fun j hj => ?_
    show (S j && q_U n D A N (b + 1) j) = ((S j && q_U n D A N b j) || ((S j && q_M n D A N b j) && decide (j < 30)))
    rw [hU, decide_eq_true hj, Bool.and_true]
    cases S j <;> simp
  have xS : ∀ j, (fun j => (S j && q_M n D A N b j) && decide (j < 30)) j = true → 0 ≤ j ∧ j < 30 ∧ q_M n D A N b j = true := fun j hj => by
    obtain ⟨y1, y2⟩ := Bool.and_eq_true _ _ |>.mp hj
    exact ⟨Nat.zero_le j, of_decide_eq_true y2, (Bool.and_eq_true _ _ |>.mp y1).2⟩
  have tS : q_T w h n heat price cs D A N b (fun j => zb L j || (fun j => (S j && q_M n D A N b j) && decide (j < 30)) j) := by
    refine (q_T_cg hw hh hD hok ht hN (fun d hd hM => ?_)).mp (hS b (by omega))
    have e0 : zb L d = false := by
      cases z : zb L d
      · rfl
      · have := (w1 d z).2
        rw [(q_M_U hM).2] at this
        cases this
    show S d = (zb L d || ((S d && q_M n D A N b d) && decide (d < 30)))
    rw [e0, hM, decide_eq_true hd]
    simp
  have hk2 : k ≤ qc (fun j => (S j && q_M n D A N b j) && decide (j < 30)) 30 := Decidable.byContradiction fun y => hmin _ (by omega) (fun j => (S j && q_M n D A N b j) && decide (j < 30)) ⟨xS, rfl⟩ tS
  have hc : qc (fun j => S j && q_U n D A N (b + 1) j) 30 = qc (zb L1) 30 := hc
  rw [e, ec] at hc
  have c1 : qc (fun j => S j && q_U n D A N b j) 30 = qc (zb L) 30 := by omega
  have c2 : qc (fun j => (S j && q_M n D A N b j) && decide (j < 30)) 30 = k := by omega
  have l1 := hVL S (fun b' hb' => hS b' (by omega)) c1
  have l2 := hXL (fun j => (S j && q_M n D A N b j) && decide (j < 30)) ⟨xS, c2⟩ tS
  intro j hj hag hSj
  have aL : ∀ i, zb L i = true → q_U n D A N b i = true := fun i hi => (w1 i hi).2
  have aX : ∀ i, X i = true → q_M n D A N b i = true := fun i hi => (hX.1 i hi).2.2
  have dUM : ∀ i, q_M n D A N b i = true → q_U n D A N b i = false := fun i hi => (q_M_U hi).2
  have hag2 : ∀ i, i < j → (zb L i || X i) = (S i && (q_U n D A N b i || q_M n D A N b i)) := fun i hi => by
    have z : zb L1 i = (S i && q_U n D A N (b + 1) i) := hag i hi
    rw [hL1, hU] at z
    exact z
  obtain ⟨s1, s2⟩ := Bool.and_eq_true _ _ |>.mp hSj
  rw [hU] at s2
  rw [hL1]
  by_cases u : q_U n D A N b j = true
  · have z := l1 j hj (fun i hi => (q_bU _ _ _ _ _ (hag2 i hi) (aL i) (aX i) (dUM i)).1) (by
      show (S j && q_U n D A N b j) = true
      rw [s1, u]
      rfl)
    rw [z, Bool.true_or]
  · have mj : q_M n D A N b j = true := (Bool.or_eq_true _ _ |>.mp s2).resolve_left u
    have z := l2 j hj (fun i hi => by
      show X i = ((S i && q_M n D A N b i) && decide (i < 30))
      rw [decide_eq_true (show i < 30 by omega), Bool.and_true]
      exact (q_bU _ _ _ _ _ (hag2 i hi) (aL i) (aX i) (dUM i)).2) (by
      show ((S j && q_M n D A N b j) && decide (j < 30)) = true
      rw [s1, mj, decide_eq_true hj]
      rfl)
    rw [z, Bool.or_true]
theorem X_few (hi : C_is w h n heat price D A c U kn KS cs m0) (hw : w ≤ 3 ∧ h ≤ 3 ∧ n ≤ 5) (hh : 0 ≤ heat ∧ heat ≤ 9) (hD : q_D D) (hok : hr_ok n A) (ht : 0 ≤ A 35 ∧ A 35 ≤ 1073741824) {N : Nat} (hN : N ≤ 40) {b : Nat} (hb : b < 3) {L : Int} (hL : z_w L = L) (hV : q_V w h n heat price cs D A N b L) {left : Nat} (hl : left + qc (zb L) 30 = 3) : ∀ (f few : Nat) (m : z_M), few + f = left + 1 → q_I m0 n N A m → m 140 5 = L → (∀ k', k' < few → ∀ Y, q_X n D A N b 0 k' Y → ¬ q_T w h n heat price cs D A N b (fun j => zb L j || Y j)) → ∃ m1 v v5 v6, z_R 111 (m, 55, [(2, 140), (2, 12), (0, (N : Int)), (0, 0), (0, (b : Int)), (0, (left : Int)), (0, (few : Int))], []) = z_R 111 (m1, 23, [(2, 140), (2, 12), (0, (N : Int)), (0, v), (0, ((b + 1 : Nat) : Int)), v5, v6], []) ∧ q_I m0 n N A m1 ∧ ((v = 1 ∧ z_w (m1 140 5) = m1 140 5 ∧ q_V w h n heat price cs D A N (b + 1) (m1 140 5)) ∨ (v = 0 ∧ ∀ k', k' ≤ left → ∀ Y, q_X n D A N b 0 k' Y → ¬ q_T w h n heat price cs D A N b (fun j => zb L j || Y j))) := by
  have hW := hV.1
  intro f
  induction f with
  | zero =>
    intro few m hf hv h5 hno
    rw [qt_sea_55, if_pos (by omega), z_add_eq (x := (b : Int)) (y := 1) (by omega) (by omega), tc1]
    exact ⟨m, 0, _, _, rfl, hv, Or.inr ⟨rfl, fun k' hk' => hno k' (by omega)⟩⟩
  | succ f ih =>
    intro few m hf hv h5 hno
    obtain ⟨m1, v, a1, a2, a3, a4⟩ := X_cho (cs := cs) hi hw hh hD hok ht hN hb few (by omega) 0 m (by decide) hv (by rw [h5]; exact hL) (fun j _ hM => by
      rw [h5]
      cases y : zb L j
      · rfl
      · have := (hW.1 j y).2
        rw [(q_M_U hM).2] at this
        cases this)
    have a1 : z_R 112 (m, 0, [(2, 140), (0, (b : Int)), (0, 0), (0, (few : Int)), (9, 0)], []) = some (m1, some (0, v)) := a1
    rw [qt_sea_55, if_neg (by omega), if_pos (show (0 : Int) = 0 from rfl), a1, zb_v, qt_sea_75, z_add_eq (x := (few : Int)) (y := 1) (by omega) (by omega), tc1]
    rw [h5] at a4
    rcases a4 with ⟨v1, X, x1, x2, x3, x4⟩ | ⟨v0, e5, t⟩
    · have hW1 := q_V_s hw hh hD hok ht hN hV x1 (by omega) x2 x3 hno x4
      rw [v1, qt_sea_55, z_add_eq (x := (b : Int)) (y := 1) (by omega) (by omega), tc1]
      by_cases y : (left : Int) < ((few + 1 : Nat) : Int)
      · rw [if_pos y]
        exact ⟨m1, 1, _, _, rfl, a2, Or.inl ⟨rfl, a3, hW1⟩⟩
      · rw [if_neg y, if_neg (show ¬ (1 : Int) = 0 by decide)]
        exact ⟨m1, 1, _, _, rfl, a2, Or.inl ⟨rfl, a3, hW1⟩⟩
    · rw [v0]
      refine ih (few + 1) m1 (by omega) a2 e5 (fun k' hk' => ?_)
      by_cases e : k' = few
      · rw [e]
        exact t
      · exact hno k' (by omega)
theorem X_seaL (hi : C_is w h n heat price D A c U kn KS cs m0) (hw : w ≤ 3 ∧ h ≤ 3 ∧ n ≤ 5) (hh : 0 ≤ heat ∧ heat ≤ 9) (hD : q_D D) (hok : hr_ok n A) (ht : 0 ≤ A 35 ∧ A 35 ≤ 1073741824) {N : Nat} (hN : N ≤ 40) : ∀ (f b : Nat) (v5 v6 : z_V) (m : z_M), b + f = w → q_I m0 n N A m → z_w (m 140 5) = m 140 5 → q_V w h n heat price cs D A N b (m 140 5) → ∃ m1 v, z_R 111 (m, 23, [(2, 140), (2, 12), (0, (N : Int)), (0, 1), (0, (b : Int)), v5, v6], []) = some (m1, some (0, v)) ∧ C_is w h n heat price D A c U kn KS cs m1 ∧ ((v = 1 ∧ q_V w h n heat price cs D A N w (m1 140 5)) ∨ (v = 0 ∧ ∀ S, q_full w h n heat price cs D A N S → 3 < qc S 30)) ∧ m1 0 13 = m0 0 13 ∧ ∀ i, m1 250 i = m0 250 i := by
  have fin : ∀ m : z_M, q_I m0 n N A m → C_is w h n heat price D A c U kn KS cs (z_up m 24 5 0) := fun m hv => C_frq hi zu_self (fun p k hk hn => (if_neg hn).trans (hv.1 p k hk hn))
  intro f
  induction f with
  | zero =>
    intro b v5 v6 m hb hv hL hV
    have hW := hV.1
    obtain rfl : b = w := by omega
    rw [qt_sea_23, (q_I_n hi hv).1, if_pos (Int.le_refl _)]
    refine ⟨_, 1, rfl, fin m hv, Or.inl ⟨rfl, ?_⟩, (zu_p (by decide)).trans hv.2.2.2.1, fun i => (zu_p (by decide)).trans (hv.2.2.2.2 i)⟩
    rw [show (z_up m 24 5 0) 140 5 = m 140 5 from zu_p (by decide)]
    exact hV
  | succ f ih =>
    intro b v5 v6 m hb hv hL hV
    have hW := hV.1
    have e32 : qc (zb (m 140 5)) 32 = qc (zb (m 140 5)) 30 := qc_32 (fun j hj => (hW.1 j hj).1)
    have h3 := hW.2.2.1
    rw [qt_sea_23, (q_I_n hi hv).1, if_neg (by omega), if_neg (show ¬ (1 : Int) = 0 by decide), t_bc_0, zb_v, qt_sea_49, pc32, e32, z_sub_eq (x := 3) (by omega) (by omega), show (3 : Int) - ((qc (zb (m 140 5)) 30 : Nat) : Int) = ((3 - qc (zb (m 140 5)) 30 : Nat) : Int) by omega]
    obtain ⟨m1, v, w5, w6, a1, a2, a3⟩ := X_few (cs := cs) hi hw hh hD hok ht hN (b := b) (by omega) hL hV (left := 3 - qc (zb (m 140 5)) 30) (by omega) (3 - qc (zb (m 140 5)) 30 + 1) 0 m (by omega) hv rfl (fun k' hk' => absurd hk' (Nat.not_lt_zero k'))
    have a1 : z_R 111 (m, 55, [(2, 140), (2, 12), (0, (N : Int)), (0, 0), (0, (b : Int)), (0, ((3 - qc (zb (m 140 5)) 30 : Nat) : Int)), (0, 0)], []) = z_R 111 (m1, 23, [(2, 140), (2, 12), (0, (N : Int)), (0, v), (0, ((b + 1 : Nat) : Int)), w5, w6], []) := a1
    rw [a1]
    rcases a3 with ⟨v1, hL1, hW1⟩ | ⟨v0, hno⟩
    · rw [v1]
      exact ih (b + 1) w5 w6 m1 (by omega) a2 hL1 hW1
    · have e : z_R 111 (m1, 23, [(2, 140), (2, 12), (0, (N : Int)), (0, v), (0, ((b + 1 : Nat) : Int)), w5, w6], []) = some (z_up m1 24 5 0, some (0, 0)) := by
        rw [v0, qt_sea_23]
        by_cases y : m1 3 8 ≤ ((b + 1 : Nat) : Int)
        · rw [if_pos y]
        · rw [if_neg y, if_pos (show (0 : Int) = 0 from rfl)]
      rw [e]
      refine ⟨_, 0, rfl, fin m1 a2, Or.inr ⟨rfl, fun S hS => ?_⟩, (zu_p (by decide)).trans a2.2.2.2.1, fun i => (zu_p (by decide)).trans (a2.2.2.2.2 i)⟩
      obtain ⟨t0, t1, t2⟩ := q_full_T.mp hS
      have tb : ∀ b', b' < 3 → q_T w h n heat price cs D A N b' S := fun b' hb' => by
        rcases (show b' = 0 ∨ b' = 1 ∨ b' = 2 by omega) with rfl | rfl | rfl
        · exact t0
        · exact t1
        · exact t2
      have h1 := hW.2.2.2 S (fun b' hb' => tb b' (by omega))
      have hq : 3 - qc (zb (m 140 5)) 30 < qc (fun j => (S j && q_M n D A N b j) && decide (j < 30)) 30 := Decidable.byContradiction fun y => by
        refine hno (qc (fun j => (S j && q_M n D A N b j) && decide (j < 30)) 30) (by omega) (fun j => (S j && q_M n D A N b j) && decide (j < 30)) ⟨fun j hj => ?_, rfl⟩ ?_
        · obtain ⟨y1, y2⟩ := Bool.and_eq_true _ _ |>.mp hj
          exact ⟨Nat.zero_le j, of_decide_eq_true y2, (Bool.and_eq_true _ _ |>.mp y1).2⟩
        · refine (q_T_cg hw hh hD hok ht hN (fun d hd hM => ?_)).mp (tb b (by omega))
          have e0 : zb (m 140 5) d = false := by
            cases z : zb (m 140 5) d
            · rfl
            · have := (hW.1 d z).2
              rw [(q_M_U hM).2] at this
              cases this
          show S d = (zb (m 140 5) d || ((S d && q_M n D A N b d) && decide (d < 30)))
          rw [e0, hM, decide_eq_true hd]
          simp
      have e2 : qc (fun j => S j && q_U n D A N b j) 30 + qc (fun j => (S j && q_M n D A N b j) && decide (j < 30)) 30 ≤ qc S 30 := by
        rw [← qc_or 30 (fun j _ ⟨z1, z2⟩ => by
          have y1 := (Bool.and_eq_true _ _ |>.mp z1).2
          have y2 := (q_M_U (Bool.and_eq_true _ _ |>.mp (Bool.and_eq_true _ _ |>.mp z2).1).2).2
          rw [y1] at y2
          cases y2)]
        refine qc_le 30 fun j _ hj => ?_
        rcases Bool.or_eq_true _ _ |>.mp hj with z | z
        · exact (Bool.and_eq_true _ _ |>.mp z).1
        · exact (Bool.and_eq_true _ _ |>.mp (Bool.and_eq_true _ _ |>.mp z).1).1
      omega
theorem X_rowC {mz : z_M} {L N : Int} (hL3 : qc (zb L) 30 ≤ 3) : ∀ (f d : Nat) (m : z_M), d + f = 30 → m 0 13 = ((qc (zb L) d : Nat) : Int) → m 140 5 = L → (∀ i, i < qc (zb L) d → m 250 i = (q_rl (zb L) d).getD i 0) → ∃ m1 v, z_R 110 (m, 37, [(2, 0), (0, N), (0, (d : Int))], []) = some (m1, some (0, v)) ∧ c_rw mz m1 (some (q_rl (zb L) 30)) := by
  have mono : ∀ d, d ≤ 30 → qc (zb L) d ≤ qc (zb L) 30 := fun d hd => by
    have : ∀ e, qc (zb L) d ≤ qc (zb L) (d + e) := fun e => by
      induction e with
      | zero => exact Nat.le_refl _
      | succ e ih => exact Nat.le_trans ih (Nat.le_add_right _ _)
    have := this (30 - d)
    rw [show d + (30 - d) = 30 by omega] at this
    exact this
  intro f
  induction f with
  | zero =>
    intro d m hd h13 h5 hq
    have ed : d = 30 := by omega
    rw [qt_qui_37, if_pos (by omega), h5, t_bc_0, zb_v, qt_qui_79]
    rw [ed] at h13 hq
    exact ⟨m, _, rfl, h13.trans (by rw [q_rl_len]), fun i hi => hq i (by rw [q_rl_len] at hi; exact hi)⟩
  | succ f ih =>
    intro d m hd h13 h5 hq
    have e := zb_test32 (a := L) (k := d) (by omega)
    have hm := mono d (by omega)
    rw [qt_qui_37, if_neg (by omega), h5, z_add_eq (x := (d : Int)) (y := 1) (by omega) (by omega), tc1]
    cases y : zb L d
    · rw [if_pos (e.mpr y)]
      exact ih (d + 1) m (by omega) (by rw [qc_f y]; exact h13) h5 (by rw [qc_f y, q_rl_f y]; exact hq)
    · rw [if_neg (fun z => by rw [e.mp z] at y; cases y), c_add (j := qc (zb L) d) m _ (by omega) h13, zb_n, qt_qui_63, z_add_eq (x := (d : Int)) (y := 1) (by omega) (by omega), tc1]
      refine ih (d + 1) _ (by omega) (by rw [zu_self, qc_t y]) (by rw [zu_p (by decide), zu_p (by decide)]; exact h5) (fun i hi => ?_)
      rw [qc_t y] at hi
      rw [zu_p (by decide)]
      by_cases ei : i = qc (zb L) d
      · rw [ei, zu_self, q_rl_last y]
      · rw [zu_k ei, q_rl_get y (by omega)]
        exact hq i (by omega)
theorem X_quiet (hi : C_is w h n heat price D A c U kn KS cs m) (hw : w ≤ 3 ∧ h ≤ 3 ∧ n ≤ 5) (hh : 0 ≤ heat ∧ heat ≤ 9) (hD : q_D D) (hok : hr_ok n A) (ht : 0 ≤ A 35 ∧ A 35 ≤ 1073741824) (a : Int) : ∃ m1 v r, z_R 110 (m, 0, [(2, 0), (0, a), (9, 0)], []) = some (m1, some (0, v)) ∧ c_rw m m1 r ∧ ((¬ (1 ≤ a ∧ a ≤ 40) ∧ r = none) ∨ ((1 ≤ a ∧ a ≤ 40) ∧ q_ar w h n heat price cs D A a.toNat r)) := by
  rw [qt_qui_0]
  by_cases c1 : a < 1
  · rw [if_pos c1]
    exact ⟨m, -1, none, rfl, c_rw_id, Or.inl ⟨by omega, rfl⟩⟩
  rw [if_neg c1]
  by_cases c2 : a ≤ 40
  · obtain ⟨N, rfl⟩ : ∃ N : Nat, a = (N : Int) := ⟨a.toNat, by omega⟩
    have hs1 : z_st 141 := ⟨by decide, by omega⟩
    obtain ⟨m2, b1, b2, b3⟩ := c_become z_st_12 hs1 (by decide) m
    have b1 : z_R 61 (m, 0, [(2, 141), (2, 12)], []) = some (m2, none) := b1
    have hC2 : C_is w h n heat price D A c U kn KS cs m2 := C_fr hi fun p k hk => by
      have hk' := hk
      unfold C_hit at hk'
      have hk' := of_decide_eq_true hk'
      exact b3.of (by (repeat' (first | exact trivial | refine z_of_c ?_ ?_)) <;> omega)
    rw [if_pos c2, qt_sea_0, b1, zb_n, qt_sea_8, Int.toNat_natCast]
    have hv : q_I m2 n N A (z_up (z_up m2 140 4 (N : Int)) 140 5 0) := ⟨fun p k hk _ => by
      have hk' := hk
      unfold C_hit at hk'
      have hk' := of_decide_eq_true hk'
      rw [zu_p (by omega), zu_p (by omega)], by rw [zu_k (by decide), zu_self], by
      rw [cS_fr (m := m2) (fun j k hj _ => by rw [zu_p (by omega), zu_p (by omega)])]
      exact (cS_cR b2).trans hi.2.2.1, by rw [zu_p (by decide), zu_p (by decide)], fun i => by rw [zu_p (by decide), zu_p (by decide)]⟩
    have g5 : (z_up (z_up m2 140 4 (N : Int)) 140 5 0) 140 5 = 0 := zu_self
    have z0 : zb 0 = fun _ => false := funext zb_0
    have hW : q_W w h n heat price cs D A N 0 ((z_up (z_up m2 140 4 (N : Int)) 140 5 0) 140 5) := by
      rw [g5]
      unfold q_W
      rw [z0, qc_0]
      exact ⟨fun j hj => (by cases hj), fun b' hb' => absurd hb' (Nat.not_lt_zero b'), by decide, fun S _ => Nat.zero_le _⟩
    have hV : q_V w h n heat price cs D A N 0 ((z_up (z_up m2 140 4 (N : Int)) 140 5 0) 140 5) := ⟨hW, fun S _ hc j hj _ hy => by
      rw [g5, z0, qc_0] at hc
      exact absurd ((qc_no 30 hc j hj).symm.trans hy) Bool.false_ne_true⟩
    obtain ⟨m3, v, d1, d2, d3, d4⟩ := X_seaL (cs := cs) hC2 hw hh hD hok ht (N := N) (by omega) w 0 (9, 0) (9, 0) (z_up (z_up m2 140 4 (N : Int)) 140 5 0) (by omega) hv (by rw [g5]; decide +kernel) hV
    have d1 : z_R 111 (z_up (z_up m2 140 4 (N : Int)) 140 5 0, 23, [(2, 140), (2, 12), (0, (N : Int)), (0, 1), (0, 0), (9, 0), (9, 0)], []) = some (m3, some (0, v)) := d1
    rw [d1, zb_v, qt_qui_25]
    rcases d3 with ⟨v1, hV3⟩ | ⟨v0, hno⟩
    · have hW3 := hV3.1
      rw [v1, if_neg (show ¬ (1 : Int) = 0 by decide), s_tell0_0, zb_n, qt_qui_35]
      obtain ⟨m4, v4, e1, e2⟩ := X_rowC (mz := m) (L := m3 140 5) (N := (N : Int)) hW3.2.2.1 30 0 (z_up m3 0 13 0) (by decide) zu_self (zu_p (by decide)) (fun i hi => absurd hi (Nat.not_lt_zero i))
      have e1 : z_R 110 (z_up m3 0 13 0, 37, [(2, 0), (0, (N : Int)), (0, 0)], []) = some (m4, some (0, v4)) := e1
      rw [e1]
      refine ⟨m4, v4, some (q_rl (zb (m3 140 5)) 30), rfl, e2, Or.inr ⟨by omega, Or.inr ⟨zb (m3 140 5), fun j hj => ?_, ?_, hW3.2.2.1, rfl, fun S' _ hS' => ?_, fun S' _ hS' hc => ?_⟩⟩⟩
      · have := (hW3.1 j hj).2
        unfold q_U q_m0 at this
        exact (of_decide_eq_true (Bool.and_eq_true _ _ |>.mp this).1).1
      · have tb : ∀ b', b' < 3 → q_T w h n heat price cs D A N b' (zb (m3 140 5)) := fun b' hb' => by
          by_cases y : b' < w
          · exact hW3.2.1 b' y
          · refine q_T_no (fun r hr hrc => ?_)
            rw [u_hs_eq hw.1 hw.2.1 (by omega), if_neg (by omega)]
        exact q_full_T.mpr ⟨tb 0 (by decide), tb 1 (by decide), tb 2 (by decide)⟩
      · obtain ⟨t0, t1, t2⟩ := q_full_T.mp hS'
        refine Nat.le_trans (hW3.2.2.2 S' (fun b' hb' => ?_)) (qc_le 30 fun j _ hj => (Bool.and_eq_true _ _ |>.mp hj).1)
        have hw3 := hw.1
        rcases (show b' = 0 ∨ b' = 1 ∨ b' = 2 by omega) with rfl | rfl | rfl
        · exact t0
        · exact t1
        · exact t2
      · obtain ⟨t0, t1, t2⟩ := q_full_T.mp hS'
        have hw3 := hw.1
        have tb : ∀ b', b' < w → q_T w h n heat price cs D A N b' S' := fun b' hb' => by
          rcases (show b' = 0 ∨ b' = 1 ∨ b' = 2 by omega) with rfl | rfl | rfl
          · exact t0
          · exact t1
          · exact t2
        have hle : qc (fun j => S' j && q_U n D A N w j) 30 ≤ qc S' 30 := qc_le 30 fun j _ hj => (Bool.and_eq_true _ _ |>.mp hj).1
        have hge := hW3.2.2.2 S' tb
        have hx := hV3.2 S' tb (by omega)
        have sub := qc_sub (X := fun j => S' j && q_U n D A N w j) (Y := S') 30 (fun j _ hj => (Bool.and_eq_true _ _ |>.mp hj).1) (by omega)
        exact fun j hj hag hy => hx j hj (fun i hi => (hag i hi).trans (sub i (by omega)).symm) ((sub j hj).trans hy)
    · rw [v0, if_pos (show (0 : Int) = 0 from rfl)]
      exact ⟨m3, -2, none, rfl, ⟨d4.1.trans (b3.of (by (repeat' (first | exact trivial | refine z_of_c ?_ ?_)) <;> omega)), fun i _ => (d4.2 i).trans (b3.of (by (repeat' (first | exact trivial | refine z_of_c ?_ ?_)) <;> omega))⟩, Or.inr ⟨by omega, Or.inl ⟨rfl, fun S _ hS => hno S hS⟩⟩⟩
  · rw [if_neg c2]
    exact ⟨m, -1, none, rfl, c_rw_id, Or.inl ⟨by omega, rfl⟩⟩
theorem Y_tq {mz : z_M} {q : Int} (hq : 0 ≤ q ∧ q ≤ 3) (a b d : Int) {l : List Int} (hl : l = if q ≤ 0 then [] else if q ≤ 1 then [z_i2l a] else if q ≤ 2 then [z_i2l a, z_i2l b] else [z_i2l a, z_i2l b, z_i2l d]) : ∃ m1, z_R 237 (m, 0, [(2, 251), (0, q), (0, a), (0, b), (0, d)], []) = some (m1, some (0, q)) ∧ r_rw mz m1 (some l) := by
  subst hl
  rw [q_tq_0 m q a b d hq]
  by_cases c0 : q ≤ 0
  · rw [if_pos c0, if_pos c0]
    exact ⟨_, rfl, zu_self, fun i hi => absurd hi (Nat.not_lt_zero i)⟩
  rw [if_neg c0, if_neg c0, t_tell0, zb_n, q_tq_15]
  by_cases c1 : q ≤ 1
  · rw [if_pos c1, if_pos c1]
    refine ⟨_, rfl, zu_self, fun i hi => ?_⟩
    have hi : i < 1 := hi
    obtain rfl : i = 0 := by omega
    show _ = z_i2l a
    rw [zu_p (by decide), zu_self]
  rw [if_neg c1, if_neg c1, t_tell1, zb_n, q_tq_26]
  by_cases c2 : q ≤ 2
  · rw [if_pos c2, if_pos c2]
    exact ⟨_, rfl, r_rw_2 rfl rfl rfl⟩
  rw [if_neg c2, if_neg c2, t_tell2, zb_n, q_tq_38]
  exact ⟨_, rfl, r_rw_3 rfl rfl rfl rfl⟩
def q_rr (w h n : Nat) (heat price : Int) (D A : Nat → Int) (cs : List Int) (mz : z_M) (N : Nat) (X : Option z_Q) : Prop := ∃ m1 v r, X = some (m1, some (0, v)) ∧ r_rw mz m1 r ∧ q_ar w h n heat price cs D A N r
theorem Y_quiet (hw : w ≤ 3 ∧ h ≤ 3 ∧ n ≤ 5) (hh : 0 ≤ heat ∧ heat ≤ 9) (hD : q_D D) (hok : hr_ok n A) (ht : 0 ≤ A 35 ∧ A 35 ≤ 1073741824) (hi : R_is w h n heat price D A c U kn KS cs m) (a : Int) : ∃ m1 v r, z_R 233 (m, 0, [(2, 251), (0, a), (9, 0), (9, 0), (9, 0), (9, 0)], []) = some (m1, some (0, v)) ∧ r_rw m m1 r ∧ ((¬ (1 ≤ a ∧ a ≤ 40) ∧ r = none) ∨ ((1 ≤ a ∧ a ≤ 40) ∧ q_ar w h n heat price cs D A a.toNat r)) := by
  rw [q_tqu_0]
  have hu := R_upn (p0 := 251) (k0 := 11) (v := 0) hi (by decide)
  by_cases ok : ¬ (1 ≤ a ∧ a ≤ 40)
  · rw [if_neg ok]
    exact ⟨_, _, none, rfl, r_rw_11, Or.inl ⟨ok, rfl⟩⟩
  have ok : 1 ≤ a ∧ a ≤ 40 := Decidable.not_not.mp ok
  obtain ⟨N, rfl⟩ : ∃ N : Nat, a = (N : Int) := ⟨a.toNat, by omega⟩
  have hN6 : N ≤ 40 := by omega
  have n5 := hw.2.2
  have e3 : m 251 3 = (n : Int) := hi.1.2.2.1
  have hL : z_mul 6 (m 251 3) = ((6 * n : Nat) : Int) := by rw [e3, z_mul_eq (by omega) (by omega)]; omega
  rw [if_pos ok, hL, Int.toNat_natCast]
  have h10 : qf m (z_up m 251 11 0) := ⟨zu_k (by decide), fun _ => zu_p (by decide)⟩
  generalize z_up m 251 11 0 = m0 at hu h10 ⊢
  obtain ⟨l0, hl0⟩ : ∃ l0 : z_M, l0 = m := ⟨m, rfl⟩
  rw [← hl0] at h10 ⊢
  have hq0 : Rq w h n heat price D A c U kn KS cs l0 m0 := ⟨hu, h10⟩
  obtain ⟨L, hLn⟩ : ∃ L : Nat, 6 * n = L := ⟨_, rfl⟩
  have hL30 : L ≤ 30 := by omega
  suffices hs : q_rr w h n heat price D A cs l0 N ((z_R 234 (m0, 0, [(2, 251), (0, (N : Int)), (0, (-1)), (0, (-1)), (0, (-1)), (9, 0), (9, 0), (9, 0), (9, 0)], [])).bind fun qq => z_R 233 (qq.1, 33, [(2, 251), (0, (N : Int)), (0, ((6 * n : Nat) : Int)), (9, 0), (9, 0), (9, 0)], qq.2.toList ++ [])) by
    obtain ⟨m1, v, r, a1, a2, a3⟩ := hs
    exact ⟨m1, v, r, a1, a2, Or.inr ⟨ok, a3⟩⟩
  have found : ∀ (q : Int) (k : Nat) (x y z : Int) (m1 : z_M) (l : List Int), q = (k : Int) → k ≤ 3 → (∀ j, q_3 x y z j = true → j < 6 * n) → qc (q_3 x y z) 30 = k → q_full w h n heat price cs D A N (q_3 x y z) → (∀ S, (∀ j, S j = true → j < 6 * n) → q_full w h n heat price cs D A N S → k ≤ qc S 30) → l = q_rl (q_3 x y z) 30 → (∀ S, (∀ j, S j = true → j < 6 * n) → q_full w h n heat price cs D A N S → qc S 30 = k → q_LL (q_3 x y z) S) → q_ar w h n heat price cs D A N (some l) := fun q k x y z m1 l hq hk h1 h2 h3 h4 hl h5 => Or.inr ⟨q_3 x y z, h1, h3, by omega, by rw [hl], fun S' s1 s2 => by rw [h2]; exact h4 S' s1 s2, fun S' s1 s2 s3 => h5 S' s1 s2 (s3.trans h2)⟩
  rw [hLn] at found ⊢
  -- sets of three
  have l154 : ∀ (x y : Nat), x < y → y < L → (∀ x' y' z' : Nat, x' < x → x' < y' → y' < z' → z' < L → ¬ q_full w h n heat price cs D A N (q_3 (x' : Int) (y' : Int) (z' : Int))) → (∀ y' z' : Nat, x < y' → y' < y → y' < z' → z' < L → ¬ q_full w h n heat price cs D A N (q_3 (x : Int) (y' : Int) (z' : Int))) → (∀ S, (∀ j, S j = true → j < L) → q_full w h n heat price cs D A N S → 3 ≤ qc S 30) → (∀ m x5, Rq w h n heat price D A c U kn KS cs l0 m → (∀ z, y < z → z < L → ¬ q_full w h n heat price cs D A N (q_3 (x : Int) (y : Int) (z : Int))) → q_rr w h n heat price D A cs l0 N (z_R 233 (m, 142, [(2, 251), (0, (N : Int)), (0, (L : Int)), (0, (x : Int)), (0, ((y + 1 : Nat) : Int)), (0, x5)], []))) → ∀ (f z : Nat) (m : z_M), z + f = L → y < z → Rq w h n heat price D A c U kn KS cs l0 m → (∀ z', y < z' → z' < z → ¬ q_full w h n heat price cs D A N (q_3 (x : Int) (y : Int) (z' : Int))) → q_rr w h n heat price D A cs l0 N (z_R 233 (m, 154, [(2, 251), (0, (N : Int)), (0, (L : Int)), (0, (x : Int)), (0, (y : Int)), (0, (z : Int))], [])) := by
    intro x y hx hy hA hB h3 nx f
    induction f with
    | zero =>
      intro z m hz hyz hi hno
      rw [q_tqu_154, if_pos (by omega), z_add_eq (by omega) (by omega), tc1]
      exact nx m _ hi (fun z' h1 h2 => hno z' h1 (by omega))
    | succ f ih =>
      intro z m hz hyz hi hno
      obtain ⟨m1, v, a1, a2, a3⟩ := R_isq3 hw hh hD hok ht hi hN6 (a := (x : Int)) (b := (y : Int)) (d := (z : Int)) (Or.inr (by omega)) (Or.inr (by omega)) (Or.inr (by omega))
      rw [q_tqu_154, if_neg (by omega), a1, zb_v, q_tqu_170]
      rcases a3 with ⟨v1, t⟩ | ⟨v0, t⟩
      · obtain ⟨m2, b1, b2⟩ := Y_tq (mz := l0) (m := m1) (q := 3) (by decide) (x : Int) (y : Int) (z : Int) (l := [z_i2l (x : Int), z_i2l (y : Int), z_i2l (z : Int)]) (by rw [if_neg (by decide), if_neg (by decide), if_neg (by decide)])
        rw [v1, if_neg (show ¬ (1 : Int) = 0 by decide), b1, zb_v, q_tqu_183]
        refine ⟨m2, _, _, rfl, b2, found 3 3 x y z m2 _ rfl (by decide) (q_3_lt (by omega) (by omega) (by omega)) (qc_33 hx hyz (by omega)) t h3 (q_rl3 hx hyz (by omega)).symm (fun S s1 s2 s3 => ?_)⟩
        obtain ⟨a', b', d', g1, g2, g3, e⟩ := qc_is3 hL30 s1 s3
        rw [e] at s2 ⊢
        refine q_LLa hx hyz g1 g2 (Decidable.byContradiction fun w' => ?_)
        by_cases e1 : a' < x
        · exact hA a' b' d' e1 g1 g2 g3 s2
        · obtain rfl : a' = x := by omega
          by_cases e2 : b' < y
          · exact hB b' d' g1 e2 g2 g3 s2
          · obtain rfl : b' = y := by omega
            exact hno d' g2 (by omega) s2
      · rw [v0, if_pos (show (0 : Int) = 0 from rfl), z_add_eq (by omega) (by omega), tc1]
        refine ih (z + 1) m1 (by omega) (by omega) a2 (fun z' h1 h2 => ?_)
        by_cases e : z' = z
        · rw [e]
          exact t
        · exact hno z' h1 (by omega)
  have l142 : ∀ (x : Nat), x < L → (∀ x' y' z' : Nat, x' < x → x' < y' → y' < z' → z' < L → ¬ q_full w h n heat price cs D A N (q_3 (x' : Int) (y' : Int) (z' : Int))) → (∀ S, (∀ j, S j = true → j < L) → q_full w h n heat price cs D A N S → 3 ≤ qc S 30) → (∀ m v4 v5, Rq w h n heat price D A c U kn KS cs l0 m → (∀ y z, x < y → y < z → z < L → ¬ q_full w h n heat price cs D A N (q_3 (x : Int) (y : Int) (z : Int))) → q_rr w h n heat price D A cs l0 N (z_R 233 (m, 132, [(2, 251), (0, (N : Int)), (0, (L : Int)), (0, ((x + 1 : Nat) : Int)), v4, v5], []))) → ∀ (f y : Nat) (v5 : z_V) (m : z_M), y + f = L → x < y → Rq w h n heat price D A c U kn KS cs l0 m → (∀ y' z, x < y' → y' < y → y' < z → z < L → ¬ q_full w h n heat price cs D A N (q_3 (x : Int) (y' : Int) (z : Int))) → q_rr w h n heat price D A cs l0 N (z_R 233 (m, 142, [(2, 251), (0, (N : Int)), (0, (L : Int)), (0, (x : Int)), (0, (y : Int)), v5], [])) := by
    intro x hx hA h3 nx f
    induction f with
    | zero =>
      intro y v5 m hy hxy hi hno
      rw [q_tqu_142, if_pos (by omega), z_add_eq (by omega) (by omega), tc1]
      exact nx m _ _ hi (fun y' z h1 h2 h4 => hno y' z h1 (by omega) h2 h4)
    | succ f ih =>
      intro y v5 m hy hxy hi hno
      rw [q_tqu_142, if_neg (by omega), z_add_eq (x := (y : Int)) (by omega) (by omega), tc1]
      refine l154 x y hxy (by omega) hA (fun y' z' h1 h2 h4 h5 => hno y' z' h1 h2 h4 h5) h3 (fun m x5 hm hz => ih (y + 1) _ m (by omega) (by omega) hm (fun y' z h1 h2 h4 h5 => ?_)) (L - (y + 1)) (y + 1) m (by omega) (by omega) hi (fun z' h1 h2 => by omega)
      by_cases e : y' = y
      · rw [e]
        exact hz z (by omega) h5
      · exact hno y' z h1 (by omega) h4 h5
  have l132 : (∀ S, (∀ j, S j = true → j < L) → q_full w h n heat price cs D A N S → 3 ≤ qc S 30) → ∀ (f x : Nat) (v4 v5 : z_V) (m : z_M), x + f = L → Rq w h n heat price D A c U kn KS cs l0 m → (∀ x' y z, x' < x → x' < y → y < z → z < L → ¬ q_full w h n heat price cs D A N (q_3 (x' : Int) (y : Int) (z : Int))) → q_rr w h n heat price D A cs l0 N (z_R 233 (m, 132, [(2, 251), (0, (N : Int)), (0, (L : Int)), (0, (x : Int)), v4, v5], [])) := by
    intro h3 f
    induction f with
    | zero =>
      intro x v4 v5 m hx hi hno
      rw [q_tqu_132, if_pos (by omega)]
      refine ⟨m, _, none, rfl, ⟨hi.2.1, fun i _ => hi.2.2 i⟩, Or.inl ⟨rfl, fun S s1 s2 => ?_⟩⟩
      have s1 : ∀ j, S j = true → j < L := fun j hj => by have := s1 j hj; omega
      have := h3 S s1 s2
      refine Decidable.byContradiction fun y => ?_
      obtain ⟨a, b, d, h1, h2, h4, e⟩ := qc_is3 hL30 s1 (by omega)
      rw [e] at s2
      exact hno a b d (by omega) h1 h2 h4 s2
    | succ f ih =>
      intro x v4 v5 m hx hi hno
      rw [q_tqu_132, if_neg (by omega), z_add_eq (by omega) (by omega), tc1]
      refine l142 x (by omega) (fun x' y' z' h1 h2 h4 h5 => hno x' y' z' h1 h2 h4 h5) h3 (fun m v4 v5 hm hy => ih (x + 1) v4 v5 m (by omega) hm (fun x' y z h1 h2 h4 h5 => ?_)) (L - (x + 1)) (x + 1) _ m (by omega) (by omega) hi (fun y' z h1 h2 => by omega)
      by_cases e : x' = x
      · rw [e]
        exact hy y z (by omega) h4 h5
      · exact hno x' y z (by omega) h2 h4 h5
  -- sets of two
  have l90 : ∀ (x : Nat), x < L → (∀ x' y' : Nat, x' < x → x' < y' → y' < L → ¬ q_full w h n heat price cs D A N (q_3 (x' : Int) (y' : Int) (-1))) → (∀ S, (∀ j, S j = true → j < L) → q_full w h n heat price cs D A N S → 2 ≤ qc S 30) → (∀ m v4, Rq w h n heat price D A c U kn KS cs l0 m → (∀ y, x < y → y < L → ¬ q_full w h n heat price cs D A N (q_3 (x : Int) (y : Int) (-1))) → q_rr w h n heat price D A cs l0 N (z_R 233 (m, 80, [(2, 251), (0, (N : Int)), (0, (L : Int)), (0, ((x + 1 : Nat) : Int)), v4, (9, 0)], []))) → ∀ (f y : Nat) (m : z_M), y + f = L → x < y → Rq w h n heat price D A c U kn KS cs l0 m → (∀ y', x < y' → y' < y → ¬ q_full w h n heat price cs D A N (q_3 (x : Int) (y' : Int) (-1))) → q_rr w h n heat price D A cs l0 N (z_R 233 (m, 90, [(2, 251), (0, (N : Int)), (0, (L : Int)), (0, (x : Int)), (0, (y : Int)), (9, 0)], [])) := by
    intro x hx hA h2 nx f
    induction f with
    | zero =>
      intro y m hy hxy hi hno
      rw [q_tqu_90, if_pos (by omega), z_add_eq (by omega) (by omega), tc1]
      exact nx m _ hi (fun y' h1 h4 => hno y' h1 (by omega))
    | succ f ih =>
      intro y m hy hxy hi hno
      obtain ⟨m1, v, a1, a2, a3⟩ := R_isq3 hw hh hD hok ht hi hN6 (a := (x : Int)) (b := (y : Int)) (d := -1) (Or.inr (by omega)) (Or.inr (by omega)) (Or.inl rfl)
      rw [q_tqu_90, if_neg (by omega), a1, zb_v, q_tqu_105]
      rcases a3 with ⟨v1, t⟩ | ⟨v0, t⟩
      · obtain ⟨m2, b1, b2⟩ := Y_tq (mz := l0) (m := m1) (q := 2) (by decide) (x : Int) (y : Int) 0 (l := [z_i2l (x : Int), z_i2l (y : Int)]) (by rw [if_neg (by decide), if_neg (by decide), if_pos (by decide)])
        rw [v1, if_neg (show ¬ (1 : Int) = 0 by decide), b1, zb_v, q_tqu_117]
        refine ⟨m2, _, _, rfl, b2, found 2 2 x y (-1) m2 _ rfl (by decide) (q_3_lt (by omega) (by omega) (by omega)) (qc_32b hxy (by omega)) t h2 (q_rl2 hxy (by omega)).symm (fun S s1 s2 s3 => ?_)⟩
        obtain ⟨a', b', g1, g2, e⟩ := qc_is2 hL30 s1 s3
        rw [e] at s2 ⊢
        refine q_LLb hxy g1 (Decidable.byContradiction fun w' => ?_)
        by_cases e1 : a' < x
        · exact hA a' b' e1 g1 g2 s2
        · obtain rfl : a' = x := by omega
          exact hno b' g1 (by omega) s2
      · rw [v0, if_pos (show (0 : Int) = 0 from rfl), z_add_eq (by omega) (by omega), tc1]
        refine ih (y + 1) m1 (by omega) (by omega) a2 (fun y' h1 h4 => ?_)
        by_cases e : y' = y
        · rw [e]
          exact t
        · exact hno y' h1 (by omega)
  have l80 : (∀ S, (∀ j, S j = true → j < L) → q_full w h n heat price cs D A N S → 2 ≤ qc S 30) → ∀ (f x : Nat) (v4 : z_V) (m : z_M), x + f = L → Rq w h n heat price D A c U kn KS cs l0 m → (∀ x' y, x' < x → x' < y → y < L → ¬ q_full w h n heat price cs D A N (q_3 (x' : Int) (y : Int) (-1))) → q_rr w h n heat price D A cs l0 N (z_R 233 (m, 80, [(2, 251), (0, (N : Int)), (0, (L : Int)), (0, (x : Int)), v4, (9, 0)], [])) := by
    intro h2 f
    induction f with
    | zero =>
      intro x v4 m hx hi hno
      rw [q_tqu_80, if_pos (by omega)]
      refine l132 (fun S s1 s2 => ?_) L 0 _ _ m (by omega) hi (fun x' y z h1 => absurd h1 (Nat.not_lt_zero x'))
      have := h2 S s1 s2
      refine Decidable.byContradiction fun y => ?_
      obtain ⟨a, b, h1, h4, e⟩ := qc_is2 hL30 s1 (by omega)
      rw [e] at s2
      exact hno a b (by omega) h1 h4 s2
    | succ f ih =>
      intro x v4 m hx hi hno
      rw [q_tqu_80, if_neg (by omega), z_add_eq (by omega) (by omega), tc1]
      refine l90 x (by omega) (fun x' y' h1 h4 h5 => hno x' y' h1 h4 h5) h2 (fun m v4 hm hy => ih (x + 1) v4 m (by omega) hm (fun x' y h1 h4 h5 => ?_)) (L - (x + 1)) (x + 1) m (by omega) (by omega) hi (fun y' h1 h4 => by omega)
      by_cases e : x' = x
      · rw [e]
        exact hy y (by omega) h5
      · exact hno x' y (by omega) h4 h5
  -- sets of one
  have l47 : (∀ S, (∀ j, S j = true → j < L) → q_full w h n heat price cs D A N S → 1 ≤ qc S 30) → ∀ (f x : Nat) (m : z_M), x + f = L → Rq w h n heat price D A c U kn KS cs l0 m → (∀ x', x' < x → ¬ q_full w h n heat price cs D A N (q_3 (x' : Int) (-1) (-1))) → q_rr w h n heat price D A cs l0 N (z_R 233 (m, 47, [(2, 251), (0, (N : Int)), (0, (L : Int)), (0, (x : Int)), (9, 0), (9, 0)], [])) := by
    intro h1 f
    induction f with
    | zero =>
      intro x m hx hi hno
      rw [q_tqu_47, if_pos (by omega)]
      refine l80 (fun S s1 s2 => ?_) L 0 _ m (by omega) hi (fun x' y h1 => absurd h1 (Nat.not_lt_zero x'))
      have := h1 S s1 s2
      refine Decidable.byContradiction fun y => ?_
      obtain ⟨a, h4, e⟩ := qc_is1 hL30 s1 (by omega)
      rw [e] at s2
      exact hno a (by omega) s2
    | succ f ih =>
      intro x m hx hi hno
      obtain ⟨m1, v, a1, a2, a3⟩ := R_isq3 hw hh hD hok ht hi hN6 (a := (x : Int)) (b := -1) (d := -1) (Or.inr (by omega)) (Or.inl rfl) (Or.inl rfl)
      rw [q_tqu_47, if_neg (by omega), a1, zb_v, q_tqu_60]
      rcases a3 with ⟨v1, t⟩ | ⟨v0, t⟩
      · obtain ⟨m2, b1, b2⟩ := Y_tq (mz := l0) (m := m1) (q := 1) (by decide) (x : Int) 0 0 (l := [z_i2l (x : Int)]) (by rw [if_neg (by decide), if_pos (by decide)])
        rw [v1, if_neg (show ¬ (1 : Int) = 0 by decide), b1, zb_v, q_tqu_71]
        refine ⟨m2, _, _, rfl, b2, found 1 1 x (-1) (-1) m2 _ rfl (by decide) (q_3_lt (by omega) (by omega) (by omega)) (qc_31 (by omega)) t h1 (q_rl1 (by omega)).symm (fun S s1 s2 s3 => ?_)⟩
        obtain ⟨a', g1, e⟩ := qc_is1 hL30 s1 s3
        rw [e] at s2 ⊢
        exact q_LLc (Decidable.byContradiction fun w' => hno a' (by omega) s2)
      · rw [v0, if_pos (show (0 : Int) = 0 from rfl), z_add_eq (by omega) (by omega), tc1]
        refine ih (x + 1) m1 (by omega) a2 (fun x' h4 => ?_)
        by_cases e : x' = x
        · rw [e]
          exact t
        · exact hno x' (by omega)
  have e0 : q_3 (-1) (-1) (-1) = fun _ => false := funext fun j => by
    unfold q_3
    rw [q_1_no]
    rfl
  obtain ⟨m1, v, a1, a2, a3⟩ := R_isq3 hw hh hD hok ht hq0 hN6 (a := -1) (b := -1) (d := -1) (Or.inl rfl) (Or.inl rfl) (Or.inl rfl)
  rw [a1, zb_v, q_tqu_33]
  rcases a3 with ⟨v1, t⟩ | ⟨v0, t⟩
  · obtain ⟨m2, b1, b2⟩ := Y_tq (mz := l0) (m := m1) (q := 0) (by decide) 0 0 0 (l := []) (by rw [if_pos (by decide)])
    rw [v1, if_neg (show ¬ (1 : Int) = 0 by decide), b1, zb_v, q_tqu_44]
    refine ⟨m2, _, _, rfl, b2, found 0 0 (-1) (-1) (-1) m2 _ rfl (by decide) (q_3_lt (by omega) (by omega) (by omega)) ?_ t (fun S _ _ => Nat.zero_le _) q_rl0.symm (fun S s1 s2 s3 j hj hag hy => ?_)⟩
    · rw [e0]
      exact qc_0 30
    · rw [qc_no 30 s3 j hj] at hy
      cases hy
  · rw [v0, if_pos (show (0 : Int) = 0 from rfl)]
    refine l47 (fun S s1 s2 => ?_) L 0 m1 (by omega) a2 (fun x' h1 => absurd h1 (Nat.not_lt_zero x'))
    refine Decidable.byContradiction fun y => ?_
    have eS : S = q_3 (-1) (-1) (-1) := by
      rw [e0]
      funext j
      by_cases hj : j < 30
      · exact qc_no 30 (by omega) j hj
      · cases z : S j
        · rfl
        · have := s1 j z
          omega
    rw [eS] at s2
    exact t s2
end
end
section
/-! WHAT IS TOLD, number by number: the cases -/
theorem tw2_carry : l_two rw_Q (974, 148, 129, 1, false, 985, 151, 245) := by
  intro M1 M2 M3 σ σ1 σ2 as v1 v2 C1 C2 ρ1 ρ2 ha hR hh hM1 hC1 hp1 hE1 hC2 hp2 hE2
  obtain ⟨a, rfl⟩ := as_one ha
  have hE1 : z_R 129 (z_m σ, 0, [(2, 0), (0, a.toInt), (9, 0)], []) = some (z_m σ1, some (0, v1.toInt)) := z_R_iff.mpr hE1
  have hE2 : z_R 245 (z_m σ1, 0, [(2, 251), (0, a.toInt), (9, 0)], []) = some (z_m σ2, some (0, v2.toInt)) := z_R_iff.mpr hE2
  obtain ⟨w, h, n, heat, price, D, A, c, U, kn, KS, cs, cC, cR, cW⟩ := hR.2
  obtain ⟨b1, b2, -, -, hok, b35, -, b7⟩ := core_b hh hM1 cR
  have hN : w_N w h n heat D := ⟨b1, b2, b7⟩
  have kk := core_24 hh
  have f1 := R_off2_ok (y := 129) (by decide +kernel) hC1 hp1
  have cR1 := R_fr cR f1
  exact rw_do hE1 hE2 ((X_carry cC hN hok b35 cW.2.1 kk.2 a.toInt).imp fun _ h => ⟨_, h⟩) ((Y_carry cR1 hN hok b35 cW.2.1 a.toInt).imp fun _ h => ⟨_, h⟩)
theorem tw2_lodge : l_twR Rel_L rw_Q (798, 116, 98, 1, false, 809, 119, 227) := by
  intro M1 M2 M3 σ σ1 σ2 as v1 v2 C1 C2 ρ1 ρ2 ha hR hh hM1 hC1 hp1 hE1 hC2 hp2 hE2
  obtain ⟨a, rfl⟩ := as_one ha
  have hE1 : z_R 98 (z_m σ, 0, [(2, 0), (0, a.toInt)], []) = some (z_m σ1, some (0, v1.toInt)) := z_R_iff.mpr hE1
  have hE2 : z_R 227 (z_m σ1, 0, [(2, 251), (0, a.toInt)], []) = some (z_m σ2, some (0, v2.toInt)) := z_R_iff.mpr hE2
  obtain ⟨w, h, n, heat, price, D, A, c, U, kn, KS, cs, cC, cR, cW⟩ := hR.1.2
  obtain ⟨b1, b2, -, -, hok, b35, -, b7⟩ := core_b hh hM1 cR
  have hN : w_N w h n heat D := ⟨b1, b2, b7⟩
  have f1 := R_off2_ok (y := 98) (by decide +kernel) hC1 hp1
  have cR1 := R_fr cR f1
  exact rw_do hE1 hE2 ((X_lodge cC hN hok b35 hR.2 a.toInt).imp fun _ h => ⟨_, h⟩) ((Y_lodge cR1 hN hok b35 a.toInt).imp fun _ h => ⟨_, h⟩)
theorem tw2_longest : l_twR Rel_L rw_Q (817, 120, 109, 0, false, 822, 123, 232) := by
  intro M1 M2 M3 σ σ1 σ2 as v1 v2 C1 C2 ρ1 ρ2 ha hR hh hM1 hC1 hp1 hE1 hC2 hp2 hE2
  obtain rfl := as_nil ha
  have hE1 : z_R 109 (z_m σ, 0, [(2, 0), (9, 0)], []) = some (z_m σ1, some (0, v1.toInt)) := z_R_iff.mpr hE1
  have hE2 : z_R 232 (z_m σ1, 0, [(2, 251)], []) = some (z_m σ2, some (0, v2.toInt)) := z_R_iff.mpr hE2
  obtain ⟨w, h, n, heat, price, D, A, c, U, kn, KS, cs, cC, cR, cW⟩ := hR.1.2
  obtain ⟨b1, b2, -, -, hok, b35, -, b7⟩ := core_b hh hM1 cR
  have hN : w_N w h n heat D := ⟨b1, b2, b7⟩
  have f1 := R_off2_ok (y := 109) (by decide +kernel) hC1 hp1
  have cR1 := R_fr cR f1
  obtain ⟨m1, u1, x1, x2⟩ := X_longest cC hN hok b35 hR.2
  obtain ⟨m2, u2, y1, y2⟩ := Y_longest cR1 hN hok b35
  exact rw_do hE1 hE2 ⟨m1, _, x1, x2⟩ ⟨m2, _, y1, y2⟩
theorem tw2_quiet : l_two rw_Q (836, 124, 110, 1, false, 847, 127, 233) := by
  intro M1 M2 M3 σ σ1 σ2 as v1 v2 C1 C2 ρ1 ρ2 ha hR hh hM1 hC1 hp1 hE1 hC2 hp2 hE2
  obtain ⟨a, rfl⟩ := as_one ha
  have hE1 : z_R 110 (z_m σ, 0, [(2, 0), (0, a.toInt), (9, 0)], []) = some (z_m σ1, some (0, v1.toInt)) := z_R_iff.mpr hE1
  have hE2 : z_R 233 (z_m σ1, 0, [(2, 251), (0, a.toInt), (9, 0), (9, 0), (9, 0), (9, 0)], []) = some (z_m σ2, some (0, v2.toInt)) := z_R_iff.mpr hE2
  obtain ⟨w, h, n, heat, price, D, A, c, U, kn, KS, cs, cC, cR, cW⟩ := hR.2
  obtain ⟨b1, b2, -, b4, hok, b35, -, -⟩ := core_b hh hM1 cR
  have f1 := R_off2_ok (y := 110) (by decide +kernel) hC1 hp1
  have cR1 := R_fr cR f1
  obtain ⟨m1, v, r, d1, d2, d3⟩ := X_quiet cC b1 b2 b4 hok b35 a.toInt
  obtain ⟨e1, e2⟩ := R_inj d1 hE1
  subst e1
  obtain ⟨m2, v', r', g1, g2, g3⟩ := Y_quiet b1 b2 b4 hok b35 cR1 a.toInt
  obtain ⟨k1, k2⟩ := R_inj g1 hE2
  subst k1
  have er : r = r' := by
    rcases d3 with ⟨n1, n2⟩ | ⟨n1, n2⟩
    · rcases g3 with ⟨o1, o2⟩ | ⟨o1, o2⟩
      · rw [n2, o2]
      · exact absurd o1 n1
    · rcases g3 with ⟨o1, o2⟩ | ⟨o1, o2⟩
      · exact absurd n1 o1
      · exact q_ar_1 n2 o2
  exact ⟨r, d2, by rw [er]; exact g2⟩
theorem tw2_season : l_two rw_Q (1166, 172, 144, 2, false, 1183, 175, 257) := by
  intro M1 M2 M3 σ σ1 σ2 as v1 v2 C1 C2 ρ1 ρ2 ha hR hh hM1 hC1 hp1 hE1 hC2 hp2 hE2
  obtain ⟨s, a, rfl⟩ := as_two ha
  have hE1 : z_R 144 (z_m σ, 0, [(2, 0), (0, s.toInt), (0, a.toInt), (9, 0), (9, 0)], []) = some (z_m σ1, some (0, v1.toInt)) := z_R_iff.mpr hE1
  have hE2 : z_R 257 (z_m σ1, 0, [(2, 251), (0, s.toInt), (0, a.toInt), (9, 0), (9, 0), (9, 0), (9, 0)], []) = some (z_m σ2, some (0, v2.toInt)) := z_R_iff.mpr hE2
  obtain ⟨w, h, n, heat, price, D, A, c, U, kn, KS, cs, cC, cR, cW⟩ := hR.2
  obtain ⟨b1, b2, -, -, hok, b35, b34, b7⟩ := core_b hh hM1 cR
  have hN : w_N w h n heat D := ⟨b1, b2, b7⟩
  have f1 := R_off2_ok (y := 144) (by decide +kernel) hC1 hp1
  have cR1 := R_fr cR f1
  exact rw_do hE1 hE2 ((X_season cC hN hok b34.1 b35 s.toInt a.toInt).imp fun _ q => q.elim fun _ h => ⟨_, h⟩) ((Y_season cR1 hN hok b34.1 b35 s.toInt a.toInt).imp fun _ q => q.elim fun _ h => ⟨_, h⟩)
section
variable {w h n : Nat} {heat price : Int} {D A : Nat → Int} {c : Nat} {U : Nat → Nat → Int} {kn : Nat → Int} {KS : Nat → Nat → Int} {cs : List Int} {m : z_M}
theorem X_win_no (h1 : m 1 1 ≤ 80) {G : Int → Int} (hr : u_gr G) (hG : u_nx (m 2) (m 1 1) 60 = G) {j : Int} {l : List (Int × Int × Int)} (hS : w_rd G (m 1 1) = (false, j, l)) (hj : 0 ≤ j ∧ j ≤ 80) : ∃ m1, z_R 82 (m, 0, [(2, 0), (9, 0), (9, 0)], []) = some (m1, some (0, -1 - j)) ∧ c_rw m m1 none := by
  obtain ⟨m1, a1, a2, -, a4⟩ := w_readc m h1 hr hG
  rw [hS] at a1 a2
  have a1 : z_R 83 (m, 0, [(2, 118), (9, 0)], []) = some (m1, some (0, 0)) := a1
  have k12 : (z_up m1 1 1 0) 1 2 = j := (zu_k (by decide)).trans a2.2.1
  rw [w_win_0, a1, zb_v, w_win_7, s_empty_0, zb_n, w_win_15, if_pos (show (0 : Int) = 0 from rfl), k12, z_sub_eq (by omega) (by omega)]
  exact ⟨_, rfl, (X_up (by decide)).trans (a4.of (by (repeat' (first | exact trivial | refine z_of_c ?_ ?_)) <;> omega)), fun i _ => (X_up (by omega)).trans (a4.of (by (repeat' (first | exact trivial | refine z_of_c ?_ ?_)) <;> omega))⟩
end
theorem tw2_winter : l_two rw_Q (666, 92, 82, 0, false, 671, 95, 212) := by
  intro M1 M2 M3 σ σ1 σ2 as v1 v2 C1 C2 ρ1 ρ2 ha hR hh hM1 hC1 hp1 hE1 hC2 hp2 hE2
  obtain rfl := as_nil ha
  have hE1 : z_R 82 (z_m σ, 0, [(2, 0), (9, 0), (9, 0)], []) = some (z_m σ1, some (0, v1.toInt)) := z_R_iff.mpr hE1
  have hE2 : z_R 212 (z_m σ1, 0, [(2, 251), (9, 0), (9, 0), (9, 0)], []) = some (z_m σ2, some (0, v2.toInt)) := z_R_iff.mpr hE2
  have hT : u_R (z_m σ) := hR.1
  obtain ⟨r1, r2⟩ := z_rng hh (p := 1) (k := 1) (lo := 0) (hi := 80) (by decide) (by decide +kernel) (by decide +kernel)
  have rb : ∀ k, k < 80 → -128 ≤ z_m σ 254 k ∧ z_m σ 254 k ≤ 127 := fun k hk => z_rng hh (p := 254) (k := k) (lo := -128) (hi := 127) (by decide) (by rw [show h_ln 254 = 80 by decide +kernel]; exact hk) (h_ty_254 k)
  have o8 : z_m σ1 251 8 = z_m σ 251 8 := md_off_ok (y := 82) (by decide +kernel) hC1 hp1
  have o4 : z_m σ1 254 = z_m σ 254 := md_offr_ok (y := 82) (by decide +kernel) hC1 hp1
  have e8 : z_m σ1 251 8 = z_m σ 1 1 := o8.trans hT.1.symm
  have eG : u_nx (u_t (z_m σ1)) (z_m σ1 251 8) 60 = u_nx (z_m σ 2) (z_m σ 1 1) 60 := by
    rw [u_nx_R hT]
    unfold u_t
    rw [o8, o4]
  obtain ⟨w, h, n, heat, price, D, A, c, U, kn, KS, cs, cC, cR, cW⟩ := hR.2
  obtain ⟨b1, b2, -, -, hok, b35, b34, b7⟩ := core_b hh hM1 cR
  have f1 := R_off2_ok (y := 82) (by decide +kernel) hC1 hp1
  have cR1 := R_fr cR f1
  have rb1 : ∀ k, k < 80 → -128 ≤ z_m σ1 254 k ∧ z_m σ1 254 k ≤ 127 := fun k hk => by rw [o4]; exact rb k hk
  have hN : w_N w h n heat D := ⟨b1, b2, b7⟩
  have hI : w_inv n A 1073741824 := ⟨hok, b34.1, b35.1, b35.2⟩
  have hS := w_rd_b (G := u_nx (z_m σ 2) (z_m σ 1 1) 60) (u_nx_b r2) (z_m σ 1 1)
  rcases hW : w_rd (u_nx (z_m σ 2) (z_m σ 1 1) 60) (z_m σ 1 1) with ⟨x, j, l⟩
  rw [hW] at hS
  cases x with
  | true =>
    rcases hd : w_go w h n heat price cs D l A with ⟨d, B⟩
    exact rw_do hE1 hE2 ((X_win cC hN hI (by decide) r2 (u_gr_Rc hT) rfl hW hS.2 hd).imp fun _ q => q.elim fun _ h => ⟨_, h⟩) ((Y_win cR1 hN hI (by decide) (by rw [e8]; exact r1) (by rw [e8]; exact r2) rb1 eG (by rw [e8]; exact hW) hS.2 hd).imp fun _ q => q.elim fun _ h => ⟨_, h⟩)
  | false =>
    refine rw_do (o := none) hE1 hE2 ((X_win_no r2 (u_gr_Rc hT) rfl hW hS.1).imp fun _ h => ⟨_, h⟩) ?_
    obtain ⟨m2, d1, -, d3⟩ := w_readq (z_m σ1) (by rw [e8]; exact r1) (by rw [e8]; exact r2) rb1 eG
    rw [e8, hW] at d3
    exact ⟨m2, _, d3 rfl, d1.of (by (repeat' (first | exact trivial | refine z_of_c ?_ ?_)) <;> omega), fun i _ => d1.of (by (repeat' (first | exact trivial | refine z_of_c ?_ ?_)) <;> omega)⟩
theorem tw2_rests : l_two rw_Q (1036, 156, 135, 3, false, 1059, 159, 251) := by
  intro M1 M2 M3 σ σ1 σ2 as v1 v2 C1 C2 ρ1 ρ2 ha hR hh hM1 hC1 hp1 hE1 hC2 hp2 hE2
  obtain ⟨a, b, v, rfl⟩ := as_three ha
  have hE1 : z_R 135 (z_m σ, 0, [(2, 0), (0, a.toInt), (0, b.toInt), (0, v.toInt), (9, 0), (9, 0), (9, 0), (9, 0), (9, 0), (9, 0)], []) = some (z_m σ1, some (0, v1.toInt)) := z_R_iff.mpr hE1
  have hE2 : z_R 251 (z_m σ1, 0, [(2, 251), (0, a.toInt), (0, b.toInt), (0, v.toInt), (9, 0), (9, 0), (9, 0), (9, 0), (9, 0), (9, 0)], []) = some (z_m σ2, some (0, v2.toInt)) := z_R_iff.mpr hE2
  obtain ⟨w, h, n, heat, price, D, A, c, U, kn, KS, cs, cC, cR, cW⟩ := hR.2
  obtain ⟨b1, b2, -, -, hok, b35, -, b7⟩ := core_b hh hM1 cR
  have hN : w_N w h n heat D := ⟨b1, b2, b7⟩
  have f1 := R_off2_ok (y := 135) (by decide +kernel) hC1 hp1
  obtain ⟨m1, x1, x2⟩ := X_rests cC hN hok b35 cW.2.1 a.toInt b.toInt v.toInt
  rw [← s_mem (x1.symm.trans hE1)] at x2
  exact ⟨_, x2, Y_rests (R_fr cR f1) hN hok b35 hE2⟩
theorem tw2_share : l_two rw_Q (874, 132, 116, 1, false, 885, 135, 239) := by
  intro M1 M2 M3 σ σ1 σ2 as v1 v2 C1 C2 ρ1 ρ2 ha hR hh hM1 hC1 hp1 hE1 hC2 hp2 hE2
  obtain ⟨p, rfl⟩ := as_one ha
  have hE1 : z_R 116 (z_m σ, 0, [(2, 0), (0, p.toInt), (9, 0), (9, 0)], []) = some (z_m σ1, some (0, v1.toInt)) := z_R_iff.mpr hE1
  have hE2 : z_R 239 (z_m σ1, 0, [(2, 251), (0, p.toInt), (9, 0), (9, 0)], []) = some (z_m σ2, some (0, v2.toInt)) := z_R_iff.mpr hE2
  obtain ⟨w, h, n, heat, price, D, A, c, U, kn, KS, cs, cC, cR, cW⟩ := hR.2
  obtain ⟨b1, b2, -, -, hok, b35, -, b7⟩ := core_b hh hM1 cR
  have hN : w_N w h n heat D := ⟨b1, b2, b7⟩
  have cR1 := R_fr cR (R_off2_ok (y := 116) (by decide +kernel) hC1 hp1)
  exact rw_do hE1 hE2 ((X_share cC hN hok b35 cW.2.1 p.toInt).imp fun _ q => q.elim fun _ h => ⟨_, h⟩) ((Y_share cR1 hN hok b35 p.toInt).imp fun _ q => q.elim fun _ h => ⟨_, h⟩)
theorem tw2_thaw : l_two rw_Q (1092, 164, 138, 2, false, 1109, 167, 253) := by
  intro M1 M2 M3 σ σ1 σ2 as v1 v2 C1 C2 ρ1 ρ2 ha hR hh hM1 hC1 hp1 hE1 hC2 hp2 hE2
  obtain ⟨n0, p, rfl⟩ := as_two ha
  have hE1 : z_R 138 (z_m σ, 0, [(2, 0), (0, n0.toInt), (0, p.toInt)], []) = some (z_m σ1, some (0, v1.toInt)) := z_R_iff.mpr hE1
  have hE2 : z_R 253 (z_m σ1, 0, [(2, 251), (0, n0.toInt), (0, p.toInt)], []) = some (z_m σ2, some (0, v2.toInt)) := z_R_iff.mpr hE2
  obtain ⟨w, h, n, heat, price, D, A, c, U, kn, KS, cs, cC, cR, cW⟩ := hR.2
  obtain ⟨b1, b2, -, -, hok, b35, -, b7⟩ := core_b hh hM1 cR
  have hN : w_N w h n heat D := ⟨b1, b2, b7⟩
  have kk := core_24 hh
  have cR1 := R_fr cR (R_off2_ok (y := 138) (by decide +kernel) hC1 hp1)
  exact rw_do hE1 hE2 ((X_thaw cC hN hok b35 kk.1 kk.2 n0.toInt p.toInt).imp fun _ q => q.elim fun _ h => ⟨_, h⟩) ((Y_thaw cR1 hN hok b35 n0.toInt p.toInt).imp fun _ q => q.elim fun _ h => ⟨_, h⟩)
/-! the relation, with the numbers told -/
def Rel_W (σ : m_H) : Prop := Rel_L σ ∧ rw_eq (z_m σ)
theorem rw_start : ∀ σ, xs_is σ → Rel_W σ := fun σ hx => ⟨lo_start σ hx, by
  have V := V_ck_ok (xs_ck_ok (f := fun σ => V_ck [(0, 13, 1, 0), (251, 10, 1, 0)] σ) (by decide +kernel) hx)
  have z0 : z_m σ 0 13 = 0 := V (0, 13, 1, 0) List.mem_cons_self 0 (by decide)
  have z1 : z_m σ 251 10 = 0 := V (251, 10, 1, 0) (List.mem_cons_of_mem _ List.mem_cons_self) 0 (by decide)
  exact ⟨z1.trans z0.symm, fun i _ hi => by omega⟩⟩
theorem rw_eq_d2 {m m1 m2 : z_M} {o : Option (List Int)} (h : rw_eq m) (h1 : c_rw m m1 o) (h2 : r_rw m1 m2 o) (f1 : m1 251 10 = m 251 10 ∧ ∀ i, i < 9 → m1 255 i = m 255 i) (f2 : m2 0 13 = m1 0 13 ∧ ∀ i, i < 9 → m2 250 i = m1 250 i) : rw_eq m2 := by
  obtain ⟨g1, g2⟩ := f2
  cases o with
  | none =>
    obtain ⟨a1, a2⟩ := h1
    obtain ⟨b1, b2⟩ := h2
    refine ⟨by rw [b1, f1.1, g1, a1]; exact h.1, fun i h9 hi => ?_⟩
    rw [g1, a1] at hi
    rw [b2 i h9, f1.2 i h9, g2 i h9, a2 i h9]
    exact h.2 i h9 hi
  | some l =>
    obtain ⟨a1, a2⟩ := h1
    obtain ⟨b1, b2⟩ := h2
    refine ⟨by rw [b1, g1, a1], fun i h9 hi => ?_⟩
    rw [g1, a1] at hi
    rw [b2 i (by omega), g2 i h9, a2 i (by omega)]
noncomputable def rw_offb (y1 y2 : Nat) : Bool := (md_off y1 251 10 && md_off y2 0 13) && (List.range 9).all fun i => md_off y1 255 i && md_off y2 250 i
noncomputable def rw_selfb (y1 y2 : Nat) : Bool := (md_off y1 0 13 && md_off y2 251 10) && (List.range 9).all fun i => md_off y1 250 i && md_off y2 255 i
theorem rw_bs {P Q : Nat → Bool} (h : ((List.range 9).all fun i => P i && Q i) = true) : ∀ i, i < 9 → P i = true ∧ Q i = true := fun i hi => Bool.and_eq_true _ _ |>.mp (List.all_eq_true.mp h i (List.mem_range.mpr hi))
theorem rw_case {c : l_C} (h1 : l_rel2 Rel_L c) (h2 : l_twR Rel_L rw_Q c) (h : rw_offb c.2.2.1 c.2.2.2.2.2.2.2 = true) : l_rel2 Rel_W c := by
  obtain ⟨g, g'⟩ := Bool.and_eq_true _ _ |>.mp h
  obtain ⟨g1, g2⟩ := Bool.and_eq_true _ _ |>.mp g
  have g3 := rw_bs g'
  intro M1 M2 M3 σ σ1 σ2 as v1 v2 C1 C2 ρ1 ρ2 ha hR hh hM1 hC1 hp1 hE1 hC2 hp2 hE2
  have z := h1 M1 M2 M3 σ σ1 σ2 as v1 v2 C1 C2 ρ1 ρ2 ha hR.1 hh hM1 hC1 hp1 hE1 hC2 hp2 hE2
  obtain ⟨o, a, b⟩ := h2 M1 M2 M3 σ σ1 σ2 as v1 v2 C1 C2 ρ1 ρ2 ha hR.1 hh hM1 hC1 hp1 hE1 hC2 hp2 hE2
  exact ⟨⟨z.1, rw_eq_d2 hR.2 a b ⟨md_off_ok g1 hC1 hp1, fun i hi => md_off_ok (g3 i hi).1 hC1 hp1⟩ ⟨md_off_ok g2 hC2 hp2, fun i hi => md_off_ok (g3 i hi).2 hC2 hp2⟩⟩, z.2⟩
theorem rw_none {c : l_C} (h : rw_selfb c.2.2.1 c.2.2.2.2.2.2.2 = true) : l_twR Rel_L rw_Q c := by
  obtain ⟨g, g'⟩ := Bool.and_eq_true _ _ |>.mp h
  obtain ⟨g1, g2⟩ := Bool.and_eq_true _ _ |>.mp g
  have g3 := rw_bs g'
  intro M1 M2 M3 σ σ1 σ2 as v1 v2 C1 C2 ρ1 ρ2 ha hR hh hM1 hC1 hp1 hE1 hC2 hp2 hE2
  exact ⟨none, ⟨md_off_ok g1 hC1 hp1, fun i hi => md_off_ok (g3 i hi).1 hC1 hp1⟩, ⟨md_off_ok g2 hC2 hp2, fun i hi => md_off_ok (g3 i hi).2 hC2 hp2⟩⟩
theorem rw_q {c : l_C} (h1 : l_rel2 Rel_L c) (h : (rw_selfb c.2.2.1 c.2.2.2.2.2.2.2 && rw_offb c.2.2.1 c.2.2.2.2.2.2.2) = true) : l_rel2 Rel_W c := by
  obtain ⟨g1, g2⟩ := Bool.and_eq_true _ _ |>.mp h
  exact rw_case h1 (rw_none g1) g2
theorem rw_q3 {y n : Nat} (h1 : l_rel3 Rel_L y n) (h : ((md_off y 0 13 && md_off y 251 10) && (List.range 9).all fun i => md_off y 250 i && md_off y 255 i) = true) : l_rel3 Rel_W y n := by
  obtain ⟨g, g'⟩ := Bool.and_eq_true _ _ |>.mp h
  obtain ⟨g1, g2⟩ := Bool.and_eq_true _ _ |>.mp g
  have g3 := rw_bs g'
  intro M1 M2 M3 σ σ1 σ2 as v C2 ρ2 ha hR hh hM1 hf hh1 hC2 hp2 hE2
  have hz : ∀ p k, (¬ p = 6 ∧ ¬ p = 7 ∧ ¬ p = 278) → z_m σ1 p k = z_m σ p k := fun p k hp => by
    have e := hf p k (fun ⟨q, q1, q2, _⟩ => by
      simp only [List.mem_cons, List.not_mem_nil, or_false] at q1
      rcases q1 with rfl | rfl | rfl <;> simp only at q2 <;> omega)
    unfold z_m
    rw [e]
  refine ⟨h1 M1 M2 M3 σ σ1 σ2 as v C2 ρ2 ha hR.1 hh hM1 hf hh1 hC2 hp2 hE2, ?_, fun i h9 hi => ?_⟩
  · have f1 : z_m σ2 251 10 = z_m σ1 251 10 := md_off_ok g2 hC2 hp2
    have f2 : z_m σ2 0 13 = z_m σ1 0 13 := md_off_ok g1 hC2 hp2
    rw [f1, f2, hz 251 10 (by decide), hz 0 13 (by decide)]
    exact hR.2.1
  · have f2 : z_m σ2 0 13 = z_m σ1 0 13 := md_off_ok g1 hC2 hp2
    have f3 : z_m σ2 250 i = z_m σ1 250 i := md_off_ok (g3 i h9).1 hC2 hp2
    have f4 : z_m σ2 255 i = z_m σ1 255 i := md_off_ok (g3 i h9).2 hC2 hp2
    rw [f2, hz 0 13 (by decide)] at hi
    rw [f3, f4, hz 250 i (by omega), hz 255 i (by omega)]
    exact hR.2.2 i h9 hi
end
