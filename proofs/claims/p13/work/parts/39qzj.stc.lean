/-! HOURS IN A COLUMN: for how many its floors stand -/
theorem hr_A_Q {w h n : Nat} {heat price : Int} {ml : hr_M} {wm : Nat → Int} {R : Int} {W0 C0 : Nat → Int} (hw : w ≤ 3) (hh : h ≤ 3) (n5 : n ≤ 5) (bwm : ∀ p, p < 5 → 0 ≤ wm p ∧ wm p ≤ 9) (hheat : 0 ≤ heat ∧ heat ≤ 9) (hml : hr_mlok ml) {A : Nat → Int} (hok : hr_ok n A) (b2 : ∀ k, k < 9 → W0 k = 0 ∧ C0 k = 0) (a8 : ∀ r : Nat, r < 9 → (z_and (z_shr R (r : Int)) 1 = 0 ↔ u_hs (w : Int) (h : Int) (r : Int) = 0)) : hr_Q (w : Int) (h : Int) R n heat price ml wm W0 C0 A 0 = hr_K w h heat price ml wm n A := by
  have he : ∀ r : Nat, r < 9 → ¬ u_hs (w : Int) (h : Int) (r : Int) = 0 → hr_e ml (hr_sv heat (A 34) (hr_g wm price n 0 W0 C0 A).1) (hr_g wm price n 0 W0 C0 A).2.1 r (hr_g wm price n 0 W0 C0 A).2.2 = hr_mN heat ml wm n A r := fun r hr _ => hr_e_eq n5 bwm hheat hml hok.2.2.1 b2 hr
  have hv' : ∀ p, p < 5 → -1 ≤ (if p < n then A (p + 18) else 0) ∧ (if p < n then A (p + 18) else 0) ≤ 8 := fun p _ => by
    by_cases c : p < n
    · rw [if_pos c]; exact hok.2.2.1 p c
    · rw [if_neg c]; omega
  have eo := (hr_g_eq (v := fun p => if p < n then A (p + 18) else 0) (price := price) hv' bwm n 0 W0 C0 A (by omega) (fun p hp => by rw [if_pos (by omega)]) (fun k hk => by rw [(b2 k hk).1]; omega) (fun k hk => by rw [(b2 k hk).2]; omega)).2
  have eD : hr_D (w : Int) (h : Int) R n heat price ml wm W0 C0 A 0 = (hr_y w h (hr_me (w : Int) (h : Int) heat ml wm n A) h (hr_o wm price n 0 A), hr_dm (w : Int) (h : Int) (hr_mN heat ml wm n A) 9 0) := by
    unfold hr_D
    rw [hr_d_eq a8 he 9 _ 0 (by decide) (fun k hk => ⟨rfl, rfl⟩) rfl rfl, hr_dc_q hw hh 9 _ (by decide), hr_dq_y hw hh, eo]
    congr 1
    exact hr_y_cg hw hh (fun r hr hq => by unfold hr_me; rw [if_neg hq]) _
  unfold hr_Q
  rw [eD]
  exact hr_q_k n5 a8 9 0 _ 0 0 0 (by decide)
theorem ag_Q {w h n c : Nat} {heat price : Int} {ml : hr_M} {wm wm' : Nat → Int} {b b' : Int} {W0 C0 W0' C0' : Nat → Int} (n5 : n ≤ 5) (b2 : ∀ k, k < 9 → W0 k = 0 ∧ C0 k = 0) (b2' : ∀ k, k < 9 → W0' k = 0 ∧ C0' k = 0) (hb : ∀ r : Nat, r < 9 → r % 3 = c → (z_and (z_shr b (r : Int)) 1 = 0 ↔ z_and (z_shr b' (r : Int)) 1 = 0)) {A B : Nat → Int} (fm fm' : Int) (hA : ag c n A B) (hwm : ∀ p, p < n → inC c (A (p + 18)) → wm p = wm' p) : ag c n (hr_Q (w : Int) (h : Int) b n heat price ml wm W0 C0 A fm).1 (hr_Q (w : Int) (h : Int) b' n heat price ml wm' W0' C0' B fm').1 := by
  unfold hr_Q hr_D
  obtain ⟨g1, g2⟩ := hr_g_w (wm := wm) (price := price) n 0 W0 C0 A (by omega)
  obtain ⟨k1, k2⟩ := hr_g_w (wm := wm') (price := price) n 0 W0' C0' B (by omega)
  have eg : ∀ (v v' : Nat → Int), (∀ p, p < n → inC c (A (p + 18)) → v p = v' p) → ∀ r : Nat, r < 9 → r % 3 = c → ∀ a : Int, gw v A r n 0 a = gw v' B r n 0 a := fun v v' hv r h1 h2 a => gw_cg n 0 a (fun p _ hp => ⟨hA.2.1 p (by omega) r h1 h2, fun z => hv p (by omega) ⟨r, h1, h2, z⟩⟩)
  have hW : ∀ r : Nat, r < 9 → r % 3 = c → hr_sv heat (A 34) (hr_g wm price n 0 W0 C0 A).1 r = hr_sv heat (B 34) (hr_g wm' price n 0 W0' C0' B).1 r ∧ (hr_g wm price n 0 W0 C0 A).2.1 r = (hr_g wm' price n 0 W0' C0' B).2.1 r := fun r h1 h2 => by
    rw [hr_sv_at h1, hr_sv_at h1, (g1 r h1).1, (k1 r h1).1, (g1 r h1).2, (k1 r h1).2, (b2 r h1).1, (b2' r h1).1, (b2 r h1).2, (b2' r h1).2, eg wm wm' hwm r h1 h2, eg (fun _ => 1) (fun _ => 1) (fun _ _ _ => rfl) r h1 h2]
    refine ⟨?_, rfl⟩
    by_cases e : A 34 = (r : Int)
    · rw [if_pos e, if_pos ((hA.2.2.1 r h1 h2).mp e)]
    · rw [if_neg e, if_neg (fun z => e ((hA.2.2.1 r h1 h2).mpr z))]
  have e35 : (hr_g wm price n 0 W0 C0 A).2.2 35 = (hr_g wm' price n 0 W0' C0' B).2.2 35 := by rw [g2 35 (by omega), k2 35 (by omega)]; exact hA.2.2.2.1
  have e36 : (hr_g wm price n 0 W0 C0 A).2.2 36 = (hr_g wm' price n 0 W0' C0' B).2.2 36 := by rw [g2 36 (by omega), k2 36 (by omega)]; exact hA.2.2.2.2
  have d := ag_d (w := w) (h := h) (ml := ml) hb hW 9 (hr_g wm price n 0 W0 C0 A).2.2 (hr_g wm' price n 0 W0' C0' B).2.2 0 0 (by decide) (fun r h1 h2 => by
    rw [g2 r (by omega), g2 (r + 9) (by omega), k2 r (by omega), k2 (r + 9) (by omega)]
    exact hA.1 r h1 h2) e35 e36
  refine ag_q n5 hb 9 0 _ _ _ _ _ _ _ _ (by decide) ⟨d, fun p hp r h1 h2 => ?_, fun r h1 h2 => ?_, ?_, ?_⟩
  · rw [hr_d_hi (by omega) (by omega) 9 _ _ (by decide), hr_d_hi (by omega) (by omega) 9 _ _ (by decide), g2 (p + 18) (by omega), k2 (p + 18) (by omega)]
    exact hA.2.1 p hp r h1 h2
  · rw [hr_d_hi (by decide) (by decide) 9 _ _ (by decide), hr_d_hi (by decide) (by decide) 9 _ _ (by decide), g2 34 (by omega), k2 34 (by omega)]
    exact hA.2.2.1 r h1 h2
  · rw [hr_d_hi (by decide) (by decide) 9 _ _ (by decide), hr_d_hi (by decide) (by decide) 9 _ _ (by decide)]
    exact e35
  · rw [hr_d_hi (by decide) (by decide) 9 _ _ (by decide), hr_d_hi (by decide) (by decide) 9 _ _ (by decide)]
    exact e36
theorem hr_Q_in {w h n c p : Nat} {heat price : Int} {ml : hr_M} {wm : Nat → Int} {b : Int} {W0 C0 : Nat → Int} (n5 : n ≤ 5) (hp : p < n) {A : Nat → Int} (fm : Int) (hi : inC c ((hr_Q (w : Int) (h : Int) b n heat price ml wm W0 C0 A fm).1 (p + 18))) : inC c (A (p + 18)) := by
  unfold hr_Q hr_D at hi
  have h1 := hr_q_in n5 hp 9 0 _ _ _ _ (by decide) hi
  rw [hr_d_hi (by omega) (by omega) 9 _ _ (by decide), (hr_g_w (wm := wm) (price := price) n 0 W0 C0 A (by omega)).2 (p + 18) (by omega)] at h1
  exact h1
/-- all rooms, as bits -/
def rB (w h : Nat) : Int := s_bt (fun k => decide (¬ u_hs (w : Int) (h : Int) (k : Int) = 0)) 9 0 0
theorem rB_ok {w h : Nat} : ∀ r : Nat, r < 9 → (z_and (z_shr (rB w h) (r : Int)) 1 = 0 ↔ u_hs (w : Int) (h : Int) (r : Int) = 0) := fun r hr => by
  rw [zb_test hr]
  unfold rB
  rw [zb_bt (by omega) 9 0 0 (by decide), zb_0, Bool.false_or, decide_eq_true (show 0 ≤ r ∧ r < 0 + 9 by omega), Bool.true_and]
  constructor
  · intro z
    exact Decidable.byContradiction fun y => of_decide_eq_false z y
  · intro z
    exact decide_eq_false (not_not_intro z)
theorem ag_up {c n : Nat} {A B : Nat → Int} (hA : ag c n A B) {x y : Int} (hxy : x = y) (n5 : n ≤ 5) : ag c n (u_up A 35 x) (u_up B 35 y) := by
  refine ⟨fun r h1 h2 => ?_, fun p hp r h1 h2 => ?_, fun r h1 h2 => ?_, ?_, ?_⟩
  · rw [u_up_ne (by omega), u_up_ne (by omega), u_up_ne (by omega), u_up_ne (by omega)]
    exact hA.1 r h1 h2
  · rw [u_up_ne (by omega), u_up_ne (by omega)]
    exact hA.2.1 p hp r h1 h2
  · rw [u_up_ne (by decide), u_up_ne (by decide)]
    exact hA.2.2.1 r h1 h2
  · rw [u_up_self, u_up_self, hxy]
  · rw [u_up_ne (by decide), u_up_ne (by decide)]
    exact hA.2.2.2.2
/-- an HOUR in all rooms, and one in those of a column at least -/
theorem ag_B {w h n c : Nat} {heat price : Int} {ml : hr_M} {wm wm' : Nat → Int} {b : Int} {W0 C0 : Nat → Int} (hw : w ≤ 3) (hh : h ≤ 3) (n5 : n ≤ 5) (bwm : ∀ p, p < 5 → 0 ≤ wm p ∧ wm p ≤ 9) (hheat : 0 ≤ heat ∧ heat ≤ 9) (hml : hr_mlok ml) {A B : Nat → Int} (hok : hr_ok n A) (b2 : ∀ k, k < 9 → W0 k = 0 ∧ C0 k = 0) (hb : ∀ r : Nat, r < 9 → r % 3 = c → (z_and (z_shr b (r : Int)) 1 = 0 ↔ u_hs (w : Int) (h : Int) (r : Int) = 0)) (fm : Int) (hA : ag c n A B) (hwm : ∀ p, p < n → inC c (A (p + 18)) → wm p = wm' p) : ag c n (hr_A w h heat price ml wm n A) (u_up (hr_Q (w : Int) (h : Int) b n heat price ml wm' W0 C0 B fm).1 35 (z_add ((hr_Q (w : Int) (h : Int) b n heat price ml wm' W0 C0 B fm).1 35) 1)) := by
  have e := hr_A_Q (price := price) hw hh n5 bwm hheat hml hok (W0 := fun _ => 0) (C0 := fun _ => 0) (fun _ _ => ⟨rfl, rfl⟩) (rB_ok (w := w) (h := h))
  have q := ag_Q (w := w) (h := h) (heat := heat) (price := price) (ml := ml) (b := rB w h) (b' := b) n5 (W0 := fun _ => 0) (C0 := fun _ => 0) (fun _ _ => ⟨rfl, rfl⟩) b2 (fun r h1 h2 => (rB_ok r h1).trans (hb r h1 h2).symm) 0 fm hA hwm
  unfold hr_A
  rw [e] at q
  exact ag_up q (by rw [q.2.2.2.1]) n5
theorem ag_A {w h n c : Nat} {heat price : Int} {ml : hr_M} {wm wm' : Nat → Int} (hw : w ≤ 3) (hh : h ≤ 3) (n5 : n ≤ 5) (bwm : ∀ p, p < 5 → 0 ≤ wm p ∧ wm p ≤ 9) (bwm' : ∀ p, p < 5 → 0 ≤ wm' p ∧ wm' p ≤ 9) (hheat : 0 ≤ heat ∧ heat ≤ 9) (hml : hr_mlok ml) {A B : Nat → Int} (hok : hr_ok n A) (hok' : hr_ok n B) (hA : ag c n A B) (hwm : ∀ p, p < n → inC c (A (p + 18)) → wm p = wm' p) : ag c n (hr_A w h heat price ml wm n A) (hr_A w h heat price ml wm' n B) := by
  have q := ag_B (price := price) (b := rB w h) (W0 := fun _ => 0) (C0 := fun _ => 0) hw hh n5 bwm hheat hml hok (fun _ _ => ⟨rfl, rfl⟩) (fun r h1 _ => rB_ok r h1) 0 hA hwm
  rw [hr_A_Q (price := price) hw hh n5 bwm' hheat hml hok' (fun _ _ => ⟨rfl, rfl⟩) (rB_ok (w := w) (h := h))] at q
  exact q
theorem hr_A_in {w h n c p : Nat} {heat price : Int} {ml : hr_M} {wm : Nat → Int} (hw : w ≤ 3) (hh : h ≤ 3) (n5 : n ≤ 5) (bwm : ∀ p, p < 5 → 0 ≤ wm p ∧ wm p ≤ 9) (hheat : 0 ≤ heat ∧ heat ≤ 9) (hml : hr_mlok ml) {A : Nat → Int} (hok : hr_ok n A) (hp : p < n) (hi : inC c (hr_A w h heat price ml wm n A (p + 18))) : inC c (A (p + 18)) := by
  have e := hr_A_Q (price := price) hw hh n5 bwm hheat hml hok (W0 := fun _ => 0) (C0 := fun _ => 0) (fun _ _ => ⟨rfl, rfl⟩) (rB_ok (w := w) (h := h))
  unfold hr_A at hi
  rw [u_up_ne (by omega), ← e] at hi
  exact hr_Q_in n5 hp 0 hi
/-! which floors give -/
def s_vio (w h : Nat) (F : Nat → Bool) (c : Nat) (A : Nat → Int) : Bool := (List.range 9).any (fun r => decide (r % 3 = c) && (decide (¬ u_hs (w : Int) (h : Int) (r : Int) = 0) && (decide (A r = 0) && F r)))
theorem s_vio_iff {w h : Nat} {F : Nat → Bool} {c : Nat} {A : Nat → Int} : s_vio w h F c A = true ↔ ∃ r : Nat, r < 9 ∧ r % 3 = c ∧ (¬ u_hs (w : Int) (h : Int) (r : Int) = 0) ∧ A r = 0 ∧ F r = true := by
  unfold s_vio
  rw [List.any_eq_true]
  constructor
  · rintro ⟨r, h1, h2⟩
    obtain ⟨a1, h2⟩ := Bool.and_eq_true _ _ |>.mp h2
    obtain ⟨a2, h2⟩ := Bool.and_eq_true _ _ |>.mp h2
    obtain ⟨a3, a4⟩ := Bool.and_eq_true _ _ |>.mp h2
    exact ⟨r, List.mem_range.mp h1, of_decide_eq_true a1, of_decide_eq_true a2, of_decide_eq_true a3, a4⟩
  · rintro ⟨r, h1, h2, h3, h4, h5⟩
    refine ⟨r, List.mem_range.mpr h1, ?_⟩
    rw [decide_eq_true h2, decide_eq_true h3, decide_eq_true h4, h5]
    rfl
theorem s_vio_cg {w h : Nat} {F F' : Nat → Bool} {c n : Nat} {A B : Nat → Int} (hF : ∀ r : Nat, r < 9 → r % 3 = c → (¬ u_hs (w : Int) (h : Int) (r : Int) = 0) → F r = F' r) (hA : ag c n A B) : s_vio w h F c A = s_vio w h F' c B := by
  have key : ∀ {F F' : Nat → Bool} {A B : Nat → Int}, (∀ r : Nat, r < 9 → r % 3 = c → (¬ u_hs (w : Int) (h : Int) (r : Int) = 0) → F r = F' r) → ag c n A B → s_vio w h F c A = true → s_vio w h F' c B = true := fun hF hA z => by
    obtain ⟨r, h1, h2, h3, h4, h5⟩ := s_vio_iff.mp z
    exact s_vio_iff.mpr ⟨r, h1, h2, h3, by rw [← (hA.1 r h1 h2).1]; exact h4, by rw [← hF r h1 h2 h3]; exact h5⟩
  cases h1 : s_vio w h F c A <;> cases h2 : s_vio w h F' c B
  · rfl
  · have := key (fun r a b d => (hF r a b d).symm) (ag_sy hA) h2
    rw [h1] at this
    cases this
  · have := key hF hA h1
    rw [h2] at this
    cases this
  · rfl
def s_fl (A : Nat → Int) (r : Nat) : Bool := decide (0 < A r)
theorem s_vio_all {w h : Nat} {A B : Nat → Int} : z_and (s_G w h B) (s_F w h A) = 0 ↔ s_vio w h (s_fl A) 0 B = false ∧ s_vio w h (s_fl A) 1 B = false ∧ s_vio w h (s_fl A) 2 B = false := by
  unfold s_G s_F
  rw [bt_and]
  constructor
  · intro z
    have no : ∀ c, s_vio w h (s_fl A) c B = false := fun c => by
      cases e : s_vio w h (s_fl A) c B
      · rfl
      · obtain ⟨r, h1, h2, h3, h4, h5⟩ := s_vio_iff.mp e
        exact absurd ⟨decide_eq_true ⟨h3, h4⟩, decide_eq_true ⟨h3, of_decide_eq_true h5⟩⟩ (z r h1)
    exact ⟨no 0, no 1, no 2⟩
  · intro ⟨z0, z1, z2⟩ k hk ⟨p1, p2⟩
    obtain ⟨a1, a2⟩ := of_decide_eq_true p1
    obtain ⟨b1, b2⟩ := of_decide_eq_true p2
    have y : s_vio w h (s_fl A) (k % 3) B = true := s_vio_iff.mpr ⟨k, hk, rfl, a1, a2, decide_eq_true b2⟩
    rcases (show k % 3 = 0 ∨ k % 3 = 1 ∨ k % 3 = 2 by omega) with e | e | e
    · rw [e, z0] at y
      cases y
    · rw [e, z1] at y
      cases y
    · rw [e, z2] at y
      cases y
/-- for how many hours a column stands -/
def s_stc (w h n : Nat) (heat price : Int) (cs : List Int) (D : Nat → Int) (F : Nat → Bool) (c N : Nat) : Nat → Nat → (Nat → Int) → Int
  | 0, _, _ => (N : Int)
  | f + 1, x, B => if s_vio w h F c (hr_A w h heat price (c_ml cs) (wmD D (B 35)) n B) = true then (x : Int) else s_stc w h n heat price cs D F c N f (x + 1) (hr_A w h heat price (c_ml cs) (wmD D (B 35)) n B)
theorem s_stc_x {w h n : Nat} {heat price : Int} {cs : List Int} {D : Nat → Int} {F : Nat → Bool} {c N : Nat} : ∀ (f x : Nat) (B : Nat → Int), x + f = N → (x : Int) ≤ s_stc w h n heat price cs D F c N f x B ∧ s_stc w h n heat price cs D F c N f x B ≤ (N : Int) := by
  intro f
  induction f with
  | zero => intro x B hx; exact ⟨by show (x : Int) ≤ (N : Int); omega, Int.le_refl _⟩
  | succ f ih =>
    intro x B hx
    unfold s_stc
    by_cases c1 : s_vio w h F c (hr_A w h heat price (c_ml cs) (wmD D (B 35)) n B) = true
    · rw [if_pos c1]
      omega
    · rw [if_neg c1]
      have := ih (x + 1) (hr_A w h heat price (c_ml cs) (wmD D (B 35)) n B) (by omega)
      omega
def i_mn (a b : Int) : Int := if b < a then b else a
/-- it stands as long as the least of its columns -/
theorem s_sta_min {w h n : Nat} {heat price : Int} {cs : List Int} {D A : Nat → Int} {N : Nat} : ∀ (f x : Nat) (B : Nat → Int), x + f = N → s_sta w h n heat price cs D (s_F w h A) N f x B = i_mn (i_mn (s_stc w h n heat price cs D (s_fl A) 0 N f x B) (s_stc w h n heat price cs D (s_fl A) 1 N f x B)) (s_stc w h n heat price cs D (s_fl A) 2 N f x B) := by
  intro f
  induction f with
  | zero =>
    intro x B hx
    show (N : Int) = i_mn (i_mn (N : Int) (N : Int)) (N : Int)
    unfold i_mn
    rw [if_neg (by omega), if_neg (by omega)]
  | succ f ih =>
    intro x B hx
    unfold s_sta s_stc
    have e := s_vio_all (w := w) (h := h) (A := A) (B := hr_A w h heat price (c_ml cs) (wmD D (B 35)) n B)
    have lo : ∀ c, (x : Int) + 1 ≤ s_stc w h n heat price cs D (s_fl A) c N f (x + 1) (hr_A w h heat price (c_ml cs) (wmD D (B 35)) n B) := fun c => by
      have := (s_stc_x (w := w) (h := h) (n := n) (heat := heat) (price := price) (cs := cs) (D := D) (F := s_fl A) (c := c) (N := N) f (x + 1) (hr_A w h heat price (c_ml cs) (wmD D (B 35)) n B) (by omega)).1
      omega
    by_cases z : z_and (s_G w h (hr_A w h heat price (c_ml cs) (wmD D (B 35)) n B)) (s_F w h A) = 0
    · obtain ⟨z0, z1, z2⟩ := e.mp z
      rw [if_pos z, z0, z1, z2, if_neg Bool.false_ne_true, if_neg Bool.false_ne_true, if_neg Bool.false_ne_true]
      exact ih (x + 1) _ (by omega)
    · rw [if_neg z]
      have l0 := lo 0
      have l1 := lo 1
      have l2 := lo 2
      cases z0 : s_vio w h (s_fl A) 0 (hr_A w h heat price (c_ml cs) (wmD D (B 35)) n B) <;> cases z1 : s_vio w h (s_fl A) 1 (hr_A w h heat price (c_ml cs) (wmD D (B 35)) n B) <;> cases z2 : s_vio w h (s_fl A) 2 (hr_A w h heat price (c_ml cs) (wmD D (B 35)) n B)
      · exact absurd (e.mpr ⟨z0, z1, z2⟩) z
      all_goals
        simp only [if_pos, if_neg, Bool.false_eq_true, if_false, if_true]
        unfold i_mn
        (repeat' split) <;> omega
theorem s_stc_ag {w h n c : Nat} {heat price : Int} {cs : List Int} {D D' : Nat → Int} {F F' : Nat → Bool} {N : Nat} (hN : w_N w h n heat D) (hN' : w_N w h n heat D') (hF : ∀ r : Nat, r < 9 → r % 3 = c → (¬ u_hs (w : Int) (h : Int) (r : Int) = 0) → F r = F' r) : ∀ (f x : Nat) (A B : Nat → Int), ag c n A B → hr_ok n A → hr_ok n B → 0 ≤ A 35 → A 35 + (f : Int) ≤ 2147483647 → (∀ p, p < n → inC c (A (p + 18)) → ∀ k : Nat, k < f → wmD D (A 35 + (k : Int)) p = wmD D' (A 35 + (k : Int)) p) → s_stc w h n heat price cs D F c N f x A = s_stc w h n heat price cs D' F' c N f x B := by
  intro f
  induction f with
  | zero => intro x A B hA h1 h2 ht ht2 hw; rfl
  | succ f ih =>
    intro x A B hA h1 h2 ht ht2 hw
    have e35 : A 35 = B 35 := hA.2.2.2.1
    have hwm : ∀ p, p < n → inC c (A (p + 18)) → wmD D (A 35) p = wmD D' (A 35) p := fun p hp hi => by
      have := hw p hp hi 0 (by omega)
      rw [show A 35 + ((0 : Nat) : Int) = A 35 by omega] at this
      exact this
    have a := ag_A (price := price) hN.1.1 hN.1.2.1 hN.1.2.2 (hN.2.2 (A 35) ht) (hN'.2.2 (A 35) ht) hN.2.1 (c_ml_ok cs) h1 h2 hA hwm
    unfold s_stc
    rw [← e35, s_vio_cg hF a]
    by_cases z : s_vio w h F' c (hr_A w h heat price (c_ml cs) (wmD D' (A 35)) n B) = true
    · rw [if_pos z, if_pos z]
    · rw [if_neg z, if_neg z]
      have t35 : hr_A w h heat price (c_ml cs) (wmD D (A 35)) n A 35 = A 35 + 1 := by rw [hr_A_35 hN.1.1 hN.1.2.1 hN.1.2.2, z_add_eq (by omega) (by omega)]
      refine ih (x + 1) _ _ a (hr_A_ok (price := price) hN.1.1 hN.1.2.1 hN.1.2.2 hN.2.1 (c_ml_ok cs) (hN.2.2 (A 35) ht) h1) (hr_A_ok (price := price) hN.1.1 hN.1.2.1 hN.1.2.2 hN.2.1 (c_ml_ok cs) (hN'.2.2 (A 35) ht) h2) (by omega) (by omega) (fun p hp hi k hk => ?_)
      have := hw p hp (hr_A_in (price := price) hN.1.1 hN.1.2.1 hN.1.2.2 (hN.2.2 (A 35) ht) hN.2.1 (c_ml_ok cs) h1 hp hi) (k + 1) (by omega)
      rw [t35, show A 35 + 1 + (k : Int) = A 35 + ((k + 1 : Nat) : Int) by omega]
      exact this
/-! as the class goes through one column -/
theorem sc_floC {w h n s : Nat} {m : z_M} {B : Nat → Int} (hs : z_st s) (h8 : m 3 8 = (w : Int)) (h9 : m 3 9 = (h : Int)) (hB : cS m s n = B) : ∀ (f x : Nat) (b : Int), x + f = 9 → z_R 92 (m, 4, [(2, 3), (2, ((s : Nat) : Int)), (0, b), (0, (x : Int))], []) = some (m, some (0, s_bt (fun k => decide (¬ u_hs (w : Int) (h : Int) (k : Int) = 0 ∧ 0 < B k)) f x b)) := by
  intro f
  induction f with
  | zero =>
    intro x b hx
    rw [sc_flo_4 hs, if_pos (by omega)]
    rfl
  | succ f ih =>
    intro x b hx
    have eB : m (s + 1) x = B x := by
      rw [← hB]
      exact (cS_at1 (s := s) (by omega)).symm
    rw [sc_flo_4 hs, if_neg (show ¬ (9 : Int) ≤ (x : Int) by omega), h8, h9, z_add_eq (x := (x : Int)) (y := 1) (by omega) (by omega), tc1, Int.toNat_natCast, eB]
    unfold s_bt
    by_cases c1 : u_hs (w : Int) (h : Int) (x : Int) = 0
    · rw [if_neg (not_not_intro c1), if_neg (fun z => (of_decide_eq_true z).1 c1)]
      exact ih (x + 1) b (by omega)
    · rw [if_pos c1]
      by_cases c2 : B x ≤ 0
      · rw [if_pos c2, if_neg (fun z => by have := (of_decide_eq_true z).2; omega)]
        exact ih (x + 1) b (by omega)
      · rw [if_neg c2, if_pos (decide_eq_true ⟨c1, by omega⟩)]
        exact ih (x + 1) _ (by omega)
/-- the rooms of a column, as bits -/
theorem rc_bits {R : Int} {c r : Nat} (hc : c < 3) (hr : r < 9) : z_and (z_shr (z_and R (z_shl 73 (c : Int))) (r : Int)) 1 = 0 ↔ (z_and (z_shr R (r : Int)) 1 = 0 ∨ ¬ r % 3 = c) := by
  have e : zb (z_shl 73 (c : Int)) r = decide (r % 3 = c) := by
    have : ∀ c, c < 3 → ∀ r, r < 9 → zb (z_shl 73 ((c : Nat) : Int)) r = decide (r % 3 = c) := by decide +kernel
    exact this c hc r hr
  rw [zb_test hr, zb_test hr, zb_and, e]
  cases zb R r
  · exact ⟨fun _ => Or.inl rfl, fun _ => rfl⟩
  · rw [Bool.true_and]
    exact ⟨fun z => Or.inr (of_decide_eq_false z), fun z => decide_eq_false (z.resolve_left (by decide))⟩
theorem sc_st1 {w h n s c : Nat} {heat price : Int} {cs : List Int} {D D' : Nat → Int} {F : Nat → Bool} {N : Nat} (hs : z_st s) (hc3 : c < 3) (hN6 : N ≤ 1000) (hN : w_N w h n heat D) {R Rc x4 : Int} (hR : ∀ r : Nat, r < 9 → (z_and (z_shr R (r : Int)) 1 = 0 ↔ u_hs (w : Int) (h : Int) (r : Int) = 0)) (hRc : Rc = z_and R (z_shl 73 (c : Int))) (hx4 : ∀ r : Nat, r < 9 → zb x4 r = ((decide (¬ u_hs (w : Int) (h : Int) (r : Int) = 0) && F r) && zb Rc r)) : ∀ (f x : Nat) (m : z_M) (A B : Nat → Int), x + f = N → c_cfg w h n heat price (c_ml cs) (wmD D') m → cS m s n = B → ag c n A B → hr_ok n A → 0 ≤ A 35 → A 35 + (f : Int) ≤ 2147483647 → (∀ p, p < n → inC c (A (p + 18)) → ∀ k : Nat, k < f → wmD D (A 35 + (k : Int)) p = wmD D' (A 35 + (k : Int)) p) → ∃ m1, z_R 97 (m, 15, [(2, 24), (2, ((s : Nat) : Int)), (0, (N : Int)), (0, Rc), (0, x4), (0, (x : Int))], []) = some (m1, some (0, s_stc w h n heat price cs D F c N f x A)) ∧ z_same (c_LH s) m m1 := by
  have n5 := hN.1.2.2
  have hbc : ∀ r : Nat, r < 9 → r % 3 = c → (z_and (z_shr Rc (r : Int)) 1 = 0 ↔ u_hs (w : Int) (h : Int) (r : Int) = 0) := fun r h1 h2 => by
    rw [hRc, rc_bits hc3 h1, hR r h1]
    exact ⟨fun z => z.resolve_right (not_not_intro h2), Or.inl⟩
  intro f
  induction f with
  | zero =>
    intro x m A B hx hcf hB hA hok ht ht2 hw
    rw [sc_st3_15 hs, if_pos (by omega)]
    exact ⟨m, rfl, z_same.rf⟩
  | succ f ih =>
    intro x m A B hx hcf hB hA hok ht ht2 hw
    have hcf' := hcf
    obtain ⟨a1, a2, a3, a4, a5, a6, a7, a8⟩ := hcf
    have e35 : A 35 = B 35 := hA.2.2.2.1
    have hwm : ∀ p, p < n → inC c (A (p + 18)) → wmD D (A 35) p = wmD D' (A 35) p := fun p hp hi => by
      have := hw p hp hi 0 (by omega)
      rw [show A 35 + ((0 : Nat) : Int) = A 35 by omega] at this
      exact this
    have em : m s 7 = A 35 := by rw [e35, ← hB]; exact cS_nowv.symm
    obtain ⟨m1, W0, C0, b1, b2, b3, b4, b5, b6, b7, b8, b9, b10⟩ := c_pass hs n5 (ml := c_ml cs) (wm := wmD D' (A 35)) (b := Rc) (w := (w : Int)) (h := (h : Int)) ht (by omega) m a3 a5 a4 em (a6 (A 35) ht) a1 a2 a7
    rw [hB] at b3 b8
    have hA1 := ag_B (price := price) hN.1.1 hN.1.2.1 n5 (hN.2.2 (A 35) ht) hN.2.1 (c_ml_ok cs) hok b2 hbc (m 24 9) hA hwm
    have hgb := hr_q_gb (w := w) (h := h) (n := n) (b := Rc) n5 9 0 (hr_D (w : Int) (h : Int) Rc n heat price (c_ml cs) (wmD D' (A 35)) W0 C0 B 0).1 0 0 (m 24 9) (by decide)
    have hfin : ∀ r : Nat, r < 9 → ¬ z_and (z_shr Rc (r : Int)) 1 = 0 → hr_f r (hr_D (w : Int) (h : Int) Rc n heat price (c_ml cs) (wmD D' (A 35)) W0 C0 B 0).1 r = hr_A w h heat price (c_ml cs) (wmD D (A 35)) n A r := fun r hr hz => by
      have e := hgb.2.1 r (Nat.zero_le r) hr
      rw [if_neg hz] at e
      have hrc : r % 3 = c := Decidable.byContradiction fun y => hz (by rw [hRc]; exact (rc_bits hc3 hr).mpr (Or.inr y))
      have g := (hA1.1 r hr hrc).1
      rw [u_up_ne (show ¬ r = 35 by omega)] at g
      rw [g, ← e]
      rfl
    have ev : z_and (m1 24 10) x4 = 0 ↔ s_vio w h F c (hr_A w h heat price (c_ml cs) (wmD D (A 35)) n A) = false := by
      have e10 : m1 24 10 = s_bt (fun k => decide (¬ z_and (z_shr Rc (k : Int)) 1 = 0 ∧ hr_f k (hr_D (w : Int) (h : Int) Rc n heat price (c_ml cs) (wmD D' (A 35)) W0 C0 B 0).1 k = 0)) 9 0 0 := b8.trans hgb.1
      rw [e10, z_and_0]
      have zbk : ∀ k, k < 32 → zb (s_bt (fun k => decide (¬ z_and (z_shr Rc (k : Int)) 1 = 0 ∧ hr_f k (hr_D (w : Int) (h : Int) Rc n heat price (c_ml cs) (wmD D' (A 35)) W0 C0 B 0).1 k = 0)) 9 0 0) k = (decide (0 ≤ k ∧ k < 0 + 9) && decide (¬ z_and (z_shr Rc (k : Int)) 1 = 0 ∧ hr_f k (hr_D (w : Int) (h : Int) Rc n heat price (c_ml cs) (wmD D' (A 35)) W0 C0 B 0).1 k = 0)) := fun k hk => by
        rw [zb_bt hk 9 0 0 (by decide), zb_0, Bool.false_or]
      constructor
      · intro z
        cases e : s_vio w h F c (hr_A w h heat price (c_ml cs) (wmD D (A 35)) n A)
        · rfl
        · obtain ⟨r, h1, h2, h3, h4, h5⟩ := s_vio_iff.mp e
          have hz : ¬ z_and (z_shr Rc (r : Int)) 1 = 0 := fun y => h3 ((hbc r h1 h2).mp y)
          refine absurd ⟨?_, ?_⟩ (z r (by omega))
          · rw [zbk r (by omega), decide_eq_true (show 0 ≤ r ∧ r < 0 + 9 by omega), Bool.true_and]
            exact decide_eq_true ⟨hz, by rw [hfin r h1 hz]; exact h4⟩
          · rw [hx4 r h1, decide_eq_true h3, h5, Bool.and_self, Bool.true_and]
            cases y : zb Rc r
            · exact absurd ((zb_test h1).mpr y) hz
            · rfl
      · intro z k hk ⟨p1, p2⟩
        rw [zbk k hk] at p1
        obtain ⟨q1, q2⟩ := Bool.and_eq_true _ _ |>.mp p1
        have q1 := of_decide_eq_true q1
        obtain ⟨q2, q3⟩ := of_decide_eq_true q2
        have hk9 : k < 9 := by omega
        rw [hx4 k hk9] at p2
        obtain ⟨r1, -⟩ := Bool.and_eq_true _ _ |>.mp p2
        obtain ⟨r1, r2⟩ := Bool.and_eq_true _ _ |>.mp r1
        have hkc : k % 3 = c := Decidable.byContradiction fun y => q2 (by rw [hRc]; exact (rc_bits hc3 hk9).mpr (Or.inr y))
        have : s_vio w h F c (hr_A w h heat price (c_ml cs) (wmD D (A 35)) n A) = true := s_vio_iff.mpr ⟨k, hk9, hkc, of_decide_eq_true r1, by rw [← hfin k hk9 q2]; exact q3, r2⟩
        rw [z] at this
        cases this
    rw [sc_st3_15 hs, if_neg (by omega), b1, zb_n, sc_st3_27 hs, z_add_eq (x := (x : Int)) (y := 1) (by omega) (by omega), tc1]
    unfold s_stc
    by_cases z : z_and (m1 24 10) x4 = 0
    · rw [if_pos z, ev.mp z, if_neg Bool.false_ne_true]
      have t35 : hr_A w h heat price (c_ml cs) (wmD D (A 35)) n A 35 = A 35 + 1 := by rw [hr_A_35 hN.1.1 hN.1.2.1 n5, z_add_eq (by omega) (by omega)]
      obtain ⟨m2, d1, d2⟩ := ih (x + 1) m1 (hr_A w h heat price (c_ml cs) (wmD D (A 35)) n A) _ (by omega) (c_cfg_LH hs hcf' b10) b3 hA1 (hr_A_ok (price := price) hN.1.1 hN.1.2.1 n5 hN.2.1 (c_ml_ok cs) (hN.2.2 (A 35) ht) hok) (by omega) (by omega) (fun p hp hi k hk => by
        have := hw p hp (hr_A_in (price := price) hN.1.1 hN.1.2.1 n5 (hN.2.2 (A 35) ht) hN.2.1 (c_ml_ok cs) hok hp hi) (k + 1) (by omega)
        rw [t35, show A 35 + 1 + (k : Int) = A 35 + ((k + 1 : Nat) : Int) by omega]
        exact this)
      exact ⟨m2, d1, b10.tr d2⟩
    · have zt : s_vio w h F c (hr_A w h heat price (c_ml cs) (wmD D (A 35)) n A) = true := by
        cases e : s_vio w h F c (hr_A w h heat price (c_ml cs) (wmD D (A 35)) n A)
        · exact absurd (ev.mpr e) z
        · rfl
      rw [if_neg z, if_pos zt]
      exact ⟨m1, rfl, b10⟩
/-- standing of a column's floors, from the State at s on -/
theorem sc_st {w h n s c : Nat} {heat price : Int} {cs : List Int} {D D' : Nat → Int} {N : Nat} (hs : z_st s) (hc3 : c < 3) (hN6 : N ≤ 1000) (hN : w_N w h n heat D) {m : z_M} {A B : Nat → Int} (hcf : c_cfg w h n heat price (c_ml cs) (wmD D') m) (hB : cS m s n = B) (hA : ag c n A B) (hok : hr_ok n A) (ht : 0 ≤ A 35) (ht2 : A 35 + (N : Int) ≤ 2147483647) (hw : ∀ p, p < n → inC c (A (p + 18)) → ∀ k : Nat, k < N → wmD D (A 35 + (k : Int)) p = wmD D' (A 35 + (k : Int)) p) : ∃ m1, z_R 97 (m, 0, [(2, 24), (2, ((s : Nat) : Int)), (0, (N : Int)), (0, z_and (m 3 10) (z_shl 73 (c : Int))), (9, 0), (9, 0)], []) = some (m1, some (0, s_stc w h n heat price cs D (s_fl A) c N N 0 A)) ∧ z_same (c_LH s) m m1 := by
  have e := sc_floC (n := n) hs hcf.1 hcf.2.1 hB 9 0 0 (by decide)
  have e : z_R 92 (m, 4, [(2, 3), (2, ((s : Nat) : Int)), (0, 0), (0, 0)], []) = some (m, some (0, s_F w h B)) := e
  obtain ⟨m1, a1, a2⟩ := sc_st1 (F := s_fl A) (x4 := z_and (s_F w h B) (z_and (m 3 10) (z_shl 73 (c : Int)))) hs hc3 hN6 hN hcf.2.2.2.2.2.2.2 rfl (fun r hr => by
    rw [zb_and]
    by_cases hrc : r % 3 = c
    · congr 1
      have eA : A r = B r := (hA.1 r hr hrc).1
      unfold s_F s_fl
      rw [zb_bt (by omega) 9 0 0 (by decide), zb_0, Bool.false_or, decide_eq_true (show 0 ≤ r ∧ r < 0 + 9 by omega), Bool.true_and, eA]
      by_cases z1 : u_hs (w : Int) (h : Int) (r : Int) = 0
      · rw [decide_eq_false (fun y => y.1 z1), decide_eq_false (not_not_intro z1), Bool.false_and]
      · rw [decide_eq_true z1, Bool.true_and]
        exact decide_eq_decide.mpr ⟨fun y => y.2, fun y => ⟨z1, y⟩⟩
    · have z : zb (z_and (m 3 10) (z_shl 73 (c : Int))) r = false := (zb_test hr).mp ((rc_bits hc3 hr).mpr (Or.inr hrc))
      rw [z, Bool.and_false, Bool.and_false]) N 0 m A B (by omega) hcf hB hA hok ht ht2 hw
  have a1 : z_R 97 (m, 15, [(2, 24), (2, ((s : Nat) : Int)), (0, (N : Int)), (0, z_and (m 3 10) (z_shl 73 (c : Int))), (0, z_and (s_F w h B) (z_and (m 3 10) (z_shl 73 (c : Int)))), (0, 0)], []) = some (m1, some (0, s_stc w h n heat price cs D (s_fl A) c N N 0 A)) := a1
  rw [sc_st3_0 hs, sc_flo_0 hs, e, zb_v, sc_st3_8 hs, a1]
  exact ⟨m1, rfl, a2⟩
