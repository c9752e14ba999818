/-! COLUMNS: what happens in one depends on no other -/
def zb (a : Int) (k : Nat) : Bool := (Int32.ofInt a).toBitVec.getLsbD k
theorem zb_or (a b : Int) (k : Nat) : zb (z_or a b) k = (zb a k || zb b k) := by
  unfold zb z_or
  rw [Int32.ofInt_toInt, Int32.toBitVec_or, BitVec.getLsbD_or]
theorem zb_and (a b : Int) (k : Nat) : zb (z_and a b) k = (zb a k && zb b k) := by
  unfold zb z_and
  rw [Int32.ofInt_toInt, Int32.toBitVec_and, BitVec.getLsbD_and]
theorem zb_0 (k : Nat) : zb 0 k = false := by
  unfold zb
  show (0#32).getLsbD k = false
  exact BitVec.getLsbD_zero
theorem zb_32 {a : Int} {k : Nat} (hk : 32 ≤ k) : zb a k = false := BitVec.getLsbD_of_ge _ _ hk
theorem zb_ext {a b : Int} (ha : z_w a = a) (hb : z_w b = b) (h : ∀ k, k < 32 → zb a k = zb b k) : a = b := by
  have e : Int32.ofInt a = Int32.ofInt b := by
    apply Int32.toBitVec_inj.mp
    exact BitVec.eq_of_getLsbD_eq fun i hi => h i hi
  rw [← ha, ← hb]
  unfold z_w
  rw [e]
theorem z_and_w {a b : Int} : z_w (z_and a b) = z_and a b := by
  unfold z_w z_and
  rw [Int32.ofInt_toInt]
theorem z_and_0 {a b : Int} : z_and a b = 0 ↔ ∀ k, k < 32 → ¬ (zb a k = true ∧ zb b k = true) := by
  constructor
  · intro z k hk ⟨h1, h2⟩
    have e := zb_and a b k
    rw [z, zb_0, h1, h2] at e
    cases e
  · intro z
    refine zb_ext z_and_w (by decide +kernel) fun k hk => ?_
    rw [zb_and, zb_0]
    cases h1 : zb a k <;> cases h2 : zb b k <;> first | rfl | exact absurd ⟨h1, h2⟩ (z k hk)
theorem zb_shl {x k : Nat} (hx : x < 32) (hk : k < 32) : zb (z_shl 1 (x : Int)) k = decide (k = x) := by
  have : ∀ x, x < 32 → ∀ k, k < 32 → zb (z_shl 1 ((x : Nat) : Int)) k = decide (k = x) := by decide +kernel
  exact this x hx k hk
theorem b_amt32 {x : Nat} (hx : x < 32) : (((Int32.ofInt (x : Int)) &&& 31).toBitVec.smod 32).toNat = x := by
  have : ∀ x, x < 32 → (((Int32.ofInt ((x : Nat) : Int)) &&& 31).toBitVec.smod 32).toNat = x := by decide +kernel
  exact this x hx
theorem zb_test32 {a : Int} {k : Nat} (hk : k < 32) : z_and (z_shr a (k : Int)) 1 = 0 ↔ zb a k = false := by
  have e0 : ∀ i, zb (z_and (z_shr a (k : Int)) 1) i = (zb a (k + i) && decide (i = 0)) ∨ 32 ≤ i := fun i => by
    by_cases hi : 32 ≤ i
    · exact Or.inr hi
    refine Or.inl ?_
    rw [zb_and]
    have e1 : zb 1 i = decide (i = 0) := by
      have : ∀ i, i < 32 → zb 1 i = decide (i = 0) := by decide +kernel
      exact this i (by omega)
    rw [e1]
    by_cases hz : i = 0
    · subst hz
      congr 1
      unfold zb z_shr
      rw [Int32.ofInt_toInt, Int32.toBitVec_shiftRight, BitVec.sshiftRight_eq', b_amt32 hk, BitVec.getLsbD_sshiftRight, Nat.add_zero, if_pos (by omega)]
      simp
    · rw [decide_eq_false hz, Bool.and_false, Bool.and_false]
  constructor
  · intro z
    rcases e0 0 with e | e
    · rw [z, zb_0, Nat.add_zero, decide_eq_true rfl, Bool.and_true] at e
      exact e.symm
    · omega
  · intro z
    refine zb_ext z_and_w (by decide +kernel) fun i hi => ?_
    rcases e0 i with e | e
    · rw [e, zb_0]
      by_cases hz : i = 0
      · rw [hz, Nat.add_zero, z]
        rfl
      · rw [decide_eq_false hz, Bool.and_false]
    · omega
theorem zb_test {a : Int} {k : Nat} (hk : k < 9) : z_and (z_shr a (k : Int)) 1 = 0 ↔ zb a k = false := zb_test32 (by omega)
theorem zb_bt {P : Nat → Bool} {k : Nat} (hk : k < 32) : ∀ (f x : Nat) (b : Int), x + f ≤ 9 → zb (s_bt P f x b) k = (zb b k || (decide (x ≤ k ∧ k < x + f) && P k)) := by
  intro f
  induction f with
  | zero =>
    intro x b hx
    rw [decide_eq_false (by omega), Bool.false_and, Bool.or_false]
    rfl
  | succ f ih =>
    intro x b hx
    unfold s_bt
    rw [ih (x + 1) _ (by omega)]
    by_cases e : k = x
    · rw [decide_eq_false (show ¬ (x + 1 ≤ k ∧ k < x + 1 + f) by omega), decide_eq_true (show x ≤ k ∧ k < x + (f + 1) by omega), Bool.false_and, Bool.or_false, Bool.true_and]
      by_cases c : P x = true
      · rw [if_pos c, zb_or, zb_shl (by omega) hk, decide_eq_true e, e, c]
      · rw [if_neg c]
        have c' : P x = false := by
          cases h : P x
          · rfl
          · exact absurd h c
        rw [e, c', Bool.or_false]
    · have ed : decide (x + 1 ≤ k ∧ k < x + 1 + f) = decide (x ≤ k ∧ k < x + (f + 1)) := decide_eq_decide.mpr ⟨fun z => by omega, fun z => by omega⟩
      rw [ed]
      by_cases c : P x = true
      · rw [if_pos c, zb_or, zb_shl (by omega) hk, decide_eq_false e, Bool.or_false]
      · rw [if_neg c]
theorem bt_and {P Q : Nat → Bool} : z_and (s_bt P 9 0 0) (s_bt Q 9 0 0) = 0 ↔ ∀ k, k < 9 → ¬ (P k = true ∧ Q k = true) := by
  rw [z_and_0]
  have e : ∀ (P : Nat → Bool) k, k < 32 → zb (s_bt P 9 0 0) k = (decide (k < 9) && P k) := fun P k hk => by
    rw [zb_bt hk 9 0 0 (by decide), zb_0, Bool.false_or]
    congr 1
    exact decide_eq_decide.mpr ⟨fun z => by omega, fun z => by omega⟩
  constructor
  · intro z k hk ⟨h1, h2⟩
    refine z k (by omega) ⟨?_, ?_⟩
    · rw [e P k (by omega), decide_eq_true hk, h1]
      rfl
    · rw [e Q k (by omega), decide_eq_true hk, h2]
      rfl
  · intro z k hk ⟨h1, h2⟩
    rw [e P k hk] at h1
    rw [e Q k hk] at h2
    obtain ⟨a1, a2⟩ := Bool.and_eq_true _ _ |>.mp h1
    obtain ⟨b1, b2⟩ := Bool.and_eq_true _ _ |>.mp h2
    exact z k (of_decide_eq_true a1) ⟨a2, b2⟩
/-! alike in a column -/
def agN (c : Nat) (A B : Nat → Int) : Prop := ∀ r : Nat, r < 9 → r % 3 = c → A r = B r ∧ A (r + 9) = B (r + 9)
def ag (c n : Nat) (A B : Nat → Int) : Prop := agN c A B ∧ (∀ p, p < n → ∀ r : Nat, r < 9 → r % 3 = c → (A (p + 18) = (r : Int) ↔ B (p + 18) = (r : Int))) ∧ (∀ r : Nat, r < 9 → r % 3 = c → (A 34 = (r : Int) ↔ B 34 = (r : Int))) ∧ A 35 = B 35 ∧ A 36 = B 36
theorem ag_rf {c n : Nat} {A : Nat → Int} : ag c n A A := ⟨fun _ _ _ => ⟨rfl, rfl⟩, fun _ _ _ _ _ => Iff.rfl, fun _ _ _ => Iff.rfl, rfl, rfl⟩
theorem ag_sy {c n : Nat} {A B : Nat → Int} (h : ag c n A B) : ag c n B A := ⟨fun r h1 h2 => ⟨(h.1 r h1 h2).1.symm, (h.1 r h1 h2).2.symm⟩, fun p hp r h1 h2 => (h.2.1 p hp r h1 h2).symm, fun r h1 h2 => (h.2.2.1 r h1 h2).symm, h.2.2.2.1.symm, h.2.2.2.2.symm⟩
theorem ag_tr {c n : Nat} {A B C : Nat → Int} (h : ag c n A B) (k : ag c n B C) : ag c n A C := ⟨fun r h1 h2 => ⟨(h.1 r h1 h2).1.trans (k.1 r h1 h2).1, (h.1 r h1 h2).2.trans (k.1 r h1 h2).2⟩, fun p hp r h1 h2 => (h.2.1 p hp r h1 h2).trans (k.2.1 p hp r h1 h2), fun r h1 h2 => (h.2.2.1 r h1 h2).trans (k.2.2.1 r h1 h2), h.2.2.2.1.trans k.2.2.2.1, h.2.2.2.2.trans k.2.2.2.2⟩
/-! who is where: warmth, heads -/
def gw (v A : Nat → Int) (r : Nat) : Nat → Nat → Int → Int
  | 0, _, a => a
  | f + 1, x, a => gw v A r f (x + 1) (if A (x + 18) = (r : Int) then z_add a (v x) else a)
theorem gw_cg {v v' A A' : Nat → Int} {r : Nat} : ∀ (f x : Nat) (a : Int), (∀ p, x ≤ p → p < x + f → (A (p + 18) = (r : Int) ↔ A' (p + 18) = (r : Int)) ∧ (A (p + 18) = (r : Int) → v p = v' p)) → gw v A r f x a = gw v' A' r f x a
  | 0, _, _, _ => rfl
  | f + 1, x, a, h => by
    obtain ⟨h1, h2⟩ := h x (Nat.le_refl _) (by omega)
    unfold gw
    by_cases c : A (x + 18) = (r : Int)
    · rw [if_pos c, if_pos (h1.mp c), h2 c]
      exact gw_cg f (x + 1) _ (fun p a b => h p (by omega) (by omega))
    · rw [if_neg c, if_neg (fun z => c (h1.mpr z))]
      exact gw_cg f (x + 1) _ (fun p a b => h p (by omega) (by omega))
theorem hr_g_w {wm : Nat → Int} {price : Int} : ∀ (f x : Nat) (W C A : Nat → Int), x + f ≤ 5 → (∀ r : Nat, r < 9 → (hr_g wm price f x W C A).1 r = gw wm A r f x (W r) ∧ (hr_g wm price f x W C A).2.1 r = gw (fun _ => 1) A r f x (C r)) ∧ ∀ j, (j < 23 ∨ 28 ≤ j) → (hr_g wm price f x W C A).2.2 j = A j := by
  intro f
  induction f with
  | zero => intro x W C A hx; exact ⟨fun r hr => ⟨rfl, rfl⟩, fun j _ => rfl⟩
  | succ f ih =>
    intro x W C A hx
    unfold hr_g gw
    by_cases c1 : A (x + 18) < 0
    · rw [if_pos c1]
      obtain ⟨i1, i2⟩ := ih (x + 1) W C A (by omega)
      refine ⟨fun r hr => ?_, i2⟩
      rw [if_neg (show ¬ A (x + 18) = (r : Int) by omega), if_neg (show ¬ A (x + 18) = (r : Int) by omega)]
      exact i1 r hr
    rw [if_neg c1]
    by_cases c2 : 9 ≤ A (x + 18)
    · rw [if_pos c2]
      obtain ⟨i1, i2⟩ := ih (x + 1) W C A (by omega)
      refine ⟨fun r hr => ?_, i2⟩
      rw [if_neg (show ¬ A (x + 18) = (r : Int) by omega), if_neg (show ¬ A (x + 18) = (r : Int) by omega)]
      exact i1 r hr
    rw [if_neg c2]
    obtain ⟨i1, i2⟩ := ih (x + 1) (u_up W (A (x + 18)).toNat (z_add (W (A (x + 18)).toNat) (wm x))) (u_up C (A (x + 18)).toNat (z_add (C (A (x + 18)).toNat) 1)) (u_up A (x + 23) (z_add (A (x + 23)) (z_mul price (wm x)))) (by omega)
    have eg : ∀ (v : Nat → Int) (r : Nat) (a : Int), gw v (u_up A (x + 23) (z_add (A (x + 23)) (z_mul price (wm x)))) r f (x + 1) a = gw v A r f (x + 1) a := fun v r a => gw_cg f (x + 1) a (fun p h1 h2 => by
      rw [u_up_ne (by omega)]
      exact ⟨Iff.rfl, fun _ => rfl⟩)
    refine ⟨fun r hr => ?_, fun j hj => (i2 j hj).trans (u_up_ne (by omega))⟩
    obtain ⟨k1, k2⟩ := i1 r hr
    rw [k1, k2, eg, eg]
    by_cases e : A (x + 18) = (r : Int)
    · have e2 : (A (x + 18)).toNat = r := by omega
      rw [if_pos e, if_pos e, e2, u_up_self, u_up_self]
      exact ⟨rfl, rfl⟩
    · have e2 : ¬ r = (A (x + 18)).toNat := by omega
      rw [if_neg e, if_neg e, u_up_ne e2, u_up_ne e2]
      exact ⟨rfl, rfl⟩
theorem hr_sv_at {heat v : Int} {W : Nat → Int} {r : Nat} (hr : r < 9) : hr_sv heat v W r = if v = (r : Int) then z_add (W r) heat else W r := by
  unfold hr_sv
  by_cases c1 : v < 0
  · rw [if_pos c1, if_neg (by omega)]
  rw [if_neg c1]
  by_cases c2 : 9 ≤ v
  · rw [if_pos c2, if_neg (by omega)]
  rw [if_neg c2]
  by_cases e : v = (r : Int)
  · rw [if_pos e, show v.toNat = r by omega, u_up_self]
  · rw [if_neg e, u_up_ne (by omega)]
/-! melting, dripping -/
theorem hr_d1_hi {u e : Int} {r j : Nat} {A : Nat → Int} (hu : u = 0 ∨ r + 3 < 9) (hr : r < 9) (hj : 18 ≤ j) (h33 : ¬ j = 33) : hr_d1 u e r A j = A j := by
  unfold hr_d1
  rw [u_up_ne (by omega), u_up_ne (by omega)]
  by_cases c : u = 0
  · rw [if_pos c, u_up_ne h33]
  · rw [if_neg c, u_up_ne (by omega)]
theorem hr_d1_off {u e : Int} {r q c : Nat} {A : Nat → Int} (hu : u = 0 ∨ r + 3 < 9) (hr : r < 9) (hc : ¬ r % 3 = c) (hq : q < 9) (hqc : q % 3 = c) : hr_d1 u e r A q = A q ∧ hr_d1 u e r A (q + 9) = A (q + 9) := by
  unfold hr_d1
  rw [u_up_ne (by omega), u_up_ne (by omega), u_up_ne (by omega), u_up_ne (by omega)]
  by_cases c0 : u = 0
  · rw [if_pos c0, u_up_ne (by omega), u_up_ne (by omega)]
    exact ⟨rfl, rfl⟩
  · rw [if_neg c0, u_up_ne (by omega), u_up_ne (by omega)]
    exact ⟨rfl, rfl⟩
theorem hr_d1_on {u e : Int} {r c : Nat} {A B : Nat → Int} (hu : u = 0 ∨ r + 3 < 9) (hr : r < 9) (hc : r % 3 = c) (h : agN c A B) : agN c (hr_d1 u e r A) (hr_d1 u e r B) := by
  intro q hq hqc
  obtain ⟨r1, r2⟩ := h r hr hc
  obtain ⟨q1, q2⟩ := h q hq hqc
  have base : (if u = 0 then u_up A 33 (z_add (A 33) (A (r + 9))) else u_up A (r + 12) (z_add (A (r + 12)) (A (r + 9)))) q = (if u = 0 then u_up B 33 (z_add (B 33) (B (r + 9))) else u_up B (r + 12) (z_add (B (r + 12)) (B (r + 9)))) q ∧ (if u = 0 then u_up A 33 (z_add (A 33) (A (r + 9))) else u_up A (r + 12) (z_add (A (r + 12)) (A (r + 9)))) (q + 9) = (if u = 0 then u_up B 33 (z_add (B 33) (B (r + 9))) else u_up B (r + 12) (z_add (B (r + 12)) (B (r + 9)))) (q + 9) := by
    by_cases c0 : u = 0
    · rw [if_pos c0, if_pos c0, u_up_ne (by omega), u_up_ne (by omega), u_up_ne (by omega), u_up_ne (by omega)]
      exact ⟨q1, q2⟩
    · have h3 : r + 3 < 9 := hu.resolve_left c0
      obtain ⟨s1, s2⟩ := h (r + 3) h3 (by omega)
      rw [if_neg c0, if_neg c0, u_up_ne (by omega), u_up_ne (by omega)]
      refine ⟨q1, ?_⟩
      by_cases e : q = r + 3
      · rw [e, show r + 3 + 9 = r + 12 by omega, u_up_self, u_up_self, r2]
        rw [show r + 3 + 9 = r + 12 by omega] at s2
        rw [s2]
      · rw [u_up_ne (by omega), u_up_ne (by omega)]
        exact q2
  unfold hr_d1
  by_cases e : q = r
  · subst e
    refine ⟨?_, ?_⟩
    · rw [u_up_self, u_up_self, r1]
    · rw [u_up_ne (show ¬ q + 9 = q by omega), u_up_ne (show ¬ q + 9 = q by omega), u_up_self, u_up_self]
  · rw [u_up_ne (by omega), u_up_ne (by omega), u_up_ne (by omega), u_up_ne (by omega), u_up_ne (by omega), u_up_ne (by omega), u_up_ne (by omega), u_up_ne (by omega)]
    exact base
theorem hs_lo {w h : Nat} {r : Nat} : u_hs (w : Int) (h : Int) ((r : Int) + 3) = 0 ∨ r + 3 < 9 := by
  by_cases c : u_hs (w : Int) (h : Int) ((r : Int) + 3) = 0
  · exact Or.inl c
  · have := u_hs_rng c
    exact Or.inr (by omega)
theorem hr_d_hi {w h : Nat} {b : Int} {ml : hr_M} {W C : Nat → Int} {j : Nat} (hj : 18 ≤ j) (h33 : ¬ j = 33) : ∀ (f : Nat) (A : Nat → Int) (t : Int), f ≤ 9 → (hr_d (w : Int) (h : Int) b ml W C f A t).1 j = A j := by
  intro f
  induction f with
  | zero => intro A t hf; rfl
  | succ f ih =>
    intro A t hf
    unfold hr_d
    by_cases c : z_and (z_shr b (f : Int)) 1 = 0
    · rw [if_pos c]
      exact ih A t (by omega)
    · rw [if_neg c, ih _ _ (by omega)]
      exact hr_d1_hi hs_lo (by omega) hj h33
theorem ag_d {w h c : Nat} {b b' : Int} {ml : hr_M} {W C W' C' : Nat → Int} (hb : ∀ r : Nat, r < 9 → r % 3 = c → (z_and (z_shr b (r : Int)) 1 = 0 ↔ z_and (z_shr b' (r : Int)) 1 = 0)) (hW : ∀ r : Nat, r < 9 → r % 3 = c → W r = W' r ∧ C r = C' r) : ∀ (f : Nat) (A B : Nat → Int) (t t' : Int), f ≤ 9 → agN c A B → A 35 = B 35 → A 36 = B 36 → agN c (hr_d (w : Int) (h : Int) b ml W C f A t).1 (hr_d (w : Int) (h : Int) b' ml W' C' f B t').1 := by
  intro f
  induction f with
  | zero => intro A B t t' hf h1 h5 h6; exact h1
  | succ f ih =>
    intro A B t t' hf h1 h5 h6
    unfold hr_d
    by_cases hc : f % 3 = c
    · have hbf := hb f (by omega) hc
      by_cases z : z_and (z_shr b (f : Int)) 1 = 0
      · rw [if_pos z, if_pos (hbf.mp z)]
        exact ih A B t t' (by omega) h1 h5 h6
      · have ee : hr_e ml W C f A = hr_e ml W' C' f B := by
          obtain ⟨r1, r2⟩ := h1 f (by omega) hc
          obtain ⟨w1, w2⟩ := hW f (by omega) hc
          unfold hr_e
          rw [r1, r2, w1, w2, h5, h6]
        rw [if_neg z, if_neg (fun y => z (hbf.mpr y)), ee]
        exact ih _ _ _ _ (by omega) (hr_d1_on hs_lo (by omega) hc h1) (by rw [hr_d1_hi hs_lo (by omega) (by decide) (by decide), hr_d1_hi hs_lo (by omega) (by decide) (by decide)]; exact h5) (by rw [hr_d1_hi hs_lo (by omega) (by decide) (by decide), hr_d1_hi hs_lo (by omega) (by decide) (by decide)]; exact h6)
    · have one : ∀ (W C : Nat → Int) (A : Nat → Int), agN c (hr_d1 (u_hs (w : Int) (h : Int) ((f : Int) + 3)) (hr_e ml W C f A) f A) A ∧ hr_d1 (u_hs (w : Int) (h : Int) ((f : Int) + 3)) (hr_e ml W C f A) f A 35 = A 35 ∧ hr_d1 (u_hs (w : Int) (h : Int) ((f : Int) + 3)) (hr_e ml W C f A) f A 36 = A 36 := fun W C A => ⟨fun q hq hqc => hr_d1_off hs_lo (by omega) hc hq hqc, hr_d1_hi hs_lo (by omega) (by decide) (by decide), hr_d1_hi hs_lo (by omega) (by decide) (by decide)⟩
      have tr : ∀ {A B C : Nat → Int}, agN c A B → agN c B C → agN c A C := fun h k r h1 h2 => ⟨(h r h1 h2).1.trans (k r h1 h2).1, (h r h1 h2).2.trans (k r h1 h2).2⟩
      have sy : ∀ {A B : Nat → Int}, agN c A B → agN c B A := fun h r h1 h2 => ⟨(h r h1 h2).1.symm, (h r h1 h2).2.symm⟩
      obtain ⟨a1, a2, a3⟩ := one W C A
      obtain ⟨b1, b2, b3⟩ := one W' C' B
      by_cases z : z_and (z_shr b (f : Int)) 1 = 0
      · rw [if_pos z]
        by_cases z' : z_and (z_shr b' (f : Int)) 1 = 0
        · rw [if_pos z']
          exact ih A B _ _ (by omega) h1 h5 h6
        · rw [if_neg z']
          exact ih A _ _ _ (by omega) (tr h1 (sy b1)) (h5.trans b2.symm) (h6.trans b3.symm)
      · rw [if_neg z]
        by_cases z' : z_and (z_shr b' (f : Int)) 1 = 0
        · rw [if_pos z']
          exact ih _ B _ _ (by omega) (tr a1 h1) (a2.trans h5) (a3.trans h6)
        · rw [if_neg z']
          exact ih _ _ _ _ (by omega) (tr (tr a1 h1) (sy b1)) ((a2.trans h5).trans b2.symm) ((a3.trans h6).trans b3.symm)
/-! freezing, giving, falling -/
theorem hr_f_hi {r j : Nat} {A : Nat → Int} (hr : r < 9) (hj : 18 ≤ j) : hr_f r A j = A j := by
  unfold hr_f
  rw [u_up_ne (by omega), u_up_ne (by omega)]
theorem hr_f_nn {r q : Nat} {A : Nat → Int} (hr : r < 9) (hq : q < 9) (hn : ¬ q = r) : hr_f r A q = A q ∧ hr_f r A (q + 9) = A (q + 9) := by
  unfold hr_f
  rw [u_up_ne hn, u_up_ne (by omega), u_up_ne (by omega), u_up_ne (by omega)]
  exact ⟨rfl, rfl⟩
theorem hr_f_eq {r : Nat} {A B : Nat → Int} (hr : r < 9) (h1 : A r = B r) (h2 : A (r + 9) = B (r + 9)) (h3 : A 36 = B 36) : hr_f r A r = hr_f r B r ∧ hr_f r A (r + 9) = hr_f r B (r + 9) := by
  unfold hr_f
  refine ⟨?_, ?_⟩
  · rw [u_up_self, u_up_self, h1, h2, h3]
  · rw [u_up_ne (show ¬ r + 9 = r by omega), u_up_ne (show ¬ r + 9 = r by omega), u_up_self, u_up_self, h1, h2, h3]
theorem hr_p_at {r to : Int} {q : Nat} (hq : q < 5) : ∀ (f x : Nat) (A : Nat → Int) (fb fm : Int), x + f ≤ 5 → (hr_p r to f x A fb fm).1 (q + 18) = if (x ≤ q ∧ q < x + f) ∧ A (q + 18) = r then to else A (q + 18) := by
  intro f
  induction f with
  | zero =>
    intro x A fb fm hx
    rw [if_neg (by omega)]
    rfl
  | succ f ih =>
    intro x A fb fm hx
    unfold hr_p
    by_cases c : A (x + 18) = r
    · rw [if_pos c, ih (x + 1) _ _ _ (by omega)]
      by_cases e : q = x
      · rw [if_neg (by omega), if_pos ⟨by omega, by rw [e]; exact c⟩, u_up_ne (by omega), e, u_up_self]
      · rw [u_up_ne (by omega), u_up_ne (by omega)]
        by_cases y : A (q + 18) = r
        · by_cases z : x ≤ q ∧ q < x + (f + 1)
          · rw [if_pos ⟨by omega, y⟩, if_pos ⟨z, y⟩]
          · rw [if_neg (fun k => z (by omega)), if_neg (fun k => z k.1)]
        · rw [if_neg (fun k => y k.2), if_neg (fun k => y k.2)]
    · rw [if_neg c, ih (x + 1) _ _ _ (by omega)]
      by_cases y : A (q + 18) = r
      · have e : ¬ q = x := fun k => c (by rw [← k]; exact y)
        by_cases z : x ≤ q ∧ q < x + (f + 1)
        · rw [if_pos ⟨by omega, y⟩, if_pos ⟨z, y⟩]
        · rw [if_neg (fun k => z (by omega)), if_neg (fun k => z k.1)]
      · rw [if_neg (fun k => y k.2), if_neg (fun k => y k.2)]
theorem hr_p_n {r to : Int} {q n : Nat} (n5 : n ≤ 5) (hq : q < n) (A : Nat → Int) (fb fm : Int) : (hr_p r to n 0 A fb fm).1 (q + 18) = if A (q + 18) = r then to else A (q + 18) := by
  rw [hr_p_at (by omega) n 0 A fb fm (by omega)]
  by_cases y : A (q + 18) = r
  · rw [if_pos ⟨by omega, y⟩, if_pos y]
  · rw [if_neg (fun k => y k.2), if_neg y]
theorem hr_st_at {r to : Int} {A : Nat → Int} : hr_st r to A 34 = if A 34 = r then to else A 34 := by
  unfold hr_st
  by_cases c : A 34 = r
  · rw [if_pos c, if_pos c, u_up_self]
  · rw [if_neg c, if_neg c]
theorem hr_to_is {w h : Nat} {x : Nat} : hr_to (w : Int) (h : Int) x = -1 ∨ hr_to (w : Int) (h : Int) x = (x : Int) + 3 := by
  unfold hr_to
  split
  · exact Or.inl rfl
  · exact Or.inr rfl
/-- one room's turn -/
def hr_z (w h : Nat) (b : Int) (n x : Nat) (A : Nat → Int) (fb fm : Int) : Nat → Int := if z_and (z_shr b (x : Int)) 1 = 0 then A else if hr_f x A x = 0 then hr_st x (hr_to (w : Int) (h : Int) x) (hr_p x (hr_to (w : Int) (h : Int) x) n 0 (hr_f x A) fb fm).1 else hr_f x A
theorem hr_q_z {w h n : Nat} {b : Int} (f x : Nat) (A : Nat → Int) (g fb fm : Int) : ∃ g' fb' fm', hr_q (w : Int) (h : Int) b n (f + 1) x A g fb fm = hr_q (w : Int) (h : Int) b n f (x + 1) (hr_z w h b n x A fb fm) g' fb' fm' := by
  have e : hr_q (w : Int) (h : Int) b n (f + 1) x A g fb fm = if z_and (z_shr b (x : Int)) 1 = 0 then hr_q (w : Int) (h : Int) b n f (x + 1) A g fb fm else if hr_f x A x = 0 then hr_q (w : Int) (h : Int) b n f (x + 1) (hr_st x (hr_to (w : Int) (h : Int) x) (hr_p x (hr_to (w : Int) (h : Int) x) n 0 (hr_f x A) fb fm).1) (z_or g (z_shl 1 (x : Int))) (hr_p x (hr_to (w : Int) (h : Int) x) n 0 (hr_f x A) fb fm).2.1 (hr_p x (hr_to (w : Int) (h : Int) x) n 0 (hr_f x A) fb fm).2.2 else hr_q (w : Int) (h : Int) b n f (x + 1) (hr_f x A) g fb fm := rfl
  rw [e]
  unfold hr_z
  by_cases c : z_and (z_shr b (x : Int)) 1 = 0
  · rw [if_pos c, if_pos c]
    exact ⟨_, _, _, rfl⟩
  rw [if_neg c, if_neg c]
  by_cases d : hr_f x A x = 0
  · rw [if_pos d, if_pos d]
    exact ⟨_, _, _, rfl⟩
  · rw [if_neg d, if_neg d]
    exact ⟨_, _, _, rfl⟩
theorem hr_g_f {x j : Nat} {A : Nat → Int} {n : Nat} {fb fm t : Int} (n5 : n ≤ 5) (hx : x < 9) (hj : j < 18 ∨ 35 ≤ j) : hr_st (x : Int) t (hr_p (x : Int) t n 0 (hr_f x A) fb fm).1 j = hr_f x A j := by
  rw [hr_st_18 (by omega), hr_p_hi (by omega) n 0 _ _ _ (by omega)]
theorem ag_off {w h n c x : Nat} {b fb fm : Int} {A : Nat → Int} (n5 : n ≤ 5) (hx : x < 9) (hc : ¬ x % 3 = c) : ag c n (hr_z w h b n x A fb fm) A := by
  unfold hr_z
  by_cases c0 : z_and (z_shr b (x : Int)) 1 = 0
  · rw [if_pos c0]
    exact ag_rf
  rw [if_neg c0]
  have lo : ∀ r : Nat, r < 9 → r % 3 = c → hr_f x A r = A r ∧ hr_f x A (r + 9) = A (r + 9) := fun r h1 h2 => hr_f_nn hx h1 (fun z => hc (by rw [← z]; exact h2))
  by_cases d : hr_f x A x = 0
  · rw [if_pos d]
    have ht := hr_to_is (w := w) (h := h) (x := x)
    generalize hr_to (w : Int) (h : Int) x = t at ht ⊢
    refine ⟨fun r h1 h2 => ?_, fun p hp r h1 h2 => ?_, fun r h1 h2 => ?_, ?_, ?_⟩
    · rw [hr_g_f n5 hx (by omega), hr_g_f n5 hx (by omega)]
      exact lo r h1 h2
    · rw [hr_st_18 (by omega), hr_p_n n5 hp, hr_f_hi hx (by omega)]
      by_cases e : A (p + 18) = (x : Int)
      · rw [if_pos e]
        exact ⟨fun z => by omega, fun z => by omega⟩
      · rw [if_neg e]
    · rw [hr_st_at, hr_p_hi (by omega) n 0 _ _ _ (by omega), hr_f_hi hx (by decide)]
      by_cases e : A 34 = (x : Int)
      · rw [if_pos e]
        exact ⟨fun z => by omega, fun z => by omega⟩
      · rw [if_neg e]
    · rw [hr_g_f n5 hx (by omega), hr_f_hi hx (by decide)]
    · rw [hr_g_f n5 hx (by omega), hr_f_hi hx (by decide)]
  · rw [if_neg d]
    refine ⟨lo, fun p hp r h1 h2 => ?_, fun r h1 h2 => ?_, hr_f_hi hx (by decide), hr_f_hi hx (by decide)⟩
    · rw [hr_f_hi hx (by omega)]
    · rw [hr_f_hi hx (by decide)]
theorem ag_on {w h n c x : Nat} {b b' fb fm fb' fm' : Int} {A B : Nat → Int} (n5 : n ≤ 5) (hx : x < 9) (hc : x % 3 = c) (hb : z_and (z_shr b (x : Int)) 1 = 0 ↔ z_and (z_shr b' (x : Int)) 1 = 0) (hA : ag c n A B) : ag c n (hr_z w h b n x A fb fm) (hr_z w h b' n x B fb' fm') := by
  obtain ⟨a1, a2, a3, a4, a5⟩ := hA
  have lo : agN c (hr_f x A) (hr_f x B) := fun r h1 h2 => by
    by_cases e : r = x
    · subst e
      exact hr_f_eq hx (a1 r h1 h2).1 (a1 r h1 h2).2 a5
    · obtain ⟨e1, e2⟩ := hr_f_nn (A := A) hx h1 e
      obtain ⟨e3, e4⟩ := hr_f_nn (A := B) hx h1 e
      rw [e1, e2, e3, e4]
      exact a1 r h1 h2
  unfold hr_z
  by_cases c0 : z_and (z_shr b (x : Int)) 1 = 0
  · rw [if_pos c0, if_pos (hb.mp c0)]
    exact ⟨a1, a2, a3, a4, a5⟩
  rw [if_neg c0, if_neg (fun z => c0 (hb.mpr z))]
  have ex := (lo x hx hc).1
  by_cases d : hr_f x A x = 0
  · rw [if_pos d, if_pos (by rw [← ex]; exact d)]
    generalize hr_to (w : Int) (h : Int) x = t
    refine ⟨fun r h1 h2 => ?_, fun p hp r h1 h2 => ?_, fun r h1 h2 => ?_, ?_, ?_⟩
    · rw [hr_g_f n5 hx (by omega), hr_g_f n5 hx (by omega), hr_g_f n5 hx (by omega), hr_g_f n5 hx (by omega)]
      exact lo r h1 h2
    · rw [hr_st_18 (by omega), hr_st_18 (by omega), hr_p_n n5 hp, hr_p_n n5 hp, hr_f_hi hx (by omega), hr_f_hi hx (by omega)]
      have q := a2 p hp x hx hc
      by_cases e : A (p + 18) = (x : Int)
      · rw [if_pos e, if_pos (q.mp e)]
      · rw [if_neg e, if_neg (fun z => e (q.mpr z))]
        exact a2 p hp r h1 h2
    · rw [hr_st_at, hr_st_at, hr_p_hi (by omega) n 0 _ _ _ (by omega), hr_p_hi (by omega) n 0 _ _ _ (by omega), hr_f_hi hx (by decide), hr_f_hi hx (by decide)]
      have q := a3 x hx hc
      by_cases e : A 34 = (x : Int)
      · rw [if_pos e, if_pos (q.mp e)]
      · rw [if_neg e, if_neg (fun z => e (q.mpr z))]
        exact a3 r h1 h2
    · rw [hr_g_f n5 hx (by omega), hr_g_f n5 hx (by omega), hr_f_hi hx (by decide), hr_f_hi hx (by decide)]
      exact a4
    · rw [hr_g_f n5 hx (by omega), hr_g_f n5 hx (by omega), hr_f_hi hx (by decide), hr_f_hi hx (by decide)]
      exact a5
  · rw [if_neg d, if_neg (by rw [← ex]; exact d)]
    refine ⟨lo, fun p hp r h1 h2 => ?_, fun r h1 h2 => ?_, ?_, ?_⟩
    · rw [hr_f_hi hx (by omega), hr_f_hi hx (by omega)]
      exact a2 p hp r h1 h2
    · rw [hr_f_hi hx (by decide), hr_f_hi hx (by decide)]
      exact a3 r h1 h2
    · rw [hr_f_hi hx (by decide), hr_f_hi hx (by decide)]
      exact a4
    · rw [hr_f_hi hx (by decide), hr_f_hi hx (by decide)]
      exact a5
theorem ag_q {w h n c : Nat} {b b' : Int} (n5 : n ≤ 5) (hb : ∀ r : Nat, r < 9 → r % 3 = c → (z_and (z_shr b (r : Int)) 1 = 0 ↔ z_and (z_shr b' (r : Int)) 1 = 0)) : ∀ (f x : Nat) (A B : Nat → Int) (g fb fm g' fb' fm' : Int), x + f = 9 → ag c n A B → ag c n (hr_q (w : Int) (h : Int) b n f x A g fb fm).1 (hr_q (w : Int) (h : Int) b' n f x B g' fb' fm').1 := by
  intro f
  induction f with
  | zero => intro x A B g fb fm g' fb' fm' hx hA; exact hA
  | succ f ih =>
    intro x A B g fb fm g' fb' fm' hx hA
    obtain ⟨g1, g2, g3, e1⟩ := hr_q_z (w := w) (h := h) (n := n) (b := b) f x A g fb fm
    obtain ⟨k1, k2, k3, e2⟩ := hr_q_z (w := w) (h := h) (n := n) (b := b') f x B g' fb' fm'
    rw [e1, e2]
    refine ih (x + 1) _ _ _ _ _ _ _ _ (by omega) ?_
    by_cases hc : x % 3 = c
    · exact ag_on n5 (by omega) hc (hb x (by omega) hc) hA
    · exact ag_tr (ag_off n5 (by omega) hc) (ag_tr hA (ag_sy (ag_off n5 (by omega) hc)))
/-- who is in a column behind an HOUR, was in it ahead -/
def inC (c : Nat) (v : Int) : Prop := ∃ r : Nat, r < 9 ∧ r % 3 = c ∧ v = (r : Int)
theorem hr_z_in {w h n c x p : Nat} {b fb fm : Int} {A : Nat → Int} (n5 : n ≤ 5) (hx : x < 9) (hp : p < n) (hi : inC c (hr_z w h b n x A fb fm (p + 18))) : inC c (A (p + 18)) := by
  unfold hr_z at hi
  by_cases c0 : z_and (z_shr b (x : Int)) 1 = 0
  · rw [if_pos c0] at hi
    exact hi
  rw [if_neg c0] at hi
  by_cases d : hr_f x A x = 0
  · rw [if_pos d, hr_st_18 (by omega), hr_p_n n5 hp, hr_f_hi hx (by omega)] at hi
    by_cases e : A (p + 18) = (x : Int)
    · rw [if_pos e] at hi
      obtain ⟨r, r1, r2, r3⟩ := hi
      have ht := hr_to_is (w := w) (h := h) (x := x)
      exact ⟨x, hx, by omega, e⟩
    · rw [if_neg e] at hi
      exact hi
  · rw [if_neg d, hr_f_hi hx (by omega)] at hi
    exact hi
theorem hr_q_in {w h n c p : Nat} {b : Int} (n5 : n ≤ 5) (hp : p < n) : ∀ (f x : Nat) (A : Nat → Int) (g fb fm : Int), x + f = 9 → inC c ((hr_q (w : Int) (h : Int) b n f x A g fb fm).1 (p + 18)) → inC c (A (p + 18)) := by
  intro f
  induction f with
  | zero => intro x A g fb fm hx hi; exact hi
  | succ f ih =>
    intro x A g fb fm hx hi
    obtain ⟨g1, g2, g3, e1⟩ := hr_q_z (w := w) (h := h) (n := n) (b := b) f x A g fb fm
    rw [e1] at hi
    exact hr_z_in n5 (by omega) hp (ih (x + 1) _ _ _ _ (by omega) hi)
/-- the rooms that gave, as bits; what ICE they have behind it -/
theorem hr_q_gb {w h n : Nat} {b : Int} (n5 : n ≤ 5) : ∀ (f x : Nat) (A : Nat → Int) (g fb fm : Int), x + f = 9 → (hr_q (w : Int) (h : Int) b n f x A g fb fm).2.1 = s_bt (fun k => decide (¬ z_and (z_shr b (k : Int)) 1 = 0 ∧ hr_f k A k = 0)) f x g ∧ (∀ k, x ≤ k → k < 9 → (hr_q (w : Int) (h : Int) b n f x A g fb fm).1 k = if z_and (z_shr b (k : Int)) 1 = 0 then A k else hr_f k A k) ∧ ∀ k, k < x → (hr_q (w : Int) (h : Int) b n f x A g fb fm).1 k = A k := by
  intro f
  induction f with
  | zero => intro x A g fb fm hx; exact ⟨rfl, fun k h1 h2 => by omega, fun k _ => rfl⟩
  | succ f ih =>
    intro x A g fb fm hx
    have key : ∀ (A' : Nat → Int) (g' fb' fm' : Int), (∀ j, (j < 18 ∨ 35 ≤ j) → A' j = if z_and (z_shr b (x : Int)) 1 = 0 then A j else hr_f x A j) → g' = (if (decide (¬ z_and (z_shr b (x : Int)) 1 = 0 ∧ hr_f x A x = 0)) = true then z_or g (z_shl 1 (x : Int)) else g) → (hr_q (w : Int) (h : Int) b n f (x + 1) A' g' fb' fm').2.1 = s_bt (fun k => decide (¬ z_and (z_shr b (k : Int)) 1 = 0 ∧ hr_f k A k = 0)) (f + 1) x g ∧ (∀ k, x ≤ k → k < 9 → (hr_q (w : Int) (h : Int) b n f (x + 1) A' g' fb' fm').1 k = if z_and (z_shr b (k : Int)) 1 = 0 then A k else hr_f k A k) ∧ ∀ k, k < x → (hr_q (w : Int) (h : Int) b n f (x + 1) A' g' fb' fm').1 k = A k := by
      intro A' g' fb' fm' hA' hg'
      obtain ⟨i1, i2, i3⟩ := ih (x + 1) A' g' fb' fm' (by omega)
      have eo : ∀ k, k < 9 → ¬ k = x → A' k = A k ∧ A' (k + 9) = A (k + 9) := fun k hk hn => by
        rw [hA' k (by omega), hA' (k + 9) (by omega)]
        by_cases z : z_and (z_shr b (x : Int)) 1 = 0
        · rw [if_pos z, if_pos z]
          exact ⟨rfl, rfl⟩
        · rw [if_neg z, if_neg z]
          exact hr_f_nn (by omega) hk hn
      have e36 : A' 36 = A 36 := by
        rw [hA' 36 (by omega)]
        by_cases z : z_and (z_shr b (x : Int)) 1 = 0
        · rw [if_pos z]
        · rw [if_neg z, hr_f_hi (by omega) (by decide)]
      refine ⟨?_, fun k h1 h2 => ?_, fun k h1 => ?_⟩
      · rw [i1, hg']
        show _ = s_bt _ f (x + 1) _
        exact s_bt_cg f (x + 1) _ (fun y h1 h2 => by rw [(hr_f_eq (A := A') (B := A) (by omega) (eo y (by omega) (by omega)).1 (eo y (by omega) (by omega)).2 e36).1])
      · by_cases e : k = x
        · rw [e, i3 x (by omega), hA' x (by omega)]
        · rw [i2 k (by omega) h2, (eo k h2 e).1, (hr_f_eq (A := A') (B := A) h2 (eo k h2 e).1 (eo k h2 e).2 e36).1]
      · rw [i3 k (by omega)]
        exact (eo k (by omega) (by omega)).1
    unfold hr_q
    by_cases c : z_and (z_shr b (x : Int)) 1 = 0
    · rw [if_pos c]
      exact key A g fb fm (fun j _ => (if_pos c).symm) (if_neg (fun z => (of_decide_eq_true z).1 c)).symm
    rw [if_neg c]
    by_cases d : hr_f x A x = 0
    · rw [if_pos d]
      exact key _ _ _ _ (fun j hj => (hr_g_f n5 (by omega) hj).trans (if_neg c).symm) (if_pos (decide_eq_true ⟨c, d⟩)).symm
    · rw [if_neg d]
      exact key _ _ _ _ (fun j hj => (if_neg c).symm) (if_neg (fun z => d (of_decide_eq_true z).2)).symm
