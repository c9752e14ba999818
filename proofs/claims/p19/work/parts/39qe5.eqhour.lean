/-! BOTH HOURS ARE ONE -/
theorem u_hs_eq {w h : Nat} (hw : w ≤ 3) (hh : h ≤ 3) {r : Nat} (hr : r ≤ 11) : u_hs (w : Int) (h : Int) (r : Int) = if r < 9 ∧ r % 3 < w ∧ r / 3 < h then 1 else 0 := by
  unfold u_hs
  rw [if_neg (by omega)]
  by_cases h1 : 9 ≤ (r : Int)
  · rw [if_pos h1, if_neg (by omega)]
  rw [if_neg h1, z_rem_nn (by omega) (by omega) (by decide) (by decide), z_div_nn (by omega) (by omega) (by decide) (by decide)]
  by_cases h2 : (w : Int) ≤ (r : Int) % 3
  · rw [if_pos h2, if_neg (by omega)]
  rw [if_neg h2]
  by_cases h3 : (h : Int) ≤ (r : Int) / 3
  · rw [if_pos h3, if_neg (by omega)]
  · rw [if_neg h3, if_pos (by omega)]
def hq (w h r : Nat) : Bool := decide (r < 9) && (decide (r % 3 < w) && decide (r / 3 < h))
theorem hq_t {w h r : Nat} : hq w h r = true ↔ r < 9 ∧ r % 3 < w ∧ r / 3 < h := by
  unfold hq
  simp only [Bool.and_eq_true, decide_eq_true_eq]
theorem u_hs_q {w h : Nat} (hw : w ≤ 3) (hh : h ≤ 3) {r : Nat} (hr : r ≤ 11) : u_hs (w : Int) (h : Int) (r : Int) = bif hq w h r then 1 else 0 := by
  rw [u_hs_eq hw hh hr]
  cases e : hq w h r with
  | true => rw [if_pos (hq_t.mp e)]; rfl
  | false => rw [if_neg (fun z => by rw [hq_t.mpr z] at e; cases e)]; rfl
/-! sums over persons -/
def hr_t (g : Nat → Int) : Nat → Nat → Int
  | 0, _ => 0
  | f + 1, x => g x + hr_t g f (x + 1)
theorem hr_t_s {g : Nat → Int} {f x : Nat} : hr_t g (f + 1) x = g x + hr_t g f (x + 1) := rfl
theorem hr_t_cg {g g' : Nat → Int} : ∀ (f x : Nat), (∀ p, x ≤ p → p < x + f → g p = g' p) → hr_t g f x = hr_t g' f x := by
  intro f
  induction f with
  | zero => intro x h; rfl
  | succ f ih =>
    intro x h
    unfold hr_t
    rw [h x (by omega) (by omega), ih (x + 1) (fun p h1 h2 => h p (by omega) (by omega))]
theorem hr_t_b {g : Nat → Int} {B : Int} (hB : 0 ≤ B) (hg : ∀ p, p < 5 → 0 ≤ g p ∧ g p ≤ B) : ∀ (f x : Nat), x + f ≤ 5 → 0 ≤ hr_t g f x ∧ hr_t g f x ≤ B * f := by
  intro f
  induction f with
  | zero => intro x h; unfold hr_t; omega
  | succ f ih =>
    intro x h
    unfold hr_t
    have a := ih (x + 1) (by omega)
    have b := hg x (by omega)
    have e : B * ((f + 1 : Nat) : Int) = B * (f : Int) + B := by rw [Int.natCast_add, Int.mul_add]; simp
    omega
theorem hr_g_eq {wm v : Nat → Int} {price : Int} (hv : ∀ p, p < 5 → -1 ≤ v p ∧ v p ≤ 8) (hwm : ∀ p, p < 5 → 0 ≤ wm p ∧ wm p ≤ 9) : ∀ (f x : Nat) (W C A : Nat → Int), x + f ≤ 5 → (∀ p, p < x + f → A (p + 18) = v p) → (∀ k, k < 9 → 0 ≤ W k ∧ W k ≤ 9 * (x : Int)) → (∀ k, k < 9 → 0 ≤ C k ∧ C k ≤ (x : Int)) → (∀ r : Nat, r < 9 → (hr_g wm price f x W C A).1 r = W r + hr_t (fun p => if v p = (r : Int) then wm p else 0) f x ∧ (hr_g wm price f x W C A).2.1 r = C r + hr_t (fun p => if v p = (r : Int) then 1 else 0) f x) ∧ (hr_g wm price f x W C A).2.2 = hr_o wm price f x A := by
  intro f
  induction f with
  | zero =>
    intro x W C A hx hA hW hC
    refine ⟨fun r hr => ?_, rfl⟩
    show W r = W r + 0 ∧ C r = C r + 0
    omega
  | succ f ih =>
    intro x W C A hx hA hW hC
    have e := hA x (by omega)
    have vx := hv x (by omega)
    unfold hr_g hr_o
    rw [e]
    by_cases c1 : v x < 0
    · have c1' : v x = -1 := by omega
      rw [if_pos c1, if_pos c1']
      obtain ⟨i1, i2⟩ := ih (x + 1) W C A (by omega) (fun p hp => hA p (by omega)) (fun k hk => by have := hW k hk; omega) (fun k hk => by have := hC k hk; omega)
      refine ⟨fun r hr => ?_, i2⟩
      have := i1 r hr
      rw [this.1, this.2]
      rw [hr_t_s, hr_t_s, if_neg (show ¬ v x = (r : Int) by omega), if_neg (show ¬ v x = (r : Int) by omega)]
      omega
    · have c1' : ¬ v x = -1 := by omega
      rw [if_neg c1, if_neg c1', if_neg (show ¬ 9 ≤ v x by omega)]
      generalize hr0 : (v x).toNat = r0
      have hr9 : r0 < 9 := by omega
      have bw := hwm x (by omega)
      have bW := hW r0 hr9
      have bC := hC r0 hr9
      rw [z_add_eq (x := W r0) (by omega) (by omega), z_add_eq (x := C r0) (by omega) (by omega)]
      obtain ⟨i1, i2⟩ := ih (x + 1) (u_up W r0 (W r0 + wm x)) (u_up C r0 (C r0 + 1)) (u_up A (x + 23) (z_add (A (x + 23)) (z_mul price (wm x)))) (by omega) (fun p hp => by
        unfold u_up
        rw [if_neg (by omega)]
        exact hA p (by omega)) (fun k hk => by
        unfold u_up
        by_cases hk0 : k = r0
        · rw [if_pos hk0]; omega
        · rw [if_neg hk0]; have := hW k hk; omega) (fun k hk => by
        unfold u_up
        by_cases hk0 : k = r0
        · rw [if_pos hk0]; omega
        · rw [if_neg hk0]; have := hC k hk; omega)
      refine ⟨fun r hr => ?_, i2⟩
      have := i1 r hr
      rw [this.1, this.2]
      rw [hr_t_s, hr_t_s]
      unfold u_up
      by_cases hk0 : r = r0
      · rw [if_pos hk0, if_pos hk0, if_pos (show v x = (r : Int) by omega), if_pos (show v x = (r : Int) by omega), hk0]
        omega
      · rw [if_neg hk0, if_neg hk0, if_neg (show ¬ v x = (r : Int) by omega), if_neg (show ¬ v x = (r : Int) by omega)]
        omega
/-! who is in a room, as bits -/
def hr_bb (c : Nat → Bool) : Nat → Nat → Int → Int
  | 0, _, acc => acc
  | f + 1, x, acc => hr_bb c f (x + 1) (bif c x then z_or acc (z_shl 1 (x : Int)) else z_or acc 0)
theorem hr_b_bb {A : Nat → Int} {k : Int} {c : Nat → Bool} : ∀ (f x : Nat) (acc : Int), (∀ p, x ≤ p → p < x + f → (c p = true ↔ A (p + 18) = k)) → hr_b k f x A acc = hr_bb c f x acc := by
  intro f
  induction f with
  | zero => intro x acc h; rfl
  | succ f ih =>
    intro x acc h
    unfold hr_b hr_bb
    rw [ih (x + 1) _ (fun p h1 h2 => h p (by omega) (by omega))]
    have hx := h x (by omega) (by omega)
    by_cases e : A (x + 18) = k
    · rw [if_pos e, hx.mpr e]; rfl
    · rw [if_neg e]
      cases hc : c x with
      | true => exact absurd (hx.mp hc) e
      | false => rfl
theorem hr_bb_cg {c c' : Nat → Bool} : ∀ (f x : Nat) (acc : Int), (∀ p, x ≤ p → p < x + f → c p = c' p) → hr_bb c f x acc = hr_bb c' f x acc := by
  intro f
  induction f with
  | zero => intro x acc h; rfl
  | succ f ih =>
    intro x acc h
    unfold hr_bb
    rw [h x (by omega) (by omega), ih (x + 1) _ (fun p h1 h2 => h p (by omega) (by omega))]
theorem hr_ex_t (c : Nat → Bool) : ∃ t, t < 32 ∧ ∀ p, p < 5 → c p = Nat.testBit t p := by
  have h : ∀ b0 b1 b2 b3 b4 : Bool, ∃ t : Fin 32, b0 = Nat.testBit t.val 0 ∧ b1 = Nat.testBit t.val 1 ∧ b2 = Nat.testBit t.val 2 ∧ b3 = Nat.testBit t.val 3 ∧ b4 = Nat.testBit t.val 4 := by decide +kernel
  obtain ⟨t, h0, h1, h2, h3, h4⟩ := h (c 0) (c 1) (c 2) (c 3) (c 4)
  refine ⟨t.val, t.isLt, fun p hp => ?_⟩
  rcases (show p = 0 ∨ p = 1 ∨ p = 2 ∨ p = 3 ∨ p = 4 by omega) with rfl | rfl | rfl | rfl | rfl
  · exact h0
  · exact h1
  · exact h2
  · exact h3
  · exact h4
def hr_bck (n t : Nat) : Bool := i_le 0 (hr_bb (Nat.testBit t) n 0 0) && (i_le (hr_bb (Nat.testBit t) n 0 0) 31 && (i_eq (hr_pc (hr_bb (Nat.testBit t) n 0 0)) (hr_t (fun p => bif Nat.testBit t p then 1 else 0) n 0) && (List.range n).all (fun p => i_eq (z_and (z_shr (hr_bb (Nat.testBit t) n 0 0) (p : Int)) 1) (bif Nat.testBit t p then 1 else 0))))
theorem hr_bcks : ((List.range 6).all fun n => (List.range 32).all fun t => hr_bck n t) = true := by decide +kernel
/-- the bits of those who are in a room -/
theorem hr_b_ok {n : Nat} (hn : n ≤ 5) (A : Nat → Int) (k : Int) : (∀ p, p < n → (z_and (z_shr (hr_b k n 0 A 0) (p : Int)) 1 = 1 ↔ A (p + 18) = k)) ∧ hr_pc (hr_b k n 0 A 0) = hr_t (fun p => if A (p + 18) = k then 1 else 0) n 0 ∧ 0 ≤ hr_b k n 0 A 0 ∧ hr_b k n 0 A 0 ≤ 31 := by
  obtain ⟨t, ht, hb⟩ := hr_ex_t (fun p => decide (A (p + 18) = k))
  have e1 : hr_b k n 0 A 0 = hr_bb (Nat.testBit t) n 0 0 := hr_b_bb n 0 0 (fun p _ hp => by
    rw [← hb p (by omega)]
    exact decide_eq_true_iff)
  have h := List.all_eq_true.mp (List.all_eq_true.mp hr_bcks n (List.mem_range.mpr (by omega))) t (List.mem_range.mpr ht)
  obtain ⟨h1, h⟩ := Bool.and_eq_true _ _ |>.mp h
  obtain ⟨h2, h⟩ := Bool.and_eq_true _ _ |>.mp h
  obtain ⟨h3, h4⟩ := Bool.and_eq_true _ _ |>.mp h
  have h3 := i_eq_iff.mp h3
  rw [e1]
  refine ⟨fun p hp => ?_, ?_, i_le_iff.mp h1, i_le_iff.mp h2⟩
  · have := i_eq_iff.mp (List.all_eq_true.mp h4 p (List.mem_range.mpr hp))
    rw [this, ← hb p (by omega)]
    by_cases c : A (p + 18) = k
    · rw [decide_eq_true c]; exact ⟨fun _ => c, fun _ => rfl⟩
    · rw [decide_eq_false c]; exact ⟨fun z => (by cases z), fun z => absurd z c⟩
  · rw [h3]
    refine hr_t_cg n 0 (fun p _ hp => ?_)
    rw [← hb p (by omega)]
    by_cases c : A (p + 18) = k
    · rw [decide_eq_true c, if_pos c]; rfl
    · rw [decide_eq_false c, if_neg c]; rfl
theorem hr_s_eq {wm : Nat → Int} {b : Int} (hwm : ∀ p, p < 5 → 0 ≤ wm p ∧ wm p ≤ 9) : ∀ (f x : Nat) (s : Int), x + f ≤ 5 → 0 ≤ s → s ≤ 9 + 9 * (x : Int) → hr_s wm b f x s = s + hr_t (fun p => if z_and (z_shr b (p : Int)) 1 = 1 then wm p else 0) f x := by
  intro f
  induction f with
  | zero => intro x s hx h0 h1; show s = s + 0; omega
  | succ f ih =>
    intro x s hx h0 h1
    have b1 := hwm x (by omega)
    unfold hr_s hr_t
    by_cases c : z_and (z_shr b (x : Int)) 1 = 1
    · rw [if_pos c, if_pos c, z_add_eq (by omega) (by omega), ih (x + 1) _ (by omega) (by omega) (by omega)]
      omega
    · rw [if_neg c, if_neg c, z_add_eq (by omega) (by omega), ih (x + 1) _ (by omega) (by omega) (by omega)]
      omega
/-! what melts in a room -/
def hr_mlok (ml : hr_M) : Prop := ∀ w i a f y n h : Int, 0 ≤ i → 0 ≤ ml w i a f y n h ∧ ml w i a f y n h ≤ i
/-- warmth in a room, those in it -/
def hr_W (heat : Int) (wm : Nat → Int) (n : Nat) (A : Nat → Int) (r : Nat) : Int := (if A 34 = (r : Int) then heat else 0) + hr_t (fun p => if A (p + 18) = (r : Int) then wm p else 0) n 0
def hr_C (n : Nat) (A : Nat → Int) (r : Nat) : Int := hr_t (fun p => if A (p + 18) = (r : Int) then 1 else 0) n 0
theorem hr_wb_eq {heat : Int} {wm : Nat → Int} {n : Nat} (hn : n ≤ 5) (hwm : ∀ p, p < 5 → 0 ≤ wm p ∧ wm p ≤ 9) (hh : 0 ≤ heat ∧ heat ≤ 9) (A : Nat → Int) (r : Nat) : hr_wb heat wm n A (r : Int) (hr_b (r : Int) n 0 A 0) = hr_W heat wm n A r := by
  have hb := (hr_b_ok hn A (r : Int)).1
  unfold hr_wb hr_W
  rw [hr_s_eq hwm n 0 _ (by omega) (by split <;> omega) (by split <;> omega)]
  congr 1
  refine hr_t_cg n 0 (fun p _ hp => ?_)
  have := hb p (by omega)
  by_cases c : A (p + 18) = (r : Int)
  · rw [if_pos c, if_pos (this.mpr c)]
  · rw [if_neg c, if_neg (fun z => c (this.mp z))]
theorem hr_mN_eq {heat : Int} {ml : hr_M} {wm : Nat → Int} {n : Nat} (hn : n ≤ 5) (hwm : ∀ p, p < 5 → 0 ≤ wm p ∧ wm p ≤ 9) (hh : 0 ≤ heat ∧ heat ≤ 9) (A : Nat → Int) (r : Nat) : hr_mN heat ml wm n A r = ml (hr_W heat wm n A r) (A r) (A (r + 9)) (A 36) ((r : Int) / 3) (hr_C n A r) (A 35) := by
  unfold hr_mN hr_mB
  rw [hr_wb_eq hn hwm hh A r, (hr_b_ok hn A (r : Int)).2.1]
  rfl
theorem hr_o_ne {wm : Nat → Int} {price : Int} : ∀ (f x : Nat) (A : Nat → Int) (j : Nat), x + f ≤ 5 → (j < 23 ∨ 28 ≤ j) → hr_o wm price f x A j = A j := by
  intro f
  induction f with
  | zero => intro x A j hx hj; rfl
  | succ f ih =>
    intro x A j hx hj
    unfold hr_o
    rw [ih (x + 1) _ j (by omega) hj]
    by_cases c : A (x + 18) = -1
    · rw [if_pos c]
    · rw [if_neg c]; unfold u_up; rw [if_neg (by omega)]
/-- the class's, by the reference's numbers -/
theorem hr_e_eq {heat price : Int} {ml : hr_M} {wm W0 C0 A : Nat → Int} {n : Nat} (hn : n ≤ 5) (hwm : ∀ p, p < 5 → 0 ≤ wm p ∧ wm p ≤ 9) (hh : 0 ≤ heat ∧ heat ≤ 9) (hml : hr_mlok ml) (hv : ∀ p, p < n → -1 ≤ A (p + 18) ∧ A (p + 18) ≤ 8) (h0 : ∀ k, k < 9 → W0 k = 0 ∧ C0 k = 0) {r : Nat} (hr : r < 9) : hr_e ml (hr_sv heat (A 34) (hr_g wm price n 0 W0 C0 A).1) (hr_g wm price n 0 W0 C0 A).2.1 r (hr_g wm price n 0 W0 C0 A).2.2 = hr_mN heat ml wm n A r := by
  have hv' : ∀ p, p < 5 → -1 ≤ (if p < n then A (p + 18) else 0) ∧ (if p < n then A (p + 18) else 0) ≤ 8 := fun p _ => by
    by_cases c : p < n
    · rw [if_pos c]; exact hv p c
    · rw [if_neg c]; omega
  obtain ⟨g1, g2⟩ := hr_g_eq (v := fun p => if p < n then A (p + 18) else 0) (price := price) hv' hwm n 0 W0 C0 A (by omega) (fun p hp => by rw [if_pos (by omega)]) (fun k hk => by rw [(h0 k hk).1]; omega) (fun k hk => by rw [(h0 k hk).2]; omega)
  have c1 : hr_t (fun p => if (if p < n then A (p + 18) else 0) = (r : Int) then wm p else 0) n 0 = hr_t (fun p => if A (p + 18) = (r : Int) then wm p else 0) n 0 := hr_t_cg n 0 (fun p _ hp => by rw [if_pos (show p < n by omega)])
  have c2 : hr_t (fun p => if (if p < n then A (p + 18) else 0) = (r : Int) then (1 : Int) else 0) n 0 = hr_t (fun p => if A (p + 18) = (r : Int) then 1 else 0) n 0 := hr_t_cg n 0 (fun p _ hp => by rw [if_pos (show p < n by omega)])
  have gr := g1 r hr
  rw [(h0 r hr).1, (h0 r hr).2, c1, c2, Int.zero_add, Int.zero_add] at gr
  have bt := hr_t_b (B := 9) (by omega) (g := fun p => if A (p + 18) = (r : Int) then wm p else 0) (fun p hp => by
    have := hwm p hp
    split <;> omega) n 0 (by omega)
  have eW : hr_sv heat (A 34) (hr_g wm price n 0 W0 C0 A).1 r = hr_W heat wm n A r := by
    unfold hr_sv hr_W
    by_cases d1 : A 34 < 0
    · rw [if_pos d1, if_neg (by omega), gr.1]; omega
    rw [if_neg d1]
    by_cases d2 : 9 ≤ A 34
    · rw [if_pos d2, if_neg (by omega), gr.1]; omega
    rw [if_neg d2]
    unfold u_up
    by_cases d3 : A 34 = (r : Int)
    · rw [if_pos (show r = (A 34).toNat by omega), if_pos d3, show (A 34).toNat = r by omega, gr.1, z_add_eq (by omega) (by omega)]
      omega
    · rw [if_neg (show ¬ r = (A 34).toNat by omega), if_neg d3, gr.1]; omega
  rw [hr_mN_eq hn hwm hh A r]
  unfold hr_e
  rw [g2, hr_o_ne n 0 A r (by omega) (by omega), hr_o_ne n 0 A (r + 9) (by omega) (by omega), hr_o_ne n 0 A 36 (by omega) (by omega), hr_o_ne n 0 A 35 (by omega) (by omega), eW, gr.2]
  by_cases c : A r = 0
  · rw [if_pos c]
    have := hml (hr_W heat wm n A r) (A r) (A (r + 9)) (A 36) ((r : Int) / 3) (hr_C n A r) (A 35) (by omega)
    omega
  · rw [if_neg c]
    rfl
/-! dripping in the one order and in the other -/
theorem hr_d1_ne {u e : Int} {r : Nat} {A : Nat → Int} {j : Nat} (h1 : ¬ j = r) (h2 : ¬ j = r + 9) (h3 : ¬ j = r + 12) (h4 : ¬ j = 33) : hr_d1 u e r A j = A j := by
  unfold hr_d1 u_up
  rw [if_neg h1, if_neg h2]
  by_cases c : u = 0
  · rw [if_pos c, if_neg h4]
  · rw [if_neg c, if_neg h3]
def hr_dc (w h : Int) (e : Nat → Int) : Nat → (Nat → Int) → (Nat → Int)
  | 0, A => A
  | r + 1, A => if u_hs w h (r : Int) = 0 then hr_dc w h e r A else hr_dc w h e r (hr_d1 (u_hs w h ((r : Int) + 3)) (e r) r A)
def hr_dm (w h : Int) (e : Nat → Int) : Nat → Int → Int
  | 0, t => t
  | r + 1, t => if u_hs w h (r : Int) = 0 then hr_dm w h e r t else hr_dm w h e r (z_add t (e r))
theorem hr_d_eq {w h b : Int} {ml : hr_M} {W C A1 e : Nat → Int} (hb : ∀ r : Nat, r < 9 → (z_and (z_shr b (r : Int)) 1 = 0 ↔ u_hs w h (r : Int) = 0)) (he : ∀ r : Nat, r < 9 → ¬ u_hs w h (r : Int) = 0 → hr_e ml W C r A1 = e r) : ∀ (f : Nat) (B : Nat → Int) (t : Int), f ≤ 9 → (∀ k, k < f → B k = A1 k ∧ B (k + 9) = A1 (k + 9)) → B 35 = A1 35 → B 36 = A1 36 → hr_d w h b ml W C f B t = (hr_dc w h e f B, hr_dm w h e f t) := by
  intro f
  induction f with
  | zero => intro B t hf hB h5 h6; rfl
  | succ f ih =>
    intro B t hf hB h5 h6
    unfold hr_d hr_dc hr_dm
    have hbf := hb f (by omega)
    by_cases c : u_hs w h (f : Int) = 0
    · rw [if_pos c, if_pos c, if_pos (hbf.mpr c)]
      exact ih B t (by omega) (fun k hk => hB k (by omega)) h5 h6
    · rw [if_neg c, if_neg c, if_neg (fun z => c (hbf.mp z))]
      have e1 : hr_e ml W C f B = e f := by
        rw [← he f (by omega) c]
        unfold hr_e
        rw [(hB f (by omega)).1, (hB f (by omega)).2, h5, h6]
      rw [e1]
      refine ih _ _ (by omega) (fun k hk => ?_) ?_ ?_
      · rw [hr_d1_ne (by omega) (by omega) (by omega) (by omega), hr_d1_ne (by omega) (by omega) (by omega) (by omega)]
        exact hB k (by omega)
      · rw [hr_d1_ne (by omega) (by omega) (by omega) (by omega)]; exact h5
      · rw [hr_d1_ne (by omega) (by omega) (by omega) (by omega)]; exact h6
def hr_dq (w h : Nat) (e : Nat → Int) : Nat → (Nat → Int) → (Nat → Int)
  | 0, A => A
  | r + 1, A => bif hq w h r then hr_dq w h e r (hr_d1 (bif hq w h (r + 3) then 1 else 0) (e r) r A) else hr_dq w h e r A
theorem hr_dc_q {w h : Nat} (hw : w ≤ 3) (hh : h ≤ 3) {e : Nat → Int} : ∀ (f : Nat) (A : Nat → Int), f ≤ 9 → hr_dc (w : Int) (h : Int) e f A = hr_dq w h e f A := by
  intro f
  induction f with
  | zero => intro A hf; rfl
  | succ f ih =>
    intro A hf
    unfold hr_dc hr_dq
    rw [u_hs_q hw hh (r := f) (by omega), show (f : Int) + 3 = ((f + 3 : Nat) : Int) by omega, u_hs_q hw hh (r := f + 3) (by omega)]
    cases hq w h f with
    | true => rw [cond_true, if_neg (by decide)]; exact ih _ (by omega)
    | false => rw [cond_false, if_pos rfl]; exact ih _ (by omega)
theorem z_add2 {p a b : Int} : z_add (z_add p a) b = z_add (z_add p b) a := by rw [z_add_as, z_add_as, z_add_cm (a := a)]
theorem z_add3 {p a b c : Int} : z_add (z_add (z_add p a) b) c = z_add (z_add (z_add p c) b) a := by rw [z_add2 (p := z_add p a), z_add2 (p := p) (a := a), z_add2 (p := z_add p c)]
theorem hr_d1_at0 {u e : Int} {r : Nat} {A : Nat → Int} {j : Nat} (hu : u = 0) : hr_d1 u e r A j = if j = r then z_sub (A r) e else if j = r + 9 then e else if j = 33 then z_add (A 33) (A (r + 9)) else A j := by
  unfold hr_d1
  rw [if_pos hu]
  rfl
theorem hr_d1_at1 {u e : Int} {r : Nat} {A : Nat → Int} {j : Nat} (hu : ¬ u = 0) : hr_d1 u e r A j = if j = r then z_sub (A r) e else if j = r + 9 then e else if j = r + 12 then z_add (A (r + 12)) (A (r + 9)) else A j := by
  unfold hr_d1
  rw [if_neg hu]
  rfl
/-- two of one row -/
theorem hr_d1_cm {u e e' : Int} {r r' : Nat} {A : Nat → Int} (h0 : r < 9) (h0' : r' < 9) (h1 : ¬ r = r') (h2 : ¬ r = r' + 3) (h3 : ¬ r' = r + 3) : hr_d1 u e r (hr_d1 u e' r' A) = hr_d1 u e' r' (hr_d1 u e r A) := by
  funext k
  by_cases hu : u = 0
  · have b1 : hr_d1 u e' r' A r = A r := by rw [hr_d1_at0 hu, if_neg (by omega), if_neg (by omega), if_neg (by omega)]
    have b2 : hr_d1 u e' r' A (r + 9) = A (r + 9) := by rw [hr_d1_at0 hu, if_neg (by omega), if_neg (by omega), if_neg (by omega)]
    have b3 : hr_d1 u e' r' A 33 = z_add (A 33) (A (r' + 9)) := by rw [hr_d1_at0 hu, if_neg (by omega), if_neg (by omega), if_pos rfl]
    have c1 : hr_d1 u e r A r' = A r' := by rw [hr_d1_at0 hu, if_neg (by omega), if_neg (by omega), if_neg (by omega)]
    have c2 : hr_d1 u e r A (r' + 9) = A (r' + 9) := by rw [hr_d1_at0 hu, if_neg (by omega), if_neg (by omega), if_neg (by omega)]
    have c3 : hr_d1 u e r A 33 = z_add (A 33) (A (r + 9)) := by rw [hr_d1_at0 hu, if_neg (by omega), if_neg (by omega), if_pos rfl]
    rw [hr_d1_at0 hu (A := hr_d1 u e' r' A), hr_d1_at0 hu (A := hr_d1 u e r A), b1, b2, b3, c1, c2, c3, hr_d1_at0 (e := e') (r := r') (A := A) (j := k) hu, hr_d1_at0 (e := e) (r := r) (A := A) (j := k) hu]
    by_cases k1 : k = r
    · rw [if_pos k1, if_neg (show ¬ k = r' by omega), if_neg (show ¬ k = r' + 9 by omega), if_neg (show ¬ k = 33 by omega), if_pos k1]
    by_cases k2 : k = r + 9
    · rw [if_neg (show ¬ k = r by omega), if_pos k2, if_neg (show ¬ k = r' by omega), if_neg (show ¬ k = r' + 9 by omega), if_neg (show ¬ k = 33 by omega), if_neg (show ¬ k = r by omega), if_pos k2]
    by_cases k3 : k = r'
    · rw [if_neg (show ¬ k = r by omega), if_neg (show ¬ k = r + 9 by omega), if_neg (show ¬ k = 33 by omega), if_pos k3, if_pos k3]
    by_cases k4 : k = r' + 9
    · rw [if_neg (show ¬ k = r by omega), if_neg (show ¬ k = r + 9 by omega), if_neg (show ¬ k = 33 by omega), if_neg (show ¬ k = r' by omega), if_neg (show ¬ k = r' by omega), if_pos k4, if_pos k4]
    by_cases k5 : k = 33
    · rw [if_neg (show ¬ k = r by omega), if_neg (show ¬ k = r + 9 by omega), if_pos k5, if_neg (show ¬ k = r' by omega), if_neg (show ¬ k = r' + 9 by omega), if_pos k5]
      exact z_add2
    rw [if_neg (show ¬ k = r by omega), if_neg (show ¬ k = r + 9 by omega), if_neg (show ¬ k = 33 by omega), if_neg (show ¬ k = r' by omega), if_neg (show ¬ k = r' + 9 by omega), if_neg (show ¬ k = 33 by omega), if_neg (show ¬ k = r' by omega), if_neg (show ¬ k = r' + 9 by omega), if_neg (show ¬ k = 33 by omega), if_neg (show ¬ k = r by omega), if_neg (show ¬ k = r + 9 by omega), if_neg (show ¬ k = 33 by omega)]
  · have b1 : hr_d1 u e' r' A r = A r := by rw [hr_d1_at1 hu, if_neg (by omega), if_neg (by omega), if_neg (by omega)]
    have b2 : hr_d1 u e' r' A (r + 9) = A (r + 9) := by rw [hr_d1_at1 hu, if_neg (by omega), if_neg (by omega), if_neg (by omega)]
    have b3 : hr_d1 u e' r' A (r + 12) = A (r + 12) := by rw [hr_d1_at1 hu, if_neg (by omega), if_neg (by omega), if_neg (by omega)]
    have c1 : hr_d1 u e r A r' = A r' := by rw [hr_d1_at1 hu, if_neg (by omega), if_neg (by omega), if_neg (by omega)]
    have c2 : hr_d1 u e r A (r' + 9) = A (r' + 9) := by rw [hr_d1_at1 hu, if_neg (by omega), if_neg (by omega), if_neg (by omega)]
    have c3 : hr_d1 u e r A (r' + 12) = A (r' + 12) := by rw [hr_d1_at1 hu, if_neg (by omega), if_neg (by omega), if_neg (by omega)]
    rw [hr_d1_at1 hu (A := hr_d1 u e' r' A), hr_d1_at1 hu (A := hr_d1 u e r A), b1, b2, b3, c1, c2, c3, hr_d1_at1 (e := e') (r := r') (A := A) (j := k) hu, hr_d1_at1 (e := e) (r := r) (A := A) (j := k) hu]
    by_cases k1 : k = r
    · rw [if_pos k1, if_neg (show ¬ k = r' by omega), if_neg (show ¬ k = r' + 9 by omega), if_neg (show ¬ k = r' + 12 by omega), if_pos k1]
    by_cases k2 : k = r + 9
    · rw [if_neg (show ¬ k = r by omega), if_pos k2, if_neg (show ¬ k = r' by omega), if_neg (show ¬ k = r' + 9 by omega), if_neg (show ¬ k = r' + 12 by omega), if_neg (show ¬ k = r by omega), if_pos k2]
    by_cases k3 : k = r'
    · rw [if_neg (show ¬ k = r by omega), if_neg (show ¬ k = r + 9 by omega), if_neg (show ¬ k = r + 12 by omega), if_pos k3, if_pos k3]
    by_cases k4 : k = r' + 9
    · rw [if_neg (show ¬ k = r by omega), if_neg (show ¬ k = r + 9 by omega), if_neg (show ¬ k = r + 12 by omega), if_neg (show ¬ k = r' by omega), if_neg (show ¬ k = r' by omega), if_pos k4, if_pos k4]
    by_cases k5 : k = r + 12
    · rw [if_neg (show ¬ k = r by omega), if_neg (show ¬ k = r + 9 by omega), if_pos k5, if_neg (show ¬ k = r' by omega), if_neg (show ¬ k = r' + 9 by omega), if_neg (show ¬ k = r' + 12 by omega), if_neg (show ¬ k = r by omega), if_neg (show ¬ k = r + 9 by omega), if_pos k5]
    by_cases k6 : k = r' + 12
    · rw [if_neg (show ¬ k = r by omega), if_neg (show ¬ k = r + 9 by omega), if_neg (show ¬ k = r + 12 by omega), if_neg (show ¬ k = r' by omega), if_neg (show ¬ k = r' by omega), if_neg (show ¬ k = r' + 9 by omega), if_neg (show ¬ k = r' + 9 by omega), if_pos k6, if_pos k6]
    rw [if_neg (show ¬ k = r by omega), if_neg (show ¬ k = r + 9 by omega), if_neg (show ¬ k = r + 12 by omega), if_neg (show ¬ k = r' by omega), if_neg (show ¬ k = r' + 9 by omega), if_neg (show ¬ k = r' + 12 by omega), if_neg (show ¬ k = r' by omega), if_neg (show ¬ k = r' + 9 by omega), if_neg (show ¬ k = r' + 12 by omega), if_neg (show ¬ k = r by omega), if_neg (show ¬ k = r + 9 by omega), if_neg (show ¬ k = r + 12 by omega)]
def hr_Y2 (u : Int) (e : Nat → Int) (r : Nat) (B : Nat → Int) : Nat → Int := hr_d1 u (e r) r (hr_d1 u (e (r + 1)) (r + 1) B)
def hr_X2 (u : Int) (e : Nat → Int) (r : Nat) (B : Nat → Int) : Nat → Int := hr_d1 u (e (r + 1)) (r + 1) (hr_d1 u (e r) r B)
def hr_Y3 (u : Int) (e : Nat → Int) (r : Nat) (B : Nat → Int) : Nat → Int := hr_d1 u (e r) r (hr_d1 u (e (r + 1)) (r + 1) (hr_d1 u (e (r + 2)) (r + 2) B))
def hr_X3 (u : Int) (e : Nat → Int) (r : Nat) (B : Nat → Int) : Nat → Int := hr_d1 u (e (r + 2)) (r + 2) (hr_d1 u (e (r + 1)) (r + 1) (hr_d1 u (e r) r B))
theorem hr_XY2 {u : Int} {e : Nat → Int} {r : Nat} {B : Nat → Int} (h : r + 1 < 9) : hr_Y2 u e r B = hr_X2 u e r B := hr_d1_cm (by omega) h (by omega) (by omega) (by omega)
theorem hr_XY3 {u : Int} {e : Nat → Int} {r : Nat} {B : Nat → Int} (h : r + 2 < 9) : hr_Y3 u e r B = hr_X3 u e r B := by
  have a1 : hr_d1 u (e r) r (hr_d1 u (e (r + 1)) (r + 1) (hr_d1 u (e (r + 2)) (r + 2) B)) = hr_d1 u (e (r + 1)) (r + 1) (hr_d1 u (e r) r (hr_d1 u (e (r + 2)) (r + 2) B)) := hr_d1_cm (by omega) (by omega) (by omega) (by omega) (by omega)
  have a2 : hr_d1 u (e r) r (hr_d1 u (e (r + 2)) (r + 2) B) = hr_d1 u (e (r + 2)) (r + 2) (hr_d1 u (e r) r B) := hr_d1_cm (by omega) h (by omega) (by omega) (by omega)
  have a3 : hr_d1 u (e (r + 1)) (r + 1) (hr_d1 u (e (r + 2)) (r + 2) (hr_d1 u (e r) r B)) = hr_d1 u (e (r + 2)) (r + 2) (hr_d1 u (e (r + 1)) (r + 1) (hr_d1 u (e r) r B)) := hr_d1_cm (by omega) h (by omega) (by omega) (by omega)
  unfold hr_Y3 hr_X3
  rw [a1, a2, a3]
theorem hr_bq_00 (e A : Nat → Int) : hr_dq 0 0 e 9 A = hr_y 0 0 e 0 A := by
  rfl
theorem hr_bq_01 (e A : Nat → Int) : hr_dq 0 1 e 9 A = hr_y 0 1 e 1 A := by
  rfl
theorem hr_bq_02 (e A : Nat → Int) : hr_dq 0 2 e 9 A = hr_y 0 2 e 2 A := by
  rfl
theorem hr_bq_03 (e A : Nat → Int) : hr_dq 0 3 e 9 A = hr_y 0 3 e 3 A := by
  rfl
theorem hr_bq_10 (e A : Nat → Int) : hr_dq 1 0 e 9 A = hr_y 1 0 e 0 A := by
  rfl
theorem hr_bq_11 (e A : Nat → Int) : hr_dq 1 1 e 9 A = hr_y 1 1 e 1 A := by
  rfl
theorem hr_bq_12 (e A : Nat → Int) : hr_dq 1 2 e 9 A = hr_y 1 2 e 2 A := by
  rfl
theorem hr_bq_13 (e A : Nat → Int) : hr_dq 1 3 e 9 A = hr_y 1 3 e 3 A := by
  rfl
theorem hr_bq_20 (e A : Nat → Int) : hr_dq 2 0 e 9 A = hr_y 2 0 e 0 A := by
  rfl
theorem hr_bq_21 (e A : Nat → Int) : hr_dq 2 1 e 9 A = hr_y 2 1 e 1 A := by
  show hr_Y2 0 e 0 A = hr_X2 0 e 0 A
  rw [hr_XY2 (by decide)]
theorem hr_bq_22 (e A : Nat → Int) : hr_dq 2 2 e 9 A = hr_y 2 2 e 2 A := by
  show hr_Y2 1 e 0 (hr_Y2 0 e 3 A) = hr_X2 1 e 0 (hr_X2 0 e 3 A)
  rw [hr_XY2 (by decide), hr_XY2 (by decide)]
theorem hr_bq_23 (e A : Nat → Int) : hr_dq 2 3 e 9 A = hr_y 2 3 e 3 A := by
  show hr_Y2 1 e 0 (hr_Y2 1 e 3 (hr_Y2 0 e 6 A)) = hr_X2 1 e 0 (hr_X2 1 e 3 (hr_X2 0 e 6 A))
  rw [hr_XY2 (by decide), hr_XY2 (by decide), hr_XY2 (by decide)]
theorem hr_bq_30 (e A : Nat → Int) : hr_dq 3 0 e 9 A = hr_y 3 0 e 0 A := by
  rfl
theorem hr_bq_31 (e A : Nat → Int) : hr_dq 3 1 e 9 A = hr_y 3 1 e 1 A := by
  show hr_Y3 0 e 0 A = hr_X3 0 e 0 A
  rw [hr_XY3 (by decide)]
theorem hr_bq_32 (e A : Nat → Int) : hr_dq 3 2 e 9 A = hr_y 3 2 e 2 A := by
  show hr_Y3 1 e 0 (hr_Y3 0 e 3 A) = hr_X3 1 e 0 (hr_X3 0 e 3 A)
  rw [hr_XY3 (by decide), hr_XY3 (by decide)]
theorem hr_bq_33 (e A : Nat → Int) : hr_dq 3 3 e 9 A = hr_y 3 3 e 3 A := by
  show hr_Y3 1 e 0 (hr_Y3 1 e 3 (hr_Y3 0 e 6 A)) = hr_X3 1 e 0 (hr_X3 1 e 3 (hr_X3 0 e 6 A))
  rw [hr_XY3 (by decide), hr_XY3 (by decide), hr_XY3 (by decide)]
theorem hr_dq_ne {w h : Nat} {e : Nat → Int} {j : Nat} (hj : 21 ≤ j) (h33 : ¬ j = 33) : ∀ (f : Nat) (A : Nat → Int), f ≤ 9 → hr_dq w h e f A j = A j := by
  intro f
  induction f with
  | zero => intro A hf; rfl
  | succ f ih =>
    intro A hf
    unfold hr_dq
    cases hq w h f with
    | true => rw [cond_true, ih _ (by omega), hr_d1_ne (by omega) (by omega) (by omega) h33]
    | false => rw [cond_false]; exact ih _ (by omega)
theorem hr_x_ne {h y w : Nat} (hy : y < 3) (hw : w ≤ 3) {e : Nat → Int} {j : Nat} (hj : 21 ≤ j) (h33 : ¬ j = 33) : ∀ (f x : Nat) (A : Nat → Int), x + f = w → hr_x h e y f x A j = A j := by
  intro f
  induction f with
  | zero => intro x A hx; rfl
  | succ f ih =>
    intro x A hx
    unfold hr_x
    rw [ih (x + 1) _ (by omega), hr_d1_ne (by omega) (by omega) (by omega) h33]
theorem hr_y_ne {w h : Nat} (hw : w ≤ 3) {e : Nat → Int} {j : Nat} (hj : 21 ≤ j) (h33 : ¬ j = 33) : ∀ (y : Nat) (A : Nat → Int), y ≤ 3 → hr_y w h e y A j = A j := by
  intro y
  induction y with
  | zero => intro A hy; rfl
  | succ y ih =>
    intro A hy
    unfold hr_y
    rw [ih _ (by omega), hr_x_ne (by omega) hw hj h33 w 0 A (by omega)]
theorem hr_dq_y {w h : Nat} (hw : w ≤ 3) (hh : h ≤ 3) (e A : Nat → Int) : hr_dq w h e 9 A = hr_y w h e h A := by
  rcases (show w = 0 ∨ w = 1 ∨ w = 2 ∨ w = 3 by omega) with rfl | rfl | rfl | rfl <;> rcases (show h = 0 ∨ h = 1 ∨ h = 2 ∨ h = 3 by omega) with rfl | rfl | rfl | rfl
  · exact hr_bq_00 e A
  · exact hr_bq_01 e A
  · exact hr_bq_02 e A
  · exact hr_bq_03 e A
  · exact hr_bq_10 e A
  · exact hr_bq_11 e A
  · exact hr_bq_12 e A
  · exact hr_bq_13 e A
  · exact hr_bq_20 e A
  · exact hr_bq_21 e A
  · exact hr_bq_22 e A
  · exact hr_bq_23 e A
  · exact hr_bq_30 e A
  · exact hr_bq_31 e A
  · exact hr_bq_32 e A
  · exact hr_bq_33 e A
/-! freezing and giving way -/
theorem u_up_cm {A : Nat → Int} {i j : Nat} {v x : Int} (h : ¬ i = j) : u_up (u_up A i v) j x = u_up (u_up A j x) i v := by
  funext k
  unfold u_up
  by_cases h1 : k = j
  · rw [if_pos h1, if_neg (by omega), if_pos h1]
  · rw [if_neg h1, if_neg h1]
theorem u_up_ne {A : Nat → Int} {i j : Nat} {v : Int} (h : ¬ j = i) : u_up A i v j = A j := by unfold u_up; rw [if_neg h]
theorem u_up_self {A : Nat → Int} {i : Nat} {v : Int} : u_up A i v i = v := by unfold u_up; rw [if_pos rfl]
theorem hr_f_ne {r : Nat} {A : Nat → Int} {j : Nat} (h1 : ¬ j = r) (h2 : ¬ j = r + 9) : hr_f r A j = A j := by
  unfold hr_f
  rw [u_up_ne h1, u_up_ne h2]
/-- a change far from ICE and WATER and FROST commutes with freezing -/
theorem hr_f_up {r : Nat} (hr : r < 9) {A : Nat → Int} {j : Nat} {v : Int} (h1 : 18 ≤ j) (h2 : ¬ j = 36) : hr_f r (u_up A j v) = u_up (hr_f r A) j v := by
  unfold hr_f
  rw [u_up_ne (show ¬ 36 = j by omega), u_up_ne (show ¬ r + 9 = j by omega), u_up_ne (show ¬ r = j by omega), u_up_cm (i := j) (j := r + 9) (by omega), u_up_cm (i := j) (j := r) (by omega)]
theorem hr_F_up {w h : Int} {j : Nat} {v : Int} (h1 : 18 ≤ j) (h2 : ¬ j = 36) : ∀ (f x : Nat) (A : Nat → Int), x + f ≤ 9 → hr_F w h f x (u_up A j v) = u_up (hr_F w h f x A) j v := by
  intro f
  induction f with
  | zero => intro x A hx; rfl
  | succ f ih =>
    intro x A hx
    unfold hr_F
    by_cases c : u_hs w h (x : Int) = 0
    · rw [if_pos c, if_pos c]; exact ih (x + 1) A (by omega)
    · rw [if_neg c, if_neg c, hr_f_up (by omega) h1 h2]; exact ih (x + 1) _ (by omega)
theorem hr_F_hi {w h : Int} {j : Nat} (h1 : 18 ≤ j) : ∀ (f x : Nat) (A : Nat → Int), x + f ≤ 9 → hr_F w h f x A j = A j := by
  intro f
  induction f with
  | zero => intro x A hx; rfl
  | succ f ih =>
    intro x A hx
    unfold hr_F
    rw [ih (x + 1) _ (by omega)]
    by_cases c : u_hs w h (x : Int) = 0
    · rw [if_pos c]
    · rw [if_neg c, hr_f_ne (by omega) (by omega)]
theorem hr_F_lo {w h : Int} {j : Nat} : ∀ (f x : Nat) (A : Nat → Int), x + f ≤ 9 → j < x → hr_F w h f x A j = A j := by
  intro f
  induction f with
  | zero => intro x A hx hj; rfl
  | succ f ih =>
    intro x A hx hj
    unfold hr_F
    rw [ih (x + 1) _ (by omega) (by omega)]
    by_cases c : u_hs w h (x : Int) = 0
    · rw [if_pos c]
    · rw [if_neg c, hr_f_ne (by omega) (by omega)]
theorem hr_p_F {w h : Int} {fF xF : Nat} (hF : xF + fF ≤ 9) {r to : Int} : ∀ (f x : Nat) (A : Nat → Int) (fb fm : Int), x + f ≤ 5 → hr_p r to f x (hr_F w h fF xF A) fb fm = (hr_F w h fF xF (hr_p r to f x A fb fm).1, (hr_p r to f x A fb fm).2) := by
  intro f
  induction f with
  | zero => intro x A fb fm hx; rfl
  | succ f ih =>
    intro x A fb fm hx
    unfold hr_p
    rw [hr_F_hi (by omega) fF xF A hF, hr_F_hi (by omega) fF xF A hF]
    by_cases c : A (x + 18) = r
    · rw [if_pos c, if_pos c, ← hr_F_up (by omega) (by omega) fF xF A hF, ← hr_F_up (by omega) (by omega) fF xF _ hF]
      exact ih (x + 1) _ _ _ (by omega)
    · rw [if_neg c, if_neg c]
      exact ih (x + 1) _ _ _ (by omega)
theorem hr_st_F {w h : Int} {fF xF : Nat} (hF : xF + fF ≤ 9) {r to : Int} (A : Nat → Int) : hr_st r to (hr_F w h fF xF A) = hr_F w h fF xF (hr_st r to A) := by
  unfold hr_st
  rw [hr_F_hi (by omega) fF xF A hF]
  by_cases c : A 34 = r
  · rw [if_pos c, if_pos c, hr_F_up (by omega) (by omega) fF xF A hF]
  · rw [if_neg c, if_neg c]
theorem hr_p_up34 {r to v : Int} : ∀ (f x : Nat) (A : Nat → Int) (fb fm : Int), x + f ≤ 5 → hr_p r to f x (u_up A 34 v) fb fm = (u_up (hr_p r to f x A fb fm).1 34 v, (hr_p r to f x A fb fm).2) := by
  intro f
  induction f with
  | zero => intro x A fb fm hx; rfl
  | succ f ih =>
    intro x A fb fm hx
    unfold hr_p
    rw [u_up_ne (show ¬ x + 18 = 34 by omega), u_up_ne (show ¬ x + 28 = 34 by omega)]
    by_cases c : A (x + 18) = r
    · rw [if_pos c, if_pos c, u_up_cm (i := 34) (j := x + 18) (by omega), u_up_cm (i := 34) (j := x + 28) (by omega)]
      exact ih (x + 1) _ _ _ (by omega)
    · rw [if_neg c, if_neg c]
      exact ih (x + 1) _ _ _ (by omega)
theorem hr_p_hi {r to : Int} {j : Nat} (hj : j < 18 ∨ 33 ≤ j) : ∀ (f x : Nat) (A : Nat → Int) (fb fm : Int), x + f ≤ 5 → (hr_p r to f x A fb fm).1 j = A j := by
  intro f
  induction f with
  | zero => intro x A fb fm hx; rfl
  | succ f ih =>
    intro x A fb fm hx
    unfold hr_p
    by_cases c : A (x + 18) = r
    · rw [if_pos c, ih (x + 1) _ _ _ (by omega), u_up_ne (by omega), u_up_ne (by omega)]
    · rw [if_neg c]
      exact ih (x + 1) _ _ _ (by omega)
/-- first the persons, then the stove; or the other way round -/
theorem hr_st_p {r to : Int} {n : Nat} (hn : n ≤ 5) (A : Nat → Int) (fb fm : Int) : hr_p r to n 0 (hr_st r to A) fb fm = (hr_st r to (hr_p r to n 0 A fb fm).1, (hr_p r to n 0 A fb fm).2) := by
  unfold hr_st
  rw [hr_p_hi (Or.inr (by decide)) n 0 A fb fm (by omega)]
  by_cases c : A 34 = r
  · rw [if_pos c, if_pos c]; exact hr_p_up34 n 0 A fb fm (by omega)
  · rw [if_neg c, if_neg c]
theorem hr_q_k {w h b : Int} {n : Nat} (hn : n ≤ 5) (hb : ∀ r : Nat, r < 9 → (z_and (z_shr b (r : Int)) 1 = 0 ↔ u_hs w h (r : Int) = 0)) : ∀ (f x : Nat) (A : Nat → Int) (g fb fm : Int), x + f ≤ 9 → hr_q w h b n f x A g fb fm = hr_k w h n f x (hr_F w h f x A) g fb fm := by
  intro f
  induction f with
  | zero => intro x A g fb fm hx; rfl
  | succ f ih =>
    intro x A g fb fm hx
    have hbx := hb x (by omega)
    unfold hr_q hr_k
    by_cases c : u_hs w h (x : Int) = 0
    · have e : hr_F w h (f + 1) x A = hr_F w h f (x + 1) A := by unfold hr_F; rw [if_pos c]; cases f <;> rfl
      rw [if_pos c, if_pos (hbx.mpr c), e]
      exact ih (x + 1) A g fb fm (by omega)
    have e : hr_F w h (f + 1) x A = hr_F w h f (x + 1) (hr_f x A) := by
      show hr_F w h f (x + 1) (if u_hs w h (x : Int) = 0 then A else hr_f x A) = _
      rw [if_neg c]
    rw [if_neg c, if_neg (fun z => c (hbx.mp z)), e, hr_F_lo f (x + 1) _ (by omega) (by omega)]
    by_cases c2 : hr_f x A x = 0
    · rw [if_pos c2, if_pos c2, hr_st_F (by omega), hr_p_F (by omega) n 0 _ fb fm (by omega), hr_st_p hn]
      exact ih (x + 1) _ _ _ _ (by omega)
    · rw [if_neg c2, if_neg c2]
      exact ih (x + 1) _ _ _ _ (by omega)
/-! counts that go on -/
theorem hr_p_fm {r to : Int} : ∀ (f x : Nat) (A : Nat → Int) (fb fm d : Int), hr_p r to f x A fb (z_add d fm) = ((hr_p r to f x A fb fm).1, (hr_p r to f x A fb fm).2.1, z_add d (hr_p r to f x A fb fm).2.2) := by
  intro f
  induction f with
  | zero => intro x A fb fm d; rfl
  | succ f ih =>
    intro x A fb fm d
    unfold hr_p
    by_cases c : A (x + 18) = r
    · rw [if_pos c, if_pos c, z_add_as]
      exact ih (x + 1) _ _ _ _
    · rw [if_neg c, if_neg c]
      exact ih (x + 1) _ _ _ _
theorem hr_k_fm {w h : Int} {n : Nat} : ∀ (f x : Nat) (A : Nat → Int) (g fb fm d : Int), hr_k w h n f x A g fb (z_add d fm) = ((hr_k w h n f x A g fb fm).1, (hr_k w h n f x A g fb fm).2.1, (hr_k w h n f x A g fb fm).2.2.1, z_add d (hr_k w h n f x A g fb fm).2.2.2) := by
  intro f
  induction f with
  | zero => intro x A g fb fm d; rfl
  | succ f ih =>
    intro x A g fb fm d
    unfold hr_k
    by_cases c : u_hs w h (x : Int) = 0
    · rw [if_pos c, if_pos c]; exact ih (x + 1) _ _ _ _ _
    rw [if_neg c, if_neg c]
    by_cases c2 : A x = 0
    · rw [if_pos c2, if_pos c2, hr_p_fm]
      exact ih (x + 1) _ _ _ _ _
    · rw [if_neg c2, if_neg c2]; exact ih (x + 1) _ _ _ _ _
def hr_sd (g : Nat → Int) : Nat → Int
  | 0 => 0
  | r + 1 => hr_sd g r + g r
theorem hr_dm_w {w h : Int} {e : Nat → Int} : ∀ (f : Nat) (t : Int), z_w t = t → hr_dm w h e f t = z_w (t + hr_sd (fun r => if u_hs w h (r : Int) = 0 then 0 else e r) f) := by
  intro f
  induction f with
  | zero => intro t ht; show t = z_w (t + 0); rw [Int.add_zero, ht]
  | succ f ih =>
    intro t ht
    unfold hr_dm hr_sd
    by_cases c : u_hs w h (f : Int) = 0
    · rw [if_pos c, if_pos c, ih t ht, Int.add_zero]
    · rw [if_neg c, if_neg c, ih _ (by rw [z_add_w]; exact z_w_w), z_add_w, z_w_l]
      congr 1
      omega
theorem hr_ms_w {e : Nat → Int} : ∀ (f x : Nat) (t : Int), z_w t = t → hr_ms e f x t = z_w (t + hr_t e f x) := by
  intro f
  induction f with
  | zero => intro x t ht; show t = z_w (t + 0); rw [Int.add_zero, ht]
  | succ f ih =>
    intro x t ht
    unfold hr_ms hr_t
    rw [ih (x + 1) _ (by rw [z_add_w]; exact z_w_w), z_add_w, z_w_l]
    congr 1
    omega
theorem hr_sd_t (g : Nat → Int) : hr_sd g 9 = hr_t g 9 0 := by
  show 0 + g 0 + g 1 + g 2 + g 3 + g 4 + g 5 + g 6 + g 7 + g 8 = g 0 + (g 1 + (g 2 + (g 3 + (g 4 + (g 5 + (g 6 + (g 7 + (g 8 + 0))))))))
  omega
theorem hr_cl_00 (e A : Nat → Int) : ∀ k, k < 9 → hr_dq 0 0 e 9 A k = (bif hq 0 0 k then z_sub (A k) (e k) else A k) ∧ hr_dq 0 0 e 9 A (k + 9) = (bif hq 0 0 k then (bif Nat.ble 3 k then z_add (e k) (A (k + 6)) else e k) else A (k + 9)) := by
  intro k hk
  rcases (show k = 0 ∨ k = 1 ∨ k = 2 ∨ k = 3 ∨ k = 4 ∨ k = 5 ∨ k = 6 ∨ k = 7 ∨ k = 8 by omega) with rfl | rfl | rfl | rfl | rfl | rfl | rfl | rfl | rfl
  · exact ⟨rfl, rfl⟩
  · exact ⟨rfl, rfl⟩
  · exact ⟨rfl, rfl⟩
  · exact ⟨rfl, rfl⟩
  · exact ⟨rfl, rfl⟩
  · exact ⟨rfl, rfl⟩
  · exact ⟨rfl, rfl⟩
  · exact ⟨rfl, rfl⟩
  · exact ⟨rfl, rfl⟩
theorem hr_cl_01 (e A : Nat → Int) : ∀ k, k < 9 → hr_dq 0 1 e 9 A k = (bif hq 0 1 k then z_sub (A k) (e k) else A k) ∧ hr_dq 0 1 e 9 A (k + 9) = (bif hq 0 1 k then (bif Nat.ble 3 k then z_add (e k) (A (k + 6)) else e k) else A (k + 9)) := by
  intro k hk
  rcases (show k = 0 ∨ k = 1 ∨ k = 2 ∨ k = 3 ∨ k = 4 ∨ k = 5 ∨ k = 6 ∨ k = 7 ∨ k = 8 by omega) with rfl | rfl | rfl | rfl | rfl | rfl | rfl | rfl | rfl
  · exact ⟨rfl, rfl⟩
  · exact ⟨rfl, rfl⟩
  · exact ⟨rfl, rfl⟩
  · exact ⟨rfl, rfl⟩
  · exact ⟨rfl, rfl⟩
  · exact ⟨rfl, rfl⟩
  · exact ⟨rfl, rfl⟩
  · exact ⟨rfl, rfl⟩
  · exact ⟨rfl, rfl⟩
theorem hr_cl_02 (e A : Nat → Int) : ∀ k, k < 9 → hr_dq 0 2 e 9 A k = (bif hq 0 2 k then z_sub (A k) (e k) else A k) ∧ hr_dq 0 2 e 9 A (k + 9) = (bif hq 0 2 k then (bif Nat.ble 3 k then z_add (e k) (A (k + 6)) else e k) else A (k + 9)) := by
  intro k hk
  rcases (show k = 0 ∨ k = 1 ∨ k = 2 ∨ k = 3 ∨ k = 4 ∨ k = 5 ∨ k = 6 ∨ k = 7 ∨ k = 8 by omega) with rfl | rfl | rfl | rfl | rfl | rfl | rfl | rfl | rfl
  · exact ⟨rfl, rfl⟩
  · exact ⟨rfl, rfl⟩
  · exact ⟨rfl, rfl⟩
  · exact ⟨rfl, rfl⟩
  · exact ⟨rfl, rfl⟩
  · exact ⟨rfl, rfl⟩
  · exact ⟨rfl, rfl⟩
  · exact ⟨rfl, rfl⟩
  · exact ⟨rfl, rfl⟩
theorem hr_cl_03 (e A : Nat → Int) : ∀ k, k < 9 → hr_dq 0 3 e 9 A k = (bif hq 0 3 k then z_sub (A k) (e k) else A k) ∧ hr_dq 0 3 e 9 A (k + 9) = (bif hq 0 3 k then (bif Nat.ble 3 k then z_add (e k) (A (k + 6)) else e k) else A (k + 9)) := by
  intro k hk
  rcases (show k = 0 ∨ k = 1 ∨ k = 2 ∨ k = 3 ∨ k = 4 ∨ k = 5 ∨ k = 6 ∨ k = 7 ∨ k = 8 by omega) with rfl | rfl | rfl | rfl | rfl | rfl | rfl | rfl | rfl
  · exact ⟨rfl, rfl⟩
  · exact ⟨rfl, rfl⟩
  · exact ⟨rfl, rfl⟩
  · exact ⟨rfl, rfl⟩
  · exact ⟨rfl, rfl⟩
  · exact ⟨rfl, rfl⟩
  · exact ⟨rfl, rfl⟩
  · exact ⟨rfl, rfl⟩
  · exact ⟨rfl, rfl⟩
theorem hr_cl_10 (e A : Nat → Int) : ∀ k, k < 9 → hr_dq 1 0 e 9 A k = (bif hq 1 0 k then z_sub (A k) (e k) else A k) ∧ hr_dq 1 0 e 9 A (k + 9) = (bif hq 1 0 k then (bif Nat.ble 3 k then z_add (e k) (A (k + 6)) else e k) else A (k + 9)) := by
  intro k hk
  rcases (show k = 0 ∨ k = 1 ∨ k = 2 ∨ k = 3 ∨ k = 4 ∨ k = 5 ∨ k = 6 ∨ k = 7 ∨ k = 8 by omega) with rfl | rfl | rfl | rfl | rfl | rfl | rfl | rfl | rfl
  · exact ⟨rfl, rfl⟩
  · exact ⟨rfl, rfl⟩
  · exact ⟨rfl, rfl⟩
  · exact ⟨rfl, rfl⟩
  · exact ⟨rfl, rfl⟩
  · exact ⟨rfl, rfl⟩
  · exact ⟨rfl, rfl⟩
  · exact ⟨rfl, rfl⟩
  · exact ⟨rfl, rfl⟩
theorem hr_cl_11 (e A : Nat → Int) : ∀ k, k < 9 → hr_dq 1 1 e 9 A k = (bif hq 1 1 k then z_sub (A k) (e k) else A k) ∧ hr_dq 1 1 e 9 A (k + 9) = (bif hq 1 1 k then (bif Nat.ble 3 k then z_add (e k) (A (k + 6)) else e k) else A (k + 9)) := by
  intro k hk
  rcases (show k = 0 ∨ k = 1 ∨ k = 2 ∨ k = 3 ∨ k = 4 ∨ k = 5 ∨ k = 6 ∨ k = 7 ∨ k = 8 by omega) with rfl | rfl | rfl | rfl | rfl | rfl | rfl | rfl | rfl
  · exact ⟨rfl, rfl⟩
  · exact ⟨rfl, rfl⟩
  · exact ⟨rfl, rfl⟩
  · exact ⟨rfl, rfl⟩
  · exact ⟨rfl, rfl⟩
  · exact ⟨rfl, rfl⟩
  · exact ⟨rfl, rfl⟩
  · exact ⟨rfl, rfl⟩
  · exact ⟨rfl, rfl⟩
theorem hr_cl_12 (e A : Nat → Int) : ∀ k, k < 9 → hr_dq 1 2 e 9 A k = (bif hq 1 2 k then z_sub (A k) (e k) else A k) ∧ hr_dq 1 2 e 9 A (k + 9) = (bif hq 1 2 k then (bif Nat.ble 3 k then z_add (e k) (A (k + 6)) else e k) else A (k + 9)) := by
  intro k hk
  rcases (show k = 0 ∨ k = 1 ∨ k = 2 ∨ k = 3 ∨ k = 4 ∨ k = 5 ∨ k = 6 ∨ k = 7 ∨ k = 8 by omega) with rfl | rfl | rfl | rfl | rfl | rfl | rfl | rfl | rfl
  · exact ⟨rfl, rfl⟩
  · exact ⟨rfl, rfl⟩
  · exact ⟨rfl, rfl⟩
  · exact ⟨rfl, rfl⟩
  · exact ⟨rfl, rfl⟩
  · exact ⟨rfl, rfl⟩
  · exact ⟨rfl, rfl⟩
  · exact ⟨rfl, rfl⟩
  · exact ⟨rfl, rfl⟩
theorem hr_cl_13 (e A : Nat → Int) : ∀ k, k < 9 → hr_dq 1 3 e 9 A k = (bif hq 1 3 k then z_sub (A k) (e k) else A k) ∧ hr_dq 1 3 e 9 A (k + 9) = (bif hq 1 3 k then (bif Nat.ble 3 k then z_add (e k) (A (k + 6)) else e k) else A (k + 9)) := by
  intro k hk
  rcases (show k = 0 ∨ k = 1 ∨ k = 2 ∨ k = 3 ∨ k = 4 ∨ k = 5 ∨ k = 6 ∨ k = 7 ∨ k = 8 by omega) with rfl | rfl | rfl | rfl | rfl | rfl | rfl | rfl | rfl
  · exact ⟨rfl, rfl⟩
  · exact ⟨rfl, rfl⟩
  · exact ⟨rfl, rfl⟩
  · exact ⟨rfl, rfl⟩
  · exact ⟨rfl, rfl⟩
  · exact ⟨rfl, rfl⟩
  · exact ⟨rfl, rfl⟩
  · exact ⟨rfl, rfl⟩
  · exact ⟨rfl, rfl⟩
theorem hr_cl_20 (e A : Nat → Int) : ∀ k, k < 9 → hr_dq 2 0 e 9 A k = (bif hq 2 0 k then z_sub (A k) (e k) else A k) ∧ hr_dq 2 0 e 9 A (k + 9) = (bif hq 2 0 k then (bif Nat.ble 3 k then z_add (e k) (A (k + 6)) else e k) else A (k + 9)) := by
  intro k hk
  rcases (show k = 0 ∨ k = 1 ∨ k = 2 ∨ k = 3 ∨ k = 4 ∨ k = 5 ∨ k = 6 ∨ k = 7 ∨ k = 8 by omega) with rfl | rfl | rfl | rfl | rfl | rfl | rfl | rfl | rfl
  · exact ⟨rfl, rfl⟩
  · exact ⟨rfl, rfl⟩
  · exact ⟨rfl, rfl⟩
  · exact ⟨rfl, rfl⟩
  · exact ⟨rfl, rfl⟩
  · exact ⟨rfl, rfl⟩
  · exact ⟨rfl, rfl⟩
  · exact ⟨rfl, rfl⟩
  · exact ⟨rfl, rfl⟩
theorem hr_cl_21 (e A : Nat → Int) : ∀ k, k < 9 → hr_dq 2 1 e 9 A k = (bif hq 2 1 k then z_sub (A k) (e k) else A k) ∧ hr_dq 2 1 e 9 A (k + 9) = (bif hq 2 1 k then (bif Nat.ble 3 k then z_add (e k) (A (k + 6)) else e k) else A (k + 9)) := by
  intro k hk
  rcases (show k = 0 ∨ k = 1 ∨ k = 2 ∨ k = 3 ∨ k = 4 ∨ k = 5 ∨ k = 6 ∨ k = 7 ∨ k = 8 by omega) with rfl | rfl | rfl | rfl | rfl | rfl | rfl | rfl | rfl
  · exact ⟨rfl, rfl⟩
  · exact ⟨rfl, rfl⟩
  · exact ⟨rfl, rfl⟩
  · exact ⟨rfl, rfl⟩
  · exact ⟨rfl, rfl⟩
  · exact ⟨rfl, rfl⟩
  · exact ⟨rfl, rfl⟩
  · exact ⟨rfl, rfl⟩
  · exact ⟨rfl, rfl⟩
theorem hr_cl_22 (e A : Nat → Int) : ∀ k, k < 9 → hr_dq 2 2 e 9 A k = (bif hq 2 2 k then z_sub (A k) (e k) else A k) ∧ hr_dq 2 2 e 9 A (k + 9) = (bif hq 2 2 k then (bif Nat.ble 3 k then z_add (e k) (A (k + 6)) else e k) else A (k + 9)) := by
  intro k hk
  rcases (show k = 0 ∨ k = 1 ∨ k = 2 ∨ k = 3 ∨ k = 4 ∨ k = 5 ∨ k = 6 ∨ k = 7 ∨ k = 8 by omega) with rfl | rfl | rfl | rfl | rfl | rfl | rfl | rfl | rfl
  · exact ⟨rfl, rfl⟩
  · exact ⟨rfl, rfl⟩
  · exact ⟨rfl, rfl⟩
  · exact ⟨rfl, rfl⟩
  · exact ⟨rfl, rfl⟩
  · exact ⟨rfl, rfl⟩
  · exact ⟨rfl, rfl⟩
  · exact ⟨rfl, rfl⟩
  · exact ⟨rfl, rfl⟩
theorem hr_cl_23 (e A : Nat → Int) : ∀ k, k < 9 → hr_dq 2 3 e 9 A k = (bif hq 2 3 k then z_sub (A k) (e k) else A k) ∧ hr_dq 2 3 e 9 A (k + 9) = (bif hq 2 3 k then (bif Nat.ble 3 k then z_add (e k) (A (k + 6)) else e k) else A (k + 9)) := by
  intro k hk
  rcases (show k = 0 ∨ k = 1 ∨ k = 2 ∨ k = 3 ∨ k = 4 ∨ k = 5 ∨ k = 6 ∨ k = 7 ∨ k = 8 by omega) with rfl | rfl | rfl | rfl | rfl | rfl | rfl | rfl | rfl
  · exact ⟨rfl, rfl⟩
  · exact ⟨rfl, rfl⟩
  · exact ⟨rfl, rfl⟩
  · exact ⟨rfl, rfl⟩
  · exact ⟨rfl, rfl⟩
  · exact ⟨rfl, rfl⟩
  · exact ⟨rfl, rfl⟩
  · exact ⟨rfl, rfl⟩
  · exact ⟨rfl, rfl⟩
theorem hr_cl_30 (e A : Nat → Int) : ∀ k, k < 9 → hr_dq 3 0 e 9 A k = (bif hq 3 0 k then z_sub (A k) (e k) else A k) ∧ hr_dq 3 0 e 9 A (k + 9) = (bif hq 3 0 k then (bif Nat.ble 3 k then z_add (e k) (A (k + 6)) else e k) else A (k + 9)) := by
  intro k hk
  rcases (show k = 0 ∨ k = 1 ∨ k = 2 ∨ k = 3 ∨ k = 4 ∨ k = 5 ∨ k = 6 ∨ k = 7 ∨ k = 8 by omega) with rfl | rfl | rfl | rfl | rfl | rfl | rfl | rfl | rfl
  · exact ⟨rfl, rfl⟩
  · exact ⟨rfl, rfl⟩
  · exact ⟨rfl, rfl⟩
  · exact ⟨rfl, rfl⟩
  · exact ⟨rfl, rfl⟩
  · exact ⟨rfl, rfl⟩
  · exact ⟨rfl, rfl⟩
  · exact ⟨rfl, rfl⟩
  · exact ⟨rfl, rfl⟩
theorem hr_cl_31 (e A : Nat → Int) : ∀ k, k < 9 → hr_dq 3 1 e 9 A k = (bif hq 3 1 k then z_sub (A k) (e k) else A k) ∧ hr_dq 3 1 e 9 A (k + 9) = (bif hq 3 1 k then (bif Nat.ble 3 k then z_add (e k) (A (k + 6)) else e k) else A (k + 9)) := by
  intro k hk
  rcases (show k = 0 ∨ k = 1 ∨ k = 2 ∨ k = 3 ∨ k = 4 ∨ k = 5 ∨ k = 6 ∨ k = 7 ∨ k = 8 by omega) with rfl | rfl | rfl | rfl | rfl | rfl | rfl | rfl | rfl
  · exact ⟨rfl, rfl⟩
  · exact ⟨rfl, rfl⟩
  · exact ⟨rfl, rfl⟩
  · exact ⟨rfl, rfl⟩
  · exact ⟨rfl, rfl⟩
  · exact ⟨rfl, rfl⟩
  · exact ⟨rfl, rfl⟩
  · exact ⟨rfl, rfl⟩
  · exact ⟨rfl, rfl⟩
theorem hr_cl_32 (e A : Nat → Int) : ∀ k, k < 9 → hr_dq 3 2 e 9 A k = (bif hq 3 2 k then z_sub (A k) (e k) else A k) ∧ hr_dq 3 2 e 9 A (k + 9) = (bif hq 3 2 k then (bif Nat.ble 3 k then z_add (e k) (A (k + 6)) else e k) else A (k + 9)) := by
  intro k hk
  rcases (show k = 0 ∨ k = 1 ∨ k = 2 ∨ k = 3 ∨ k = 4 ∨ k = 5 ∨ k = 6 ∨ k = 7 ∨ k = 8 by omega) with rfl | rfl | rfl | rfl | rfl | rfl | rfl | rfl | rfl
  · exact ⟨rfl, rfl⟩
  · exact ⟨rfl, rfl⟩
  · exact ⟨rfl, rfl⟩
  · exact ⟨rfl, rfl⟩
  · exact ⟨rfl, rfl⟩
  · exact ⟨rfl, rfl⟩
  · exact ⟨rfl, rfl⟩
  · exact ⟨rfl, rfl⟩
  · exact ⟨rfl, rfl⟩
theorem hr_cl_33 (e A : Nat → Int) : ∀ k, k < 9 → hr_dq 3 3 e 9 A k = (bif hq 3 3 k then z_sub (A k) (e k) else A k) ∧ hr_dq 3 3 e 9 A (k + 9) = (bif hq 3 3 k then (bif Nat.ble 3 k then z_add (e k) (A (k + 6)) else e k) else A (k + 9)) := by
  intro k hk
  rcases (show k = 0 ∨ k = 1 ∨ k = 2 ∨ k = 3 ∨ k = 4 ∨ k = 5 ∨ k = 6 ∨ k = 7 ∨ k = 8 by omega) with rfl | rfl | rfl | rfl | rfl | rfl | rfl | rfl | rfl
  · exact ⟨rfl, rfl⟩
  · exact ⟨rfl, rfl⟩
  · exact ⟨rfl, rfl⟩
  · exact ⟨rfl, rfl⟩
  · exact ⟨rfl, rfl⟩
  · exact ⟨rfl, rfl⟩
  · exact ⟨rfl, rfl⟩
  · exact ⟨rfl, rfl⟩
  · exact ⟨rfl, rfl⟩
theorem hr_cl {w h : Nat} (hw : w ≤ 3) (hh : h ≤ 3) (e A : Nat → Int) : ∀ k, k < 9 → hr_dq w h e 9 A k = (bif hq w h k then z_sub (A k) (e k) else A k) ∧ hr_dq w h e 9 A (k + 9) = (bif hq w h k then (bif Nat.ble 3 k then z_add (e k) (A (k + 6)) else e k) else A (k + 9)) := by
  intro k hk
  rcases (show w = 0 ∨ w = 1 ∨ w = 2 ∨ w = 3 by omega) with rfl | rfl | rfl | rfl <;> rcases (show h = 0 ∨ h = 1 ∨ h = 2 ∨ h = 3 by omega) with rfl | rfl | rfl | rfl
  · exact hr_cl_00 e A k hk
  · exact hr_cl_01 e A k hk
  · exact hr_cl_02 e A k hk
  · exact hr_cl_03 e A k hk
  · exact hr_cl_10 e A k hk
  · exact hr_cl_11 e A k hk
  · exact hr_cl_12 e A k hk
  · exact hr_cl_13 e A k hk
  · exact hr_cl_20 e A k hk
  · exact hr_cl_21 e A k hk
  · exact hr_cl_22 e A k hk
  · exact hr_cl_23 e A k hk
  · exact hr_cl_30 e A k hk
  · exact hr_cl_31 e A k hk
  · exact hr_cl_32 e A k hk
  · exact hr_cl_33 e A k hk
