/-! people: the case -/
theorem u_ls_1c {g : Int → Int} {c s n : Int} : ∀ (f : Nat) (i : Int) (j : Nat), (u_ls g c s n f i j).1 = true → j + 1 ≤ (u_ls g c s n f i j).2.2 := by
  intro f
  induction f with
  | zero => intro i j h; cases h
  | succ f ih =>
    intro i j h
    unfold u_ls at h ⊢
    by_cases c1 : (u_line g c s i).1 = false
    · rw [if_pos c1] at h; cases h
    rw [if_neg c1] at h ⊢
    by_cases c2 : n ≤ (u_line g c s i).2
    · rw [if_pos c2]; exact Nat.le_refl _
    rw [if_neg c2] at h ⊢
    by_cases c3 : g (u_line g c s i).2 = 59
    · rw [if_pos c3] at h ⊢
      have := ih _ _ h
      omega
    · rw [if_neg c3] at h; cases h
theorem u_gr_Rc {m : z_M} (h : u_R m) {s : Int} : u_gr (u_nx (m 2) (m 1 1) s) := fun i => by
  unfold u_nx
  by_cases c : 0 ≤ i ∧ i < m 1 1 ∧ i < s
  · rw [if_pos c, h.2 _ (by omega)]
    have e : z_and (m 254 i.toNat) 255 = (Int32.ofInt (m 254 i.toNat)).toInt % 256 := i32_and255 _
    omega
  · rw [if_neg c]; omega
theorem R_kn {w h n : Nat} {heat price : Int} {D A : Nat → Int} {c : Nat} {U : Nat → Nat → Int} {kn : Nat → Int} {KS : Nat → Nat → Int} {cs : List Int} {m : z_M} (hi : R_is w h n heat price D A c U kn KS cs m) : ∀ i, i < 2 → kn i ≤ (n : Int) := fun i hi' => by
  rcases (hi.2.2.2.2.1 i hi').1 with k | ⟨-, d, k1, k2, -⟩
  · omega
  · omega
/-- a line that is read names a ROOM that there is -/
theorem u_line_rm {g : Int → Int} {w h : Nat} (hw : w ≤ 3) (hh : h ≤ 3) {i : Int} (hl : (u_line g (w : Int) (h : Int) i).1 = true) : ¬ u_hs (w : Int) (h : Int) (u_rm g i) = 0 := by
  unfold u_line at hl
  by_cases c1 : 0 ≤ g i - 97 ∧ g i - 97 < (w : Int)
  · rw [if_neg (not_not_intro c1)] at hl
    by_cases c2 : 0 ≤ u_dg (g (i + 1)) - 1 ∧ u_dg (g (i + 1)) - 1 < (h : Int)
    · obtain ⟨x, hx⟩ : ∃ x : Nat, g i - 97 = (x : Int) := ⟨(g i - 97).toNat, by omega⟩
      obtain ⟨y, hy⟩ : ∃ y : Nat, u_dg (g (i + 1)) - 1 = (y : Int) := ⟨(u_dg (g (i + 1)) - 1).toNat, by omega⟩
      have e : u_rm g i = ((3 * y + x : Nat) : Int) := by
        unfold u_rm
        rw [hx, hy]
        omega
      rw [e, u_hs_eq hw hh (by omega), if_pos (by omega)]
      decide
    · rw [if_pos c2] at hl
      cases hl
  · rw [if_pos c1] at hl
    cases hl
theorem u_ls_rm {g : Int → Int} (hg : u_gb g) {w h : Nat} (hw : w ≤ 3) (hh : h ≤ 3) {n : Int} (hn : n ≤ 80) : ∀ (f : Nat) (i : Int) (j : Nat), 0 ≤ i → i ≤ 80 → (u_ls g (w : Int) (h : Int) n f i j).1 = true → ∀ d : Nat, j + d < (u_ls g (w : Int) (h : Int) n f i j).2.2 → ¬ u_hs (w : Int) (h : Int) (u_rm g (i + 10 * (d : Int))) = 0 := by
  intro f
  induction f with
  | zero => intro i j h0 h1 hl; cases hl
  | succ f ih =>
    intro i j h0 h1 hl d hd
    unfold u_ls at hl hd
    by_cases c1 : (u_line g (w : Int) (h : Int) i).1 = false
    · rw [if_pos c1] at hl
      cases hl
    rw [if_neg c1] at hl hd
    have c1' : (u_line g (w : Int) (h : Int) i).1 = true := by
      cases e : (u_line g (w : Int) (h : Int) i).1 with
      | true => rfl
      | false => exact absurd e c1
    have e9 := (u_line_b hg (c := (w : Int)) (s := (h : Int)) h0 h1).2.2 c1'
    have r0 : ¬ u_hs (w : Int) (h : Int) (u_rm g i) = 0 := u_line_rm hw hh c1'
    have go : d = 0 → ¬ u_hs (w : Int) (h : Int) (u_rm g (i + 10 * (d : Int))) = 0 := fun z => by
      rw [z, show i + 10 * ((0 : Nat) : Int) = i by omega]
      exact r0
    rw [e9] at hl hd
    by_cases c2 : n ≤ i + 9
    · rw [if_pos c2] at hd
      have hd : j + d < j + 1 := hd
      exact go (by omega)
    rw [if_neg c2] at hl hd
    by_cases c3 : g (i + 9) = 59
    · rw [if_pos c3] at hl hd
      cases d with
      | zero => exact go rfl
      | succ d =>
        have := ih (i + 9 + 1) (j + 1) (by omega) (by omega) hl d (by omega)
        rw [show i + 9 + 1 + 10 * (d : Int) = i + 10 * ((d + 1 : Nat) : Int) by omega] at this
        exact this
    · rw [if_neg c3] at hl
      cases hl
theorem wi_people {w h n q : Nat} {A : Nat → Int} {G : Int → Int} (n5 : n + q ≤ 5) (hi : wi w h n A) (hr : ∀ d : Nat, d < q → ¬ u_hs (w : Int) (h : Int) (u_rm G (10 * (d : Int))) = 0) : wi w h (n + q) (u_pS A G n q) := by
  refine ⟨fun p hp => ?_, fun k hk hz => ?_, ?_⟩
  · have e5 : (p + 18 - 18) % 5 = p := by omega
    unfold u_pS
    rw [a_msk_at (a_vis_p (b := 18) (p := p) (by omega) (by omega) (by omega) (by omega))]
    show (if 18 ≤ p + 18 ∧ p + 18 < 33 ∧ n ≤ (p + 18 - 18) % 5 then (if p + 18 < 23 then u_rm G (10 * (((p + 18 - 18) % 5 - n : Nat) : Int)) else 0) else A (p + 18)) = -1 ∨ ¬ u_hs (w : Int) (h : Int) (if 18 ≤ p + 18 ∧ p + 18 < 33 ∧ n ≤ (p + 18 - 18) % 5 then (if p + 18 < 23 then u_rm G (10 * (((p + 18 - 18) % 5 - n : Nat) : Int)) else 0) else A (p + 18)) = 0
    rw [e5]
    by_cases c : n ≤ p
    · rw [if_pos (show 18 ≤ p + 18 ∧ p + 18 < 33 ∧ n ≤ p from ⟨by omega, by omega, c⟩), if_pos (show p + 18 < 23 by omega)]
      exact Or.inr (hr (p - n) (by omega))
    · rw [if_neg (show ¬ (18 ≤ p + 18 ∧ p + 18 < 33 ∧ n ≤ p) by omega)]
      exact hi.1 p (by omega)
  · have h2 := hi.2.1 k hk hz
    unfold u_pS
    rw [a_msk_at (a_vis_lo (by omega)), a_msk_at (a_vis_lo (by omega))]
    refine ⟨?_, ?_⟩
    · show (if 18 ≤ k ∧ k < 33 ∧ n ≤ (k - 18) % 5 then _ else A k) = 0
      rw [if_neg (by omega)]
      exact h2.1
    · show (if 18 ≤ k + 9 ∧ k + 9 < 33 ∧ n ≤ (k + 9 - 18) % 5 then _ else A (k + 9)) = 0
      rw [if_neg (by omega)]
      exact h2.2
  · have e : u_pS A G n q 34 = A 34 := by
      unfold u_pS
      rw [a_msk_at (a_vis_hi (by decide))]
      show (if 18 ≤ 34 ∧ 34 < 33 ∧ n ≤ (34 - 18) % 5 then _ else A 34) = A 34
      rw [if_neg (by omega)]
    rw [e]
    exact hi.2.2
theorem core_people : l_rel2 Rel_C (276, 41, 35, 0, false, 281, 44, 172) := by
  intro M1 M2 M3 σ σ1 σ2 as v1 v2 C1 C2 ρ1 ρ2 ha hR hh hM1 hC1 hp1 hE1 hC2 hp2 hE2
  obtain rfl := as_nil ha
  have hE1 : z_R 35 (z_m σ, 0, [(2, 0), (9, 0)], []) = some (z_m σ1, some (0, v1.toInt)) := z_R_iff.mpr hE1
  have hE2 : z_R 172 (z_m σ1, 0, [(2, 251), (9, 0), (9, 0), (9, 0), (9, 0), (9, 0)], []) = some (z_m σ2, some (0, v2.toInt)) := z_R_iff.mpr hE2
  have hz : Rel_T σ2 := u_R_zero ((md_off_ok (y := 172) (by decide +kernel) hC2 hp2).trans (md_zero_ok (y := 35) (by decide +kernel) hC1 hp1)) (md_zero_ok (y := 172) (by decide +kernel) hC2 hp2)
  have hT : u_R (z_m σ) := hR.1
  obtain ⟨r1, r2⟩ := z_rng hh (p := 1) (k := 1) (lo := 0) (hi := 80) (by decide) (by decide +kernel) (by decide +kernel)
  have rb : ∀ k, k < 80 → -128 ≤ z_m σ 254 k ∧ z_m σ 254 k ≤ 127 := fun k hk => z_rng hh (p := 254) (k := k) (lo := -128) (hi := 127) (by decide) (by rw [show h_ln 254 = 80 by decide +kernel]; exact hk) (h_ty_254 k)
  have o8 : z_m σ1 251 8 = z_m σ 251 8 := md_off_ok (y := 35) (by decide +kernel) hC1 hp1
  have o4 : z_m σ1 254 = z_m σ 254 := md_offr_ok (y := 35) (by decide +kernel) hC1 hp1
  have e8 : z_m σ1 251 8 = z_m σ 1 1 := o8.trans hT.1.symm
  have eG : u_nx (u_t (z_m σ1)) (z_m σ1 251 8) 76 = u_nx (z_m σ 2) (z_m σ 1 1) 76 := by
    rw [u_nx_R hT]
    unfold u_t
    rw [o8, o4]
  obtain ⟨w, h, n, heat, price, D, A, c, U, kn, KS, cs, cC, cR, cW⟩ := hR.2
  obtain ⟨⟨w3, h3, n5⟩, -⟩ := core_b hh hM1 cR
  have f1 := R_off2_ok (y := 35) (by decide +kernel) hC1 hp1
  have f2 := C_off_ok (y := 172) (by decide +kernel) hC2 hp2
  have cR1 := R_fr cR f1
  have hkn := R_kn cR
  have hl := u_ls_1c (g := u_nx (z_m σ 2) (z_m σ 1 1) 76) (c := (w : Int)) (s := (h : Int)) (n := z_m σ 1 1) (5 - n) 0 0
  have rb1 : ∀ k, k < 80 → -128 ≤ z_m σ1 254 k ∧ z_m σ1 254 k ≤ 127 := fun k hk => by rw [o4]; exact rb k hk
  rcases hS : u_ls (u_nx (z_m σ 2) (z_m σ 1 1) 76) (w : Int) (h : Int) (z_m σ 1 1) (5 - n) 0 0 with ⟨b, i0, q⟩
  rw [hS] at hl
  by_cases ok : ¬ z_m σ 1 1 = 0 ∧ b = true
  · have hq : 1 ≤ q := hl ok.2
    have hrm : ∀ {d : Nat}, d < q → ¬ u_hs (w : Int) (h : Int) (u_rm (u_nx (z_m σ 2) (z_m σ 1 1) 76) (0 + 10 * (d : Int))) = 0 := fun {d} hd => by
      have := u_ls_rm (u_nx_b r2) w3 h3 r2 (5 - n) 0 0 (by decide) (by decide) (by rw [hS]; exact ok.2) d (by rw [hS]; show 0 + d < q; omega)
      exact this
    have hq5 : q ≤ 0 + (5 - n) := by
      have := (u_ls_b (g := u_nx (z_m σ 2) (z_m σ 1 1) 76) (u_nx_b r2) (c := (w : Int)) (s := (h : Int)) (n := z_m σ 1 1) (5 - n) 0 0 (by decide) (by decide)).2.2.2
      rw [hS] at this
      exact this
    have z := core_do cR1 (fun q => C_fr q f2) (C_people cC w3 h3 n5 hkn r1 r2 (u_gr_Rc hT) rfl hS ok.1 ok.2 hq) (fun x => R_people x w3 h3 n5 hkn (by rw [e8]; exact r1) (by rw [e8]; exact r2) rb1 eG (by rw [e8]; exact hS) (by rw [e8]; exact ok.1) ok.2 hq) hE1 hE2
    exact ⟨⟨hz, Core_mk z.1.1 z.1.2 (w_W_0 cW.1 (wi_people (by omega) cW.2.1 (fun d hd => by
      have := hrm hd
      rw [Int.zero_add] at this
      exact this)) (fun i hi => by have := hkn i hi; omega))⟩, fun _ => z.2⟩
  · have z := core_do cR1 (fun q => C_fr q f2) (C_people_no cC w3 h3 n5 r1 r2 (u_gr_Rc hT) rfl hS ok) (fun x => by
      have y := R_people_no (S := (b, i0, q)) x w3 h3 n5 (by rw [e8]; exact r1) (by rw [e8]; exact r2) rb1 eG (by rw [e8]; exact hS) (by rw [e8]; exact ok)
      rw [e8] at y
      exact y) hE1 hE2
    exact ⟨⟨hz, Core_mk z.1.1 z.1.2 cW⟩, fun _ => z.2⟩
