/-! A STATE as 37 numbers: ICE, WATER, where, OWES, FELL, POND, STOVE, NOW, FROST; what n persons show of it -/
theorem z_ifc {α : Type} {c : Prop} [h : Decidable c] {a a' b b' : α} (h1 : c → a = a') (h2 : ¬ c → b = b') : (if c then a else b) = (if c then a' else b') := by
  by_cases hc : c
  · rw [if_pos hc, if_pos hc, h1 hc]
  · rw [if_neg hc, if_neg hc, h2 hc]
def cR (m : z_M) (s : Nat) : Nat → Int := fun k => if k < 9 then m (s + 1) k else if k < 18 then m (s + 2) (k - 9) else if k < 23 then m (s + 3) (k - 18) else if k < 28 then m (s + 4) (k - 23) else if k < 33 then m (s + 5) (k - 28) else if k < 37 then m s (k - 28) else 0
def rR (m : z_M) (a : Nat) : Nat → Int := fun k => if k < 37 then m a k else 0
def a_vis (n : Int) (k : Nat) : Bool := decide (k < 18) || (decide (33 ≤ k) || decide ((((k - 18) % 5 : Nat) : Int) < n))
def a_msk (n : Int) (f : Nat → Int) : Nat → Int := fun k => if a_vis n k = true then f k else 0
def cS (m : z_M) (s : Nat) (n : Int) : Nat → Int := a_msk n (cR m s)
def rS (m : z_M) (a : Nat) (n : Int) : Nat → Int := a_msk n (rR m a)
theorem a_msk_up {n : Int} {f : Nat → Int} {j : Nat} {v : Int} (h : a_vis n j = true) : a_msk n (u_up f j v) = u_up (a_msk n f) j v := by
  funext k
  unfold a_msk u_up
  by_cases hk : k = j
  · rw [if_pos hk, if_pos hk, hk, if_pos h]
  · rw [if_neg hk, if_neg hk]
theorem a_vis_lo {n : Int} {k : Nat} (h : k < 18) : a_vis n k = true := by unfold a_vis; rw [decide_eq_true h]; rfl
theorem a_vis_hi {n : Int} {k : Nat} (h : 33 ≤ k) : a_vis n k = true := by unfold a_vis; rw [decide_eq_true h]; simp
theorem a_vis_p {n : Int} {k b p : Nat} (hb : b = 18 ∨ b = 23 ∨ b = 28) (hk : k = b + p) (h5 : p < 5) (h : (p : Int) < n) : a_vis n k = true := by
  unfold a_vis
  rw [show ((((k - 18) % 5 : Nat) : Int)) = (p : Int) by omega, decide_eq_true h]
  simp
theorem a_msk_at {n : Int} {f : Nat → Int} {k : Nat} (h : a_vis n k = true) : a_msk n f k = f k := if_pos h
theorem rR_at {m : z_M} {a k : Nat} (h : k < 37) : rR m a k = m a k := if_pos h
theorem rR_up {m : z_M} {a j : Nat} {v : Int} (h : j < 37) : rR (z_up m a j v) a = u_up (rR m a) j v := by
  funext k
  unfold rR u_up
  by_cases hk : k = j
  · rw [if_pos hk, hk, if_pos h, zu_self]
  · rw [if_neg hk]
    exact z_ifc (fun _ => zu_k hk) (fun _ => rfl)
theorem rS_up {m : z_M} {a j : Nat} {v n : Int} (h : j < 37) (hv : a_vis n j = true) : rS (z_up m a j v) a n = u_up (rS m a n) j v := by
  unfold rS
  rw [rR_up h, a_msk_up hv]
theorem rS_at {m : z_M} {a k : Nat} {n : Int} (h : k < 37) (hv : a_vis n k = true) : rS m a n k = m a k := (a_msk_at hv).trans (rR_at h)
theorem rS_row {m m' : z_M} {a : Nat} {n : Int} (h : m' a = m a) : rS m' a n = rS m a n := by unfold rS rR; rw [h]
theorem cS_rows {m m' : z_M} {s : Nat} {n : Int} (h1 : m' (s + 1) = m (s + 1)) (h2 : m' (s + 2) = m (s + 2)) (h3 : m' (s + 3) = m (s + 3)) (h4 : m' (s + 4) = m (s + 4)) (h5 : m' (s + 5) = m (s + 5)) (h0 : ∀ k, 5 ≤ k → k ≤ 8 → m' s k = m s k) : cS m' s n = cS m s n := by
  unfold cS
  congr 1
  funext k
  unfold cR
  rw [h1, h2, h3, h4, h5]
  exact z_ifc (fun _ => rfl) (fun _ => z_ifc (fun _ => rfl) (fun _ => z_ifc (fun _ => rfl) (fun _ => z_ifc (fun _ => rfl) (fun _ => z_ifc (fun _ => rfl) (fun _ => z_ifc (fun _ => h0 _ (by omega) (by omega)) (fun _ => rfl))))))
theorem cR_up1 {m : z_M} {s j : Nat} {v : Int} (hj : j < 9) : cR (z_up m (s + 1) j v) s = u_up (cR m s) j v := by
  funext k
  unfold u_up
  by_cases hE : k = j
  · rw [if_pos hE, hE]
    unfold cR
    rw [if_pos (show j < 9 by omega), zu_self]
  · rw [if_neg hE]
    unfold cR
    exact z_ifc (fun _ => zu_k (by omega)) (fun _ => z_ifc (fun _ => zu_p (by omega)) (fun _ => z_ifc (fun _ => zu_p (by omega)) (fun _ => z_ifc (fun _ => zu_p (by omega)) (fun _ => z_ifc (fun _ => zu_p (by omega)) (fun _ => z_ifc (fun _ => zu_p (by omega)) (fun _ => rfl))))))
theorem cS_up1 {m : z_M} {s j : Nat} {v n : Int} (hj : j < 9) : cS (z_up m (s + 1) j v) s n = u_up (cS m s n) j v := by
  unfold cS
  rw [cR_up1 hj, a_msk_up (a_vis_lo (by omega))]
theorem cS_at1 {m : z_M} {s j : Nat} {n : Int} (hj : j < 9) : cS m s n j = m (s + 1) j := by
  unfold cS
  rw [a_msk_at (a_vis_lo (by omega))]
  unfold cR
  rw [if_pos (show j < 9 by omega)]
theorem cR_up2 {m : z_M} {s j : Nat} {v : Int} (hj : j < 9) : cR (z_up m (s + 2) j v) s = u_up (cR m s) (j + 9) v := by
  funext k
  unfold u_up
  by_cases hE : k = (j + 9)
  · rw [if_pos hE, hE]
    unfold cR
    rw [if_neg (show ¬ (j + 9) < 9 by omega), if_pos (show (j + 9) < 18 by omega), show (j + 9) - 9 = j by omega, zu_self]
  · rw [if_neg hE]
    unfold cR
    exact z_ifc (fun _ => zu_p (by omega)) (fun _ => z_ifc (fun _ => zu_k (by omega)) (fun _ => z_ifc (fun _ => zu_p (by omega)) (fun _ => z_ifc (fun _ => zu_p (by omega)) (fun _ => z_ifc (fun _ => zu_p (by omega)) (fun _ => z_ifc (fun _ => zu_p (by omega)) (fun _ => rfl))))))
theorem cS_up2 {m : z_M} {s j : Nat} {v n : Int} (hj : j < 9) : cS (z_up m (s + 2) j v) s n = u_up (cS m s n) (j + 9) v := by
  unfold cS
  rw [cR_up2 hj, a_msk_up (a_vis_lo (by omega))]
theorem cS_at2 {m : z_M} {s j : Nat} {n : Int} (hj : j < 9) : cS m s n (j + 9) = m (s + 2) j := by
  unfold cS
  rw [a_msk_at (a_vis_lo (by omega))]
  unfold cR
  rw [if_neg (show ¬ (j + 9) < 9 by omega), if_pos (show (j + 9) < 18 by omega), show (j + 9) - 9 = j by omega]
theorem cR_up3 {m : z_M} {s j : Nat} {v : Int} (hj : j < 5) : cR (z_up m (s + 3) j v) s = u_up (cR m s) (j + 18) v := by
  funext k
  unfold u_up
  by_cases hE : k = (j + 18)
  · rw [if_pos hE, hE]
    unfold cR
    rw [if_neg (show ¬ (j + 18) < 9 by omega), if_neg (show ¬ (j + 18) < 18 by omega), if_pos (show (j + 18) < 23 by omega), show (j + 18) - 18 = j by omega, zu_self]
  · rw [if_neg hE]
    unfold cR
    exact z_ifc (fun _ => zu_p (by omega)) (fun _ => z_ifc (fun _ => zu_p (by omega)) (fun _ => z_ifc (fun _ => zu_k (by omega)) (fun _ => z_ifc (fun _ => zu_p (by omega)) (fun _ => z_ifc (fun _ => zu_p (by omega)) (fun _ => z_ifc (fun _ => zu_p (by omega)) (fun _ => rfl))))))
theorem cS_up3 {m : z_M} {s j : Nat} {v n : Int} (hj : j < 5) (hn : (j : Int) < n) : cS (z_up m (s + 3) j v) s n = u_up (cS m s n) (j + 18) v := by
  unfold cS
  rw [cR_up3 hj, a_msk_up (a_vis_p (b := 18) (p := j) (by omega) (by omega) (by omega) hn)]
theorem cS_at3 {m : z_M} {s j : Nat} {n : Int} (hj : j < 5) (hn : (j : Int) < n) : cS m s n (j + 18) = m (s + 3) j := by
  unfold cS
  rw [a_msk_at (a_vis_p (b := 18) (p := j) (by omega) (by omega) (by omega) hn)]
  unfold cR
  rw [if_neg (show ¬ (j + 18) < 9 by omega), if_neg (show ¬ (j + 18) < 18 by omega), if_pos (show (j + 18) < 23 by omega), show (j + 18) - 18 = j by omega]
theorem cR_up4 {m : z_M} {s j : Nat} {v : Int} (hj : j < 5) : cR (z_up m (s + 4) j v) s = u_up (cR m s) (j + 23) v := by
  funext k
  unfold u_up
  by_cases hE : k = (j + 23)
  · rw [if_pos hE, hE]
    unfold cR
    rw [if_neg (show ¬ (j + 23) < 9 by omega), if_neg (show ¬ (j + 23) < 18 by omega), if_neg (show ¬ (j + 23) < 23 by omega), if_pos (show (j + 23) < 28 by omega), show (j + 23) - 23 = j by omega, zu_self]
  · rw [if_neg hE]
    unfold cR
    exact z_ifc (fun _ => zu_p (by omega)) (fun _ => z_ifc (fun _ => zu_p (by omega)) (fun _ => z_ifc (fun _ => zu_p (by omega)) (fun _ => z_ifc (fun _ => zu_k (by omega)) (fun _ => z_ifc (fun _ => zu_p (by omega)) (fun _ => z_ifc (fun _ => zu_p (by omega)) (fun _ => rfl))))))
theorem cS_up4 {m : z_M} {s j : Nat} {v n : Int} (hj : j < 5) (hn : (j : Int) < n) : cS (z_up m (s + 4) j v) s n = u_up (cS m s n) (j + 23) v := by
  unfold cS
  rw [cR_up4 hj, a_msk_up (a_vis_p (b := 23) (p := j) (by omega) (by omega) (by omega) hn)]
theorem cS_at4 {m : z_M} {s j : Nat} {n : Int} (hj : j < 5) (hn : (j : Int) < n) : cS m s n (j + 23) = m (s + 4) j := by
  unfold cS
  rw [a_msk_at (a_vis_p (b := 23) (p := j) (by omega) (by omega) (by omega) hn)]
  unfold cR
  rw [if_neg (show ¬ (j + 23) < 9 by omega), if_neg (show ¬ (j + 23) < 18 by omega), if_neg (show ¬ (j + 23) < 23 by omega), if_pos (show (j + 23) < 28 by omega), show (j + 23) - 23 = j by omega]
theorem cR_up5 {m : z_M} {s j : Nat} {v : Int} (hj : j < 5) : cR (z_up m (s + 5) j v) s = u_up (cR m s) (j + 28) v := by
  funext k
  unfold u_up
  by_cases hE : k = (j + 28)
  · rw [if_pos hE, hE]
    unfold cR
    rw [if_neg (show ¬ (j + 28) < 9 by omega), if_neg (show ¬ (j + 28) < 18 by omega), if_neg (show ¬ (j + 28) < 23 by omega), if_neg (show ¬ (j + 28) < 28 by omega), if_pos (show (j + 28) < 33 by omega), show (j + 28) - 28 = j by omega, zu_self]
  · rw [if_neg hE]
    unfold cR
    exact z_ifc (fun _ => zu_p (by omega)) (fun _ => z_ifc (fun _ => zu_p (by omega)) (fun _ => z_ifc (fun _ => zu_p (by omega)) (fun _ => z_ifc (fun _ => zu_p (by omega)) (fun _ => z_ifc (fun _ => zu_k (by omega)) (fun _ => z_ifc (fun _ => zu_p (by omega)) (fun _ => rfl))))))
theorem cS_up5 {m : z_M} {s j : Nat} {v n : Int} (hj : j < 5) (hn : (j : Int) < n) : cS (z_up m (s + 5) j v) s n = u_up (cS m s n) (j + 28) v := by
  unfold cS
  rw [cR_up5 hj, a_msk_up (a_vis_p (b := 28) (p := j) (by omega) (by omega) (by omega) hn)]
theorem cS_at5 {m : z_M} {s j : Nat} {n : Int} (hj : j < 5) (hn : (j : Int) < n) : cS m s n (j + 28) = m (s + 5) j := by
  unfold cS
  rw [a_msk_at (a_vis_p (b := 28) (p := j) (by omega) (by omega) (by omega) hn)]
  unfold cR
  rw [if_neg (show ¬ (j + 28) < 9 by omega), if_neg (show ¬ (j + 28) < 18 by omega), if_neg (show ¬ (j + 28) < 23 by omega), if_neg (show ¬ (j + 28) < 28 by omega), if_pos (show (j + 28) < 33 by omega), show (j + 28) - 28 = j by omega]
theorem cR_up0 {m : z_M} {s j : Nat} {v : Int} (hj : 5 ≤ j ∧ j < 9) : cR (z_up m s j v) s = u_up (cR m s) (j + 28) v := by
  funext k
  unfold u_up
  by_cases hE : k = (j + 28)
  · rw [if_pos hE, hE]
    unfold cR
    rw [if_neg (show ¬ (j + 28) < 9 by omega), if_neg (show ¬ (j + 28) < 18 by omega), if_neg (show ¬ (j + 28) < 23 by omega), if_neg (show ¬ (j + 28) < 28 by omega), if_neg (show ¬ (j + 28) < 33 by omega), if_pos (show (j + 28) < 37 by omega), show (j + 28) - 28 = j by omega, zu_self]
  · rw [if_neg hE]
    unfold cR
    exact z_ifc (fun _ => zu_p (by omega)) (fun _ => z_ifc (fun _ => zu_p (by omega)) (fun _ => z_ifc (fun _ => zu_p (by omega)) (fun _ => z_ifc (fun _ => zu_p (by omega)) (fun _ => z_ifc (fun _ => zu_p (by omega)) (fun _ => z_ifc (fun _ => zu_k (by omega)) (fun _ => rfl))))))
theorem cS_up0 {m : z_M} {s j : Nat} {v n : Int} (hj : 5 ≤ j ∧ j < 9) : cS (z_up m s j v) s n = u_up (cS m s n) (j + 28) v := by
  unfold cS
  rw [cR_up0 hj, a_msk_up (a_vis_hi (by omega))]
theorem cS_at0 {m : z_M} {s j : Nat} {n : Int} (hj : 5 ≤ j ∧ j < 9) : cS m s n (j + 28) = m s j := by
  unfold cS
  rw [a_msk_at (a_vis_hi (by omega))]
  unfold cR
  rw [if_neg (show ¬ (j + 28) < 9 by omega), if_neg (show ¬ (j + 28) < 18 by omega), if_neg (show ¬ (j + 28) < 23 by omega), if_neg (show ¬ (j + 28) < 28 by omega), if_neg (show ¬ (j + 28) < 33 by omega), if_pos (show (j + 28) < 37 by omega), show (j + 28) - 28 = j by omega]
/-! z_add is that of a group -/
theorem z_add_as {a b c : Int} : z_add (z_add a b) c = z_add a (z_add b c) := by
  unfold z_add
  rw [Int32.ofInt_toInt, Int32.ofInt_toInt, Int32.add_assoc]
theorem z_add_cm {a b : Int} : z_add a b = z_add b a := by
  unfold z_add
  rw [Int32.add_comm]
def z_w (v : Int) : Int := (Int32.ofInt v).toInt
theorem z_add_w {a b : Int} : z_add a b = z_w (a + b) := by
  unfold z_add z_w
  rw [Int32.ofInt_add]
theorem z_w_l {a b : Int} : z_w (z_w a + b) = z_w (a + b) := by
  unfold z_w
  rw [Int32.ofInt_add, Int32.ofInt_toInt, ← Int32.ofInt_add]
theorem z_w_r {a b : Int} : z_w (a + z_w b) = z_w (a + b) := by
  rw [Int.add_comm, z_w_l, Int.add_comm]
theorem z_w_of {a : Int} (h1 : -2147483648 ≤ a) (h2 : a ≤ 2147483647) : z_w a = a := zr_of h1 h2
theorem z_w_w {a : Int} : z_w (z_w a) = z_w a := by
  have := z_w_l (a := a) (b := 0)
  rw [Int.add_zero, Int.add_zero] at this
  exact this
theorem cS_off {m : z_M} {s p j : Nat} {v n : Int} (h : p < s ∨ s + 5 < p) : cS (z_up m p j v) s n = cS m s n := cS_rows (zu_rowne (by omega)) (zu_rowne (by omega)) (zu_rowne (by omega)) (zu_rowne (by omega)) (zu_rowne (by omega)) (fun _ _ _ => zu_p (by omega))
theorem cS_same {L : List (Nat × Nat × Nat)} {m m' : z_M} {s : Nat} {n : Int} (h : z_same L m m') (h1 : z_ofr L (s + 1)) (h2 : z_ofr L (s + 2)) (h3 : z_ofr L (s + 3)) (h4 : z_ofr L (s + 4)) (h5 : z_ofr L (s + 5)) (h0 : z_ofr L s) : cS m' s n = cS m s n := cS_rows (h.ofr h1) (h.ofr h2) (h.ofr h3) (h.ofr h4) (h.ofr h5) (fun k _ _ => congrFun (h.ofr h0) k)
theorem tc1 (x : Nat) : (x : Int) + 1 = ((x + 1 : Nat) : Int) := by omega
theorem tn9 {p : Nat} : ((p : Int) + 9).toNat = p + 9 := by omega
theorem tn12 {p : Nat} : ((p : Int) + 12).toNat = p + 12 := by omega
theorem tn18 {p : Nat} : ((p : Int) + 18).toNat = p + 18 := by omega
theorem tn23 {p : Nat} : ((p : Int) + 23).toNat = p + 23 := by omega
theorem tn28 {p : Nat} : ((p : Int) + 28).toNat = p + 28 := by omega
theorem tn3 {p : Nat} : ((p : Int) + 3).toNat = p + 3 := by omega
theorem cS_pond {m : z_M} {s : Nat} {v n : Int} : cS (z_up m s 5 v) s n = u_up (cS m s n) 33 v := cS_up0 (j := 5) (by decide)
theorem cS_pondv {m : z_M} {s : Nat} {n : Int} : cS m s n 33 = m s 5 := cS_at0 (j := 5) (by decide)
theorem cS_stove {m : z_M} {s : Nat} {v n : Int} : cS (z_up m s 6 v) s n = u_up (cS m s n) 34 v := cS_up0 (j := 6) (by decide)
theorem cS_stovev {m : z_M} {s : Nat} {n : Int} : cS m s n 34 = m s 6 := cS_at0 (j := 6) (by decide)
theorem cS_now {m : z_M} {s : Nat} {v n : Int} : cS (z_up m s 7 v) s n = u_up (cS m s n) 35 v := cS_up0 (j := 7) (by decide)
theorem cS_nowv {m : z_M} {s : Nat} {n : Int} : cS m s n 35 = m s 7 := cS_at0 (j := 7) (by decide)
theorem cS_frost {m : z_M} {s : Nat} {v n : Int} : cS (z_up m s 8 v) s n = u_up (cS m s n) 36 v := cS_up0 (j := 8) (by decide)
theorem cS_frostv {m : z_M} {s : Nat} {n : Int} : cS m s n 36 = m s 8 := cS_at0 (j := 8) (by decide)
