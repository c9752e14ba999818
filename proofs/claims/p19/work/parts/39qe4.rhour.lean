/-! AN HOUR OF THE REFERENCE: what it does to the 37 numbers -/
def rwm (m : z_M) (p : Nat) (t : Int) : Int := if (p : Int) = m 251 23 then 9 else m 253 (6 * (p : Int) + t % 6).toNat
theorem rwm_sm {m m' : z_M} (h1 : m' 251 23 = m 251 23) (h2 : m' 253 = m 253) {p : Nat} {t : Int} : rwm m' p t = rwm m p t := by unfold rwm; rw [h1, h2]
def hr_b (k : Int) : Nat → Nat → (Nat → Int) → Int → Int
  | 0, _, _, acc => acc
  | f + 1, x, A, acc => hr_b k f (x + 1) A (if A (x + 18) = k then z_or acc (z_shl 1 (x : Int)) else z_or acc 0)
def hr_s (wm : Nat → Int) (b : Int) : Nat → Nat → Int → Int
  | 0, _, s => s
  | f + 1, x, s => hr_s wm b f (x + 1) (if z_and (z_shr b (x : Int)) 1 = 1 then z_add s (wm x) else z_add s 0)
theorem r_pin1 {a : Nat} (ha : z_A 37 a) (ha2 : z_ab a) {n : Nat} (hn5 : n ≤ 5) {k : Int} (m : z_M) (hn : m 251 3 = (n : Int)) : ∀ (f x : Nat) (acc : Int), x + f = n → z_R 183 (m, 5, [(2, 251), (2, ((a : Nat) : Int)), (0, k), (0, acc), (0, (x : Int))], []) = some (m, some (0, hr_b k f x (rS m a n) acc)) := by
  intro f
  induction f with
  | zero =>
    intro x acc hx
    rw [t_pin_5 ha ha2 m k acc x ⟨by omega, by omega⟩ ⟨by omega, by omega⟩, if_pos (by omega)]
    rfl
  | succ f ih =>
    intro x acc hx
    have eA : rS m a n (x + 18) = m a (x + 18) := rS_at (by omega) (a_vis_p (b := 18) (p := x) (by omega) (by omega) (by omega) (by omega))
    rw [t_pin_5 ha ha2 m k acc x ⟨by omega, by omega⟩ ⟨by omega, by omega⟩, if_neg (by omega), tn18, tc1]
    unfold hr_b
    rw [eA]
    by_cases c : m a (x + 18) = k
    · rw [if_pos c, if_pos c]; exact ih (x + 1) _ (by omega)
    · rw [if_neg c, if_neg c]; exact ih (x + 1) _ (by omega)
theorem r_pin {a : Nat} (ha : z_A 37 a) (ha2 : z_ab a) {n : Nat} (hn5 : n ≤ 5) {k : Int} (m : z_M) (hn : m 251 3 = (n : Int)) : z_R 183 (m, 0, [(2, 251), (2, ((a : Nat) : Int)), (0, k), (9, 0), (9, 0)], []) = some (m, some (0, hr_b k n 0 (rS m a n) 0)) := by
  rw [t_pin_0 ha ha2, show (0 : Int) = ((0 : Nat) : Int) from rfl]
  exact r_pin1 ha ha2 hn5 m hn n 0 0 (by omega)
theorem r_wo {a : Nat} (ha : z_A 37 a) (ha2 : z_ab a) (m : z_M) {p : Nat} {t : Int} (hp : p < 5) (h : m a 35 = t) (ht : 0 ≤ t) (ht2 : t ≤ 2147483647) : z_R 186 (m, 0, [(2, 251), (2, ((a : Nat) : Int)), (0, (p : Int))], []) = some (m, some (0, rwm m p t)) := by
  rw [t_wo_0 ha ha2 m p ⟨by omega, by omega⟩ ⟨by omega, by omega⟩, h]
  unfold rwm
  by_cases h1 : (p : Int) = m 251 23
  · rw [if_pos h1, if_pos h1]
  · rw [if_neg h1, if_neg h1]
theorem r_wb1 {a : Nat} (ha : z_A 37 a) (ha2 : z_ab a) {n : Nat} (hn5 : n ≤ 5) {k b t : Int} {wm : Nat → Int} (ht : 0 ≤ t) (ht2 : t ≤ 2147483647) (m : z_M) (hn : m 251 3 = (n : Int)) (h35 : m a 35 = t) (hw : ∀ p, p < 5 → rwm m p t = wm p) : ∀ (f x : Nat) (s : Int), x + f = n → z_R 184 (m, 21, [(2, 251), (2, ((a : Nat) : Int)), (0, k), (0, b), (0, s), (0, (x : Int))], []) = some (m, some (0, hr_s wm b f x s)) := by
  intro f
  induction f with
  | zero =>
    intro x s hx
    rw [t_wb_21 ha ha2 m k b s x ⟨by omega, by omega⟩ ⟨by omega, by omega⟩, if_pos (by omega)]
    rfl
  | succ f ih =>
    intro x s hx
    rw [t_wb_21 ha ha2 m k b s x ⟨by omega, by omega⟩ ⟨by omega, by omega⟩, if_neg (by omega), t_has_0]
    unfold hr_s
    by_cases c : z_and (z_shr b (x : Int)) 1 = 1
    · rw [if_pos c, if_pos c, zb_v, t_wb_38 ha ha2 m k b s x s 1 ⟨by omega, by omega⟩, if_neg (by decide), r_wo ha ha2 m (by omega) h35 ht ht2, zb_v, t_wb_48 ha ha2 m k b s x s _ ⟨by omega, by omega⟩, tc1, hw x (by omega)]
      exact ih (x + 1) _ (by omega)
    · rw [if_neg c, if_neg c, zb_v, t_wb_38 ha ha2 m k b s x s 0 ⟨by omega, by omega⟩, if_pos rfl, tc1]
      exact ih (x + 1) _ (by omega)
def hr_wb (heat : Int) (wm : Nat → Int) (n : Nat) (A : Nat → Int) (k b : Int) : Int := hr_s wm b n 0 (if A 34 = k then heat else 0)
theorem r_wb {a : Nat} (ha : z_A 37 a) (ha2 : z_ab a) {n : Nat} (hn5 : n ≤ 5) {k b t heat : Int} {wm : Nat → Int} (ht : 0 ≤ t) (ht2 : t ≤ 2147483647) (m : z_M) (hn : m 251 3 = (n : Int)) (hh : m 251 5 = heat) (h35 : m a 35 = t) (hw : ∀ p, p < 5 → rwm m p t = wm p) : z_R 184 (m, 0, [(2, 251), (2, ((a : Nat) : Int)), (0, k), (0, b), (9, 0), (9, 0)], []) = some (m, some (0, hr_wb heat wm n (rS m a n) k b)) := by
  unfold hr_wb
  rw [t_wb_0 ha ha2, rS_at (by decide) (a_vis_hi (by decide)), hh]
  by_cases c : m a 34 = k
  · rw [if_pos c, if_pos c, show (0 : Int) = ((0 : Nat) : Int) from rfl]; exact r_wb1 ha ha2 hn5 ht ht2 m hn h35 hw n 0 heat (by omega)
  · rw [if_neg c, if_neg c]
    exact r_wb1 ha ha2 hn5 (k := k) ht ht2 m hn h35 hw n 0 0 (by omega)
abbrev r_RL : List (Nat × Nat × Nat) := [(259, 0, 6), (251, 12, 16), (251, 21, 21)]
/-- numbers of a row, as they should be -/
def r_rg (a : Nat) (m : z_M) : Prop := (∀ k, k < 9 → (0 ≤ m a k ∧ m a k ≤ 99) ∧ 0 ≤ m a (k + 9) ∧ m a (k + 9) ≤ 2147483647) ∧ (0 ≤ m a 36 ∧ m a 36 ≤ 2147483647) ∧ 0 ≤ m a 35 ∧ m a 35 ≤ 2147483647
def r_i (v : Int) : Prop := 0 ≤ v ∧ v ≤ 2147483647
/-- that the reference's rule makes these numbers, while its text stays -/
noncomputable def r_Hml (ml : hr_M) (m : z_M) : Prop := ∀ m2 : z_M, m2 258 = m 258 → m2 251 20 = m 251 20 → ∀ (a : Nat), z_A 37 a → z_ab a → ∀ (k : Nat) (w n : Int), k < 9 → r_rg a m2 → r_i w → r_i n → ∃ m', z_R 189 (m2, 0, [(2, 251), (2, ((a : Nat) : Int)), (0, (k : Int)), (0, w), (0, n), (9, 0)], []) = some (m', some (0, ml w (m2 a k) (m2 a (k + 9)) (m2 a 36) ((k : Int) / 3) n (m2 a 35))) ∧ z_same r_RL m2 m'
def hr_mB (heat : Int) (ml : hr_M) (wm : Nat → Int) (n : Nat) (A : Nat → Int) (k : Nat) (b : Int) : Int := ml (hr_wb heat wm n A k b) (A k) (A (k + 9)) (A 36) ((k : Int) / 3) (hr_pc b) (A 35)
theorem r_mb {a : Nat} (ha : z_A 37 a) (ha2 : z_ab a) {n : Nat} (hn5 : n ≤ 5) {ml : hr_M} {b t heat : Int} {wm : Nat → Int} (ht : 0 ≤ t) (ht2 : t ≤ 2147483647) (m : z_M) (hn : m 251 3 = (n : Int)) (hh : m 251 5 = heat) (h35 : m a 35 = t) (hw : ∀ p, p < 5 → rwm m p t = wm p) (hm : r_Hml ml m) {k : Nat} (hk : k < 9) (h0 : r_rg a m) (hW : r_i (hr_wb heat wm n (rS m a n) k b)) (hP : r_i (hr_pc b)) : ∃ m', z_R 188 (m, 0, [(2, 251), (2, ((a : Nat) : Int)), (0, (k : Int)), (0, b)], []) = some (m', some (0, hr_mB heat ml wm n (rS m a n) k b)) ∧ z_same r_RL m m' := by
  obtain ⟨m', e, sm⟩ := hm m rfl rfl a ha ha2 k (hr_wb heat wm n (rS m a n) k b) (hr_pc b) hk h0 hW hP
  refine ⟨m', ?_, sm⟩
  rw [t_mb_0 ha ha2, r_wb ha ha2 hn5 ht ht2 m hn hh h35 hw, zb_v, t_mb_10 ha ha2, t_bc_0, zb_v, t_mb_14 ha ha2, e, zb_v, t_mb_17 ha ha2]
  unfold hr_mB
  rw [rS_at (k := k) (by omega) (a_vis_lo (by omega)), rS_at (k := k + 9) (by omega) (a_vis_lo (by omega)), rS_at (k := 36) (by decide) (a_vis_hi (by decide)), rS_at (k := 35) (by decide) (a_vis_hi (by decide))]
def hr_mN (heat : Int) (ml : hr_M) (wm : Nat → Int) (n : Nat) (A : Nat → Int) (k : Nat) : Int := hr_mB heat ml wm n A k (hr_b k n 0 A 0)
theorem r_mn {a : Nat} (ha : z_A 37 a) (ha2 : z_ab a) {n : Nat} (hn5 : n ≤ 5) {ml : hr_M} {t heat : Int} {wm : Nat → Int} (ht : 0 ≤ t) (ht2 : t ≤ 2147483647) (m : z_M) (hn : m 251 3 = (n : Int)) (hh : m 251 5 = heat) (h35 : m a 35 = t) (hw : ∀ p, p < 5 → rwm m p t = wm p) (hm : r_Hml ml m) {k : Nat} (hk : k < 9) (h0 : r_rg a m) (hW : r_i (hr_wb heat wm n (rS m a n) k (hr_b k n 0 (rS m a n) 0))) (hP : r_i (hr_pc (hr_b k n 0 (rS m a n) 0))) : ∃ m', z_R 187 (m, 0, [(2, 251), (2, ((a : Nat) : Int)), (0, (k : Int))], []) = some (m', some (0, hr_mN heat ml wm n (rS m a n) k)) ∧ z_same r_RL m m' := by
  obtain ⟨m', e, sm⟩ := r_mb ha ha2 hn5 (b := hr_b k n 0 (rS m a n) 0) ht ht2 m hn hh h35 hw hm hk h0 hW hP
  refine ⟨m', ?_, sm⟩
  rw [t_mn_0 ha ha2, r_pin ha ha2 hn5 m hn, zb_v, t_mn_9 ha ha2, e, zb_v, t_mn_12 ha ha2]
  rfl
/-! the loops of an hour -/
def hr_me (w h heat : Int) (ml : hr_M) (wm : Nat → Int) (n : Nat) (A : Nat → Int) (k : Nat) : Int := if u_hs w h (k : Int) = 0 then 0 else hr_mN heat ml wm n A k
def hr_ms (e : Nat → Int) : Nat → Nat → Int → Int
  | 0, _, t => t
  | f + 1, x, t => hr_ms e f (x + 1) (z_add t (e x))
abbrev r_L1 : List (Nat × Nat × Nat) := [(259, 0, 6), (251, 12, 16), (251, 21, 21), (262, 0, 8), (251, 28, 28)]
theorem r_ne251 {a : Nat} (ha2 : z_ab a) : a = 252 ∨ a = 264 := ha2
theorem r_h1 {a : Nat} (ha : z_A 37 a) (ha2 : z_ab a) {n : Nat} (hn5 : n ≤ 5) {ml : hr_M} {w h t heat : Int} {wm : Nat → Int} {A : Nat → Int} (ht : 0 ≤ t) (ht2 : t ≤ 2147483647) (hWP : ∀ k : Nat, k < 9 → r_i (hr_wb heat wm n A k (hr_b k n 0 A 0)) ∧ r_i (hr_pc (hr_b k n 0 A 0))) : ∀ (f x : Nat) (m : z_M), x + f = 9 → m 251 1 = w → m 251 2 = h → m 251 3 = (n : Int) → m 251 5 = heat → m a 35 = t → (∀ p, p < 5 → rwm m p t = wm p) → r_Hml ml m → r_rg a m → rS m a n = A → ∃ m', z_R 208 (m, 22, [(2, 251), (2, ((a : Nat) : Int)), (0, (x : Int)), (9, 0), (9, 0)], []) = z_R 208 (m', 75, [(2, 251), (2, ((a : Nat) : Int)), (0, 0), (9, 0), (9, 0)], []) ∧ (∀ k, x ≤ k → k < 9 → m' 262 k = hr_me w h heat ml wm n A k) ∧ (∀ k, k < x → m' 262 k = m 262 k) ∧ m' 251 28 = hr_ms (hr_me w h heat ml wm n A) f x (m 251 28) ∧ z_same r_L1 m m' := by
  have ha3 := r_ne251 ha2
  intro f
  induction f with
  | zero =>
    intro x m hx hw hh hn hheat h35 hwm hml h0 hA
    rw [t_hr_22 ha ha2 m x ⟨by omega, by omega⟩, if_pos (by omega)]
    exact ⟨m, rfl, fun k h1 h2 => by omega, fun k _ => rfl, rfl, z_same.rf⟩
  | succ f ih =>
    intro x m hx hw hh hn hheat h35 hwm hml h0 hA
    have go : ∀ (m1 : z_M) (u : Int), z_same r_RL m m1 → u = hr_me w h heat ml wm n A x → ∃ m', z_R 208 (z_up (z_up m1 262 x u) 251 28 (z_add (m1 251 28) ((z_up m1 262 x u) 262 x)), 22, [(2, 251), (2, ((a : Nat) : Int)), (0, ((x + 1 : Nat) : Int)), (9, 0), (9, 0)], []) = z_R 208 (m', 75, [(2, 251), (2, ((a : Nat) : Int)), (0, 0), (9, 0), (9, 0)], []) ∧ (∀ k, x ≤ k → k < 9 → m' 262 k = hr_me w h heat ml wm n A k) ∧ (∀ k, k < x → m' 262 k = m 262 k) ∧ m' 251 28 = hr_ms (hr_me w h heat ml wm n A) f (x + 1) (z_add (m 251 28) (hr_me w h heat ml wm n A x)) ∧ z_same r_L1 m m' := by
      intro m1 u sm hu
      have s1 : z_same r_L1 m m1 := sm.subo (by (try unfold r_RL); (try unfold r_L1); (try unfold r_LP); (try unfold r_LG); (repeat' (first | exact trivial | refine z_sbo_c ?_ ?_)) <;> (intro k h1 h2; first | exact z_on_h rfl (by omega) (by omega) | exact z_on_t (z_on_h rfl (by omega) (by omega)) | exact z_on_t (z_on_t (z_on_h rfl (by omega) (by omega))) | exact z_on_t (z_on_t (z_on_t (z_on_h rfl (by omega) (by omega)))) | exact z_on_t (z_on_t (z_on_t (z_on_t (z_on_h rfl (by omega) (by omega))))) | exact z_on_t (z_on_t (z_on_t (z_on_t (z_on_t (z_on_h rfl (by omega) (by omega)))))) | exact z_on_t (z_on_t (z_on_t (z_on_t (z_on_t (z_on_t (z_on_h rfl (by omega) (by omega))))))) | exact z_on_t (z_on_t (z_on_t (z_on_t (z_on_t (z_on_t (z_on_t (z_on_h rfl (by omega) (by omega)))))))) | exact z_on_t (z_on_t (z_on_t (z_on_t (z_on_t (z_on_t (z_on_t (z_on_t (z_on_h rfl (by omega) (by omega))))))))) | exact z_on_t (z_on_t (z_on_t (z_on_t (z_on_t (z_on_t (z_on_t (z_on_t (z_on_t (z_on_h rfl (by omega) (by omega)))))))))) | exact z_on_t (z_on_t (z_on_t (z_on_t (z_on_t (z_on_t (z_on_t (z_on_t (z_on_t (z_on_t (z_on_h rfl (by omega) (by omega))))))))))) | exact z_on_t (z_on_t (z_on_t (z_on_t (z_on_t (z_on_t (z_on_t (z_on_t (z_on_t (z_on_t (z_on_t (z_on_h rfl (by omega) (by omega)))))))))))) | exact z_on_t (z_on_t (z_on_t (z_on_t (z_on_t (z_on_t (z_on_t (z_on_t (z_on_t (z_on_t (z_on_t (z_on_t (z_on_h rfl (by omega) (by omega)))))))))))))))
      have s2 : z_same r_L1 m (z_up (z_up m1 262 x u) 251 28 (z_add (m1 251 28) ((z_up m1 262 x u) 262 x))) := (s1.upo (by (try unfold r_RL); (try unfold r_L1); (try unfold r_LP); (try unfold r_LG); first | exact z_on_h rfl (by omega) (by omega) | exact z_on_t (z_on_h rfl (by omega) (by omega)) | exact z_on_t (z_on_t (z_on_h rfl (by omega) (by omega))) | exact z_on_t (z_on_t (z_on_t (z_on_h rfl (by omega) (by omega)))) | exact z_on_t (z_on_t (z_on_t (z_on_t (z_on_h rfl (by omega) (by omega))))) | exact z_on_t (z_on_t (z_on_t (z_on_t (z_on_t (z_on_h rfl (by omega) (by omega)))))) | exact z_on_t (z_on_t (z_on_t (z_on_t (z_on_t (z_on_t (z_on_h rfl (by omega) (by omega))))))) | exact z_on_t (z_on_t (z_on_t (z_on_t (z_on_t (z_on_t (z_on_t (z_on_h rfl (by omega) (by omega)))))))) | exact z_on_t (z_on_t (z_on_t (z_on_t (z_on_t (z_on_t (z_on_t (z_on_t (z_on_h rfl (by omega) (by omega))))))))) | exact z_on_t (z_on_t (z_on_t (z_on_t (z_on_t (z_on_t (z_on_t (z_on_t (z_on_t (z_on_h rfl (by omega) (by omega)))))))))) | exact z_on_t (z_on_t (z_on_t (z_on_t (z_on_t (z_on_t (z_on_t (z_on_t (z_on_t (z_on_t (z_on_h rfl (by omega) (by omega))))))))))) | exact z_on_t (z_on_t (z_on_t (z_on_t (z_on_t (z_on_t (z_on_t (z_on_t (z_on_t (z_on_t (z_on_t (z_on_h rfl (by omega) (by omega)))))))))))) | exact z_on_t (z_on_t (z_on_t (z_on_t (z_on_t (z_on_t (z_on_t (z_on_t (z_on_t (z_on_t (z_on_t (z_on_t (z_on_h rfl (by omega) (by omega))))))))))))))).upo (by (try unfold r_RL); (try unfold r_L1); (try unfold r_LP); (try unfold r_LG); first | exact z_on_h rfl (by omega) (by omega) | exact z_on_t (z_on_h rfl (by omega) (by omega)) | exact z_on_t (z_on_t (z_on_h rfl (by omega) (by omega))) | exact z_on_t (z_on_t (z_on_t (z_on_h rfl (by omega) (by omega)))) | exact z_on_t (z_on_t (z_on_t (z_on_t (z_on_h rfl (by omega) (by omega))))) | exact z_on_t (z_on_t (z_on_t (z_on_t (z_on_t (z_on_h rfl (by omega) (by omega)))))) | exact z_on_t (z_on_t (z_on_t (z_on_t (z_on_t (z_on_t (z_on_h rfl (by omega) (by omega))))))) | exact z_on_t (z_on_t (z_on_t (z_on_t (z_on_t (z_on_t (z_on_t (z_on_h rfl (by omega) (by omega)))))))) | exact z_on_t (z_on_t (z_on_t (z_on_t (z_on_t (z_on_t (z_on_t (z_on_t (z_on_h rfl (by omega) (by omega))))))))) | exact z_on_t (z_on_t (z_on_t (z_on_t (z_on_t (z_on_t (z_on_t (z_on_t (z_on_t (z_on_h rfl (by omega) (by omega)))))))))) | exact z_on_t (z_on_t (z_on_t (z_on_t (z_on_t (z_on_t (z_on_t (z_on_t (z_on_t (z_on_t (z_on_h rfl (by omega) (by omega))))))))))) | exact z_on_t (z_on_t (z_on_t (z_on_t (z_on_t (z_on_t (z_on_t (z_on_t (z_on_t (z_on_t (z_on_t (z_on_h rfl (by omega) (by omega)))))))))))) | exact z_on_t (z_on_t (z_on_t (z_on_t (z_on_t (z_on_t (z_on_t (z_on_t (z_on_t (z_on_t (z_on_t (z_on_t (z_on_h rfl (by omega) (by omega))))))))))))))
      generalize hm2 : z_up (z_up m1 262 x u) 251 28 (z_add (m1 251 28) ((z_up m1 262 x u) 262 x)) = m2 at s2 ⊢
      have e28 : m2 251 28 = z_add (m 251 28) (hr_me w h heat ml wm n A x) := by rw [← hm2, zu_self, zu_self, hu, sm.of (by (try unfold r_RL); (try unfold r_L1); (try unfold r_LP); (try unfold r_LG); (repeat' (first | exact trivial | refine z_of_c ?_ ?_)) <;> omega)]
      have e262 : m2 262 x = hr_me w h heat ml wm n A x := by rw [← hm2, zu_p (by decide), zu_self, hu]
      have e262' : ∀ k, ¬ k = x → m2 262 k = m 262 k := fun k hk => by rw [← hm2, zu_p (by decide), zu_k hk, sm.of (by (try unfold r_RL); (try unfold r_L1); (try unfold r_LP); (try unfold r_LG); (repeat' (first | exact trivial | refine z_of_c ?_ ?_)) <;> omega)]
      have ea : m2 a = m a := s2.ofr (by (try unfold r_RL); (try unfold r_L1); (try unfold r_LP); (try unfold r_LG); (repeat' (first | exact trivial | refine z_ofr_c ?_ ?_)) <;> omega)
      obtain ⟨m', a1, a2, a3, a4, a5⟩ := ih (x + 1) m2 (by omega) ((s2.of (by (try unfold r_RL); (try unfold r_L1); (try unfold r_LP); (try unfold r_LG); (repeat' (first | exact trivial | refine z_of_c ?_ ?_)) <;> omega)).trans hw) ((s2.of (by (try unfold r_RL); (try unfold r_L1); (try unfold r_LP); (try unfold r_LG); (repeat' (first | exact trivial | refine z_of_c ?_ ?_)) <;> omega)).trans hh) ((s2.of (by (try unfold r_RL); (try unfold r_L1); (try unfold r_LP); (try unfold r_LG); (repeat' (first | exact trivial | refine z_of_c ?_ ?_)) <;> omega)).trans hn) ((s2.of (by (try unfold r_RL); (try unfold r_L1); (try unfold r_LP); (try unfold r_LG); (repeat' (first | exact trivial | refine z_of_c ?_ ?_)) <;> omega)).trans hheat) ((congrFun ea 35).trans h35) (fun p hp => (rwm_sm (s2.of (by (try unfold r_RL); (try unfold r_L1); (try unfold r_LP); (try unfold r_LG); (repeat' (first | exact trivial | refine z_of_c ?_ ?_)) <;> omega)) (s2.ofr (by (try unfold r_RL); (try unfold r_L1); (try unfold r_LP); (try unfold r_LG); (repeat' (first | exact trivial | refine z_ofr_c ?_ ?_)) <;> omega))).trans (hwm p hp)) (fun m3 z1 z2 => hml m3 (z1.trans (s2.ofr (by (try unfold r_RL); (try unfold r_L1); (try unfold r_LP); (try unfold r_LG); (repeat' (first | exact trivial | refine z_ofr_c ?_ ?_)) <;> omega))) (z2.trans (s2.of (by (try unfold r_RL); (try unfold r_L1); (try unfold r_LP); (try unfold r_LG); (repeat' (first | exact trivial | refine z_of_c ?_ ?_)) <;> omega)))) (by unfold r_rg; rw [ea]; exact h0) ((rS_row ea).trans hA)
      refine ⟨m', a1, fun k h1 h2 => ?_, fun k h1 => ?_, by rw [a4, e28], s2.tr a5⟩
      · by_cases hk : k = x
        · rw [hk, a3 x (by omega), e262]
        · exact a2 k (by omega) h2
      · rw [a3 k (by omega), e262' k (by omega)]
    rw [t_hr_22 ha ha2 m x ⟨by omega, by omega⟩, if_neg (by omega), t_roomv, zb_v, t_hr_38 ha ha2 m x x _ ⟨by omega, by omega⟩ ⟨by omega, by omega⟩, hw, hh, Int.toNat_natCast, tc1]
    unfold hr_ms
    by_cases c : u_hs w h (x : Int) = 0
    · rw [if_pos c]
      exact go m 0 z_same.rf (by unfold hr_me; rw [if_pos c])
    · rw [if_neg c]
      obtain ⟨m1, b1, b2⟩ := r_mn ha ha2 hn5 ht ht2 m hn hheat h35 hwm hml (k := x) (by omega) h0 (by rw [hA]; exact (hWP x (by omega)).1) (by rw [hA]; exact (hWP x (by omega)).2)
      rw [b1, zb_v, t_hr_47 ha ha2 m1 x x _ ⟨by omega, by omega⟩ ⟨by omega, by omega⟩, Int.toNat_natCast, tc1]
      exact go m1 _ b2 (by unfold hr_me; rw [if_neg c, hA])
def hr_o (wm : Nat → Int) (price : Int) : Nat → Nat → (Nat → Int) → (Nat → Int)
  | 0, _, A => A
  | f + 1, x, A => hr_o wm price f (x + 1) (if A (x + 18) = -1 then A else u_up A (x + 23) (z_add (A (x + 23)) (z_mul price (wm x))))
theorem r_h2 {a : Nat} (ha : z_A 37 a) (ha2 : z_ab a) {n : Nat} (hn5 : n ≤ 5) {t price : Int} {wm : Nat → Int} (ht : 0 ≤ t) (ht2 : t ≤ 2147483647) {h : Int} (hh3 : 0 ≤ h ∧ h ≤ 3) : ∀ (f x : Nat) (m : z_M), x + f = n → m 251 2 = h → m 251 3 = (n : Int) → m 251 6 = price → m a 35 = t → (∀ p, p < 5 → rwm m p t = wm p) → ∃ m', z_R 208 (m, 75, [(2, 251), (2, ((a : Nat) : Int)), (0, (x : Int)), (9, 0), (9, 0)], []) = z_R 208 (m', 126, [(2, 251), (2, ((a : Nat) : Int)), (0, h - 1), (9, 0), (9, 0)], []) ∧ rS m' a n = hr_o wm price f x (rS m a n) ∧ z_same [(a, 23, 27)] m m' := by
  have ha3 := r_ne251 ha2
  intro f
  induction f with
  | zero =>
    intro x m hx hh hn hp h35 hw
    rw [t_hr_75 ha ha2 m x ⟨by omega, by omega⟩ ⟨by omega, by omega⟩ ⟨by omega, by omega⟩, if_pos (by omega), hh]
    exact ⟨m, rfl, rfl, z_same.rf⟩
  | succ f ih =>
    intro x m hx hh hn hp h35 hw
    have eA : rS m a n (x + 18) = m a (x + 18) := rS_at (by omega) (a_vis_p (b := 18) (p := x) (by omega) (by omega) (by omega) (by omega))
    have eO : rS m a n (x + 23) = m a (x + 23) := rS_at (by omega) (a_vis_p (b := 23) (p := x) (by omega) (by omega) (by omega) (by omega))
    rw [t_hr_75 ha ha2 m x ⟨by omega, by omega⟩ ⟨by omega, by omega⟩ ⟨by omega, by omega⟩, if_neg (by omega), tn18, tn23, tc1]
    unfold hr_o
    rw [eA]
    by_cases c : m a (x + 18) = -1
    · rw [if_pos c, if_pos c]
      exact ih (x + 1) m (by omega) hh hn hp h35 hw
    · rw [if_neg c, if_neg c, r_wo ha ha2 m (by omega) h35 ht ht2, zb_v, t_hr_110 ha ha2 m x _ _ ((x : Int) + 23) _ ⟨by omega, by omega⟩ ⟨by omega, by omega⟩, tn23, tc1, hw x (by omega), hp, eO]
      have sm : z_same [(a, 23, 27)] m (z_up m a (x + 23) (z_add (m a (x + 23)) (z_mul price (wm x)))) := z_same.rf.upo (by (try unfold r_RL); (try unfold r_L1); (try unfold r_LP); (try unfold r_LG); first | exact z_on_h rfl (by omega) (by omega) | exact z_on_t (z_on_h rfl (by omega) (by omega)) | exact z_on_t (z_on_t (z_on_h rfl (by omega) (by omega))) | exact z_on_t (z_on_t (z_on_t (z_on_h rfl (by omega) (by omega)))) | exact z_on_t (z_on_t (z_on_t (z_on_t (z_on_h rfl (by omega) (by omega))))) | exact z_on_t (z_on_t (z_on_t (z_on_t (z_on_t (z_on_h rfl (by omega) (by omega)))))) | exact z_on_t (z_on_t (z_on_t (z_on_t (z_on_t (z_on_t (z_on_h rfl (by omega) (by omega))))))) | exact z_on_t (z_on_t (z_on_t (z_on_t (z_on_t (z_on_t (z_on_t (z_on_h rfl (by omega) (by omega)))))))) | exact z_on_t (z_on_t (z_on_t (z_on_t (z_on_t (z_on_t (z_on_t (z_on_t (z_on_h rfl (by omega) (by omega))))))))) | exact z_on_t (z_on_t (z_on_t (z_on_t (z_on_t (z_on_t (z_on_t (z_on_t (z_on_t (z_on_h rfl (by omega) (by omega)))))))))) | exact z_on_t (z_on_t (z_on_t (z_on_t (z_on_t (z_on_t (z_on_t (z_on_t (z_on_t (z_on_t (z_on_h rfl (by omega) (by omega))))))))))) | exact z_on_t (z_on_t (z_on_t (z_on_t (z_on_t (z_on_t (z_on_t (z_on_t (z_on_t (z_on_t (z_on_t (z_on_h rfl (by omega) (by omega)))))))))))) | exact z_on_t (z_on_t (z_on_t (z_on_t (z_on_t (z_on_t (z_on_t (z_on_t (z_on_t (z_on_t (z_on_t (z_on_t (z_on_h rfl (by omega) (by omega))))))))))))))
      generalize hm1 : z_up m a (x + 23) (z_add (m a (x + 23)) (z_mul price (wm x))) = m1 at sm ⊢
      have eS : rS m1 a n = u_up (rS m a n) (x + 23) (z_add (m a (x + 23)) (z_mul price (wm x))) := by rw [← hm1, rS_up (by omega) (a_vis_p (b := 23) (p := x) (by omega) (by omega) (by omega) (by omega))]
      obtain ⟨m', a1, a2, a3⟩ := ih (x + 1) m1 (by omega) ((sm.of (by (try unfold r_RL); (try unfold r_L1); (try unfold r_LP); (try unfold r_LG); (repeat' (first | exact trivial | refine z_of_c ?_ ?_)) <;> omega)).trans hh) ((sm.of (by (try unfold r_RL); (try unfold r_L1); (try unfold r_LP); (try unfold r_LG); (repeat' (first | exact trivial | refine z_of_c ?_ ?_)) <;> omega)).trans hn) ((sm.of (by (try unfold r_RL); (try unfold r_L1); (try unfold r_LP); (try unfold r_LG); (repeat' (first | exact trivial | refine z_of_c ?_ ?_)) <;> omega)).trans hp) ((sm.of (by (try unfold r_RL); (try unfold r_L1); (try unfold r_LP); (try unfold r_LG); (repeat' (first | exact trivial | refine z_of_c ?_ ?_)) <;> omega)).trans h35) (fun p hp5 => (rwm_sm (sm.of (by (try unfold r_RL); (try unfold r_L1); (try unfold r_LP); (try unfold r_LG); (repeat' (first | exact trivial | refine z_of_c ?_ ?_)) <;> omega)) (sm.ofr (by (try unfold r_RL); (try unfold r_L1); (try unfold r_LP); (try unfold r_LG); (repeat' (first | exact trivial | refine z_ofr_c ?_ ?_)) <;> omega))).trans (hw p hp5))
      rw [eS] at a2
      exact ⟨m', a1, a2, sm.tr a3⟩
/-! what melted drips, from the lowest storey up -/
def hr_x (h : Nat) (e : Nat → Int) (y : Nat) : Nat → Nat → (Nat → Int) → (Nat → Int)
  | 0, _, A => A
  | f + 1, x, A => hr_x h e y f (x + 1) (hr_d1 (if y + 1 = h then 0 else 1) (e (3 * y + x)) (3 * y + x) A)
def hr_y (w h : Nat) (e : Nat → Int) : Nat → (Nat → Int) → (Nat → Int)
  | 0, A => A
  | y + 1, A => hr_y w h e y (hr_x h e y w 0 A)
theorem r_h3x {a : Nat} (ha : z_A 37 a) (ha2 : z_ab a) {n w h y : Nat} (hw3 : w ≤ 3) (hh3 : h ≤ 3) (hy : y < h) {e : Nat → Int} : ∀ (f x : Nat) (v4 : z_V) (m : z_M), x + f = w → m 251 1 = (w : Int) → m 251 2 = (h : Int) → (∀ k, k < 9 → m 262 k = e k) → ∃ m' v4', z_R 208 (m, 132, [(2, 251), (2, ((a : Nat) : Int)), (0, (y : Int)), (0, (x : Int)), v4], []) = z_R 208 (m', 126, [(2, 251), (2, ((a : Nat) : Int)), (0, (y : Int) - 1), (0, (w : Int)), v4'], []) ∧ rS m' a n = hr_x h e y f x (rS m a n) ∧ z_same [(a, 0, 17), (a, 33, 33)] m m' := by
  have ha3 := r_ne251 ha2
  intro f
  induction f with
  | zero =>
    intro x v4 m hx hw hh he
    have ex : x = w := by omega
    subst ex
    rw [t_hr_132 ha ha2 m y x v4 ⟨by omega, by omega⟩ ⟨by omega, by omega⟩ ⟨by omega, by omega⟩ ⟨by omega, by omega⟩, if_pos (by omega)]
    exact ⟨m, v4, rfl, rfl, z_same.rf⟩
  | succ f ih =>
    intro x v4 m hx hw hh he
    generalize hr : 3 * y + x = r
    have hr9 : r < 9 := by omega
    have t0 : (3 * (y : Int) + (x : Int)).toNat = r := by omega
    have t9 : (3 * (y : Int) + (x : Int) + 9).toNat = r + 9 := by omega
    have t12 : (3 * (y : Int) + (x : Int) + 12).toNat = r + 12 := by omega
    have e0 : rS m a n r = m a r := rS_at (by omega) (a_vis_lo (by omega))
    have e9 : rS m a n (r + 9) = m a (r + 9) := rS_at (by omega) (a_vis_lo (by omega))
    have e33 : rS m a n 33 = m a 33 := rS_at (by omega) (a_vis_hi (by omega))
    rw [t_hr_132 ha ha2 m y x v4 ⟨by omega, by omega⟩ ⟨by omega, by omega⟩ ⟨by omega, by omega⟩ ⟨by omega, by omega⟩, if_neg (by omega), t0, t9, t12, tc1, he r hr9]
    unfold hr_x
    rw [hr]
    have go : ∀ m1 : z_M, z_same [(a, 0, 17), (a, 33, 33)] m m1 → rS m1 a n = hr_d1 (if y + 1 = h then 0 else 1) (e r) r (rS m a n) → ∃ m' v4', z_R 208 (m1, 132, [(2, 251), (2, ((a : Nat) : Int)), (0, (y : Int)), (0, ((x + 1 : Nat) : Int)), (0, 3 * (y : Int) + (x : Int))], []) = z_R 208 (m', 126, [(2, 251), (2, ((a : Nat) : Int)), (0, (y : Int) - 1), (0, (w : Int)), v4'], []) ∧ rS m' a n = hr_x h e y f (x + 1) (hr_d1 (if y + 1 = h then 0 else 1) (e r) r (rS m a n)) ∧ z_same [(a, 0, 17), (a, 33, 33)] m m' := by
      intro m1 sm eS
      obtain ⟨m', v4', a1, a2, a3⟩ := ih (x + 1) (0, 3 * (y : Int) + (x : Int)) m1 (by omega) ((sm.of (by (try unfold r_RL); (try unfold r_L1); (try unfold r_LP); (try unfold r_LG); (repeat' (first | exact trivial | refine z_of_c ?_ ?_)) <;> omega)).trans hw) ((sm.of (by (try unfold r_RL); (try unfold r_L1); (try unfold r_LP); (try unfold r_LG); (repeat' (first | exact trivial | refine z_of_c ?_ ?_)) <;> omega)).trans hh) (fun k hk => (sm.of (by (try unfold r_RL); (try unfold r_L1); (try unfold r_LP); (try unfold r_LG); (repeat' (first | exact trivial | refine z_of_c ?_ ?_)) <;> omega)).trans (he k hk))
      rw [eS] at a2
      exact ⟨m', v4', a1, a2, sm.tr a3⟩
    by_cases c : (y : Int) = (h : Int) - 1
    · have c' : y + 1 = h := by omega
      rw [hh, if_pos c]
      refine go _ (((z_same.rf.upo (by (try unfold r_RL); (try unfold r_L1); (try unfold r_LP); (try unfold r_LG); first | exact z_on_h rfl (by omega) (by omega) | exact z_on_t (z_on_h rfl (by omega) (by omega)) | exact z_on_t (z_on_t (z_on_h rfl (by omega) (by omega))) | exact z_on_t (z_on_t (z_on_t (z_on_h rfl (by omega) (by omega)))) | exact z_on_t (z_on_t (z_on_t (z_on_t (z_on_h rfl (by omega) (by omega))))) | exact z_on_t (z_on_t (z_on_t (z_on_t (z_on_t (z_on_h rfl (by omega) (by omega)))))) | exact z_on_t (z_on_t (z_on_t (z_on_t (z_on_t (z_on_t (z_on_h rfl (by omega) (by omega))))))) | exact z_on_t (z_on_t (z_on_t (z_on_t (z_on_t (z_on_t (z_on_t (z_on_h rfl (by omega) (by omega)))))))) | exact z_on_t (z_on_t (z_on_t (z_on_t (z_on_t (z_on_t (z_on_t (z_on_t (z_on_h rfl (by omega) (by omega))))))))) | exact z_on_t (z_on_t (z_on_t (z_on_t (z_on_t (z_on_t (z_on_t (z_on_t (z_on_t (z_on_h rfl (by omega) (by omega)))))))))) | exact z_on_t (z_on_t (z_on_t (z_on_t (z_on_t (z_on_t (z_on_t (z_on_t (z_on_t (z_on_t (z_on_h rfl (by omega) (by omega))))))))))) | exact z_on_t (z_on_t (z_on_t (z_on_t (z_on_t (z_on_t (z_on_t (z_on_t (z_on_t (z_on_t (z_on_t (z_on_h rfl (by omega) (by omega)))))))))))) | exact z_on_t (z_on_t (z_on_t (z_on_t (z_on_t (z_on_t (z_on_t (z_on_t (z_on_t (z_on_t (z_on_t (z_on_t (z_on_h rfl (by omega) (by omega))))))))))))))).upo (by (try unfold r_RL); (try unfold r_L1); (try unfold r_LP); (try unfold r_LG); first | exact z_on_h rfl (by omega) (by omega) | exact z_on_t (z_on_h rfl (by omega) (by omega)) | exact z_on_t (z_on_t (z_on_h rfl (by omega) (by omega))) | exact z_on_t (z_on_t (z_on_t (z_on_h rfl (by omega) (by omega)))) | exact z_on_t (z_on_t (z_on_t (z_on_t (z_on_h rfl (by omega) (by omega))))) | exact z_on_t (z_on_t (z_on_t (z_on_t (z_on_t (z_on_h rfl (by omega) (by omega)))))) | exact z_on_t (z_on_t (z_on_t (z_on_t (z_on_t (z_on_t (z_on_h rfl (by omega) (by omega))))))) | exact z_on_t (z_on_t (z_on_t (z_on_t (z_on_t (z_on_t (z_on_t (z_on_h rfl (by omega) (by omega)))))))) | exact z_on_t (z_on_t (z_on_t (z_on_t (z_on_t (z_on_t (z_on_t (z_on_t (z_on_h rfl (by omega) (by omega))))))))) | exact z_on_t (z_on_t (z_on_t (z_on_t (z_on_t (z_on_t (z_on_t (z_on_t (z_on_t (z_on_h rfl (by omega) (by omega)))))))))) | exact z_on_t (z_on_t (z_on_t (z_on_t (z_on_t (z_on_t (z_on_t (z_on_t (z_on_t (z_on_t (z_on_h rfl (by omega) (by omega))))))))))) | exact z_on_t (z_on_t (z_on_t (z_on_t (z_on_t (z_on_t (z_on_t (z_on_t (z_on_t (z_on_t (z_on_t (z_on_h rfl (by omega) (by omega)))))))))))) | exact z_on_t (z_on_t (z_on_t (z_on_t (z_on_t (z_on_t (z_on_t (z_on_t (z_on_t (z_on_t (z_on_t (z_on_t (z_on_h rfl (by omega) (by omega))))))))))))))).upo (by (try unfold r_RL); (try unfold r_L1); (try unfold r_LP); (try unfold r_LG); first | exact z_on_h rfl (by omega) (by omega) | exact z_on_t (z_on_h rfl (by omega) (by omega)) | exact z_on_t (z_on_t (z_on_h rfl (by omega) (by omega))) | exact z_on_t (z_on_t (z_on_t (z_on_h rfl (by omega) (by omega)))) | exact z_on_t (z_on_t (z_on_t (z_on_t (z_on_h rfl (by omega) (by omega))))) | exact z_on_t (z_on_t (z_on_t (z_on_t (z_on_t (z_on_h rfl (by omega) (by omega)))))) | exact z_on_t (z_on_t (z_on_t (z_on_t (z_on_t (z_on_t (z_on_h rfl (by omega) (by omega))))))) | exact z_on_t (z_on_t (z_on_t (z_on_t (z_on_t (z_on_t (z_on_t (z_on_h rfl (by omega) (by omega)))))))) | exact z_on_t (z_on_t (z_on_t (z_on_t (z_on_t (z_on_t (z_on_t (z_on_t (z_on_h rfl (by omega) (by omega))))))))) | exact z_on_t (z_on_t (z_on_t (z_on_t (z_on_t (z_on_t (z_on_t (z_on_t (z_on_t (z_on_h rfl (by omega) (by omega)))))))))) | exact z_on_t (z_on_t (z_on_t (z_on_t (z_on_t (z_on_t (z_on_t (z_on_t (z_on_t (z_on_t (z_on_h rfl (by omega) (by omega))))))))))) | exact z_on_t (z_on_t (z_on_t (z_on_t (z_on_t (z_on_t (z_on_t (z_on_t (z_on_t (z_on_t (z_on_t (z_on_h rfl (by omega) (by omega)))))))))))) | exact z_on_t (z_on_t (z_on_t (z_on_t (z_on_t (z_on_t (z_on_t (z_on_t (z_on_t (z_on_t (z_on_t (z_on_t (z_on_h rfl (by omega) (by omega))))))))))))))) ?_
      rw [rS_up (by omega) (a_vis_lo (by omega)), rS_up (by omega) (a_vis_lo (by omega)), rS_up (by omega) (a_vis_hi (by omega))]
      unfold hr_d1
      rw [if_pos c', if_pos rfl, e0, e9, e33]
    · have c' : ¬ y + 1 = h := by omega
      have e12 : rS m a n (r + 12) = m a (r + 12) := rS_at (by omega) (a_vis_lo (by omega))
      rw [hh, if_neg c]
      refine go _ (((z_same.rf.upo (by (try unfold r_RL); (try unfold r_L1); (try unfold r_LP); (try unfold r_LG); first | exact z_on_h rfl (by omega) (by omega) | exact z_on_t (z_on_h rfl (by omega) (by omega)) | exact z_on_t (z_on_t (z_on_h rfl (by omega) (by omega))) | exact z_on_t (z_on_t (z_on_t (z_on_h rfl (by omega) (by omega)))) | exact z_on_t (z_on_t (z_on_t (z_on_t (z_on_h rfl (by omega) (by omega))))) | exact z_on_t (z_on_t (z_on_t (z_on_t (z_on_t (z_on_h rfl (by omega) (by omega)))))) | exact z_on_t (z_on_t (z_on_t (z_on_t (z_on_t (z_on_t (z_on_h rfl (by omega) (by omega))))))) | exact z_on_t (z_on_t (z_on_t (z_on_t (z_on_t (z_on_t (z_on_t (z_on_h rfl (by omega) (by omega)))))))) | exact z_on_t (z_on_t (z_on_t (z_on_t (z_on_t (z_on_t (z_on_t (z_on_t (z_on_h rfl (by omega) (by omega))))))))) | exact z_on_t (z_on_t (z_on_t (z_on_t (z_on_t (z_on_t (z_on_t (z_on_t (z_on_t (z_on_h rfl (by omega) (by omega)))))))))) | exact z_on_t (z_on_t (z_on_t (z_on_t (z_on_t (z_on_t (z_on_t (z_on_t (z_on_t (z_on_t (z_on_h rfl (by omega) (by omega))))))))))) | exact z_on_t (z_on_t (z_on_t (z_on_t (z_on_t (z_on_t (z_on_t (z_on_t (z_on_t (z_on_t (z_on_t (z_on_h rfl (by omega) (by omega)))))))))))) | exact z_on_t (z_on_t (z_on_t (z_on_t (z_on_t (z_on_t (z_on_t (z_on_t (z_on_t (z_on_t (z_on_t (z_on_t (z_on_h rfl (by omega) (by omega))))))))))))))).upo (by (try unfold r_RL); (try unfold r_L1); (try unfold r_LP); (try unfold r_LG); first | exact z_on_h rfl (by omega) (by omega) | exact z_on_t (z_on_h rfl (by omega) (by omega)) | exact z_on_t (z_on_t (z_on_h rfl (by omega) (by omega))) | exact z_on_t (z_on_t (z_on_t (z_on_h rfl (by omega) (by omega)))) | exact z_on_t (z_on_t (z_on_t (z_on_t (z_on_h rfl (by omega) (by omega))))) | exact z_on_t (z_on_t (z_on_t (z_on_t (z_on_t (z_on_h rfl (by omega) (by omega)))))) | exact z_on_t (z_on_t (z_on_t (z_on_t (z_on_t (z_on_t (z_on_h rfl (by omega) (by omega))))))) | exact z_on_t (z_on_t (z_on_t (z_on_t (z_on_t (z_on_t (z_on_t (z_on_h rfl (by omega) (by omega)))))))) | exact z_on_t (z_on_t (z_on_t (z_on_t (z_on_t (z_on_t (z_on_t (z_on_t (z_on_h rfl (by omega) (by omega))))))))) | exact z_on_t (z_on_t (z_on_t (z_on_t (z_on_t (z_on_t (z_on_t (z_on_t (z_on_t (z_on_h rfl (by omega) (by omega)))))))))) | exact z_on_t (z_on_t (z_on_t (z_on_t (z_on_t (z_on_t (z_on_t (z_on_t (z_on_t (z_on_t (z_on_h rfl (by omega) (by omega))))))))))) | exact z_on_t (z_on_t (z_on_t (z_on_t (z_on_t (z_on_t (z_on_t (z_on_t (z_on_t (z_on_t (z_on_t (z_on_h rfl (by omega) (by omega)))))))))))) | exact z_on_t (z_on_t (z_on_t (z_on_t (z_on_t (z_on_t (z_on_t (z_on_t (z_on_t (z_on_t (z_on_t (z_on_t (z_on_h rfl (by omega) (by omega))))))))))))))).upo (by (try unfold r_RL); (try unfold r_L1); (try unfold r_LP); (try unfold r_LG); first | exact z_on_h rfl (by omega) (by omega) | exact z_on_t (z_on_h rfl (by omega) (by omega)) | exact z_on_t (z_on_t (z_on_h rfl (by omega) (by omega))) | exact z_on_t (z_on_t (z_on_t (z_on_h rfl (by omega) (by omega)))) | exact z_on_t (z_on_t (z_on_t (z_on_t (z_on_h rfl (by omega) (by omega))))) | exact z_on_t (z_on_t (z_on_t (z_on_t (z_on_t (z_on_h rfl (by omega) (by omega)))))) | exact z_on_t (z_on_t (z_on_t (z_on_t (z_on_t (z_on_t (z_on_h rfl (by omega) (by omega))))))) | exact z_on_t (z_on_t (z_on_t (z_on_t (z_on_t (z_on_t (z_on_t (z_on_h rfl (by omega) (by omega)))))))) | exact z_on_t (z_on_t (z_on_t (z_on_t (z_on_t (z_on_t (z_on_t (z_on_t (z_on_h rfl (by omega) (by omega))))))))) | exact z_on_t (z_on_t (z_on_t (z_on_t (z_on_t (z_on_t (z_on_t (z_on_t (z_on_t (z_on_h rfl (by omega) (by omega)))))))))) | exact z_on_t (z_on_t (z_on_t (z_on_t (z_on_t (z_on_t (z_on_t (z_on_t (z_on_t (z_on_t (z_on_h rfl (by omega) (by omega))))))))))) | exact z_on_t (z_on_t (z_on_t (z_on_t (z_on_t (z_on_t (z_on_t (z_on_t (z_on_t (z_on_t (z_on_t (z_on_h rfl (by omega) (by omega)))))))))))) | exact z_on_t (z_on_t (z_on_t (z_on_t (z_on_t (z_on_t (z_on_t (z_on_t (z_on_t (z_on_t (z_on_t (z_on_t (z_on_h rfl (by omega) (by omega))))))))))))))) ?_
      rw [rS_up (by omega) (a_vis_lo (by omega)), rS_up (by omega) (a_vis_lo (by omega)), rS_up (by omega) (a_vis_lo (by omega))]
      unfold hr_d1
      rw [if_neg c', if_neg (by decide), e0, e9, e12]
theorem r_h3 {a : Nat} (ha : z_A 37 a) (ha2 : z_ab a) {n w h : Nat} (hw3 : w ≤ 3) (hh3 : h ≤ 3) {e : Nat → Int} : ∀ (y : Nat) (v3 v4 : z_V) (m : z_M), y ≤ h → m 251 1 = (w : Int) → m 251 2 = (h : Int) → (∀ k, k < 9 → m 262 k = e k) → ∃ m' v3' v4', z_R 208 (m, 126, [(2, 251), (2, ((a : Nat) : Int)), (0, (y : Int) - 1), v3, v4], []) = z_R 208 (m', 235, [(2, 251), (2, ((a : Nat) : Int)), (0, 0), v3', v4'], []) ∧ rS m' a n = hr_y w h e y (rS m a n) ∧ z_same [(a, 0, 17), (a, 33, 33)] m m' := by
  have ha3 := r_ne251 ha2
  intro y
  induction y with
  | zero =>
    intro v3 v4 m hy hw hh he
    rw [t_hr_126 ha ha2 m _ v3 v4 ⟨by omega, by omega⟩, if_pos (by omega)]
    exact ⟨m, v3, v4, rfl, rfl, z_same.rf⟩
  | succ y ih =>
    intro v3 v4 m hy hw hh he
    rw [show ((y + 1 : Nat) : Int) - 1 = (y : Int) by omega, t_hr_126 ha ha2 m y v3 v4 ⟨by omega, by omega⟩, if_neg (by omega)]
    obtain ⟨m1, v4', a1, a2, a3⟩ := r_h3x ha ha2 (n := n) hw3 hh3 (y := y) (by omega) (e := e) w 0 v4 m (by omega) hw hh he
    obtain ⟨m2, w3, w4, b1, b2, b3⟩ := ih (0, (w : Int)) v4' m1 (by omega) ((a3.of (by (try unfold r_RL); (try unfold r_L1); (try unfold r_LP); (try unfold r_LG); (repeat' (first | exact trivial | refine z_of_c ?_ ?_)) <;> omega)).trans hw) ((a3.of (by (try unfold r_RL); (try unfold r_L1); (try unfold r_LP); (try unfold r_LG); (repeat' (first | exact trivial | refine z_of_c ?_ ?_)) <;> omega)).trans hh) (fun k hk => (a3.of (by (try unfold r_RL); (try unfold r_L1); (try unfold r_LP); (try unfold r_LG); (repeat' (first | exact trivial | refine z_of_c ?_ ?_)) <;> omega)).trans (he k hk))
    refine ⟨m2, w3, w4, ?_, ?_, a3.tr b3⟩
    · rw [show ((0 : Nat) : Int) = 0 from rfl] at a1
      rw [a1, b1]
    · rw [b2, a2]
      rfl
theorem hr_v_eq (f w i : Int) : (if (if f < w then f else w) < z_sub 99 i then (if f < w then f else w) else z_sub 99 i) = hr_v f w i := by
  unfold hr_v
  generalize z_sub 99 i = d
  by_cases h1 : f < w
  · rw [if_pos h1]
    by_cases h2 : w < f
    · omega
    rw [if_neg h2]
    by_cases h3 : f < d
    · rw [if_pos h3, if_neg (by omega)]
    · rw [if_neg h3]
      by_cases h4 : d < f
      · rw [if_pos h4]
      · rw [if_neg h4]; omega
  · rw [if_neg h1]
    by_cases h2 : w < f
    · rw [if_pos h2]
      by_cases h3 : w < d
      · rw [if_pos h3, if_neg (by omega)]
      · rw [if_neg h3]
        by_cases h4 : d < w
        · rw [if_pos h4]
        · rw [if_neg h4]; omega
    · rw [if_neg h2]
      have : w = f := by omega
      subst this
      by_cases h3 : w < d
      · rw [if_pos h3, if_neg (by omega)]
      · rw [if_neg h3]
        by_cases h4 : d < w
        · rw [if_pos h4]
        · rw [if_neg h4]; omega
def hr_F (w h : Int) : Nat → Nat → (Nat → Int) → (Nat → Int)
  | 0, _, A => A
  | f + 1, x, A => hr_F w h f (x + 1) (if u_hs w h (x : Int) = 0 then A else hr_f x A)
theorem r_h4 {a : Nat} (ha : z_A 37 a) (ha2 : z_ab a) {n : Nat} {w h : Int} : ∀ (f x : Nat) (v3 v4 : z_V) (m : z_M), x + f = 9 → m 251 1 = w → m 251 2 = h → ∃ m' v3' v4', z_R 208 (m, 235, [(2, 251), (2, ((a : Nat) : Int)), (0, (x : Int)), v3, v4], []) = z_R 208 (m', 300, [(2, 251), (2, ((a : Nat) : Int)), (0, 0), v3', v4'], []) ∧ rS m' a n = hr_F w h f x (rS m a n) ∧ z_same [(a, 0, 17)] m m' := by
  have ha3 := r_ne251 ha2
  intro f
  induction f with
  | zero =>
    intro x v3 v4 m hx hw hh
    rw [t_hr_235 ha ha2 m x v3 v4 ⟨by omega, by omega⟩, if_pos (by omega)]
    exact ⟨m, v3, v4, rfl, rfl, z_same.rf⟩
  | succ f ih =>
    intro x v3 v4 m hx hw hh
    rw [t_hr_235 ha ha2 m x v3 v4 ⟨by omega, by omega⟩, if_neg (by omega), t_roomv, zb_v, t_hr_246 ha ha2 m x v3 v4 _ ⟨by omega, by omega⟩, hw, hh, tc1, Int.toNat_natCast, tn9, hr_v_eq]
    unfold hr_F
    by_cases c : u_hs w h (x : Int) = 0
    · rw [if_pos c, if_pos c]
      exact ih (x + 1) _ _ m (by omega) hw hh
    · rw [if_neg c, if_neg c]
      have sm : z_same [(a, 0, 17)] m (z_up (z_up m a (x + 9) (z_sub (m a (x + 9)) (hr_v (m a 36) (m a (x + 9)) (m a x)))) a x (z_add (m a x) (hr_v (m a 36) (m a (x + 9)) (m a x)))) := (z_same.rf.upo (by (try unfold r_RL); (try unfold r_L1); (try unfold r_LP); (try unfold r_LG); first | exact z_on_h rfl (by omega) (by omega) | exact z_on_t (z_on_h rfl (by omega) (by omega)) | exact z_on_t (z_on_t (z_on_h rfl (by omega) (by omega))) | exact z_on_t (z_on_t (z_on_t (z_on_h rfl (by omega) (by omega)))) | exact z_on_t (z_on_t (z_on_t (z_on_t (z_on_h rfl (by omega) (by omega))))) | exact z_on_t (z_on_t (z_on_t (z_on_t (z_on_t (z_on_h rfl (by omega) (by omega)))))) | exact z_on_t (z_on_t (z_on_t (z_on_t (z_on_t (z_on_t (z_on_h rfl (by omega) (by omega))))))) | exact z_on_t (z_on_t (z_on_t (z_on_t (z_on_t (z_on_t (z_on_t (z_on_h rfl (by omega) (by omega)))))))) | exact z_on_t (z_on_t (z_on_t (z_on_t (z_on_t (z_on_t (z_on_t (z_on_t (z_on_h rfl (by omega) (by omega))))))))) | exact z_on_t (z_on_t (z_on_t (z_on_t (z_on_t (z_on_t (z_on_t (z_on_t (z_on_t (z_on_h rfl (by omega) (by omega)))))))))) | exact z_on_t (z_on_t (z_on_t (z_on_t (z_on_t (z_on_t (z_on_t (z_on_t (z_on_t (z_on_t (z_on_h rfl (by omega) (by omega))))))))))) | exact z_on_t (z_on_t (z_on_t (z_on_t (z_on_t (z_on_t (z_on_t (z_on_t (z_on_t (z_on_t (z_on_t (z_on_h rfl (by omega) (by omega)))))))))))) | exact z_on_t (z_on_t (z_on_t (z_on_t (z_on_t (z_on_t (z_on_t (z_on_t (z_on_t (z_on_t (z_on_t (z_on_t (z_on_h rfl (by omega) (by omega))))))))))))))).upo (by (try unfold r_RL); (try unfold r_L1); (try unfold r_LP); (try unfold r_LG); first | exact z_on_h rfl (by omega) (by omega) | exact z_on_t (z_on_h rfl (by omega) (by omega)) | exact z_on_t (z_on_t (z_on_h rfl (by omega) (by omega))) | exact z_on_t (z_on_t (z_on_t (z_on_h rfl (by omega) (by omega)))) | exact z_on_t (z_on_t (z_on_t (z_on_t (z_on_h rfl (by omega) (by omega))))) | exact z_on_t (z_on_t (z_on_t (z_on_t (z_on_t (z_on_h rfl (by omega) (by omega)))))) | exact z_on_t (z_on_t (z_on_t (z_on_t (z_on_t (z_on_t (z_on_h rfl (by omega) (by omega))))))) | exact z_on_t (z_on_t (z_on_t (z_on_t (z_on_t (z_on_t (z_on_t (z_on_h rfl (by omega) (by omega)))))))) | exact z_on_t (z_on_t (z_on_t (z_on_t (z_on_t (z_on_t (z_on_t (z_on_t (z_on_h rfl (by omega) (by omega))))))))) | exact z_on_t (z_on_t (z_on_t (z_on_t (z_on_t (z_on_t (z_on_t (z_on_t (z_on_t (z_on_h rfl (by omega) (by omega)))))))))) | exact z_on_t (z_on_t (z_on_t (z_on_t (z_on_t (z_on_t (z_on_t (z_on_t (z_on_t (z_on_t (z_on_h rfl (by omega) (by omega))))))))))) | exact z_on_t (z_on_t (z_on_t (z_on_t (z_on_t (z_on_t (z_on_t (z_on_t (z_on_t (z_on_t (z_on_t (z_on_h rfl (by omega) (by omega)))))))))))) | exact z_on_t (z_on_t (z_on_t (z_on_t (z_on_t (z_on_t (z_on_t (z_on_t (z_on_t (z_on_t (z_on_t (z_on_t (z_on_h rfl (by omega) (by omega))))))))))))))
      have eS : rS (z_up (z_up m a (x + 9) (z_sub (m a (x + 9)) (hr_v (m a 36) (m a (x + 9)) (m a x)))) a x (z_add (m a x) (hr_v (m a 36) (m a (x + 9)) (m a x)))) a n = hr_f x (rS m a n) := by
        rw [rS_up (by omega) (a_vis_lo (by omega)), rS_up (by omega) (a_vis_lo (by omega))]
        unfold hr_f
        rw [rS_at (k := 36) (by omega) (a_vis_hi (by omega)), rS_at (k := x + 9) (by omega) (a_vis_lo (by omega)), rS_at (k := x) (by omega) (a_vis_lo (by omega))]
      obtain ⟨m', v3', v4', a1, a2, a3⟩ := ih (x + 1) (0, hr_v (m a 36) (m a (x + 9)) (m a x)) v4 _ (by omega) ((sm.of (by (try unfold r_RL); (try unfold r_L1); (try unfold r_LP); (try unfold r_LG); (repeat' (first | exact trivial | refine z_of_c ?_ ?_)) <;> omega)).trans hw) ((sm.of (by (try unfold r_RL); (try unfold r_L1); (try unfold r_LP); (try unfold r_LG); (repeat' (first | exact trivial | refine z_of_c ?_ ?_)) <;> omega)).trans hh)
      rw [eS] at a2
      exact ⟨m', v3', v4', a1, a2, sm.tr a3⟩
abbrev r_LP (a : Nat) : List (Nat × Nat × Nat) := [(a, 18, 22), (a, 28, 32), (251, 30, 31)]
theorem r_gw1 {a : Nat} (ha : z_A 37 a) (ha2 : z_ab a) {n : Nat} (hn5 : n ≤ 5) {r to : Int} : ∀ (f x : Nat) (m : z_M), x + f = n → m 251 3 = (n : Int) → ∃ m', z_R 209 (m, 46, [(2, 251), (2, ((a : Nat) : Int)), (0, r), (0, to), (0, (x : Int))], []) = some (m', none) ∧ (rS m' a n, m' 251 30, m' 251 31) = hr_p r to f x (rS m a n) (m 251 30) (m 251 31) ∧ z_same (r_LP a) m m' := by
  have ha3 := r_ne251 ha2
  intro f
  induction f with
  | zero =>
    intro x m hx hn
    rw [t_gw_46 ha ha2 m r to x ⟨by omega, by omega⟩ ⟨by omega, by omega⟩, if_pos (by omega)]
    exact ⟨m, rfl, rfl, z_same.rf⟩
  | succ f ih =>
    intro x m hx hn
    have eA : rS m a n (x + 18) = m a (x + 18) := rS_at (by omega) (a_vis_p (b := 18) (p := x) (by omega) (by omega) (by omega) (by omega))
    have eF : rS m a n (x + 28) = m a (x + 28) := rS_at (by omega) (a_vis_p (b := 28) (p := x) (by omega) (by omega) (by omega) (by omega))
    rw [t_gw_46 ha ha2 m r to x ⟨by omega, by omega⟩ ⟨by omega, by omega⟩, if_neg (by omega), tn18, tn28, tc1]
    unfold hr_p
    rw [eA, eF]
    by_cases c : m a (x + 18) = r
    · rw [if_pos c, if_pos c]
      have sm : z_same (r_LP a) m (z_up (z_up (z_up (z_up m a (x + 18) to) a (x + 28) (z_add (m a (x + 28)) 1)) 251 30 (z_or (m 251 30) (z_shl 1 (x : Int)))) 251 31 (z_add (m 251 31) 1)) := (((z_same.rf.upo (by (try unfold r_RL); (try unfold r_L1); (try unfold r_LP); (try unfold r_LG); first | exact z_on_h rfl (by omega) (by omega) | exact z_on_t (z_on_h rfl (by omega) (by omega)) | exact z_on_t (z_on_t (z_on_h rfl (by omega) (by omega))) | exact z_on_t (z_on_t (z_on_t (z_on_h rfl (by omega) (by omega)))) | exact z_on_t (z_on_t (z_on_t (z_on_t (z_on_h rfl (by omega) (by omega))))) | exact z_on_t (z_on_t (z_on_t (z_on_t (z_on_t (z_on_h rfl (by omega) (by omega)))))) | exact z_on_t (z_on_t (z_on_t (z_on_t (z_on_t (z_on_t (z_on_h rfl (by omega) (by omega))))))) | exact z_on_t (z_on_t (z_on_t (z_on_t (z_on_t (z_on_t (z_on_t (z_on_h rfl (by omega) (by omega)))))))) | exact z_on_t (z_on_t (z_on_t (z_on_t (z_on_t (z_on_t (z_on_t (z_on_t (z_on_h rfl (by omega) (by omega))))))))) | exact z_on_t (z_on_t (z_on_t (z_on_t (z_on_t (z_on_t (z_on_t (z_on_t (z_on_t (z_on_h rfl (by omega) (by omega)))))))))) | exact z_on_t (z_on_t (z_on_t (z_on_t (z_on_t (z_on_t (z_on_t (z_on_t (z_on_t (z_on_t (z_on_h rfl (by omega) (by omega))))))))))) | exact z_on_t (z_on_t (z_on_t (z_on_t (z_on_t (z_on_t (z_on_t (z_on_t (z_on_t (z_on_t (z_on_t (z_on_h rfl (by omega) (by omega)))))))))))) | exact z_on_t (z_on_t (z_on_t (z_on_t (z_on_t (z_on_t (z_on_t (z_on_t (z_on_t (z_on_t (z_on_t (z_on_t (z_on_h rfl (by omega) (by omega))))))))))))))).upo (by (try unfold r_RL); (try unfold r_L1); (try unfold r_LP); (try unfold r_LG); first | exact z_on_h rfl (by omega) (by omega) | exact z_on_t (z_on_h rfl (by omega) (by omega)) | exact z_on_t (z_on_t (z_on_h rfl (by omega) (by omega))) | exact z_on_t (z_on_t (z_on_t (z_on_h rfl (by omega) (by omega)))) | exact z_on_t (z_on_t (z_on_t (z_on_t (z_on_h rfl (by omega) (by omega))))) | exact z_on_t (z_on_t (z_on_t (z_on_t (z_on_t (z_on_h rfl (by omega) (by omega)))))) | exact z_on_t (z_on_t (z_on_t (z_on_t (z_on_t (z_on_t (z_on_h rfl (by omega) (by omega))))))) | exact z_on_t (z_on_t (z_on_t (z_on_t (z_on_t (z_on_t (z_on_t (z_on_h rfl (by omega) (by omega)))))))) | exact z_on_t (z_on_t (z_on_t (z_on_t (z_on_t (z_on_t (z_on_t (z_on_t (z_on_h rfl (by omega) (by omega))))))))) | exact z_on_t (z_on_t (z_on_t (z_on_t (z_on_t (z_on_t (z_on_t (z_on_t (z_on_t (z_on_h rfl (by omega) (by omega)))))))))) | exact z_on_t (z_on_t (z_on_t (z_on_t (z_on_t (z_on_t (z_on_t (z_on_t (z_on_t (z_on_t (z_on_h rfl (by omega) (by omega))))))))))) | exact z_on_t (z_on_t (z_on_t (z_on_t (z_on_t (z_on_t (z_on_t (z_on_t (z_on_t (z_on_t (z_on_t (z_on_h rfl (by omega) (by omega)))))))))))) | exact z_on_t (z_on_t (z_on_t (z_on_t (z_on_t (z_on_t (z_on_t (z_on_t (z_on_t (z_on_t (z_on_t (z_on_t (z_on_h rfl (by omega) (by omega))))))))))))))).upo (by (try unfold r_RL); (try unfold r_L1); (try unfold r_LP); (try unfold r_LG); first | exact z_on_h rfl (by omega) (by omega) | exact z_on_t (z_on_h rfl (by omega) (by omega)) | exact z_on_t (z_on_t (z_on_h rfl (by omega) (by omega))) | exact z_on_t (z_on_t (z_on_t (z_on_h rfl (by omega) (by omega)))) | exact z_on_t (z_on_t (z_on_t (z_on_t (z_on_h rfl (by omega) (by omega))))) | exact z_on_t (z_on_t (z_on_t (z_on_t (z_on_t (z_on_h rfl (by omega) (by omega)))))) | exact z_on_t (z_on_t (z_on_t (z_on_t (z_on_t (z_on_t (z_on_h rfl (by omega) (by omega))))))) | exact z_on_t (z_on_t (z_on_t (z_on_t (z_on_t (z_on_t (z_on_t (z_on_h rfl (by omega) (by omega)))))))) | exact z_on_t (z_on_t (z_on_t (z_on_t (z_on_t (z_on_t (z_on_t (z_on_t (z_on_h rfl (by omega) (by omega))))))))) | exact z_on_t (z_on_t (z_on_t (z_on_t (z_on_t (z_on_t (z_on_t (z_on_t (z_on_t (z_on_h rfl (by omega) (by omega)))))))))) | exact z_on_t (z_on_t (z_on_t (z_on_t (z_on_t (z_on_t (z_on_t (z_on_t (z_on_t (z_on_t (z_on_h rfl (by omega) (by omega))))))))))) | exact z_on_t (z_on_t (z_on_t (z_on_t (z_on_t (z_on_t (z_on_t (z_on_t (z_on_t (z_on_t (z_on_t (z_on_h rfl (by omega) (by omega)))))))))))) | exact z_on_t (z_on_t (z_on_t (z_on_t (z_on_t (z_on_t (z_on_t (z_on_t (z_on_t (z_on_t (z_on_t (z_on_t (z_on_h rfl (by omega) (by omega))))))))))))))).upo (by (try unfold r_RL); (try unfold r_L1); (try unfold r_LP); (try unfold r_LG); first | exact z_on_h rfl (by omega) (by omega) | exact z_on_t (z_on_h rfl (by omega) (by omega)) | exact z_on_t (z_on_t (z_on_h rfl (by omega) (by omega))) | exact z_on_t (z_on_t (z_on_t (z_on_h rfl (by omega) (by omega)))) | exact z_on_t (z_on_t (z_on_t (z_on_t (z_on_h rfl (by omega) (by omega))))) | exact z_on_t (z_on_t (z_on_t (z_on_t (z_on_t (z_on_h rfl (by omega) (by omega)))))) | exact z_on_t (z_on_t (z_on_t (z_on_t (z_on_t (z_on_t (z_on_h rfl (by omega) (by omega))))))) | exact z_on_t (z_on_t (z_on_t (z_on_t (z_on_t (z_on_t (z_on_t (z_on_h rfl (by omega) (by omega)))))))) | exact z_on_t (z_on_t (z_on_t (z_on_t (z_on_t (z_on_t (z_on_t (z_on_t (z_on_h rfl (by omega) (by omega))))))))) | exact z_on_t (z_on_t (z_on_t (z_on_t (z_on_t (z_on_t (z_on_t (z_on_t (z_on_t (z_on_h rfl (by omega) (by omega)))))))))) | exact z_on_t (z_on_t (z_on_t (z_on_t (z_on_t (z_on_t (z_on_t (z_on_t (z_on_t (z_on_t (z_on_h rfl (by omega) (by omega))))))))))) | exact z_on_t (z_on_t (z_on_t (z_on_t (z_on_t (z_on_t (z_on_t (z_on_t (z_on_t (z_on_t (z_on_t (z_on_h rfl (by omega) (by omega)))))))))))) | exact z_on_t (z_on_t (z_on_t (z_on_t (z_on_t (z_on_t (z_on_t (z_on_t (z_on_t (z_on_t (z_on_t (z_on_t (z_on_h rfl (by omega) (by omega))))))))))))))
      generalize hm1 : z_up (z_up (z_up (z_up m a (x + 18) to) a (x + 28) (z_add (m a (x + 28)) 1)) 251 30 (z_or (m 251 30) (z_shl 1 (x : Int)))) 251 31 (z_add (m 251 31) 1) = m1 at sm ⊢
      have e30 : m1 251 30 = z_or (m 251 30) (z_shl 1 (x : Int)) := by rw [← hm1, zu_k (by decide), zu_self]
      have e31 : m1 251 31 = z_add (m 251 31) 1 := by rw [← hm1, zu_self]
      have eS : rS m1 a n = u_up (u_up (rS m a n) (x + 18) to) (x + 28) (z_add (m a (x + 28)) 1) := by
        rw [← hm1, rS_row (m := z_up (z_up m a (x + 18) to) a (x + 28) (z_add (m a (x + 28)) 1)) (by rw [zu_rowne (by omega), zu_rowne (by omega)]), rS_up (by omega) (a_vis_p (b := 28) (p := x) (by omega) (by omega) (by omega) (by omega)), rS_up (by omega) (a_vis_p (b := 18) (p := x) (by omega) (by omega) (by omega) (by omega))]
      obtain ⟨m', a1, a2, a3⟩ := ih (x + 1) m1 (by omega) ((sm.of (by (try unfold r_RL); (try unfold r_L1); (try unfold r_LP); (try unfold r_LG); (repeat' (first | exact trivial | refine z_of_c ?_ ?_)) <;> omega)).trans hn)
      rw [e30, e31, eS] at a2
      exact ⟨m', a1, a2, sm.tr a3⟩
    · rw [if_neg c, if_neg c]
      exact ih (x + 1) m (by omega) hn
abbrev r_LG (a : Nat) : List (Nat × Nat × Nat) := [(a, 18, 22), (a, 28, 32), (a, 34, 34), (251, 29, 31)]
theorem r_gw {a : Nat} (ha : z_A 37 a) (ha2 : z_ab a) {n : Nat} (hn5 : n ≤ 5) (m : z_M) {k : Nat} (hk : k < 9) (hn : m 251 3 = (n : Int)) {w h : Int} (hw : m 251 1 = w) (hh : m 251 2 = h) : ∃ m', z_R 209 (m, 0, [(2, 251), (2, ((a : Nat) : Int)), (0, (k : Int)), (9, 0), (9, 0)], []) = some (m', none) ∧ (rS m' a n, m' 251 30, m' 251 31) = hr_p k (hr_to w h k) n 0 (hr_st k (hr_to w h k) (rS m a n)) (m 251 30) (m 251 31) ∧ m' 251 29 = z_or (m 251 29) (z_shl 1 (k : Int)) ∧ z_same (r_LG a) m m' := by
  have ha3 := r_ne251 ha2
  rw [t_gw_0 ha ha2 m k ⟨by omega, by omega⟩]
  have s1 : z_same (r_LG a) m (z_up m 251 29 (z_or (m 251 29) (z_shl 1 (k : Int)))) := z_same.rf.upo (by (try unfold r_RL); (try unfold r_L1); (try unfold r_LP); (try unfold r_LG); first | exact z_on_h rfl (by omega) (by omega) | exact z_on_t (z_on_h rfl (by omega) (by omega)) | exact z_on_t (z_on_t (z_on_h rfl (by omega) (by omega))) | exact z_on_t (z_on_t (z_on_t (z_on_h rfl (by omega) (by omega)))) | exact z_on_t (z_on_t (z_on_t (z_on_t (z_on_h rfl (by omega) (by omega))))) | exact z_on_t (z_on_t (z_on_t (z_on_t (z_on_t (z_on_h rfl (by omega) (by omega)))))) | exact z_on_t (z_on_t (z_on_t (z_on_t (z_on_t (z_on_t (z_on_h rfl (by omega) (by omega))))))) | exact z_on_t (z_on_t (z_on_t (z_on_t (z_on_t (z_on_t (z_on_t (z_on_h rfl (by omega) (by omega)))))))) | exact z_on_t (z_on_t (z_on_t (z_on_t (z_on_t (z_on_t (z_on_t (z_on_t (z_on_h rfl (by omega) (by omega))))))))) | exact z_on_t (z_on_t (z_on_t (z_on_t (z_on_t (z_on_t (z_on_t (z_on_t (z_on_t (z_on_h rfl (by omega) (by omega)))))))))) | exact z_on_t (z_on_t (z_on_t (z_on_t (z_on_t (z_on_t (z_on_t (z_on_t (z_on_t (z_on_t (z_on_h rfl (by omega) (by omega))))))))))) | exact z_on_t (z_on_t (z_on_t (z_on_t (z_on_t (z_on_t (z_on_t (z_on_t (z_on_t (z_on_t (z_on_t (z_on_h rfl (by omega) (by omega)))))))))))) | exact z_on_t (z_on_t (z_on_t (z_on_t (z_on_t (z_on_t (z_on_t (z_on_t (z_on_t (z_on_t (z_on_t (z_on_t (z_on_h rfl (by omega) (by omega))))))))))))))
  generalize hm1 : z_up m 251 29 (z_or (m 251 29) (z_shl 1 (k : Int))) = m1 at s1 ⊢
  have e1 : m1 251 1 = w := by rw [← hm1, zu_k (by decide), hw]
  have e2 : m1 251 2 = h := by rw [← hm1, zu_k (by decide), hh]
  have e3 : m1 251 3 = (n : Int) := by rw [← hm1, zu_k (by decide), hn]
  have e29 : m1 251 29 = z_or (m 251 29) (z_shl 1 (k : Int)) := by rw [← hm1, zu_self]
  have e30 : m1 251 30 = m 251 30 := by rw [← hm1, zu_k (by decide)]
  have e31 : m1 251 31 = m 251 31 := by rw [← hm1, zu_k (by decide)]
  have eS : rS m1 a n = rS m a n := by rw [← hm1]; exact rS_row (zu_rowne (by omega))
  have e34 : rS m a n 34 = m1 a 34 := by rw [← eS]; exact rS_at (by decide) (a_vis_hi (by decide))
  rw [t_roomv, zb_v, t_gw_19 ha ha2 m1 k _ ⟨by omega, by omega⟩, e1, e2]
  have go : ∀ to : Int, to = hr_to w h k → ∃ m', (if m1 a 34 = (k : Int) then z_R 209 (z_up m1 a 34 to, 46, [(2, 251), (2, ((a : Nat) : Int)), (0, (k : Int)), (0, to), (0, 0)], []) else z_R 209 (m1, 46, [(2, 251), (2, ((a : Nat) : Int)), (0, (k : Int)), (0, to), (0, 0)], [])) = some (m', none) ∧ (rS m' a n, m' 251 30, m' 251 31) = hr_p k (hr_to w h k) n 0 (hr_st k (hr_to w h k) (rS m a n)) (m 251 30) (m 251 31) ∧ m' 251 29 = z_or (m 251 29) (z_shl 1 (k : Int)) ∧ z_same (r_LG a) m m' := by
    intro to hto
    rw [← hto]
    unfold hr_st
    rw [e34]
    have fin : ∀ m2 : z_M, z_same (r_LG a) m m2 → m2 251 29 = z_or (m 251 29) (z_shl 1 (k : Int)) → m2 251 30 = m 251 30 → m2 251 31 = m 251 31 → m2 251 3 = (n : Int) → ∃ m', z_R 209 (m2, 46, [(2, 251), (2, ((a : Nat) : Int)), (0, (k : Int)), (0, to), (0, 0)], []) = some (m', none) ∧ (rS m' a n, m' 251 30, m' 251 31) = hr_p k to n 0 (rS m2 a n) (m 251 30) (m 251 31) ∧ m' 251 29 = z_or (m 251 29) (z_shl 1 (k : Int)) ∧ z_same (r_LG a) m m' := by
      intro m2 sm g29 g30 g31 g3
      obtain ⟨m', a1, a2, a3⟩ := r_gw1 ha ha2 hn5 (r := k) (to := to) n 0 m2 (by omega) g3
      rw [g30, g31] at a2
      exact ⟨m', a1, a2, (a3.of (by (try unfold r_RL); (try unfold r_L1); (try unfold r_LP); (try unfold r_LG); (repeat' (first | exact trivial | refine z_of_c ?_ ?_)) <;> omega)).trans g29, sm.tr (a3.subo (by (try unfold r_RL); (try unfold r_L1); (try unfold r_LP); (try unfold r_LG); (repeat' (first | exact trivial | refine z_sbo_c ?_ ?_)) <;> (intro k h1 h2; first | exact z_on_h rfl (by omega) (by omega) | exact z_on_t (z_on_h rfl (by omega) (by omega)) | exact z_on_t (z_on_t (z_on_h rfl (by omega) (by omega))) | exact z_on_t (z_on_t (z_on_t (z_on_h rfl (by omega) (by omega)))) | exact z_on_t (z_on_t (z_on_t (z_on_t (z_on_h rfl (by omega) (by omega))))) | exact z_on_t (z_on_t (z_on_t (z_on_t (z_on_t (z_on_h rfl (by omega) (by omega)))))) | exact z_on_t (z_on_t (z_on_t (z_on_t (z_on_t (z_on_t (z_on_h rfl (by omega) (by omega))))))) | exact z_on_t (z_on_t (z_on_t (z_on_t (z_on_t (z_on_t (z_on_t (z_on_h rfl (by omega) (by omega)))))))) | exact z_on_t (z_on_t (z_on_t (z_on_t (z_on_t (z_on_t (z_on_t (z_on_t (z_on_h rfl (by omega) (by omega))))))))) | exact z_on_t (z_on_t (z_on_t (z_on_t (z_on_t (z_on_t (z_on_t (z_on_t (z_on_t (z_on_h rfl (by omega) (by omega)))))))))) | exact z_on_t (z_on_t (z_on_t (z_on_t (z_on_t (z_on_t (z_on_t (z_on_t (z_on_t (z_on_t (z_on_h rfl (by omega) (by omega))))))))))) | exact z_on_t (z_on_t (z_on_t (z_on_t (z_on_t (z_on_t (z_on_t (z_on_t (z_on_t (z_on_t (z_on_t (z_on_h rfl (by omega) (by omega)))))))))))) | exact z_on_t (z_on_t (z_on_t (z_on_t (z_on_t (z_on_t (z_on_t (z_on_t (z_on_t (z_on_t (z_on_t (z_on_t (z_on_h rfl (by omega) (by omega))))))))))))))))⟩
    by_cases c : m1 a 34 = (k : Int)
    · rw [if_pos c, if_pos c]
      have z := fin (z_up m1 a 34 to) (s1.upo (by (try unfold r_RL); (try unfold r_L1); (try unfold r_LP); (try unfold r_LG); first | exact z_on_h rfl (by omega) (by omega) | exact z_on_t (z_on_h rfl (by omega) (by omega)) | exact z_on_t (z_on_t (z_on_h rfl (by omega) (by omega))) | exact z_on_t (z_on_t (z_on_t (z_on_h rfl (by omega) (by omega)))) | exact z_on_t (z_on_t (z_on_t (z_on_t (z_on_h rfl (by omega) (by omega))))) | exact z_on_t (z_on_t (z_on_t (z_on_t (z_on_t (z_on_h rfl (by omega) (by omega)))))) | exact z_on_t (z_on_t (z_on_t (z_on_t (z_on_t (z_on_t (z_on_h rfl (by omega) (by omega))))))) | exact z_on_t (z_on_t (z_on_t (z_on_t (z_on_t (z_on_t (z_on_t (z_on_h rfl (by omega) (by omega)))))))) | exact z_on_t (z_on_t (z_on_t (z_on_t (z_on_t (z_on_t (z_on_t (z_on_t (z_on_h rfl (by omega) (by omega))))))))) | exact z_on_t (z_on_t (z_on_t (z_on_t (z_on_t (z_on_t (z_on_t (z_on_t (z_on_t (z_on_h rfl (by omega) (by omega)))))))))) | exact z_on_t (z_on_t (z_on_t (z_on_t (z_on_t (z_on_t (z_on_t (z_on_t (z_on_t (z_on_t (z_on_h rfl (by omega) (by omega))))))))))) | exact z_on_t (z_on_t (z_on_t (z_on_t (z_on_t (z_on_t (z_on_t (z_on_t (z_on_t (z_on_t (z_on_t (z_on_h rfl (by omega) (by omega)))))))))))) | exact z_on_t (z_on_t (z_on_t (z_on_t (z_on_t (z_on_t (z_on_t (z_on_t (z_on_t (z_on_t (z_on_t (z_on_t (z_on_h rfl (by omega) (by omega))))))))))))))) (by rw [zu_p (by omega)]; exact e29) (by rw [zu_p (by omega)]; exact e30) (by rw [zu_p (by omega)]; exact e31) (by rw [zu_p (by omega)]; exact e3)
      rw [rS_up (by decide) (a_vis_hi (by decide)), eS] at z
      exact z
    · rw [if_neg c, if_neg c]
      have z := fin m1 s1 e29 e30 e31 e3
      rw [eS] at z
      exact z
  unfold hr_to at go ⊢
  by_cases c : u_hs w h ((k : Int) + 3) = 0
  · rw [if_pos c] at go ⊢
    rw [if_pos c]
    exact go (-1) rfl
  · rw [if_neg c] at go ⊢
    rw [if_neg c]
    exact go ((k : Int) + 3) rfl
def hr_k (w h : Int) (n : Nat) : Nat → Nat → (Nat → Int) → Int → Int → Int → (Nat → Int) × Int × Int × Int
  | 0, _, A, g, fb, fm => (A, g, fb, fm)
  | f + 1, x, A, g, fb, fm => if u_hs w h (x : Int) = 0 then hr_k w h n f (x + 1) A g fb fm else if A x = 0 then hr_k w h n f (x + 1) (hr_p x (hr_to w h x) n 0 (hr_st x (hr_to w h x) A) fb fm).1 (z_or g (z_shl 1 (x : Int))) (hr_p x (hr_to w h x) n 0 (hr_st x (hr_to w h x) A) fb fm).2.1 (hr_p x (hr_to w h x) n 0 (hr_st x (hr_to w h x) A) fb fm).2.2 else hr_k w h n f (x + 1) A g fb fm
theorem r_h5 {a : Nat} (ha : z_A 37 a) (ha2 : z_ab a) {n : Nat} (hn5 : n ≤ 5) {w h : Int} : ∀ (f x : Nat) (v3 v4 : z_V) (m : z_M), x + f = 9 → m 251 1 = w → m 251 2 = h → m 251 3 = (n : Int) → ∃ m', z_R 208 (m, 300, [(2, 251), (2, ((a : Nat) : Int)), (0, (x : Int)), v3, v4], []) = some (z_up m' a 35 (z_add (m' a 35) 1), none) ∧ (rS m' a n, m' 251 29, m' 251 30, m' 251 31) = hr_k w h n f x (rS m a n) (m 251 29) (m 251 30) (m 251 31) ∧ z_same (r_LG a) m m' := by
  have ha3 := r_ne251 ha2
  intro f
  induction f with
  | zero =>
    intro x v3 v4 m hx hw hh hn
    rw [t_hr_300 ha ha2 m x v3 v4 ⟨by omega, by omega⟩, if_pos (by omega)]
    exact ⟨m, rfl, rfl, z_same.rf⟩
  | succ f ih =>
    intro x v3 v4 m hx hw hh hn
    have e0 : rS m a n x = m a x := rS_at (by omega) (a_vis_lo (by omega))
    rw [t_hr_300 ha ha2 m x v3 v4 ⟨by omega, by omega⟩, if_neg (by omega), t_roomv, zb_v, t_hr_311 ha ha2 m x v3 v4 _ ⟨by omega, by omega⟩, hw, hh, tc1, Int.toNat_natCast]
    unfold hr_k
    rw [e0]
    by_cases c : u_hs w h (x : Int) = 0
    · rw [if_pos c, if_pos c]
      exact ih (x + 1) v3 v4 m (by omega) hw hh hn
    rw [if_neg c, if_neg c]
    by_cases c2 : m a x = 0
    · rw [if_pos c2, if_pos c2]
      obtain ⟨m1, a1, a2, a3, a4⟩ := r_gw ha ha2 hn5 m (k := x) (by omega) hn hw hh
      have p1 := congrArg Prod.fst a2
      have p2 := congrArg (fun z => z.2.1) a2
      have p3 := congrArg (fun z => z.2.2) a2
      simp only at p1 p2 p3
      rw [a1, zb_n, t_hr_326 ha ha2 m1 x v3 v4 ⟨by omega, by omega⟩, tc1]
      obtain ⟨m', d1, d2, d3⟩ := ih (x + 1) v3 v4 m1 (by omega) ((a4.of (by (try unfold r_RL); (try unfold r_L1); (try unfold r_LP); (try unfold r_LG); (repeat' (first | exact trivial | refine z_of_c ?_ ?_)) <;> omega)).trans hw) ((a4.of (by (try unfold r_RL); (try unfold r_L1); (try unfold r_LP); (try unfold r_LG); (repeat' (first | exact trivial | refine z_of_c ?_ ?_)) <;> omega)).trans hh) ((a4.of (by (try unfold r_RL); (try unfold r_L1); (try unfold r_LP); (try unfold r_LG); (repeat' (first | exact trivial | refine z_of_c ?_ ?_)) <;> omega)).trans hn)
      rw [p1, p2, p3, a3] at d2
      exact ⟨m', d1, d2, a4.tr d3⟩
    · rw [if_neg c2, if_neg c2]
      exact ih (x + 1) v3 v4 m (by omega) hw hh hn
