/-! WINTER of the model, in pieces: what its rows of acts hold, by hand -/
def c_md (C : A_C) : A_D := match C with
  | (_, _, _, _, mc, _, _, _, _, _) => mc
noncomputable def w_md : A_D := (c_md cn_w).filter fun q => !(Nat.beq q.1 263)
def w_dp : A_L := (190, [])
def w_alts (E : A_E) : List A_A := [(E ++ [(-201, 80, false)], [], some (1, E.length, 0), [((251, 8), (0, 0, 0))])]
def w_ov (a w : A_V) : A_O := [((251, 8), (0, 0, 0)), ((251, 12), (2, 254, 0)), ((251, 14), (0, 0, 60)), ((251, 15), a), ((251, 16), w)]
def w_rt : Option FieldType := some .int
/-- from the start to the first loop -/
def wA0 : A_S := (39, [(0, 80, false), (0, 1, false)], [], [(0, (2, 251, 0)), (1, (0, 0, 0)), (2, (1, 1, 0))], [], w_ov (0, 0, 0) (0, 0, -1), (8000, []), (0, []))
set_option maxRecDepth 100000 in
theorem w_k0 : a_go cs_at w_md w_dp 4 1 [] [wA0] w_rt kt_212 4000 1 (c_start cn_w) = true := by decide +kernel
/-- from the first loop's head: to the next act to read, or to the second loop, or back -/
def wE1 : A_E := [(0, 62, false), (-1, 200, false), (0, 200, false), (0, 1, false)]
def wA : A_S := (39, wE1, [], [(0, (2, 251, 0)), (1, (1, 0, 0)), (2, (1, 3, 0))], [], w_ov (1, 2, 0) (1, 1, 0), (8000, []), (1, []))
def wB : A_S := (50, [(0, 62, false), (-1, -1, false), (0, 200, false), (1, 1, false)], [], [(0, (2, 251, 0)), (1, (1, 0, 0))], [], w_ov (1, 2, 0) (0, 0, -1), (8000, []), (0, []))
def wL0 : A_S := (121, [(0, 62, false), (-1, -1, false), (0, 200, false), (0, 1, false)], [], [(0, (2, 251, 0)), (1, (1, 0, 0)), (3, (0, 0, 0))], [], [((251, 8), (0, 0, 0))], (8000, []), (0, []))
set_option maxRecDepth 100000 in
theorem w_k1 : a_go cs_at w_md w_dp 4 4 (w_alts wE1) [wB, wL0] w_rt kt_212 4000 1 wA = true := by decide +kernel
/-- behind an act read: to the head again -/
def wE2 (v : Int) : A_E := [(0, 61, false), (-1, 200, false), (0, v, false)]
def wD (v : Int) : A_S := (57, wE2 v, [], [(0, (2, 251, 0)), (1, (1, 0, 0))], [], w_ov (1, 2, 0) (1, 1, 0), (8000, []), (1, []))
def wD0 (v : Int) : A_S := (39, wE2 v ++ [(0, v, false)], [(2, true, 3, 0)], [(0, (2, 251, 0)), (1, (1, 0, 1)), (2, (0, 0, 0))], [], w_ov (1, 3, 0) (1, 1, 0), (8000, []), (0, []))
def wD1 (v : Int) : A_S := (39, wE2 v ++ [(0, 60, false)], [(2, true, 3, 0)], [(0, (2, 251, 0)), (1, (1, 0, 1)), (2, (0, 0, 1))], [], w_ov (1, 3, 0) (1, 1, 0), (8000, []), (0, []))
set_option maxRecDepth 100000 in
theorem w_k2 : a_go cs_at w_md w_dp 4 3 (w_alts (wE2 200)) [wD0 200, wD1 200] w_rt kt_212 4000 1 (wD 200) = true := by decide +kernel
set_option maxRecDepth 100000 in
theorem w_k3 : a_go cs_at w_md w_dp 4 3 (w_alts (wE2 64)) [wD0 64, wD1 64] w_rt kt_212 4000 1 (wD 64) = true := by decide +kernel
/-- the second loop's head: to an act, or back -/
def wE3 : A_E := [(0, 62, false), (0, 62, false)]
def wL : A_S := (121, wE3, [(1, true, 0, 0)], [(0, (2, 251, 0)), (1, (1, 0, 0)), (3, (1, 1, 0))], [], [((251, 8), (0, 0, 0))], (6500, [(-102, 1)]), (1, []))
def wP : A_S := (126, [(0, 62, false), (0, 61, false)], [(1, true, 0, -1)], [(0, (2, 251, 0)), (1, (1, 0, 0)), (3, (1, 1, 0))], [], [((251, 8), (0, 0, 0))], (6500, [(-102, 1)]), (0, []))
set_option maxRecDepth 100000 in
theorem w_k4 : a_go cs_at w_md w_dp 4 2 (w_alts wE3) [wP] w_rt kt_212 4000 1 wL = true := by decide +kernel
/-- behind an act done: to the head again, or back -/
def wE4 : A_E := [(0, 62, false), (0, 61, false), (0, 1, false)]
def wG : A_S := (158, wE4, [(1, true, 0, -1)], [(0, (2, 251, 0)), (1, (1, 0, 0)), (3, (1, 1, 0))], [(1, 2, 0)], [((251, 8), (0, 0, 0))], (6398, [(-102, 1)]), (1, []))
def wG1 : A_S := (121, wE4, [(1, true, 0, -1)], [(0, (2, 251, 0)), (1, (1, 0, 0)), (3, (1, 1, 1))], [], [((251, 8), (0, 0, 0))], (6398, [(-102, 1)]), (0, []))
set_option maxRecDepth 100000 in
theorem w_k5 : a_go cs_at w_md w_dp 4 3 (w_alts wE4) [wG1] w_rt kt_212 4000 1 wG = true := by decide +kernel
theorem w_no {k : Nat} : ¬ d_in w_md 263 k := by
  rintro ⟨q, hq, e1, -, -⟩
  have h := (List.mem_filter.mp hq).2
  rw [e1] at h
  exact absurd h (by decide)
theorem w_sub : d_sub w_md (c_md cn_w) = true := by decide +kernel
theorem w_subR : ∀ n, n < 61 → d_sub [(251, 15, 16), (263, 3 * n, 3 * n + 2)] (c_md cn_w) = true := by decide +kernel
theorem w_subA : d_sub (c_md cn_act9) w_md = true ∧ d_sub (c_md cn_actS) w_md = true := by decide +kernel
theorem w_8 : d_has (c_md cn_act9) 251 8 8 = false ∧ d_has (c_md cn_actS) 251 8 8 = false := by decide +kernel
/-- what the rows of acts hold: a number that may be a frost, or it is an act of the stove -/
def w_good (σ : m_H) (n : Int) : Prop := ∀ i : Nat, (i : Int) < n → ∃ x y : Int32, c_at σ 263 (3 * i) = some (.int x) ∧ c_at σ 263 (3 * i + 1) = some (.int y) ∧ ((0 ≤ y.toInt ∧ y.toInt ≤ 9) ∨ (x.toInt = 115 ∧ -1 ≤ y.toInt ∧ y.toInt ≤ 8))
theorem w_good_fr {σ σ' : m_H} {n : Int} {md : A_D} (h : w_good σ n) (hf : h_fr md σ σ') (hn : ∀ k, ¬ d_in md 263 k) : w_good σ' n := fun i hi => by
  obtain ⟨x, y, h1, h2, h3⟩ := h i hi
  exact ⟨x, y, by rw [hf _ _ (hn _)]; exact h1, by rw [hf _ _ (hn _)]; exact h2, h3⟩
theorem d_in_hasf {md : A_D} {p k : Nat} (h : d_has md p k k = false) : ¬ d_in md p k := fun z => by
  rw [d_in_has z] at h
  cases h
theorem h_int {B : Int} {σ : m_H} (hh : h_ok B σ) {p k : Nat} {lo hi : Int} (hp : p < h_N) (hk : k < h_ln p) (ht : h_ty p k = (0, lo, hi)) : ∃ x : Int32, c_at σ p k = some (.int x) ∧ lo ≤ x.toInt ∧ x.toInt ≤ hi := by
  obtain ⟨vs, h1, -, h3⟩ := h_cell hh hp
  obtain ⟨v, v1, v2, -⟩ := h3 k hk
  rw [ht] at v2
  obtain ⟨x, rfl, x1, x2⟩ : ∃ x : Int32, v = .int x ∧ lo ≤ x.toInt ∧ x.toInt ≤ hi := v2
  exact ⟨x, by rw [c_at_eq h1]; exact v1, x1, x2⟩
/-- what a piece gives back serves the whole -/
theorem w_lift {M T : Int} {ρ0 ρs : List Int} {σ σs σ' : m_H} {r : Option Value} {E : A_E} (he : e_ok M [(0, 80, false)] ρ0) (hMT : M ≤ T) (hl : ρs.length = E.length) (hf : h_fr (c_md cn_w) σ σs) (h : c_post (w_alts E) w_md T ρs σs r σ') : c_post (w_alts [(0, 80, false)]) (c_md cn_w) T ρ0 σ r σ' := by
  obtain ⟨q, hq, ρ', h1, h2, h3, h4, h5, h6, h7⟩ := h
  obtain rfl := List.mem_singleton.mp hq
  cases r with
  | none => exact absurd h4 id
  | some v =>
    obtain ⟨x, rr, rfl, hr, hx⟩ := v_var (show v_ok ρ' (1, E.length, 0) v from h4)
    have hb := h2.2 E.length (-201, 80, false) rr (by simp) hr
    have b1 : -201 ≤ rr := hb.1
    have b2 : rr ≤ 80 := hb.2.1
    refine ⟨_, List.mem_cons_self, ρ0 ++ [x.toInt], r_ext.push _, e_ok_push (e_ok_mono hMT he) ⟨by show -201 ≤ x.toInt; omega, by show x.toInt ≤ 80; omega, fun y => by cases y⟩, (fun q hq => by cases hq), ⟨x, x.toInt, rfl, ?_, (show x.toInt = x.toInt + 0 by omega)⟩, h5, ?_, h_fr_tr hf h7 w_sub⟩
    · have : ρ0.length = 1 := he.1
      rw [List.getElem?_append_right (by show ρ0.length ≤ 1; omega)]
      show [x.toInt][1 - ρ0.length]? = _
      rw [this]; rfl
    · intro u hu
      obtain rfl := List.mem_singleton.mp hu
      exact h6 _ List.mem_cons_self
