/-! THE LAW'S LOOP, its calls told by the plain numbers -/
theorem py_lroom : (parseMethodDescriptor yl_room.desc).map (fun d => d.parameters.length) = some 4 := by decide +kernel
theorem py_lperson : (parseMethodDescriptor yl_person.desc).map (fun d => d.parameters.length) = some 4 := by decide +kernel
theorem py_lrow : (parseMethodDescriptor yl_row.desc).map (fun d => d.parameters.length) = some 3 := by decide +kernel
theorem a_rt_nil {nr n : Nat} {rt : Option FieldType} {i : Jvm.ClassFile.Instr} {S : A_S} (h : a_rt nr [] rt i n S = true) : False := by
  obtain ⟨pc, E, F, ls, st, ov, bu, ph⟩ := S
  unfold a_rt at h
  simp only at h
  have h2 := (Bool.and_eq_true _ _ |>.mp h).2
  clear h
  split at h2
  · have h3 := (Bool.and_eq_true _ _ |>.mp h2).2
    cases h3
  · have h3 := (Bool.and_eq_true _ _ |>.mp h2).2
    cases h3
  · have h3 := (Bool.and_eq_true _ _ |>.mp (Bool.and_eq_true _ _ |>.mp h2).2).2
    cases h3
  · cases h2
theorem len_le {n : Nat} (h : n ≤ 2560) : (Int32.ofNat n - Int32.ofInt 5).toInt = (n : Int) - 5 := by
  have e1 : (Int32.ofNat n).toInt = (n : Int) := Int32.toInt_ofNat_of_lt (by omega)
  have e2 : (Int32.ofInt 5).toInt = 5 := by decide
  have := i32_sub (x := Int32.ofNat n) (y := Int32.ofInt 5) (by rw [e1, e2]; unfold i_m; omega) (by rw [e1, e2]; unfold i_M; omega)
  rw [this, e1, e2]
def z_T : z_G → z_Q → Prop := fun _ _ => True
/-- nothing changed: the same cells -/
theorem h_eq {B B' : Int} {σ σ' : m_H} (h : h_ok B σ) (h' : h_ok B' σ') (hf : h_fr [] σ σ') : σ' = σ := by
  apply List.ext_getElem?
  intro p
  by_cases hp : p < h_N
  · obtain ⟨vs, a1, a2, a3⟩ := h.2 p hp
    obtain ⟨ws, b1, b2, b3⟩ := h'.2 p hp
    rw [a1, b1]
    have : ws = vs := by
      apply List.ext_getElem?
      intro k
      have := hf p k (fun ⟨q, hq, _⟩ => by cases hq)
      rw [c_at_eq a1, c_at_eq b1] at this
      exact this
    rw [this]
  · have e1 : σ[p]? = none := List.getElem?_eq_none (by rw [h.1]; omega)
    have e2 : σ'[p]? = none := List.getElem?_eq_none (by rw [h'.1]; omega)
    rw [e1, e2]
def l_ex (x : Int32) : List (Nat × Value) := [(0, .ref (m_X0 + 3)), (1, .ref 0), (2, .ref 251), (3, .ref 278), (4, .int x)]
def l_zx (x : Int32) : z_L := [(2, 1000003), (2, 0), (2, 251), (2, 278), (0, x.toInt), (9, 0), (9, 0), (9, 0)]
theorem l_zx_ok (x : Int32) : z_lr 8 (l_zx x) (l_ex x) := ⟨Nat.le_refl _, fun q hq => by
  simp only [l_ex, List.mem_cons, List.not_mem_nil, or_false] at hq
  rcases hq with rfl | rfl | rfl | rfl | rfl <;> rfl⟩
theorem l_ex_ok (x : Int32) : ∀ q ∈ l_ex x, m_vOk h_N q.2 := fun q hq => by
  simp only [l_ex, List.mem_cons, List.not_mem_nil, or_false] at hq
  rcases hq with rfl | rfl | rfl | rfl | rfl
  · exact Or.inr (Nat.le_add_right _ _)
  · exact vok_ref (by decide)
  · exact vok_ref (by decide)
  · exact vok_ref (by decide)
  · trivial
/-- the frame's values that stay -/
def l_fr (ls : List (Nat × Value)) (x : Int32) : Prop := ∀ q ∈ l_ex x, q ∈ ls
theorem l_fr_ex (x : Int32) : l_fr (l_ex x) x := fun _ h => h
theorem l_ld_mem {i : Nat} {ls : List (Nat × Value)} {v : Value} (h : m_ld i ls = some v) : (i, v) ∈ ls := by
  unfold m_ld at h
  obtain ⟨q, h1, h2⟩ := Option.map_eq_some_iff.mp h
  have h3 := List.find?_some h1
  have h3 : q.1 = i := by simpa using h3
  have h4 := List.mem_of_find?_eq_some h1
  obtain ⟨q1, q2⟩ := q
  simp only at h2 h3
  rw [← h3, ← h2]
  exact h4
theorem l_ex_l {x : Int32} {ρ : List Int} {r : Int} (hr : ρ[0]? = some r) (hx : x.toInt = r) : l_ok ρ l_ls (l_ex x) := by
  intro u hu
  simp only [l_ls, List.mem_cons, List.not_mem_nil, or_false] at hu
  rcases hu with rfl | rfl | rfl | rfl | rfl
  · exact ⟨_, rfl, rfl⟩
  · exact ⟨_, rfl, rfl⟩
  · exact ⟨_, rfl, rfl⟩
  · exact ⟨_, rfl, rfl⟩
  · exact ⟨_, rfl, v_mk0 hr hx⟩
theorem l_fr_of {ls : List (Nat × Value)} {ρ : List Int} {r : Int} (h : l_ok ρ l_ls ls) (hr : ρ[0]? = some r) : ∃ x : Int32, x.toInt = r ∧ l_fr ls x := by
  obtain ⟨v0, a0, w0⟩ := h (0, (2, m_X0 + 3, 0)) (List.mem_of_getElem? (i := 0) rfl)
  obtain ⟨v1, a1, w1⟩ := h (1, (2, 0, 0)) (List.mem_of_getElem? (i := 1) rfl)
  obtain ⟨v2, a2, w2⟩ := h (2, (2, 251, 0)) (List.mem_of_getElem? (i := 2) rfl)
  obtain ⟨v3, a3, w3⟩ := h (3, (2, 278, 0)) (List.mem_of_getElem? (i := 3) rfl)
  obtain ⟨v4, a4, w4⟩ := h (4, (1, 0, 0)) (List.mem_of_getElem? (i := 4) rfl)
  have w0 : v0 = .ref (m_X0 + 3) := w0
  have w1 : v1 = .ref 0 := w1
  have w2 : v2 = .ref 251 := w2
  have w3 : v3 = .ref 278 := w3
  subst w0; subst w1; subst w2; subst w3
  obtain ⟨x, r', rfl, hr', hx⟩ := v_var w4
  have : r' = r := Option.some.inj (hr'.symm.trans hr)
  refine ⟨x, by omega, fun q hq => ?_⟩
  simp only [l_ex, List.mem_cons, List.not_mem_nil, or_false] at hq
  rcases hq with rfl | rfl | rfl | rfl | rfl
  · exact l_ld_mem a0
  · exact l_ld_mem a1
  · exact l_ld_mem a2
  · exact l_ld_mem a3
  · exact l_ld_mem a4
def l_a (Ls : List Int32) (t i : Nat) : Int32 := Ls.getD (5 * t + 1 + i) 0
def l_rho (Ls : List Int32) (t : Nat) : List Int := [((5 * t : Nat) : Int), (Ls.getD (5 * t) 0).toInt, (l_a Ls t 0).toInt, (l_a Ls t 1).toInt, (l_a Ls t 2).toInt, (l_a Ls t 3).toInt]
def l_as (Ls : List Int32) (t n : Nat) : List Int32 := (List.range n).map (l_a Ls t)
theorem l_as_len (Ls : List Int32) (t n : Nat) : (l_as Ls t n).length = n := by simp [l_as]
theorem l_var {ρ : List Int} {i : Nat} {v : Value} {a : Int32} (h : v_ok ρ (1, i, 0) v) (hr : ρ[i]? = some a.toInt) : v = .int a := by
  obtain ⟨x, r, rfl, h1, h2⟩ := v_var h
  have : r = a.toInt := Option.some.inj (h1.symm.trans hr)
  have : x.toInt = a.toInt := by omega
  rw [Int32.toInt_inj.mp this]
theorem l_args_ok {Ls : List Int32} {t r : Nat} {ρ : List Int} (hr : ∀ i, i < 4 → ρ[i + 2]? = some (l_a Ls t i).toInt) : ∀ {n : Nat} {st : List Value}, n ≤ 4 → s_ok ρ (l_args r n) st → st = ((l_as Ls t n).map Value.int).reverse ++ [.ref r]
  | 0, [], _, h => absurd h id
  | 0, [v], _, h => by have h : v = .ref r := h.1; rw [h]; rfl
  | 0, _ :: _ :: _, _, h => absurd h.2 id
  | 1, [], _, h => absurd h id
  | 1, [_], _, h => absurd h.2 id
  | 1, [v, w], _, h => by
    have h1 := l_var h.1 (hr 0 (by omega)); have h2 : w = .ref r := h.2.1
    rw [h1, h2]; rfl
  | 1, _ :: _ :: _ :: _, _, h => absurd h.2.2 id
  | 2, [], _, h => absurd h id
  | 2, [_], _, h => absurd h.2 id
  | 2, [_, _], _, h => absurd h.2.2 id
  | 2, [u, v, w], _, h => by
    have h0 := l_var h.1 (hr 1 (by omega)); have h1 := l_var h.2.1 (hr 0 (by omega)); have h2 : w = .ref r := h.2.2.1
    rw [h0, h1, h2]; rfl
  | 2, _ :: _ :: _ :: _ :: _, _, h => absurd h.2.2.2 id
  | 3, [], _, h => absurd h id
  | 3, [_], _, h => absurd h.2 id
  | 3, [_, _], _, h => absurd h.2.2 id
  | 3, [_, _, _], _, h => absurd h.2.2.2 id
  | 3, [u1, u, v, w], _, h => by
    have hu := l_var h.1 (hr 2 (by omega)); have h0 := l_var h.2.1 (hr 1 (by omega)); have h1 := l_var h.2.2.1 (hr 0 (by omega)); have h2 : w = .ref r := h.2.2.2.1
    rw [hu, h0, h1, h2]; rfl
  | 3, _ :: _ :: _ :: _ :: _ :: _, _, h => absurd h.2.2.2.2 id
  | 4, [], _, h => absurd h id
  | 4, [_], _, h => absurd h.2 id
  | 4, [_, _], _, h => absurd h.2.2 id
  | 4, [_, _, _], _, h => absurd h.2.2.2 id
  | 4, [_, _, _, _], _, h => absurd h.2.2.2.2 id
  | 4, [u2, u1, u, v, w], _, h => by
    have hz := l_var h.1 (hr 3 (by omega)); have hu := l_var h.2.1 (hr 2 (by omega)); have h0 := l_var h.2.2.1 (hr 1 (by omega)); have h1 := l_var h.2.2.2.1 (hr 0 (by omega)); have h2 : w = .ref r := h.2.2.2.2.1
    rw [hz, hu, h0, h1, h2]; rfl
  | 4, _ :: _ :: _ :: _ :: _ :: _ :: _, _, h => absurd h.2.2.2.2.2 id
  | n + 5, _, hn, _ => absurd hn (by omega)
theorem l_args_len (r : Nat) : ∀ {n : Nat}, n ≤ 4 → (l_args r n).length = n + 1
  | 0, _ => rfl
  | 1, _ => rfl
  | 2, _ => rfl
  | 3, _ => rfl
  | 4, _ => rfl
  | n + 5, h => absurd h (by omega)
theorem l_rho_a {Ls : List Int32} {t : Nat} {ρ : List Int} (hx : r_ext (l_rho Ls t) ρ) : ∀ i, i < 4 → ρ[i + 2]? = some (l_a Ls t i).toInt := by
  intro i hi
  rcases (show i = 0 ∨ i = 1 ∨ i = 2 ∨ i = 3 by omega) with rfl | rfl | rfl | rfl <;> exact hx _ _ rfl
def z_aI : A_A → Bool := fun q => match q.2.2.1 with
  | some a => a_isI a
  | none => false
/-- every contract of these methods: so many arguments, an int told -/
noncomputable def l_ar (y n : Nat) : Bool := (cs_at y).all fun C => Nat.beq C.2.2.1.length (n + 1) && C.2.2.2.2.2.2.2.1.all z_aI
set_option maxRecDepth 100000 in
theorem l_ars : law_cs.all (fun c => Nat.ble c.2.2.2.1 4 && (l_ar c.2.2.1 c.2.2.2.1 && l_ar c.2.2.2.2.2.2.2 c.2.2.2.1)) = true := by decide +kernel
/-- what a case asks: the relation comes back, and what is compared is alike -/
noncomputable def l_rel2 (Rel : m_H → Prop) (c : l_C) : Prop := ∀ (M1 M2 M3 : Int) (σ σ1 σ2 : m_H) (as : List Int32) (v1 v2 : Int32) (C1 C2 : A_C) (ρ1 ρ2 : List Int), as.length = c.2.2.2.1 → Rel σ → h_ok M1 σ → M1 ≤ 1073741824 →
  C1 ∈ cs_at c.2.2.1 → c_post C1.2.2.2.2.2.2.2.1 C1.2.2.2.2.1 M2 ρ1 σ (some (.int v1)) σ1 → z_Ev c.2.2.1 (z_m σ, 0, z_fr c.2.2.1 (z_s (.ref 0 :: as.map Value.int)), []) (z_m σ1, some (0, v1.toInt)) →
  C2 ∈ cs_at c.2.2.2.2.2.2.2 → c_post C2.2.2.2.2.2.2.2.1 C2.2.2.2.2.1 M3 ρ2 σ1 (some (.int v2)) σ2 → z_Ev c.2.2.2.2.2.2.2 (z_m σ1, 0, z_fr c.2.2.2.2.2.2.2 (z_s (.ref 251 :: as.map Value.int)), []) (z_m σ2, some (0, v2.toInt)) →
  Rel σ2 ∧ (c.2.2.2.2.1 = true → v1 = v2)
/-- the same of room, person, row: what the law's own method leaves, then the reference -/
noncomputable def l_rel3 (Rel : m_H → Prop) (y2 n : Nat) : Prop := ∀ (M1 M2 M3 : Int) (σ σ1 σ2 : m_H) (as : List Int32) (v : Value) (C2 : A_C) (ρ2 : List Int), as.length = n → Rel σ → h_ok M1 σ → M1 ≤ 1073741824 → h_fr [(6, 0, 39), (7, 0, 6), (278, 0, 0)] σ σ1 → h_ok M2 σ1 →
  C2 ∈ cs_at y2 → c_post C2.2.2.2.2.2.2.2.1 C2.2.2.2.2.1 M3 ρ2 σ1 (some v) σ2 → z_Ev y2 (z_m σ1, 0, z_fr y2 (z_s (.ref 251 :: as.map Value.int)), []) (z_m σ2, some (z_v v)) → Rel σ2
theorem c_post_h {alts : List A_A} {md : A_D} {T : Int} {ρ : List Int} {σ σ' : m_H} {r : Option Value} (h : c_post alts md T ρ σ r σ') : h_ok T σ' ∧ h_fr md σ σ' := by
  obtain ⟨q, hq, ρ', c1, c2, c3, c4, c5, c6, c7⟩ := h
  exact ⟨c5, c7⟩
theorem c_post_i {alts : List A_A} {md : A_D} {T : Int} {ρ : List Int} {σ σ' : m_H} {r : Option Value} (h : c_post alts md T ρ σ r σ') (ha : alts.all z_aI = true) : ∃ v : Int32, r = some (.int v) := by
  obtain ⟨q, hq, ρ', c1, c2, c3, c4, c5, c6, c7⟩ := h
  have e := List.all_eq_true.mp ha q hq
  unfold z_aI at e
  split at e
  · rename_i a h1
    rw [h1] at c4
    cases r with
    | none => exact absurd c4 id
    | some v =>
      obtain ⟨x, hx, -⟩ := v_int (show v_ok ρ' a v from c4) e
      exact ⟨x, by rw [hx]⟩
  · cases e
def lRx : Int × Int × Bool := (-9223372036854775808, 9223372036854775807, false)
theorem lRx_ok (v : Int64) : lRx.1 ≤ v.toInt ∧ v.toInt ≤ lRx.2.1 := i64_rng v
def z_aL : A_A → Bool := fun q => match q.2.2.1 with
  | some a => a_isL a
  | none => false
theorem c_post_l {alts : List A_A} {md : A_D} {T : Int} {ρ : List Int} {σ σ' : m_H} {r : Option Value} (h : c_post alts md T ρ σ r σ') (ha : alts.all z_aL = true) : ∃ v : Int64, r = some (.long v) := by
  obtain ⟨q, hq, ρ', c1, c2, c3, c4, c5, c6, c7⟩ := h
  have e := List.all_eq_true.mp ha q hq
  unfold z_aL at e
  split at e
  · rename_i a h1
    rw [h1] at c4
    cases r with
    | none => exact absurd c4 id
    | some v =>
      obtain ⟨x, hx, -⟩ := v_long (show v_ok ρ' a v from c4) e
      exact ⟨x, by rw [hx]⟩
  · cases e
theorem l_mdp : ∀ u ∈ ([(278, 0, 0)] : A_D), u ∈ ([(6, 0, 39), (7, 0, 6), (278, 0, 0)] : A_D) := by decide
noncomputable def l_sck (pcR pcM xM yM na : Nat) (stF : List A_V) (q : Int × Int × Bool) (al : A_A → Bool) : Bool := b_go cs_at [] l_dp 8 7 [] [(pcM, lE1, [], l_ls, l_args 251 na, [], (1400000, []), (0, []))] (some .boolean) kt_law 4000 1 (pcR, lE1, [], l_ls, [(1, 6, 0)], [], (1500000, []), (1, [])) && (l_iv pcM xM yM lE1 (l_args 251 na) 1400000 && (b_go cs_at [] l_dp 8 7 [] [lH (lE ++ [q])] (some .boolean) kt_law 4000 1 (pcM + 3, lE ++ [q], [], l_ls, stF, [], (0, []), (1, [])) && ((cs_at yM).all (fun C => Nat.beq C.2.2.1.length (na + 1)) && (cs_at yM).all (fun C => C.2.2.2.2.2.2.2.1.all al))))
theorem l_sck_ok {pcR pcM xM yM na : Nat} {stF : List A_V} {q : Int × Int × Bool} {al : A_A → Bool} (h : l_sck pcR pcM xM yM na stF q al = true) : b_go cs_at [] l_dp 8 7 [] [(pcM, lE1, [], l_ls, l_args 251 na, [], (1400000, []), (0, []))] (some .boolean) kt_law 4000 1 (pcR, lE1, [], l_ls, [(1, 6, 0)], [], (1500000, []), (1, [])) = true ∧ l_iv pcM xM yM lE1 (l_args 251 na) 1400000 = true ∧ b_go cs_at [] l_dp 8 7 [] [lH (lE ++ [q])] (some .boolean) kt_law 4000 1 (pcM + 3, lE ++ [q], [], l_ls, stF, [], (0, []), (1, [])) = true ∧ (∀ C ∈ cs_at yM, C.2.2.1.length = na + 1) ∧ (∀ C ∈ cs_at yM, C.2.2.2.2.2.2.2.1.all al = true) := by
  obtain ⟨h1, h⟩ := Bool.and_eq_true _ _ |>.mp h
  obtain ⟨h2, h⟩ := Bool.and_eq_true _ _ |>.mp h
  obtain ⟨h3, h⟩ := Bool.and_eq_true _ _ |>.mp h
  obtain ⟨h4, h5⟩ := Bool.and_eq_true _ _ |>.mp h
  exact ⟨h1, h2, h3, fun C hC => Nat.eq_of_beq_eq_true (List.all_eq_true.mp h4 C hC), List.all_eq_true.mp h5⟩
set_option maxRecDepth 100000 in
theorem l_s5c : l_sck 318 333 54 181 2 [(1, 6, 0)] iRx z_aI = true := by decide +kernel
set_option maxRecDepth 100000 in
theorem l_s39c : l_sck 1304 1313 194 261 1 [(4, 6, 0)] lRx z_aL = true := by decide +kernel
/-- what the law asks of room, person: thrown by both or by none, and then the same told -/
noncomputable def l_rel3x (Rel : m_H → Prop) (y1 k1 y2 yT n : Nat) : Prop := ∀ (M1 M2 M3 : Int) (σ σ1 σ2 : m_H) (as : List Int32) (r v t : Int32) (C2 : A_C) (ρ2 : List Int), as.length = n → Rel σ → h_ok M1 σ → M1 ≤ 1073741824 → h_fr [(6, 0, 39), (7, 0, 6), (278, 0, 0)] σ σ1 → h_ok M2 σ1 → l_O y1 k1 (.ref 0 :: as.map Value.int) σ (some (.int r)) σ1 →
  C2 ∈ cs_at y2 → c_post C2.2.2.2.2.2.2.2.1 C2.2.2.2.2.1 M3 ρ2 σ1 (some (.int v)) σ2 → z_Ev y2 (z_m σ1, 0, z_fr y2 (z_s (.ref 251 :: as.map Value.int)), []) (z_m σ2, some (0, v.toInt)) → Rel σ2 ∧ (z_Ev yT (z_m σ2, 0, z_fr yT (z_s [.ref 251]), []) (z_m σ2, some (0, t.toInt)) → t = r) ∧ (r = Int32.ofInt 0 → z_m σ2 278 0 = v.toInt)
def l_e5 (x r : Int32) : List (Nat × Value) := (5, .int r) :: l_ex x
def l_e6 (x r v : Int32) : List (Nat × Value) := (6, .int v) :: l_e5 x r
def l_l5 : List (Nat × A_V) := (5, (1, 6, 0)) :: l_ls
def l_l6 : List (Nat × A_V) := (6, (1, 7, 0)) :: l_l5
def l_z6 (x r v : Int32) : z_L := [(2, 1000003), (2, 0), (2, 251), (2, 278), (0, x.toInt), (0, r.toInt), (0, v.toInt), (9, 0)]
theorem l_z6_ok (x r v : Int32) : z_lr 8 (l_z6 x r v) (l_e6 x r v) := ⟨Nat.le_refl _, fun q hq => by
  simp only [l_e6, l_e5, l_ex, List.mem_cons, List.not_mem_nil, or_false] at hq
  rcases hq with rfl | rfl | rfl | rfl | rfl | rfl | rfl <;> rfl⟩
theorem l_z5_ok (x r : Int32) : z_lr 8 (l_z6 x r 0) (l_e5 x r) := ⟨Nat.le_refl _, fun q hq => (l_z6_ok x r 0).2 q (List.mem_cons_of_mem _ hq)⟩
theorem l_e5_ok (x r : Int32) : ∀ q ∈ l_e5 x r, m_vOk h_N q.2 := fun q hq => by
  rcases List.mem_cons.mp hq with rfl | hq
  · trivial
  · exact l_ex_ok x q hq
theorem l_e6_ok (x r v : Int32) : ∀ q ∈ l_e6 x r v, m_vOk h_N q.2 := fun q hq => by
  rcases List.mem_cons.mp hq with rfl | hq
  · trivial
  · exact l_e5_ok x r q hq
theorem l_ok_cons {ρ : List Int} {i : Nat} {a : A_V} {v : Value} {ls : List (Nat × A_V)} {vs : List (Nat × Value)} (h : l_ok ρ ls vs) (hn : ∀ u ∈ ls, ¬ u.1 = i) (hv : v_ok ρ a v) : l_ok ρ ((i, a) :: ls) ((i, v) :: vs) := fun u hu => by
  rcases List.mem_cons.mp hu with rfl | hu
  · exact ⟨v, by simp [m_ld], hv⟩
  · obtain ⟨v', h1, h2⟩ := h u hu
    refine ⟨v', ?_, h2⟩
    have e : (i == u.1) = false := beq_eq_false_iff_ne.mpr (fun z => hn u hu z.symm)
    unfold m_ld at h1 ⊢
    simp only [List.find?_cons, e]
    exact h1
theorem l_e5_l {x r : Int32} {ρ : List Int} {r0 : Int} (hr : ρ[0]? = some r0) (hx : x.toInt = r0) (h6 : ρ[6]? = some r.toInt) : l_ok ρ l_l5 (l_e5 x r) := l_ok_cons (l_ex_l hr hx) (by
  intro u hu
  simp only [l_ls, List.mem_cons, List.not_mem_nil, or_false] at hu
  rcases hu with rfl | rfl | rfl | rfl | rfl <;> decide) (v_mk0 h6 rfl)
theorem l_e6_l {x r v : Int32} {ρ : List Int} {r0 : Int} (hr : ρ[0]? = some r0) (hx : x.toInt = r0) (h6 : ρ[6]? = some r.toInt) (h7 : ρ[7]? = some v.toInt) : l_ok ρ l_l6 (l_e6 x r v) := l_ok_cons (l_e5_l hr hx h6) (by
  intro u hu
  simp only [l_l5, l_ls, List.mem_cons, List.not_mem_nil, or_false] at hu
  rcases hu with rfl | rfl | rfl | rfl | rfl | rfl <;> decide) (v_mk0 h7 rfl)
theorem l_fr_of5 {ls : List (Nat × Value)} {ρ : List Int} {r0 : Int} {r : Int32} (h : l_ok ρ l_l5 ls) (hr : ρ[0]? = some r0) (h6 : ρ[6]? = some r.toInt) : ∃ x : Int32, x.toInt = r0 ∧ ∀ q ∈ l_e5 x r, q ∈ ls := by
  obtain ⟨x, hx, hf⟩ := l_fr_of (fun u hu => h u (List.mem_cons_of_mem _ hu)) hr
  obtain ⟨v5, a5, w5⟩ := h (5, (1, 6, 0)) List.mem_cons_self
  have e5 := l_var w5 h6
  refine ⟨x, hx, fun q hq => ?_⟩
  rcases List.mem_cons.mp hq with rfl | hq
  · rw [e5] at a5
    exact l_ld_mem a5
  · exact hf q hq
theorem l_sub5 (x r : Int32) : ∀ q ∈ l_e5 x r, q ∈ m_st1 5 (.int r) (l_ex x) := fun q hq => by
  simp only [l_e5, l_ex, List.mem_cons, List.not_mem_nil, or_false] at hq
  rcases hq with rfl | rfl | rfl | rfl | rfl | rfl <;> simp [m_st1, l_ex, Value.category]
theorem l_sub6 (x r v : Int32) : ∀ q ∈ l_e6 x r v, q ∈ m_st1 6 (.int v) (l_e5 x r) := fun q hq => by
  simp only [l_e6, l_e5, l_ex, List.mem_cons, List.not_mem_nil, or_false] at hq
  rcases hq with rfl | rfl | rfl | rfl | rfl | rfl | rfl <;> simp [m_st1, l_e5, l_ex, Value.category]
theorem l_fr6 (x r v : Int32) : l_fr (l_e6 x r v) x := fun q hq => List.mem_cons_of_mem _ (List.mem_cons_of_mem _ hq)
theorem x_long {B : Int} {σ : m_H} (hh : h_ok B σ) : ∃ (vs : List Value) (y : Int64), σ[278]? = some (.inl 4, vs) ∧ vs.length = 1 ∧ vs[0]? = some (.long y) ∧ z_m σ 278 0 = y.toInt := by
  obtain ⟨vs, h1, h2, h3⟩ := h_cell hh (p := 278) (by decide)
  rw [show h_kd 278 = .inl 4 by decide +kernel] at h1
  rw [show h_ln 278 = 1 by decide +kernel] at h2 h3
  obtain ⟨v, a1, a2, -⟩ := h3 0 (by decide)
  rw [show h_ty 278 0 = (2, 0, 0) by decide +kernel] at a2
  obtain ⟨y, rfl⟩ : ∃ y : Int64, v = .long y := a2
  exact ⟨vs, y, h1, h2, a1, z_m_at h1 a1⟩
noncomputable def l_ivg (pc x y : Nat) (E : A_E) (lsA : List (Nat × A_V)) (st : List A_V) (bu : Int) : Bool := l_dk pc x y && (st_inv cs_at l_md l_dp (.invokevirtual x) y 0 pc E [] lsA st [] (bu, []) (0, [])).isSome
set_option maxRecDepth 100000 in
theorem l_x1 : b_go cs_at [] l_dp 8 7 [] [(373, lE1, [], l_l5, l_args 251 2, [], (1400000, []), (0, []))] (some .boolean) kt_law 4000 1 (358 + 2, lE1, [], l_l5, [], [], (1500000, []), (1, [])) = true := by decide +kernel
set_option maxRecDepth 100000 in
theorem l_x2 : l_ivg 373 57 190 lE1 l_l5 (l_args 251 2) 1400000 = true := by decide +kernel
set_option maxRecDepth 100000 in
theorem l_x3 : l_ivg (373 + 6) 58 262 (lE1 ++ [iRx]) l_l6 [(2, 251, 0)] 1000 = true := by decide +kernel
set_option maxRecDepth 100000 in
theorem l_x4 : ((cs_at 190).all (fun C => Nat.beq C.2.2.1.length 3 && C.2.2.2.2.2.2.2.1.all z_aI) && (cs_at 262).all (fun C => Nat.beq C.2.2.1.length 1 && (C.2.2.2.2.2.2.2.1.all z_aI && C.2.2.2.2.1.isEmpty))) = true := by decide +kernel
section LL
variable {p : Program} {l : Launch} {e : Env} {R : Room} {s : State} {m : MethodId} {args : Array Value} {below : List Frame} {meth : Method} {c : Code} {QQ : State → Prop} {dC : Nat → ClassId} {dI : Nat → Nat → Nat} {aC : Nat → ClassId} {A : Nat → Prop} {n0 : Nat} {ad0 xa : Nat → Nat} {nL : Nat} {cc : ByteArray} {own : String} {X : Nat → Option (List Int32)} {Y : (Nat → Prop) → State → Heap → Prop}
theorem mW_T {K : List (List a_K)} {g : m_G} (h : mV p l e R s m args below meth c QQ dC dI aC A n0 ad0 xa nL g) : mW K z_T p l e R s m args below meth c (fun _ => QQ) dC dI aC A n0 ad0 xa nL g := fun _ _ _ _ => mV_mono (fun t h => ⟨((fun _ _ => 0), none), trivial, h⟩) h
theorem mV_T {K : List (List a_K)} {g : m_G} {zl : z_L} (h : mW K z_T p l e R s m args below meth c (fun _ => QQ) dC dI aC A n0 ad0 xa nL g) (hz : z_ok g.1) (hl : z_lr nL zl g.2.2.2.2.1) : mV p l e R s m args below meth c QQ dC dI aC A n0 ad0 xa nL g := mV_mono (fun t h => by
  obtain ⟨_, _, h⟩ := h
  exact h) (h (z_cl_T K) hz zl hl)
theorem mV_ls {σ : m_H} {ce sl pc : Nat} {ls ls' : List (Nat × Value)} {st : List Value} (hs : ∀ q ∈ ls', q ∈ ls) (h : mV p l e R s m args below meth c QQ dC dI aC A n0 ad0 xa nL (σ, ce, sl, pc, ls', st)) : mV p l e R s m args below meth c QQ dC dI aC A n0 ad0 xa nL (σ, ce, sl, pc, ls, st) := fun ad H locs lsC h1 h2 h3 h4 h5 h6 => h ad H locs lsC h1 h2 h3 h4 h5 ⟨h6.1, h6.2.1, fun q hq => by
  obtain ⟨u, hu, hue⟩ := List.mem_map.mp hq
  exact h6.2.2 q (List.mem_map.mpr ⟨u, hs u hu, hue⟩)⟩
/-- the reader, from the start of a piece -/
theorem l_eng (hX : ∀ i, i < 2 → X i = some ((x_tab i).map Int32.ofInt)) {Ls : List Int32} (hX3 : X 3 = some Ls) {t : Nat} (hlen : ((5 * t : Nat) : Int) + 5 ≤ (Ls.length : Int)) (hrt : meth.sig.returnType = some .boolean) (hn0 : n0 ≤ h_N) (hR0 : 2000 ≤ R.frames ∧ 40 * 2000 ≤ R.locals)
    (hC : m_Ctx p s m args meth c code 8 "LetByTheDegreeLaw" dC dI aC A xa X (yY xa)) {nr : Nat} {cuts : List A_S} {S : A_S} {ρ0 : List Int} {T Bs : Int} {σs : m_H} {x : Int32} {st : List Value} (hgo : b_go cs_at [] l_dp 8 nr [] cuts (some .boolean) kt_law 4000 1 S = true) (hlr : ρ0.length = nr) (hxr : r_ext (l_rho Ls t) ρ0) (hT : T ≤ 1073741824)
    (hg : g_ok T 1 ρ0 σs [] Bs ρ0 S (σs, 0, 0, S.1, l_ex x, st))
    (hcut : ∀ U ∈ cuts, ∀ (fv' B : Int) (ρ : List Int) (g : m_G), g_ok T fv' ρ0 σs [] B ρ U g → mV p l e R s m args below meth c QQ dC dI aC A n0 ad0 xa 8 g) : mV p l e R s m args below meth c QQ dC dI aC A n0 ad0 xa 8 (σs, 0, 0, S.1, l_ex x, st) := by
  have hY := yY_ok xa
  have hYS := yY_str xa
  have hIx := ix_K_ok (l := l) (X := X) hY hYS
  refine mV_T (K := kt_law) (zl := l_zx x) ?_ (z_of_h hg.h) (l_zx_ok x)
  rw [← hrt] at hgo
  exact b_go_ok (Z := z_T) (fun _ _ => trivial) hX3 (i0 := ((5 * t : Nat) : Int)) (hxr 0 _ rfl) (by omega) hlen (fun c hc => by
    have e1 : (((5 * t : Nat) : Int)).toNat = 5 * t := Int.toNat_natCast _
    rw [e1]
    rcases (show c = 0 ∨ c = 1 ∨ c = 2 ∨ c = 3 ∨ c = 4 by omega) with rfl | rfl | rfl | rfl | rfl <;> exact hxr _ _ rfl) hC hY hYS hIx hX hT hlr hn0 law_k cs_cy (dc := 2000) (fun d _ => all_sem hX d) (dv := 200) rfl (by decide) hR0 (fun B ρ S g i n _ _ _ hr => absurd (a_rt_nil hr) id) (fun U hU fv' B ρ g _ _ hg => mW_T (hcut U hU fv' B ρ g hg)) 4000 1 S hgo Bs ρ0 _ hg
/-- a call by hand -/
theorem l_call (hX : ∀ i, i < 2 → X i = some ((x_tab i).map Int32.ofInt)) (hn0 : n0 ≤ h_N) (hR0 : 2000 ≤ R.frames ∧ 40 * 2000 ≤ R.locals) (hC : m_Ctx p s m args meth c code 8 "LetByTheDegreeLaw" dC dI aC A xa X (yY xa)) {pc xi y : Nat} {E : A_E} {stA : List A_V} {bu : Int} (hiv : l_iv pc xi y E stA bu = true) {T fv B : Int} {ρ0 ρ : List Int} {σ0 σ : m_H} {md : A_D} {ls : List (Nat × Value)} {st : List Value} {ph : A_L} (hT : T ≤ 1073741824)
    (hg : g_ok T fv ρ0 σ0 md B ρ (pc, E, [], l_ls, stA, [], (bu, []), ph) (σ, 0, 0, pc, ls, st)) {x : Int32} {r0 : Int} (hr : ρ[0]? = some r0) (hx : x.toInt = r0) (hls : l_fr ls x)
    (kk : ∀ (C : A_C) (ρc : List Int) (z : Int) (vs rest : List Value) (r : Option Value) (σ' : m_H), C ∈ cs_at y → vs.length = C.2.2.1.length → st = vs.reverse ++ rest → 0 ≤ z → B + z ≤ T → c_post C.2.2.2.2.2.2.2.1 C.2.2.2.2.1 (B + z) ρc σ r σ' → z_Ev y (z_m σ, 0, z_fr y (z_s vs), []) (z_m σ', r.map z_v) → mV p l e R s m args below meth c QQ dC dI aC A n0 ad0 xa 8 (σ', 0, 0, pc + 3, l_ex x, r.toList ++ rest)) :
    mV p l e R s m args below meth c QQ dC dI aC A n0 ad0 xa 8 (σ, 0, 0, pc, ls, st) := by
  refine mV_ls hls (mV_T (K := kt_law) (zl := l_zx x) ?_ (z_of_h hg.h) (l_zx_ok x))
  obtain ⟨h1, h2⟩ := Bool.and_eq_true _ _ |>.mp hiv
  unfold l_dk at h1
  split at h1
  · rename_i q0 i n fl j y' w ne hk
    obtain ⟨g1, h1⟩ := Bool.and_eq_true _ _ |>.mp h1
    obtain ⟨g2, h1⟩ := Bool.and_eq_true _ _ |>.mp h1
    obtain ⟨g3, g4⟩ := Bool.and_eq_true _ _ |>.mp h1
    have g1 := of_decide_eq_true g1
    have g2 := Nat.eq_of_beq_eq_true g2
    have g3 := Nat.eq_of_beq_eq_true g3
    have g4 := Nat.eq_of_beq_eq_true g4
    subst g1; subst g2; subst g3; subst g4
    obtain ⟨⟨r, r1, r2⟩, hpc⟩ := k_get_in hk
    have hpc : q0 = pc := hpc
    subst hpc
    have hkq := law_k r r1 _ r2
    obtain ⟨L, hL⟩ := Option.isSome_iff_exists.mp h2
    have hg' : g_ok T 0 ρ σ l_md B ρ (q0, E, [], l_ls, stA, [], (bu, []), (0, [])) (σ, 0, 0, q0, l_ex x, st) := ⟨r_ext.rf, hg.e, hg.f, hg.bu, rfl, hg.h, rfl, rfl, rfl, l_ex_l hr hx, l_ex_ok x, hg.s, hg.sv, hg.o, fun p k _ => rfl⟩
    exact st_invE_ok hC (yY_ok xa) hT (Or.inl rfl) hg' ⟨hkq.1, fl, hk⟩ (hkq.2.2.1 xi j y' w 0 (Or.inl rfl) rfl) (cs_cy y') (fun d _ C hCm => all_sem hX d y' C hCm) (dc := 2000) (dv := 200) rfl (by decide) hR0 hn0 hL (fun C ρc z vs rest r σ' a1 a2 a3 a4 a5 a6 a7 a8 a9 => mW_T (kk C ρc z vs rest r σ' a1 a2 a3 a5 a6 a7 a9))
  · cases h1
/-- the reader, whatever the frame holds -/
theorem l_engg (hX : ∀ i, i < 2 → X i = some ((x_tab i).map Int32.ofInt)) {Ls : List Int32} (hX3 : X 3 = some Ls) {t : Nat} (hlen : ((5 * t : Nat) : Int) + 5 ≤ (Ls.length : Int)) (hrt : meth.sig.returnType = some .boolean) (hn0 : n0 ≤ h_N) (hR0 : 2000 ≤ R.frames ∧ 40 * 2000 ≤ R.locals)
    (hC : m_Ctx p s m args meth c code 8 "LetByTheDegreeLaw" dC dI aC A xa X (yY xa)) {nr : Nat} {cuts : List A_S} {S : A_S} {ρ0 : List Int} {T Bs : Int} {σs : m_H} {lsv : List (Nat × Value)} {zl : z_L} {st : List Value} (hgo : b_go cs_at [] l_dp 8 nr [] cuts (some .boolean) kt_law 4000 1 S = true) (hlr : ρ0.length = nr) (hxr : r_ext (l_rho Ls t) ρ0) (hT : T ≤ 1073741824) (hzl : z_lr 8 zl lsv)
    (hg : g_ok T 1 ρ0 σs [] Bs ρ0 S (σs, 0, 0, S.1, lsv, st))
    (hcut : ∀ U ∈ cuts, ∀ (fv' B : Int) (ρ : List Int) (g : m_G), g_ok T fv' ρ0 σs [] B ρ U g → mV p l e R s m args below meth c QQ dC dI aC A n0 ad0 xa 8 g) : mV p l e R s m args below meth c QQ dC dI aC A n0 ad0 xa 8 (σs, 0, 0, S.1, lsv, st) := by
  have hY := yY_ok xa
  have hYS := yY_str xa
  have hIx := ix_K_ok (l := l) (X := X) hY hYS
  refine mV_T (K := kt_law) (zl := zl) ?_ (z_of_h hg.h) hzl
  rw [← hrt] at hgo
  exact b_go_ok (Z := z_T) (fun _ _ => trivial) hX3 (i0 := ((5 * t : Nat) : Int)) (hxr 0 _ rfl) (by omega) hlen (fun c hc => by
    have e1 : (((5 * t : Nat) : Int)).toNat = 5 * t := Int.toNat_natCast _
    rw [e1]
    rcases (show c = 0 ∨ c = 1 ∨ c = 2 ∨ c = 3 ∨ c = 4 by omega) with rfl | rfl | rfl | rfl | rfl <;> exact hxr _ _ rfl) hC hY hYS hIx hX hT hlr hn0 law_k cs_cy (dc := 2000) (fun d _ => all_sem hX d) (dv := 200) rfl (by decide) hR0 (fun B ρ S g i n _ _ _ hr => absurd (a_rt_nil hr) id) (fun U hU fv' B ρ g _ _ hg => mW_T (hcut U hU fv' B ρ g hg)) 4000 1 S hgo Bs ρ0 _ hg
/-- a call by hand, whatever the frame holds -/
theorem l_callg (hX : ∀ i, i < 2 → X i = some ((x_tab i).map Int32.ofInt)) (hn0 : n0 ≤ h_N) (hR0 : 2000 ≤ R.frames ∧ 40 * 2000 ≤ R.locals) (hC : m_Ctx p s m args meth c code 8 "LetByTheDegreeLaw" dC dI aC A xa X (yY xa)) {pc xi y : Nat} {E : A_E} {lsA : List (Nat × A_V)} {stA : List A_V} {bu : Int} (hiv : l_ivg pc xi y E lsA stA bu = true) {T B : Int} {ρ : List Int} {σ : m_H} {lsv : List (Nat × Value)} {zl : z_L} {st : List Value} (hT : T ≤ 1073741824)
    (hg' : g_ok T 0 ρ σ l_md B ρ (pc, E, [], lsA, stA, [], (bu, []), (0, [])) (σ, 0, 0, pc, lsv, st)) (hzl : z_lr 8 zl lsv)
    (kk : ∀ (C : A_C) (ρc : List Int) (z : Int) (vs rest : List Value) (r : Option Value) (σ' : m_H), C ∈ cs_at y → vs.length = C.2.2.1.length → st = vs.reverse ++ rest → 0 ≤ z → B + z ≤ T → c_post C.2.2.2.2.2.2.2.1 C.2.2.2.2.1 (B + z) ρc σ r σ' → z_Ev y (z_m σ, 0, z_fr y (z_s vs), []) (z_m σ', r.map z_v) → mV p l e R s m args below meth c QQ dC dI aC A n0 ad0 xa 8 (σ', 0, 0, pc + 3, lsv, r.toList ++ rest)) :
    mV p l e R s m args below meth c QQ dC dI aC A n0 ad0 xa 8 (σ, 0, 0, pc, lsv, st) := by
  refine mV_T (K := kt_law) (zl := zl) ?_ (z_of_h hg'.h) hzl
  obtain ⟨h1, h2⟩ := Bool.and_eq_true _ _ |>.mp hiv
  unfold l_dk at h1
  split at h1
  · rename_i q0 i n fl j y' w ne hk
    obtain ⟨g1, h1⟩ := Bool.and_eq_true _ _ |>.mp h1
    obtain ⟨g2, h1⟩ := Bool.and_eq_true _ _ |>.mp h1
    obtain ⟨g3, g4⟩ := Bool.and_eq_true _ _ |>.mp h1
    have g1 := of_decide_eq_true g1
    have g2 := Nat.eq_of_beq_eq_true g2
    have g3 := Nat.eq_of_beq_eq_true g3
    have g4 := Nat.eq_of_beq_eq_true g4
    subst g1; subst g2; subst g3; subst g4
    obtain ⟨⟨r, r1, r2⟩, hpc⟩ := k_get_in hk
    have hpc : q0 = pc := hpc
    subst hpc
    have hkq := law_k r r1 _ r2
    obtain ⟨L, hL⟩ := Option.isSome_iff_exists.mp h2
    exact st_invE_ok hC (yY_ok xa) hT (Or.inl rfl) hg' ⟨hkq.1, fl, hk⟩ (hkq.2.2.1 xi j y' w 0 (Or.inl rfl) rfl) (cs_cy y') (fun d _ C hCm => all_sem hX d y' C hCm) (dc := 2000) (dv := 200) rfl (by decide) hR0 hn0 hL (fun C ρc z vs rest r σ' a1 a2 a3 a4 a5 a6 a7 a8 a9 => mW_T (kk C ρc z vs rest r σ' a1 a2 a3 a5 a6 a7 a9))
  · cases h1
/-- the pieces' starts -/
theorem l_e0 {Ls : List Int32} {t : Nat} {B : Int} (ht : 5 * t ≤ 2555) : e_ok B lE (l_rho Ls t) := by
  refine ⟨rfl, ?_⟩
  intro i q r h1 h2
  have hr : ∀ x : Int32, iRx.1 ≤ x.toInt ∧ x.toInt ≤ iRx.2.1 ∧ (iRx.2.2 = true → 0 ≤ x.toInt ∧ x.toInt ≤ B) := fun x => by
    have := i32_rng x
    exact ⟨this.1, this.2, fun z => by cases z⟩
  match i, h1, h2 with
  | 0, h1, h2 => cases h1; cases h2; exact ⟨by show (0 : Int) ≤ _; omega, by show _ ≤ (2555 : Int); omega, fun z => by cases z⟩
  | 1, h1, h2 => cases h1; cases h2; exact hr _
  | 2, h1, h2 => cases h1; cases h2; exact hr _
  | 3, h1, h2 => cases h1; cases h2; exact hr _
  | 4, h1, h2 => cases h1; cases h2; exact hr _
  | 5, h1, h2 => cases h1; cases h2; exact hr _
theorem iRx_ok (v : Int32) : iRx.1 ≤ v.toInt ∧ v.toInt ≤ iRx.2.1 := i32_rng v
theorem s_pre {ρ : List Int} {a b : List A_V} {m : List Value} (h : s_ok ρ (a ++ b) m) : ∃ m1 m2, m = m1 ++ m2 ∧ s_ok ρ a m1 ∧ s_ok ρ b m2 := by
  obtain ⟨h1, h2⟩ := s_cutn a.length (a ++ b) m h
  rw [List.take_left] at h1
  rw [List.drop_left] at h2
  exact ⟨_, _, (List.take_append_drop _ _).symm, h1, h2⟩
theorem l_cut_eq {vs as : List Value} {rest tl : List Value} (hl : vs.length = as.length) (h : as.reverse ++ tl = vs.reverse ++ rest) : vs = as ∧ rest = tl := by
  obtain ⟨h1, h2⟩ := List.append_inj h (by rw [List.length_reverse, List.length_reverse, hl])
  exact ⟨by rw [← List.reverse_reverse vs, ← h1, List.reverse_reverse], h2.symm⟩
theorem l_cm_ok {ρ : List Int} {cm : Bool} {st : List Value} {v : Int32} (h : s_ok ρ (l_cm cm) st) (hv : ρ[6]? = some v.toInt) : st = bif cm then [.int v] else [] := by
  cases cm with
  | false =>
    cases st with
    | nil => rfl
    | cons a b => exact absurd h id
  | true =>
    cases st with
    | nil => exact absurd h id
    | cons a b =>
      cases b with
      | cons c d => exact absurd h.2 id
      | nil => rw [l_var h.1 hv]; rfl
theorem law_loop (Rel : m_H → Prop) (hRel : ∀ c ∈ law_cs, l_rel2 Rel c) (hS5 : l_rel3 Rel 181 2) (hS6 : l_rel3x Rel 156 0 190 262 2) (hS39 : l_rel3 Rel 261 1) (hl : l.stackTraces = false) (hX : ∀ i, i < 2 → X i = some ((x_tab i).map Int32.ofInt)) {Ls : List Int32} (hX3 : X 3 = some Ls) (hLs : Ls.length ≤ 2560) (hC : m_Ctx p s m args meth c code 8 "LetByTheDegreeLaw" dC dI aC A xa X (yY xa)) (hrt : meth.sig.returnType = some .boolean) (hn0 : n0 ≤ h_N) {k0 s0 : Nat} (hk0 : k0 + 600 ≤ 601024) (hs0 : s0 + 4000 ≤ 7293034)
    (END : ∀ (σ : m_H) (k n : Nat) (ls : List (Nat × Value)), k ≤ k0 + 512 → n ≤ s0 + 3072 → mV p l e room_1 s m args below meth c QQ dC dI aC A n0 ad0 xa 8 (σ, k, n, 1327, ls, [])) :
    ∀ (j t : Nat) (σ : m_H) (k n : Nat) (B : Int) (x : Int32), j + t = 512 → x.toInt = ((5 * t : Nat) : Int) → 0 ≤ B → B ≤ 2000000 * (t : Int) → h_ok B σ → Rel σ → k ≤ k0 + t → n ≤ s0 + 6 * t → mV p l e room_1 s m args below meth c QQ dC dI aC A n0 ad0 xa 8 (σ, k, n, 23, l_ex x, []) := by
  have hY := yY_ok xa
  intro j
  induction j with
  | zero =>
    intro t σ k n B x hj hx hB0 hB hh hRl hk hn
    refine mV_iload hC (kd law_k (pc := 23) rfl).1.1 rfl ?_
    refine mV_aload_n hC (kd law_k (pc := 25) rfl).1.1 rfl ?_
    refine mV_xalen hC (kd law_k (pc := 26) rfl).1.1 hX3 ?_
    refine mV_iconst hC (kd law_k (pc := 27) rfl).1.1 ?_
    refine mV_isub hC (kd law_k (pc := 28) rfl).1.1 ?_
    refine mV_icmp_gt hC (kd law_k (pc := 29) rfl).1.1 (tgt := 1327) rfl (fun h => END σ k n _ (by omega) (by omega)) (fun h => ?_)
    exact absurd (Int32.lt_iff_toInt_lt.mpr (by rw [len_le hLs, hx]; omega)) h
  | succ j ih =>
    intro t σ k n B x hj hx hB0 hB hh hRl hk hn
    have back : ∀ (σ' : m_H) (k' n' : Nat) (B' : Int) (x' : Int32) (ls' : List (Nat × Value)), x'.toInt = ((5 * t : Nat) : Int) → l_fr ls' x' → 0 ≤ B' → B' ≤ 2000000 * ((t + 1 : Nat) : Int) → h_ok B' σ' → Rel σ' → k' ≤ k0 + (t + 1) → n' ≤ s0 + 6 * (t + 1) → mV p l e room_1 s m args below meth c QQ dC dI aC A n0 ad0 xa 8 (σ', k', n', 1321, ls', []) := by
      intro σ' k' n' B' x' ls' hx' hls' hB0' hB' hh' hR' hk' hn'
      refine mV_ls hls' ?_
      refine mV_iinc hC (kd law_k (pc := 1321) rfl).1.1 (x := x') rfl (by decide) ?_
      refine mV_goto hC (kd law_k (pc := 1324) rfl).1.1 (tgt := 23) rfl ?_
      have e5 : (Int32.ofInt 5).toInt = 5 := by decide
      refine mV_ls (ls' := l_ex (x' + Int32.ofInt 5)) (fun q hq => ?_) (ih (t + 1) σ' k' n' B' (x' + Int32.ofInt 5) (by omega) ?_ hB0' hB' hh' hR' hk' hn')
      · simp only [l_ex, List.mem_cons, List.not_mem_nil, or_false] at hq
        rcases hq with rfl | rfl | rfl | rfl | rfl <;> simp [m_st1, l_ex, Value.category]
      · rw [i32_add (by rw [hx', e5]; unfold i_m; omega) (by rw [hx', e5]; unfold i_M; omega), hx', e5]
        omega
    refine mV_iload hC (kd law_k (pc := 23) rfl).1.1 rfl ?_
    refine mV_aload_n hC (kd law_k (pc := 25) rfl).1.1 rfl ?_
    refine mV_xalen hC (kd law_k (pc := 26) rfl).1.1 hX3 ?_
    refine mV_iconst hC (kd law_k (pc := 27) rfl).1.1 ?_
    refine mV_isub hC (kd law_k (pc := 28) rfl).1.1 ?_
    refine mV_icmp_gt hC (kd law_k (pc := 29) rfl).1.1 (tgt := 1327) rfl (fun h => END σ k n _ (by omega) (by omega)) (fun h => ?_)
    have hlen : ((5 * t : Nat) : Int) + 5 ≤ (Ls.length : Int) := by
      have h := Int32.not_lt.mp h
      have h := Int32.le_iff_toInt_le.mp h
      rw [len_le hLs, hx] at h
      omega
    have ht : 5 * t ≤ 2555 := by omega
    have hRc : room_1.cells = 601024 := rfl
    have hRs : room_1.slots = 7293034 := rfl
    have hT2 : (2000000 : Int) * ((t + 1 : Nat) : Int) ≤ 1024000000 := by omega
    have hR0 : 2000 ≤ (r_small room_1).frames ∧ 40 * 2000 ≤ (r_small room_1).locals := ⟨by decide, by decide⟩
    have hx0 : ∀ (z : List Int), (l_rho Ls t ++ z)[0]? = some ((5 * t : Nat) : Int) := fun z => rfl
    -- a piece with one number more
    have piece : ∀ (s' : State) (pc : Nat) (stA : List A_V) (bu : Int) (cut : A_S) (q : Int × Int × Bool) (v : Int) (σ1 : m_H) (M : Int) (x1 : Int32) (st : List Value), m_Ctx p s' m args meth c code 8 "LetByTheDegreeLaw" dC dI aC A xa X (yY xa) → b_go cs_at [] l_dp 8 7 [] [cut] (some .boolean) kt_law 4000 1 (pc, lE ++ [q], [], l_ls, stA, [], (bu, []), (1, [])) = true → q.2.2 = false → q.1 ≤ v ∧ v ≤ q.2.1 → 0 ≤ bu → 0 ≤ M → M + bu ≤ 1073741824 → h_ok M σ1 → x1.toInt = ((5 * t : Nat) : Int) → s_ok (l_rho Ls t ++ [v]) stA st → (∀ u ∈ st, m_vOk h_N u) →
        (∀ (fv' B' : Int) (ρ : List Int) (σ2 : m_H) (pc2 : Nat) (ls2 : List (Nat × Value)) (st2 : List Value), g_ok (M + bu) fv' (l_rho Ls t ++ [v]) σ1 [] B' ρ cut (σ2, 0, 0, pc2, ls2, st2) → σ2 = σ1 → mV p l e (r_small room_1) s' m args below meth c QQ dC dI aC A n0 ad0 xa 8 (σ2, 0, 0, pc2, ls2, st2)) → mV p l e (r_small room_1) s' m args below meth c QQ dC dI aC A n0 ad0 xa 8 (σ1, 0, 0, pc, l_ex x1, st) := by
      intro s' pc stA bu cut q v σ1 M x1 st hC' hgo hq2 hqv hbu hM hMb hh1 hx1 hst hsv kk
      refine l_eng (S := (pc, lE ++ [q], [], l_ls, stA, [], (bu, []), (1, []))) (ρ0 := l_rho Ls t ++ [v]) (T := M + bu) (Bs := M) hX hX3 hlen hrt hn0 hR0 hC' hgo rfl (r_ext.push _) hMb ?_ ?_
      · exact ⟨r_ext.rf, e_ok_push (l_e0 ht) ⟨hqv.1, hqv.2, fun z => by rw [hq2] at z; cases z⟩, (fun q hq => by cases hq), ⟨hM, bu, by show some (bu + 0) = some bu; rw [Int.add_zero], hbu, Int.le_refl _⟩, rfl, hh1, rfl, rfl, rfl, l_ex_l (hx0 _) hx1, l_ex_ok x1, hst, hsv, (fun q hq => by cases hq), fun p k _ => rfl⟩
      · intro U hU fv' B' ρ g hg
        obtain rfl := List.mem_singleton.mp hU
        obtain ⟨σ2, ce, sl, pc2, ls2, st2⟩ := g
        have hce : ce = 0 := hg.ce
        have hsl : sl = 0 := hg.sl
        subst hce hsl
        exact kk fv' B' ρ σ2 pc2 ls2 st2 hg (h_eq hh1 hg.h hg.fr)
    -- behind both calls
    have fin : ∀ (s' : State) (pc : Nat) (stA : List A_V) (q : Int × Int × Bool) (v : Int) (σ1 : m_H) (M : Int) (x1 : Int32) (st : List Value), m_Ctx p s' m args meth c code 8 "LetByTheDegreeLaw" dC dI aC A xa X (yY xa) → b_go cs_at [] l_dp 8 7 [] [lH (lE ++ [q])] (some .boolean) kt_law 4000 1 (pc, lE ++ [q], [], l_ls, stA, [], (0, []), (1, [])) = true → q.2.2 = false → q.1 ≤ v ∧ v ≤ q.2.1 → 0 ≤ M → M ≤ 2000000 * ((t + 1 : Nat) : Int) → h_ok M σ1 → Rel σ1 → x1.toInt = ((5 * t : Nat) : Int) → s_ok (l_rho Ls t ++ [v]) stA st → (∀ u ∈ st, m_vOk h_N u) →
        (∀ (ls2 : List (Nat × Value)) (x2 : Int32), x2.toInt = ((5 * t : Nat) : Int) → l_fr ls2 x2 → mV p l e (r_small room_1) s' m args below meth c QQ dC dI aC A n0 ad0 xa 8 (σ1, 0, 0, 1321, ls2, [])) → mV p l e (r_small room_1) s' m args below meth c QQ dC dI aC A n0 ad0 xa 8 (σ1, 0, 0, pc, l_ex x1, st) := by
      intro s' pc stA q v σ1 M x1 st hC' hgo hq2 hqv hM hMb hh1 hR1 hx1 hst hsv kk
      refine piece s' pc stA 0 (lH (lE ++ [q])) q v σ1 M x1 st hC' hgo hq2 hqv (Int.le_refl 0) hM (by omega) hh1 hx1 hst hsv ?_
      intro fv' B' ρ σ2 pc2 ls2 st2 hg hσ
      have hpc : pc2 = 1321 := hg.pc
      subst hpc hσ
      obtain rfl := s_nil hg.s
      obtain ⟨x2, hx2, hf2⟩ := l_fr_of hg.l (hg.x0 0 _ rfl)
      exact kk ls2 x2 hx2 hf2
    -- behind a call that may throw: the reference alone
    have behind : ∀ (pcR pcM xM yM na : Nat) (stF : List A_V) (q : Int × Int × Bool), b_go cs_at [] l_dp 8 7 [] [(pcM, lE1, [], l_ls, l_args 251 na, [], (1400000, []), (0, []))] (some .boolean) kt_law 4000 1 (pcR, lE1, [], l_ls, [(1, 6, 0)], [], (1500000, []), (1, [])) = true → l_iv pcM xM yM lE1 (l_args 251 na) 1400000 = true → b_go cs_at [] l_dp 8 7 [] [lH (lE ++ [q])] (some .boolean) kt_law 4000 1 (pcM + 3, lE ++ [q], [], l_ls, stF, [], (0, []), (1, [])) = true → q.2.2 = false → na ≤ 4 → (∀ C ∈ cs_at yM, C.2.2.1.length = na + 1) → l_rel3 Rel yM na →
        (∀ (C : A_C) (T : Int) (ρ : List Int) (σ1 σ2 : m_H) (r : Option Value), C ∈ cs_at yM → c_post C.2.2.2.2.2.2.2.1 C.2.2.2.2.1 T ρ σ1 r σ2 → ∃ (v : Value) (u : Int), r = some v ∧ q.1 ≤ u ∧ u ≤ q.2.1 ∧ m_vOk h_N v ∧ s_ok (l_rho Ls t ++ [u]) stF [v]) →
        ∀ (r : Int32) (σ0 σ1 : m_H) (M0 M : Int) (x1 : Int32) (ls1 : List (Nat × Value)), Rel σ0 → h_ok M0 σ0 → M0 ≤ B + 400000 → h_fr [(6, 0, 39), (7, 0, 6), (278, 0, 0)] σ0 σ1 → x1.toInt = ((5 * t : Nat) : Int) → l_fr ls1 x1 → 0 ≤ M → M ≤ B + 400000 → h_ok M σ1 → mV p l e room_1 s m args below meth c QQ dC dI aC A n0 ad0 xa 8 (σ1, k + 1, n + 6, pcR, ls1, [.int r]) := by
      intro pcR pcM xM yM na stF q g1 g2 g3 hq2 hna hal hrel hval r σ0 σ1 M0 M x1 ls1 hR0' hh0 hM0 hfr hx1 hls1 hM hMB hh1
      refine mV_ls hls1 ?_
      refine mV_reb hY hC (by omega) (by omega) (fun s' hC' conv => ?_)
      have hN0 : ∀ u ∈ ([.int r] : List Value), m_vOk h_N u := fun u hu => by
        obtain rfl := List.mem_singleton.mp hu
        trivial
      refine piece s' pcR [(1, 6, 0)] 1500000 _ iRx r.toInt σ1 M x1 [.int r] hC' g1 rfl (iRx_ok r) (by omega) (by omega) (by omega) hh1 hx1 ⟨v_mk0 (r := r.toInt) rfl rfl, trivial⟩ hN0 ?_
      intro fv3 B3 ρ3 σ4 pc4 ls4 st4 hg4 hσ4
      have hpc4 : pc4 = pcM := hg4.pc
      subst hpc4 hσ4
      obtain ⟨hB3, zz4, w1, w2, w3⟩ := hg4.bu
      obtain ⟨x4, hx4, hf4⟩ := l_fr_of hg4.l (hg4.x0 0 _ rfl)
      have hra4 := l_rho_a (Ls := Ls) (t := t) ((r_ext.push r.toInt).tr hg4.x0)
      have hm1 := l_args_ok (Ls := Ls) (t := t) hra4 hna hg4.s
      simp only at hm1
      refine l_call hX hn0 hR0 hC' g2 (by omega) hg4 (hg4.x0 0 _ rfl) hx4 hf4 ?_
      intro C2 ρ2 zc2 vs2 rest2 r2 σ5 d1 d2 d3 d4 d5 d6 d7
      obtain ⟨d6h, d6f⟩ := c_post_h d6
      obtain ⟨v, u, rfl, u1, u2, u3, u4⟩ := hval C2 _ ρ2 _ _ r2 d1 d6
      rw [hm1] at d3
      have d3' : (Value.ref 251 :: (l_as Ls t na).map Value.int).reverse ++ [] = vs2.reverse ++ rest2 := by
        rw [List.append_nil, List.reverse_cons]
        exact d3
      obtain ⟨rfl, rfl⟩ := l_cut_eq (by rw [d2, hal C2 d1]; simp [l_as_len]) d3'
      have hR5 := hrel M0 M (B3 + zc2) σ0 σ4 σ5 (l_as Ls t na) v C2 ρ2 (l_as_len Ls t na) hR0' hh0 (by omega) hfr hh1 d1 d6 d7
      refine fin s' (pc4 + 3) _ q u σ5 (B3 + zc2) x4 _ hC' g3 hq2 ⟨u1, u2⟩ (by omega) (by omega) d6h hR5 hx4 u4 ?_ (fun ls6 x6 hx6 hf6 => conv σ5 0 0 1321 ls6 [] (back σ5 (k + 1 + 0) (n + 6 + 0) (B3 + zc2) x6 ls6 hx6 hf6 (by omega) (by omega) d6h hR5 (by omega) (by omega)))
      intro w hw
      obtain rfl := List.mem_singleton.mp hw
      exact u3
    -- behind a call that may throw: the reference, and both compared
    have behindx : ∀ (r : Int32) (σ0 σ1 : m_H) (M0 M : Int) (x1 : Int32) (ls1 : List (Nat × Value)), Rel σ0 → h_ok M0 σ0 → M0 ≤ B + 400000 → h_fr [(6, 0, 39), (7, 0, 6), (278, 0, 0)] σ0 σ1 → x1.toInt = ((5 * t : Nat) : Int) → l_fr ls1 x1 → 0 ≤ M → M ≤ B + 400000 → h_ok M σ1 → l_O 156 0 (.ref 0 :: (l_as Ls t 2).map Value.int) σ0 (some (.int r)) σ1 → mV p l e room_1 s m args below meth c QQ dC dI aC A n0 ad0 xa 8 (σ1, k + 1, n + 6, 358, ls1, [.int r]) := by
      intro r σ0 σ1 M0 M x1 ls1 hR0' hh0 hM0 hfr hx1 hls1 hM hMB hh1 hO
      refine mV_ls hls1 ?_
      refine mV_reb hY hC (by omega) (by omega) (fun s' hC' conv => ?_)
      refine mV_istore hC' (kd law_k (pc := 358) rfl).1.1 (by decide) ?_
      refine mV_ls (l_sub5 x1 r) ?_
      refine l_engg (S := (358 + 2, lE1, [], l_l5, [], [], (1500000, []), (1, []))) (ρ0 := l_rho Ls t ++ [r.toInt]) (T := M + 1500000) (Bs := M) (zl := l_z6 x1 r 0) hX hX3 hlen hrt hn0 hR0 hC' l_x1 rfl (r_ext.push _) (by omega) (l_z5_ok x1 r) ⟨r_ext.rf, e_ok_push (l_e0 ht) ⟨(iRx_ok r).1, (iRx_ok r).2, fun z => by cases z⟩, (fun q hq => by cases hq), ⟨hM, 1500000, by show some ((1500000 : Int) + 0) = some 1500000; rw [Int.add_zero], by decide, Int.le_refl _⟩, rfl, hh1, rfl, rfl, rfl, l_e5_l (hx0 _) hx1 rfl, l_e5_ok x1 r, trivial, (fun v hv => by cases hv), (fun q hq => by cases hq), fun p k _ => rfl⟩ ?_
      intro U hU fv3 B3 ρ3 g hg4
      obtain rfl := List.mem_singleton.mp hU
      obtain ⟨σ4, ce, sl, pc4, ls4, st4⟩ := g
      have hce : ce = 0 := hg4.ce
      have hsl : sl = 0 := hg4.sl
      subst hce hsl
      have hσ4 := h_eq hh1 hg4.h hg4.fr
      simp only at hσ4
      have hpc4 : pc4 = 373 := hg4.pc
      subst hpc4 hσ4
      obtain ⟨hB3, zz4, w1, w2, w3⟩ := hg4.bu
      obtain ⟨x4, hx4, hf4⟩ := l_fr_of5 (r := r) hg4.l (hg4.x0 0 _ rfl) (hg4.x0 6 _ rfl)
      have hra4 := l_rho_a (Ls := Ls) (t := t) ((r_ext.push r.toInt).tr hg4.x0)
      have hm1 := l_args_ok (Ls := Ls) (t := t) (n := 2) hra4 (by decide) hg4.s
      simp only at hm1
      obtain ⟨hk1, hk2⟩ := Bool.and_eq_true _ _ |>.mp l_x4
      refine mV_ls hf4 ?_
      refine l_callg hX hn0 hR0 hC' l_x2 (T := M + 1500000) (by omega) ⟨r_ext.rf, hg4.e, hg4.f, hg4.bu, rfl, hg4.h, rfl, rfl, rfl, l_e5_l (hg4.x0 0 _ rfl) hx4 (hg4.x0 6 _ rfl), l_e5_ok x4 r, hg4.s, hg4.sv, hg4.o, fun p k _ => rfl⟩ (l_z5_ok x4 r) ?_
      intro C2 ρ2 zc2 vs2 rest2 r2 σ5 d1 d2 d3 d4 d5 d6 d7
      obtain ⟨hk3, hk4⟩ := Bool.and_eq_true _ _ |>.mp (List.all_eq_true.mp hk1 C2 d1)
      obtain ⟨d6h, d6f⟩ := c_post_h d6
      obtain ⟨v, rfl⟩ := c_post_i d6 hk4
      rw [hm1] at d3
      have d3' : (Value.ref 251 :: (l_as Ls t 2).map Value.int).reverse ++ [] = vs2.reverse ++ rest2 := by
        rw [List.append_nil, List.reverse_cons]
        exact d3
      obtain ⟨rfl, rfl⟩ := l_cut_eq (by rw [d2, Nat.eq_of_beq_eq_true hk3]; simp [l_as_len]) d3'
      refine mV_istore hC' (kd law_k (pc := 376) rfl).1.1 (by decide) ?_
      refine mV_ls (l_sub6 x4 r v) ?_
      refine mV_aload_n hC' (kd law_k (pc := 378) rfl).1.1 rfl ?_
      refine l_callg hX hn0 hR0 hC' l_x3 (T := B3 + zc2 + 1000) (B := B3 + zc2) (ρ := l_rho Ls t ++ [r.toInt] ++ [v.toInt]) (by omega) ⟨r_ext.rf, e_ok_push (e_ok_push (l_e0 ht) ⟨(iRx_ok r).1, (iRx_ok r).2, fun z => by cases z⟩) ⟨(iRx_ok v).1, (iRx_ok v).2, fun z => by cases z⟩, (fun q hq => by cases hq), ⟨by omega, 1000, by show some ((1000 : Int) + 0) = some 1000; rw [Int.add_zero], by decide, Int.le_refl _⟩, rfl, d6h, rfl, rfl, rfl, l_e6_l rfl hx4 rfl rfl, l_e6_ok x4 r v, ⟨rfl, trivial⟩, (fun w hw => by
        obtain rfl := List.mem_singleton.mp hw
        exact vok_ref (by decide)), (fun q hq => by cases hq), fun p k _ => rfl⟩ (l_z6_ok x4 r v) ?_
      intro C3 ρ5 zc3 vs3 rest3 r3 σ6 f1 f2 f3 f4 f5 f6 f7
      obtain ⟨hk5, hk6⟩ := Bool.and_eq_true _ _ |>.mp (List.all_eq_true.mp hk2 C3 f1)
      obtain ⟨hk6, hk7⟩ := Bool.and_eq_true _ _ |>.mp hk6
      obtain ⟨f6h, f6f⟩ := c_post_h f6
      rw [List.isEmpty_iff.mp hk7] at f6f
      have hσ6 := h_eq d6h f6h f6f
      subst hσ6
      obtain ⟨tt, rfl⟩ := c_post_i f6 hk6
      have f3' : ([Value.ref 251] : List Value).reverse ++ [] = vs3.reverse ++ rest3 := f3
      obtain ⟨rfl, rfl⟩ := l_cut_eq (by rw [f2, Nat.eq_of_beq_eq_true hk5]; rfl) f3'
      obtain ⟨hR5, hth, hout⟩ := hS6 M0 M (B3 + zc2) σ0 σ4 σ6 (l_as Ls t 2) r v tt C2 ρ2 (l_as_len Ls t 2) hR0' hh0 (by omega) hfr hh1 hO d1 d6 d7
      have et := hth f7
      have done : ∀ (ls6 : List (Nat × Value)), l_fr ls6 x4 → mV p l e (r_small room_1) s' m args below meth c QQ dC dI aC A n0 ad0 xa 8 (σ6, 0, 0, 406, ls6, []) := fun ls6 hf6 => by
        refine mV_goto hC' (kd law_k (pc := 406) rfl).1.1 (tgt := 1321) rfl ?_
        exact conv σ6 0 0 1321 ls6 [] (back σ6 (k + 1 + 0) (n + 6 + 0) (B3 + zc2) x4 ls6 hx4 hf6 (by omega) (by omega) d6h hR5 (by omega) (by omega))
      refine mV_iload hC' (kd law_k (pc := 382) rfl).1.1 rfl ?_
      refine mV_icmp_eq hC' (kd law_k (pc := 384) rfl).1.1 (tgt := 389) rfl (fun _ => ?_) (fun h => absurd et h)
      refine mV_iload hC' (kd law_k (pc := 389) rfl).1.1 rfl ?_
      refine mV_if_ne hC' (kd law_k (pc := 391) rfl).1.1 (tgt := 406) rfl (fun _ => done _ (l_fr6 x4 r v)) (fun h => ?_)
      obtain ⟨os, y, g1, g2, g3, g4⟩ := x_long d6h
      have ey : y = v.toInt64 := Int64.toInt_inj.mp (by rw [← g4, hout (h.trans (by decide)), Int32.toInt_toInt64])
      refine mV_aload_n hC' (kd law_k (pc := 394) rfl).1.1 rfl ?_
      refine mV_iconst hC' (kd law_k (pc := 395) rfl).1.1 ?_
      refine mV_laload hC' (kd law_k (pc := 396) rfl).1.1 g1 (by rw [g2]; exact vp_in_iff.mpr ⟨by decide, by decide⟩) g3 ?_
      refine mV_iload hC' (kd law_k (pc := 397) rfl).1.1 rfl ?_
      refine mV_i2l hC' (kd law_k (pc := 399) rfl).1.1 ?_
      refine mV_lcmp hC' (kd law_k (pc := 400) rfl).1.1 ?_
      exact mV_if_eq hC' (kd law_k (pc := 401) rfl).1.1 (tgt := 406) rfl (fun _ => done _ (l_fr6 x4 r v)) (fun h' => absurd (lg_cmp_0.mpr ey) h')
    refine mV_reb hY hC (by omega) (by omega) (fun s' hC' conv => ?_)
    refine l_eng (S := lS0) (Bs := B) hX hX3 hlen hrt hn0 hR0 hC' l_k0 rfl r_ext.rf (T := B + 400000) (by omega) ?_ ?_
    · exact ⟨r_ext.rf, l_e0 ht, (fun q hq => by cases hq), ⟨hB0, 400000, rfl, by omega, by omega⟩, rfl, hh, rfl, rfl, rfl, l_ex_l rfl hx, l_ex_ok x, trivial, (fun v hv => by cases hv), (fun q hq => by cases hq), fun p k _ => rfl⟩
    · intro U hU fv' B2 ρ g hg
      obtain ⟨σ2, ce, sl, pc2, ls2, st2⟩ := g
      have hce : ce = 0 := hg.ce
      have hsl : sl = 0 := hg.sl
      subst hce hsl
      have hσ2 := h_eq hh hg.h hg.fr
      simp only at hσ2
      subst hσ2
      obtain ⟨hB1, zz, z1, z2, z3⟩ := hg.bu
      rcases List.mem_cons.mp hU with rfl | hU
      · have hpc : pc2 = 1321 := hg.pc
        subst hpc
        obtain rfl := s_nil hg.s
        obtain ⟨x2, hx2, hf2⟩ := l_fr_of hg.l (hg.x0 0 _ rfl)
        exact conv σ2 0 0 1321 ls2 [] (back σ2 (k + 0) (n + 0) B2 x2 ls2 hx2 hf2 hB1 (by omega) hg.h hRl (by omega) (by omega))
      rcases List.mem_cons.mp hU with rfl | hU
      · have hpc : pc2 = 315 := hg.pc
        subst hpc
        obtain ⟨x2, hx2, hf2⟩ := l_fr_of hg.l (hg.x0 0 _ rfl)
        have hs := hg.s
        cases st2 with
        | nil => exact absurd hs id
        | cons v1 st2 =>
        obtain ⟨hv1, hs⟩ := hs
        cases st2 with
        | nil => exact absurd hs id
        | cons v2 st2 =>
        obtain ⟨hv2, hs⟩ := hs
        cases st2 with
        | nil => exact absurd hs id
        | cons v3 st2 =>
        obtain ⟨hv3, hs⟩ := hs
        cases st2 with
        | nil => exact absurd hs id
        | cons v4 st2 =>
        obtain ⟨hv4, hs⟩ := hs
        cases st2 with
        | cons v5 st2 => exact absurd hs id
        | nil =>
        have hv1 : v1 = .ref 278 := hv1
        subst hv1
        have hv4 : v4 = .ref 0 := hv4
        subst hv4
        obtain ⟨w, rw0, rfl, hrw, hww⟩ := v_var hv2
        obtain ⟨a, ra, rfl, hra, haa⟩ := v_var hv3
        have hN : (0 : Nat) < h_N ∧ 278 < h_N := by decide
        have hvv : ∀ v ∈ ([.ref 0, .int a, .int w, .ref 278] : List Value), m_vOk h_N v := fun v hv => by
          simp only [List.mem_cons, List.not_mem_nil, or_false] at hv
          rcases hv with rfl | rfl | rfl | rfl
          · exact vok_ref hN.1
          · trivial
          · trivial
          · exact vok_ref hN.2
        have hM := cl_room_sem (xa := xa) (d := 1999) (by decide) (cx_room_sem hl hX (by decide) cs_cy (fun d _ => all_sem hX d)) [a.toInt, w.toInt] B2 0 7 σ2 [.ref 0, .int a, .int w, .ref 278] ⟨rfl, fun i q r h1 h2 => by
                  have hra := i32_rng a
                  have hrw := i32_rng w
                  match i, h1, h2 with
                  | 0, h1, h2 => cases h1; cases h2; exact ⟨hra.1, hra.2, fun z => by cases z⟩
                  | 1, h1, h2 => cases h1; cases h2; exact ⟨hrw.1, hrw.2, fun z => by cases z⟩⟩ hB1 hg.h rfl (by decide) (by omega) rfl (by decide) (fun q hq => by cases hq) ⟨rfl, v_mk0 (r := a.toInt) rfl rfl, v_mk0 (r := w.toInt) rfl rfl, rfl, trivial⟩ hvv
        refine conv σ2 0 0 315 ls2 [.ref 278, .int w, .int a, .ref 0] ?_
        have hσl : σ2.length = h_N := hg.h.1
        refine mV_callSH hY hC (as := [.ref 0, .int a, .int w, .ref 278]) (st := []) (kd law_k (pc := 315) rfl).1.1 hM (a_in (k := 6) (i := 41) rfl rfl) (a_in (k := 6) (i := 42) rfl rfl) (a_in (k := 1) (i := 0) rfl rfl) (a_in (k := 6) (i := 43) rfl rfl) (by decide) py_lroom ⟨by decide, by decide⟩ (by decide) (by omega) (by omega) (Nat.zero_le _) (by rw [hσl]; exact hn0) (fun v hv => by cases hv) (by rw [hσl]; exact hg.lv) (fun r σ3 hQ => ?_)
        obtain ⟨hQ, hO⟩ := hQ
        obtain ⟨q, hq, ρ3, c1, c2, c3, c4, c5, c6, c7⟩ := hQ
        have hB3 : B2 + 0 = B2 := by omega
        rw [hB3] at c5
        have hr : ∃ y : Int32, r = some (.int y) := by
          rcases List.mem_cons.mp hq with rfl | hq
          · cases r with
            | none => exact absurd c4 id
            | some v =>
              obtain ⟨y, rfl, hy⟩ : ∃ y : Int32, v = .int y ∧ y.toInt = 0 := c4
              exact ⟨y, rfl⟩
          · obtain rfl := List.mem_singleton.mp hq
            cases r with
            | none => exact absurd c4 id
            | some v =>
              obtain ⟨y, rfl, hy⟩ : ∃ y : Int32, v = .int y ∧ y.toInt = 1 := c4
              exact ⟨y, rfl⟩
        obtain ⟨y, rfl⟩ := hr
        exact behind 318 333 54 181 2 [(1, 6, 0)] iRx (l_sck_ok l_s5c).1 (l_sck_ok l_s5c).2.1 (l_sck_ok l_s5c).2.2.1 rfl (by decide) (l_sck_ok l_s5c).2.2.2.1 hS5 (fun C T ρ σ1 σ2 r hC2 hp => (by
          obtain ⟨v, rfl⟩ := c_post_i hp ((l_sck_ok l_s5c).2.2.2.2 C hC2)
          exact ⟨_, v.toInt, rfl, (iRx_ok v).1, (iRx_ok v).2, trivial, v_mk0 (r := v.toInt) rfl rfl, trivial⟩)) y σ2 σ3 B2 B2 x2 ls2 hRl hg.h (by omega) (fun p k hn => c7 p k hn) hx2 hf2 hB1 (by omega) c5
      rcases List.mem_cons.mp hU with rfl | hU
      · have hpc : pc2 = 355 := hg.pc
        subst hpc
        obtain ⟨x2, hx2, hf2⟩ := l_fr_of hg.l (hg.x0 0 _ rfl)
        have hs := hg.s
        cases st2 with
        | nil => exact absurd hs id
        | cons v1 st2 =>
        obtain ⟨hv1, hs⟩ := hs
        cases st2 with
        | nil => exact absurd hs id
        | cons v2 st2 =>
        obtain ⟨hv2, hs⟩ := hs
        cases st2 with
        | nil => exact absurd hs id
        | cons v3 st2 =>
        obtain ⟨hv3, hs⟩ := hs
        cases st2 with
        | nil => exact absurd hs id
        | cons v4 st2 =>
        obtain ⟨hv4, hs⟩ := hs
        cases st2 with
        | cons v5 st2 => exact absurd hs id
        | nil =>
        have hv1 : v1 = .ref 278 := hv1
        subst hv1
        have hv4 : v4 = .ref 0 := hv4
        subst hv4
        obtain ⟨w, rw0, rfl, hrw, hww⟩ := v_var hv2
        obtain ⟨a, ra, rfl, hra, haa⟩ := v_var hv3
        have hN : (0 : Nat) < h_N ∧ 278 < h_N := by decide
        have hvv : ∀ v ∈ ([.ref 0, .int a, .int w, .ref 278] : List Value), m_vOk h_N v := fun v hv => by
          simp only [List.mem_cons, List.not_mem_nil, or_false] at hv
          rcases hv with rfl | rfl | rfl | rfl
          · exact vok_ref hN.1
          · trivial
          · trivial
          · exact vok_ref hN.2
        have hM := cl_person_sem (xa := xa) (d := 1999) (by decide) (cx_person_sem hl hX (by decide) cs_cy (fun d _ => all_sem hX d)) [a.toInt, w.toInt] B2 0 7 σ2 [.ref 0, .int a, .int w, .ref 278] ⟨rfl, fun i q r h1 h2 => by
                  have hra := i32_rng a
                  have hrw := i32_rng w
                  match i, h1, h2 with
                  | 0, h1, h2 => cases h1; cases h2; exact ⟨hra.1, hra.2, fun z => by cases z⟩
                  | 1, h1, h2 => cases h1; cases h2; exact ⟨hrw.1, hrw.2, fun z => by cases z⟩⟩ hB1 hg.h rfl (by decide) (by omega) rfl (by decide) (fun q hq => by cases hq) ⟨rfl, v_mk0 (r := a.toInt) rfl rfl, v_mk0 (r := w.toInt) rfl rfl, rfl, trivial⟩ hvv
        refine conv σ2 0 0 355 ls2 [.ref 278, .int w, .int a, .ref 0] ?_
        have hσl : σ2.length = h_N := hg.h.1
        refine mV_callSH hY hC (as := [.ref 0, .int a, .int w, .ref 278]) (st := []) (kd law_k (pc := 355) rfl).1.1 hM (a_in (k := 6) (i := 115) rfl rfl) (a_in (k := 6) (i := 116) rfl rfl) (a_in (k := 1) (i := 0) rfl rfl) (a_in (k := 6) (i := 117) rfl rfl) (by decide) py_lperson ⟨by decide, by decide⟩ (by decide) (by omega) (by omega) (Nat.zero_le _) (by rw [hσl]; exact hn0) (fun v hv => by cases hv) (by rw [hσl]; exact hg.lv) (fun r σ3 hQ => ?_)
        obtain ⟨hQ, hO⟩ := hQ
        obtain ⟨q, hq, ρ3, c1, c2, c3, c4, c5, c6, c7⟩ := hQ
        have hB3 : B2 + 0 = B2 := by omega
        rw [hB3] at c5
        have hr : ∃ y : Int32, r = some (.int y) := by
          rcases List.mem_cons.mp hq with rfl | hq
          · cases r with
            | none => exact absurd c4 id
            | some v =>
              obtain ⟨y, rfl, hy⟩ : ∃ y : Int32, v = .int y ∧ y.toInt = 0 := c4
              exact ⟨y, rfl⟩
          · obtain rfl := List.mem_singleton.mp hq
            cases r with
            | none => exact absurd c4 id
            | some v =>
              obtain ⟨y, rfl, hy⟩ : ∃ y : Int32, v = .int y ∧ y.toInt = 1 := c4
              exact ⟨y, rfl⟩
        obtain ⟨y, rfl⟩ := hr
        have hra2 := l_rho_a (Ls := Ls) (t := t) hg.x0
        have ea : Value.int a = Value.int (l_a Ls t 0) := l_var hv3 (hra2 0 (by decide))
        have ew : Value.int w = Value.int (l_a Ls t 1) := l_var hv2 (hra2 1 (by decide))
        have hO : l_O 156 0 (.ref 0 :: (l_as Ls t 2).map Value.int) σ2 (some (.int y)) σ3 := by
          have h2 : l_O 156 0 [.ref 0, .int a, .int w] σ2 (some (.int y)) σ3 := hO
          rw [ea, ew] at h2
          exact h2
        exact behindx y σ2 σ3 B2 B2 x2 ls2 hRl hg.h (by omega) (fun p k hn => c7 p k (fun z => hn (by obtain ⟨u, u1, u2⟩ := z; exact ⟨u, l_mdp u u1, u2⟩))) hx2 hf2 hB1 (by omega) c5 hO
      rcases List.mem_cons.mp hU with rfl | hU
      · have hpc : pc2 = 1301 := hg.pc
        subst hpc
        obtain ⟨x2, hx2, hf2⟩ := l_fr_of hg.l (hg.x0 0 _ rfl)
        have hs := hg.s
        cases st2 with
        | nil => exact absurd hs id
        | cons v1 st2 =>
        obtain ⟨hv1, hs⟩ := hs
        cases st2 with
        | nil => exact absurd hs id
        | cons v2 st2 =>
        obtain ⟨hv2, hs⟩ := hs
        cases st2 with
        | nil => exact absurd hs id
        | cons v4 st2 =>
        obtain ⟨hv4, hs⟩ := hs
        cases st2 with
        | cons v5 st2 => exact absurd hs id
        | nil =>
        have hv1 : v1 = .ref 278 := hv1
        subst hv1
        have hv4 : v4 = .ref 0 := hv4
        subst hv4
        obtain ⟨a, ra, rfl, hra, haa⟩ := v_var hv2
        have hN : (0 : Nat) < h_N ∧ 278 < h_N := by decide
        have hvv : ∀ v ∈ ([.ref 0, .int a, .ref 278] : List Value), m_vOk h_N v := fun v hv => by
          simp only [List.mem_cons, List.not_mem_nil, or_false] at hv
          rcases hv with rfl | rfl | rfl
          · exact vok_ref hN.1
          · trivial
          · exact vok_ref hN.2
        have hM := cl_row_sem (xa := xa) (d := 1999) (by decide) (cx_row_sem hl hX (by decide) cs_cy (fun d _ => all_sem hX d)) [a.toInt] B2 0 7 σ2 [.ref 0, .int a, .ref 278] ⟨rfl, fun i q r h1 h2 => by
                have hra := i32_rng a
                match i, h1, h2 with
                | 0, h1, h2 => cases h1; cases h2; exact ⟨hra.1, hra.2, fun z => by cases z⟩⟩ hB1 hg.h rfl (by decide) (by omega) rfl (by decide) (fun q hq => by cases hq) ⟨rfl, v_mk0 (r := a.toInt) rfl rfl, rfl, trivial⟩ hvv
        refine conv σ2 0 0 1301 ls2 [.ref 278, .int a, .ref 0] ?_
        have hσl : σ2.length = h_N := hg.h.1
        refine mV_callSH hY hC (as := [.ref 0, .int a, .ref 278]) (st := []) (kd law_k (pc := 1301) rfl).1.1 hM (a_in (k := 6) (i := 128) rfl rfl) (a_in (k := 6) (i := 129) rfl rfl) (a_in (k := 1) (i := 0) rfl rfl) (a_in (k := 6) (i := 130) rfl rfl) (by decide) py_lrow ⟨by decide, by decide⟩ (by decide) (by omega) (by omega) (Nat.zero_le _) (by rw [hσl]; exact hn0) (fun v hv => by cases hv) (by rw [hσl]; exact hg.lv) (fun r σ3 hQ => ?_)
        obtain ⟨hQ, hO⟩ := hQ
        obtain ⟨q, hq, ρ3, c1, c2, c3, c4, c5, c6, c7⟩ := hQ
        have hB3 : B2 + 0 = B2 := by omega
        rw [hB3] at c5
        have hr : ∃ y : Int32, r = some (.int y) := by
          rcases List.mem_cons.mp hq with rfl | hq
          · cases r with
            | none => exact absurd c4 id
            | some v =>
              obtain ⟨y, rfl, hy⟩ : ∃ y : Int32, v = .int y ∧ y.toInt = 0 := c4
              exact ⟨y, rfl⟩
          · obtain rfl := List.mem_singleton.mp hq
            cases r with
            | none => exact absurd c4 id
            | some v =>
              obtain ⟨y, rfl, hy⟩ : ∃ y : Int32, v = .int y ∧ y.toInt = 1 := c4
              exact ⟨y, rfl⟩
        obtain ⟨y, rfl⟩ := hr
        exact behind 1304 1313 194 261 1 [(4, 6, 0)] lRx (l_sck_ok l_s39c).1 (l_sck_ok l_s39c).2.1 (l_sck_ok l_s39c).2.2.1 rfl (by decide) (l_sck_ok l_s39c).2.2.2.1 hS39 (fun C T ρ σ1 σ2 r hC2 hp => (by
          obtain ⟨v, rfl⟩ := c_post_l hp ((l_sck_ok l_s39c).2.2.2.2 C hC2)
          exact ⟨_, v.toInt, rfl, (lRx_ok v).1, (lRx_ok v).2, trivial, ⟨v, v.toInt, rfl, rfl, (Int.add_zero _).symm⟩, trivial⟩)) y σ2 σ3 B2 B2 x2 ls2 hRl hg.h (by omega) (fun p k hn => c7 p k (fun z => hn (by obtain ⟨u, u1, u2⟩ := z; exact ⟨u, l_mdp u u1, u2⟩))) hx2 hf2 hB1 (by omega) c5
      · obtain ⟨cc, hcc, rfl⟩ := List.mem_map.mp hU
        have hck := List.all_eq_true.mp l_cks cc hcc
        have har := List.all_eq_true.mp l_ars cc hcc
        have hrel := hRel cc hcc
        obtain ⟨A1, x1, y1, na, cm, A2, xx2, y2⟩ := cc
        unfold l_ck at hck
        simp only [lU1] at hg
        simp only [lS1, lS2, lU2] at hck
        simp only at har hck
        obtain ⟨ck1, ck2⟩ := Bool.and_eq_true _ _ |>.mp hck
        obtain ⟨ck2, ck3⟩ := Bool.and_eq_true _ _ |>.mp ck2
        obtain ⟨ck3, ck4⟩ := Bool.and_eq_true _ _ |>.mp ck3
        obtain ⟨ar0, ar1⟩ := Bool.and_eq_true _ _ |>.mp har
        obtain ⟨ar1, ar2⟩ := Bool.and_eq_true _ _ |>.mp ar1
        have ar0 := Nat.le_of_ble_eq_true ar0
        have arC : ∀ (y : Nat), l_ar y na = true → ∀ C ∈ cs_at y, C.2.2.1.length = na + 1 ∧ C.2.2.2.2.2.2.2.1.all z_aI = true := fun y h C hCm => by
          obtain ⟨a1, a2⟩ := Bool.and_eq_true _ _ |>.mp (List.all_eq_true.mp h C hCm)
          exact ⟨Nat.eq_of_beq_eq_true a1, a2⟩
        have hpc : pc2 = A1 := hg.pc
        subst hpc
        obtain ⟨x2, hx2, hf2⟩ := l_fr_of hg.l (hg.x0 0 _ rfl)
        have hra := l_rho_a hg.x0
        have hst2 := l_args_ok (Ls := Ls) (t := t) hra ar0 hg.s
        simp only at hst2
        refine l_call hX hn0 hR0 hC' ck1 (by omega) hg (hg.x0 0 _ rfl) hx2 hf2 ?_
        intro C1 ρ1 zc vs rest r σ3 b1 b2 b3 b4 b5 b6 b7
        obtain ⟨b6h, b6f⟩ := c_post_h b6
        obtain ⟨v1, rfl⟩ := c_post_i b6 (arC y1 ar1 C1 b1).2
        rw [hst2] at b3
        have b3' : (Value.ref 0 :: (l_as Ls t na).map Value.int).reverse ++ [] = vs.reverse ++ rest := by
          rw [List.append_nil, List.reverse_cons]
          exact b3
        obtain ⟨rfl, rfl⟩ := l_cut_eq (by rw [b2, (arC y1 ar1 C1 b1).1]; simp [l_as_len]) b3'
        have hN0 : ∀ u ∈ ([.int v1] : List Value), m_vOk h_N u := fun u hu => by
          obtain rfl := List.mem_singleton.mp hu
          trivial
        refine piece s' (pc2 + 3) [(1, 6, 0)] 1500000 _ iRx v1.toInt σ3 (B2 + zc) x2 [.int v1] hC' ck2 rfl (iRx_ok v1) (by omega) (by omega) (by omega) b6h hx2 ⟨v_mk0 (r := v1.toInt) rfl rfl, trivial⟩ hN0 ?_
        intro fv3 B3 ρ3 σ4 pc4 ls4 st4 hg4 hσ4
        have hpc4 : pc4 = A2 := hg4.pc
        subst hpc4 hσ4
        obtain ⟨hB3, zz4, w1, w2, w3⟩ := hg4.bu
        obtain ⟨x4, hx4, hf4⟩ := l_fr_of hg4.l (hg4.x0 0 _ rfl)
        have hra4 := l_rho_a (Ls := Ls) (t := t) ((r_ext.push v1.toInt).tr hg4.x0)
        have hv4 : ρ3[6]? = some v1.toInt := hg4.x0 6 _ rfl
        obtain ⟨m1, m2, e4, s4, s5⟩ := s_pre hg4.s
        simp only at e4
        have hm1 := l_args_ok (Ls := Ls) (t := t) hra4 ar0 s4
        have hm2 := l_cm_ok s5 hv4
        refine l_call hX hn0 hR0 hC' ck3 (by omega) hg4 (hg4.x0 0 _ rfl) hx4 hf4 ?_
        intro C2 ρ2 zc2 vs2 rest2 r2 σ5 d1 d2 d3 d4 d5 d6 d7
        obtain ⟨d6h, d6f⟩ := c_post_h d6
        obtain ⟨v2, rfl⟩ := c_post_i d6 (arC y2 ar2 C2 d1).2
        rw [e4, hm1] at d3
        have d3' : (Value.ref 251 :: (l_as Ls t na).map Value.int).reverse ++ m2 = vs2.reverse ++ rest2 := by
          rw [List.reverse_cons]
          exact d3
        obtain ⟨rfl, rfl⟩ := l_cut_eq (by rw [d2, (arC y2 ar2 C2 d1).1]; simp [l_as_len]) d3'
        obtain ⟨hR5, hcmp⟩ := hrel B2 (B2 + zc) (B3 + zc2) σ2 σ4 σ5 (l_as Ls t na) v1 v2 C1 C2 ρ1 ρ2 (l_as_len Ls t na) hRl hg.h (by omega) b1 b6 b7 d1 d6 d7
        refine fin s' (pc4 + 3) _ iRx v2.toInt σ5 (B3 + zc2) x4 _ hC' ck4 rfl (iRx_ok v2) (by omega) (by omega) d6h hR5 hx4 ?_ ?_ (fun ls6 x6 hx6 hf6 => conv σ5 0 0 1321 ls6 [] (back σ5 (k + 0) (n + 0) (B3 + zc2) x6 ls6 hx6 hf6 (by omega) (by omega) d6h hR5 (by omega) (by omega)))
        · refine ⟨v_mk0 (r := v2.toInt) rfl rfl, ?_⟩
          rw [hm2]
          cases hcm : cm with
          | false => exact trivial
          | true =>
            have := hcmp hcm
            subst this
            exact ⟨v_mk0 (r := v1.toInt) rfl rfl, trivial⟩
        · intro u hu
          rcases List.mem_cons.mp hu with rfl | hu
          · trivial
          · rw [hm2] at hu
            cases hcm : cm with
            | false => rw [hcm] at hu; cases hu
            | true =>
              rw [hcm] at hu
              obtain rfl := List.mem_singleton.mp hu
              trivial
end LL
