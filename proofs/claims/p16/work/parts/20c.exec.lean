section
/-! CONSTRUCTORS run: cells made one by one -/
def x_dfs (ci : Nat) : List Value := match vwCl[ci]? with
  | some r => (List.range r.2.2).map fun j => defaultValue (a_ty ci j)
  | none => []
theorem x_df_re (ad : Nat → Nat) (ty : FieldType) : m_re ad (defaultValue ty) = defaultValue ty := by cases ty <;> rfl
theorem x_df_ok (n : Nat) (ty : FieldType) : m_vOk n (defaultValue ty) := by cases ty <;> trivial
theorem x_dfs_ok {ci : Nat} {r : vw_C} (hc : vwCl[ci]? = some r) : (∀ j, j < r.2.2 → defaultValue (a_ty ci j) = vp_V (x_dfs ci) j) ∧ (∀ ad, (x_dfs ci).map (m_re ad) = x_dfs ci) ∧ (∀ n, ∀ v ∈ x_dfs ci, m_vOk n v) ∧ (x_dfs ci).length = r.2.2 := by
  have e : x_dfs ci = (List.range r.2.2).map fun j => defaultValue (a_ty ci j) := by unfold x_dfs; rw [hc]
  refine ⟨fun j hj => ?_, fun ad => ?_, fun n v hv => ?_, by rw [e]; simp⟩
  · unfold vp_V
    rw [e, List.getD_eq_getElem?_getD, List.getElem?_map, List.getElem?_range hj]
    rfl
  · rw [e, List.map_map]
    exact List.map_congr_left fun j _ => x_df_re ad _
  · rw [e] at hv
    obtain ⟨j, -, rfl⟩ := List.mem_map.mp hv
    exact x_df_ok n _
theorem x_dfs_in (ci n : Nat) : ∀ v ∈ x_dfs ci, m_vOk n v := by
  cases hc : vwCl[ci]? with
  | none =>
    intro v hv
    unfold x_dfs at hv
    rw [hc] at hv
    cases hv
  | some r => exact (x_dfs_ok hc).2.2.1 _
noncomputable def x_wd (own : String) (ini : Prop) (i : Jvm.ClassFile.Instr) (aux : List Nat) : Prop := match i, aux with
  | .getfield idx, [_, ci, k, ne] => k_fw own idx ci k ne
  | .putfield idx, [_, ci, k, ne] => k_fw own idx ci k ne ∧ ∀ r, vwCl[ci]? = some r → ((r.2.1 k).2.2.2 = false ∨ ((r.2.1 k).2.2.2 = true ∧ (r.2.1 k).1 = own ∧ ne = 0 ∧ ini))
  | .invokespecial idx, [_, y, _, ne] => k_lk own idx y ne
  | .invokevirtual idx, [_, y, _, ne] => k_lk own idx y ne
  | .invokespecial idx, [_, _] => Cond.methodLink own idx Lib.objectInit ∈ a_tb
  | .new idx, [ci, _, _, _, _, _, _] => ∃ r, vwCl[ci]? = some r ∧ Cond.classLink own idx r.1 ∈ a_tb ∧ Cond.instantiable r.1 r.2.2 ∈ a_tb ∧ Cond.initialized r.1 ∈ a_tb
  | .newarray t, [tt, _, _] => Cond.arrayClass (newarray.typeOf t) ∈ a_tb ∧ newarray.typeOf t = m_ty tt ∧ tt ≤ 4
  | .anewarray idx, [_, _] => Cond.classLink own idx "LetByTheDegree$State" ∈ a_tb
  | .new _, _ => False
  | .newarray _, _ => False
  | .anewarray _, _ => False
  | .getfield _, _ => False
  | .putfield _, _ => False
  | .invokespecial _, _ => False
  | .invokevirtual _, _ => False
  | _, _ => True
noncomputable def x_in (a b : Nat) (w : Cond) : Bool := decide (g_nth (a_part a) b = some w) && goodWord w
theorem x_in_ok {a b : Nat} {w : Cond} (h : x_in a b w = true) : w ∈ a_tb := by
  obtain ⟨g1, g2⟩ := Bool.and_eq_true _ _ |>.mp h
  exact a_inG (of_decide_eq_true g1) g2
noncomputable def x_wchk (c : Nat) (ini : Bool) (i : Jvm.ClassFile.Instr) (aux : List Nat) : Bool := match i, aux with
  | .getfield idx, [j, ci, k, ne] => k_fchk c idx j ci k ne
  | .putfield idx, [j, ci, k, ne] => k_fchk c idx j ci k ne && (match vwCl[ci]? with
    | some r => !(r.2.1 k).2.2.2 || (decide ((r.2.1 k).1 = a_R c) && (Nat.beq ne 0 && ini))
    | none => false)
  | .invokespecial idx, [j, y, _, ne] => k_lchk c idx j y ne
  | .invokevirtual idx, [j, y, _, ne] => k_lchk c idx j y ne
  | .invokespecial idx, [a, b] => x_in a b (.methodLink (a_R c) idx Lib.objectInit)
  | .new idx, [ci, a, b, a2, b2, a3, b3] => (match vwCl[ci]? with
    | some r => x_in a b (.classLink (a_R c) idx r.1) && (x_in a2 b2 (.instantiable r.1 r.2.2) && x_in a3 b3 (.initialized r.1))
    | none => false)
  | .newarray t, [tt, a, b] => x_in a b (.arrayClass (newarray.typeOf t)) && (decide (newarray.typeOf t = m_ty tt) && Nat.ble tt 4)
  | .anewarray idx, [a, b] => x_in a b (.classLink (a_R c) idx "LetByTheDegree$State")
  | .new _, _ => false
  | .newarray _, _ => false
  | .anewarray _, _ => false
  | .getfield _, _ => false
  | .putfield _, _ => false
  | .invokespecial _, _ => false
  | .invokevirtual _, _ => false
  | _, _ => true
theorem x_wchk_ok {c : Nat} {ini : Bool} {i : Jvm.ClassFile.Instr} {aux : List Nat} (h : x_wchk c ini i aux = true) : x_wd (a_R c) (ini = true) i aux := by
  unfold x_wchk at h
  unfold x_wd
  split at h
  · exact k_fchk_ok h
  · obtain ⟨h1, h2⟩ := Bool.and_eq_true _ _ |>.mp h
    refine ⟨k_fchk_ok h1, fun r hr => ?_⟩
    rw [hr] at h2
    simp only at h2
    cases hf : (r.2.1 _).2.2.2
    · exact Or.inl rfl
    · rw [hf] at h2
      obtain ⟨h3, h4⟩ := Bool.and_eq_true _ _ |>.mp h2
      obtain ⟨h5, h6⟩ := Bool.and_eq_true _ _ |>.mp h4
      exact Or.inr ⟨rfl, of_decide_eq_true h3, Nat.eq_of_beq_eq_true h5, h6⟩
  · exact k_lchk_ok h
  · exact k_lchk_ok h
  · exact x_in_ok h
  · split at h
    · rename_i r hr
      obtain ⟨h1, h2⟩ := Bool.and_eq_true _ _ |>.mp h
      obtain ⟨h3, h4⟩ := Bool.and_eq_true _ _ |>.mp h2
      exact ⟨r, hr, x_in_ok h1, x_in_ok h3, x_in_ok h4⟩
    · cases h
  · obtain ⟨h1, h2⟩ := Bool.and_eq_true _ _ |>.mp h
    obtain ⟨h3, h4⟩ := Bool.and_eq_true _ _ |>.mp h2
    exact ⟨x_in_ok h1, of_decide_eq_true h3, Nat.le_of_ble_eq_true h4⟩
  · exact x_in_ok h
  all_goals first | (cases h; done) | trivial
noncomputable def x_ix (i : Int32) (n : Nat) : Bool := i_le 0 i.toInt && Nat.blt i.toInt.toNat n
theorem x_ix_ok {i : Int32} {n : Nat} (h : x_ix i n = true) : vp_in i n := by
  obtain ⟨h1, h2⟩ := Bool.and_eq_true _ _ |>.mp h
  have h1 := i_le_iff.mp h1
  have h2 : i.toInt.toNat < n := Nat.le_of_ble_eq_true h2
  exact vp_in_iff.mpr ⟨h1, by omega⟩
noncomputable def x_sz (x : Int32) : Bool := i_le 0 x.toInt && Nat.ble x.toInt.toNat 10000
/-- one instruction that calls nothing -/
noncomputable def x_step (nL : Nat) (q : a_K) (g : m_G) : Option m_G := match g with
  | (σ, ce, sl, pc, ls, st) => match q with
    | (_, i, n, _, aux) => match i, n, aux, st with
      | .aload_n j, 1, _, st => (match m_ld (j : Nat) ls with
        | some (.ref x) => some (σ, ce, sl, pc + 1, ls, .ref x :: st)
        | _ => none)
      | .aload j, 2, _, st => (match m_ld j ls with
        | some (.ref x) => some (σ, ce, sl, pc + 2, ls, .ref x :: st)
        | _ => none)
      | .iload_n j, 1, _, st => (match m_ld (j : Nat) ls with
        | some (.int x) => some (σ, ce, sl, pc + 1, ls, .int x :: st)
        | _ => none)
      | .istore_n j, 1, _, .int x :: st => bif Nat.blt (j : Nat) nL then some (σ, ce, sl, pc + 1, m_st1 (j : Nat) (.int x) ls, st) else none
      | .iconst k, 1, _, st => some (σ, ce, sl, pc + 1, ls, .int (Int32.ofInt k) :: st)
      | .bipush k, 2, _, st => some (σ, ce, sl, pc + 2, ls, .int (Int8.ofInt k).toInt32 :: st)
      | .sipush k, 3, _, st => some (σ, ce, sl, pc + 3, ls, .int (Int16.ofInt k).toInt32 :: st)
      | .iinc j k, 3, _, st => (match m_ld j ls with
        | some (.int x) => bif Nat.blt j nL then some (σ, ce, sl, pc + 3, m_st1 j (.int (x + Int32.ofInt k)) ls, st) else none
        | _ => none)
      | .goto off, 3, _, st => (match (pc : Int) + off with
        | .ofNat t => some (σ, ce, sl, t, ls, st)
        | _ => none)
      | .if_icmp .ge off, 3, _, .int y :: .int x :: st => (match (pc : Int) + off with
        | .ofNat t => some (σ, ce, sl, (if y ≤ x then t else pc + 3), ls, st)
        | _ => none)
      | .if_icmp .gt off, 3, _, .int y :: .int x :: st => (match (pc : Int) + off with
        | .ofNat t => some (σ, ce, sl, (if y < x then t else pc + 3), ls, st)
        | _ => none)
      | .dup, 1, _, .ref a :: st => some (σ, ce, sl, pc + 1, ls, .ref a :: .ref a :: st)
      | .getfield _, 3, [_, ci, k, _], .ref q :: st => (match σ[q]? with
        | some (.inr ci', fs) => bif Nat.beq ci ci' then (match fs[k]? with
          | some v => some (σ, ce, sl, pc + 3, ls, v :: st)
          | none => none) else none
        | _ => none)
      | .putfield _, 3, [_, ci, k, _], v :: .ref q :: st => (match σ[q]? with
        | some (.inr ci', fs) => bif Nat.beq ci ci' && (decide (narrow (a_ty ci k) v = v) && (fits (a_ty ci k) v && Nat.blt k fs.length)) then some (σ.set q (.inr ci, fs.set k v), ce, sl, pc + 3, ls, st) else none
        | _ => none)
      | .new _, 3, [ci, _, _, _, _, _, _], st => some (σ ++ [(.inr ci, x_dfs ci)], ce + 1, sl + (x_dfs ci).length, pc + 3, ls, .ref σ.length :: st)
      | .newarray _, 2, [tt, _, _], .int x :: st => bif x_sz x then some (σ ++ [(.inl tt, List.replicate x.toInt.toNat (defaultValue (m_ty tt)))], ce + 1, sl + x.toInt.toNat, pc + 2, ls, .ref σ.length :: st) else none
      | .anewarray _, 3, [_, _], .int x :: st => bif x_sz x then some (σ ++ [(.inl 5, List.replicate x.toInt.toNat .null)], ce + 1, sl + x.toInt.toNat, pc + 3, ls, .ref σ.length :: st) else none
      | .iastore, 1, _, .int x :: .int i :: .ref q :: st => (match σ[q]? with
        | some (.inl 0, vs) => bif x_ix i vs.length then some (σ.set q (.inl 0, vs.set i.toInt.toNat (.int x)), ce, sl, pc + 1, ls, st) else none
        | _ => none)
      | .aastore, 1, _, .ref r :: .int i :: .ref q :: st => (match σ[q]?, σ[r]? with
        | some (.inl 5, vs), some (.inr 8, _) => bif x_ix i vs.length then some (σ.set q (.inl 5, vs.set i.toInt.toNat (.ref r)), ce, sl, pc + 1, ls, st) else none
        | _, _ => none)
      | _, _, _, _ => none
def x_inv (g : m_G) : Prop := m_hOk g.1.length g.1 ∧ (∀ q ∈ g.2.2.2.2.1, m_vOk g.1.length q.2) ∧ ∀ v ∈ g.2.2.2.2.2, m_vOk g.1.length v
theorem m_vOk_mono {n n' : Nat} (h : n ≤ n') {v : Value} (hv : m_vOk n v) : m_vOk n' v := by
  cases v <;> first | trivial | (rcases hv with hv | hv
                                 · exact Or.inl (Nat.lt_of_lt_of_le hv h)
                                 · exact Or.inr hv)
theorem m_hOk_set {n : Nat} {σ : m_H} (h : m_hOk n σ) {q : Nat} {c : m_C} (hc : ∀ v ∈ c.2, m_vOk n v) : m_hOk n (σ.set q c) := fun z hz => by
  rcases List.mem_or_eq_of_mem_set hz with hz | rfl
  · exact h z hz
  · exact hc
theorem m_hOk_push {σ : m_H} (h : m_hOk σ.length σ) {c : m_C} (hc : ∀ v ∈ c.2, m_vOk σ.length v) : m_hOk (σ ++ [c]).length (σ ++ [c]) := fun z hz v hv => by
  have hl : σ.length ≤ (σ ++ [c]).length := by simp
  rcases List.mem_append.mp hz with hz | hz
  · exact m_vOk_mono hl (h z hz v hv)
  · obtain rfl := List.mem_singleton.mp hz
    exact m_vOk_mono hl (hc v hv)
theorem m_st1_in {i : Nat} {v : Value} {ls : List (Nat × Value)} {P : Value → Prop} (h : ∀ q ∈ ls, P q.2) (hv : P v) : ∀ q ∈ m_st1 i v ls, P q.2 := fun q hq => by
  rcases List.mem_cons.mp hq with rfl | hq
  · exact hv
  · exact h q (List.mem_filter.mp hq).1
theorem x_ld_mem {i : Nat} {ls : List (Nat × Value)} {v : Value} (h : m_ld i ls = some v) : ∃ q ∈ ls, q.2 = v := by
  unfold m_ld at h
  obtain ⟨q, h1, h2⟩ := Option.map_eq_some_iff.mp h
  exact ⟨q, List.mem_of_find?_eq_some h1, h2⟩
theorem cons_in {n : Nat} {v : Value} {st : List Value} (hv : m_vOk n v) (h : ∀ u ∈ st, m_vOk n u) : ∀ u ∈ v :: st, m_vOk n u := fun u hu => by
  rcases List.mem_cons.mp hu with rfl | hu
  · exact hv
  · exact h u hu
/-- what holds of a state stays, and cells only come -/
def x_up (g g' : m_G) : Prop := x_inv g' ∧ g.1.length ≤ g'.1.length ∧ g.2.1 ≤ g'.2.1 ∧ g.2.2.1 ≤ g'.2.2.1
theorem x_up_same {σ : m_H} {ce sl pc pc' : Nat} {ls ls' : List (Nat × Value)} {st st' : List Value} (h : m_hOk σ.length σ) (hl : ∀ q ∈ ls', m_vOk σ.length q.2) (hs : ∀ v ∈ st', m_vOk σ.length v) : x_up (σ, ce, sl, pc, ls, st) (σ, ce, sl, pc', ls', st') := ⟨⟨h, hl, hs⟩, Nat.le_refl _, Nat.le_refl _, Nat.le_refl _⟩
theorem x_up_set {σ : m_H} {ce sl pc pc' q : Nat} {c : m_C} {ls : List (Nat × Value)} {st st' : List Value} (h : m_hOk σ.length σ) (hl : ∀ q ∈ ls, m_vOk σ.length q.2) (hs : ∀ v ∈ st', m_vOk σ.length v) (hc : ∀ v ∈ c.2, m_vOk σ.length v) : x_up (σ, ce, sl, pc, ls, st) (σ.set q c, ce, sl, pc', ls, st') := by
  have e : (σ.set q c).length = σ.length := by simp
  exact ⟨⟨by show m_hOk (σ.set q c).length _; rw [e]; exact m_hOk_set h hc, by show ∀ z ∈ ls, m_vOk (σ.set q c).length z.2; rw [e]; exact hl, by show ∀ z ∈ st', m_vOk (σ.set q c).length z; rw [e]; exact hs⟩, by show σ.length ≤ (σ.set q c).length; rw [e]; exact Nat.le_refl _, Nat.le_refl _, Nat.le_refl _⟩
theorem x_up_push {σ : m_H} {ce sl pc pc' n : Nat} {c : m_C} {ls : List (Nat × Value)} {st st' : List Value} (h : m_hOk σ.length σ) (hl : ∀ q ∈ ls, m_vOk σ.length q.2) (hs : ∀ v ∈ st', m_vOk σ.length v) (hc : ∀ v ∈ c.2, m_vOk σ.length v) : x_up (σ, ce, sl, pc, ls, st) (σ ++ [c], ce + 1, sl + n, pc', ls, .ref σ.length :: st') := by
  have hl1 : σ.length ≤ (σ ++ [c]).length := by simp
  refine ⟨⟨m_hOk_push h hc, fun q hq => m_vOk_mono hl1 (hl q hq), cons_in (Or.inl (by show σ.length < (σ ++ [c]).length; simp)) fun v hv => m_vOk_mono hl1 (hs v hv)⟩, hl1, Nat.le_succ _, Nat.le_add_right _ _⟩
theorem mem_set_in {n k : Nat} {vs : List Value} {v : Value} (h : ∀ u ∈ vs, m_vOk n u) (hv : m_vOk n v) : ∀ u ∈ vs.set k v, m_vOk n u := fun u hu => by
  rcases List.mem_or_eq_of_mem_set hu with hu | rfl
  · exact h u hu
  · exact hv
theorem x_sz_ok {x : Int32} (h : x_sz x = true) : ¬ x < 0 ∧ x.toNatClampNeg = x.toInt.toNat ∧ x.toInt.toNat ≤ 10000 := by
  obtain ⟨h1, h2⟩ := Bool.and_eq_true _ _ |>.mp h
  have h1 := i_le_iff.mp h1
  exact ⟨fun z => by
    have := i32_lt.mp z
    rw [i32_0] at this
    omega, rfl, Nat.le_of_ble_eq_true h2⟩
theorem m_cb {t : Nat} : componentBytes (m_ty t) ≤ 8 := by
  rcases (show t = 0 ∨ t = 1 ∨ t = 2 ∨ t = 3 ∨ t = 4 ∨ 5 ≤ t by omega) with rfl | rfl | rfl | rfl | rfl | h
  · exact Nat.le_of_ble_eq_true rfl
  · exact Nat.le_of_ble_eq_true rfl
  · exact Nat.le_of_ble_eq_true rfl
  · exact Nat.le_of_ble_eq_true rfl
  · exact Nat.le_of_ble_eq_true rfl
  · obtain ⟨k, rfl⟩ : ∃ k, t = k + 5 := ⟨t - 5, by omega⟩
    exact Nat.le_of_ble_eq_true rfl
section XS
variable {p : Program} {l : Launch} {e : Env} {R : Room} {s : State} {m : MethodId} {args : Array Value} {below : List Frame} {meth : Method} {c : Code} {QQ : State → Prop} {dC : Nat → ClassId} {dI : Nat → Nat → Nat} {aC : Nat → ClassId} {A : Nat → Prop} {n0 : Nat} {ad0 xa : Nat → Nat} {nL : Nat} {cc : ByteArray} {own : String} {X : Nat → Option (List Int32)} {Y : (Nat → Prop) → State → Heap → Prop}
theorem x_step_up {q : a_K} {g g' : m_G} (hi : x_inv g) (h : x_step nL q g = some g') : x_up g g' := by
  obtain ⟨σ, ce, sl, pc, ls, st⟩ := g
  obtain ⟨z, i, n, fl, aux⟩ := q
  obtain ⟨h1, h2, h3⟩ := hi
  unfold x_step at h
  simp only at h h1 h2 h3
  split at h
  · split at h
    · rename_i j st x hx
      cases h
      obtain ⟨u, u1, u2⟩ := x_ld_mem hx
      exact x_up_same h1 h2 (cons_in (by rw [← u2]; exact h2 u u1) h3)
    · cases h
  · split at h
    · rename_i j st x hx
      cases h
      obtain ⟨u, u1, u2⟩ := x_ld_mem hx
      exact x_up_same h1 h2 (cons_in (by rw [← u2]; exact h2 u u1) h3)
    · cases h
  · split at h
    · cases h
      exact x_up_same h1 h2 (cons_in trivial h3)
    · cases h
  · rename_i j x st
    cases hb : Nat.blt (j : Nat) nL
    · rw [hb] at h; cases h
    · rw [hb] at h
      cases h
      exact x_up_same h1 (m_st1_in h2 trivial) fun v hv => h3 v (List.mem_cons_of_mem _ hv)
  · cases h
    exact x_up_same h1 h2 (cons_in trivial h3)
  · cases h
    exact x_up_same h1 h2 (cons_in trivial h3)
  · cases h
    exact x_up_same h1 h2 (cons_in trivial h3)
  · rename_i j k
    split at h
    · cases hb : Nat.blt j nL
      · rw [hb] at h; cases h
      · rw [hb] at h
        cases h
        exact x_up_same h1 (m_st1_in h2 trivial) h3
    · cases h
  · split at h
    · cases h
      exact x_up_same h1 h2 h3
    · cases h
  · split at h
    · cases h
      exact x_up_same h1 h2 fun v hv => h3 v (List.mem_cons_of_mem _ (List.mem_cons_of_mem _ hv))
    · cases h
  · split at h
    · cases h
      exact x_up_same h1 h2 fun v hv => h3 v (List.mem_cons_of_mem _ (List.mem_cons_of_mem _ hv))
    · cases h
  · cases h
    exact x_up_same h1 h2 (cons_in (h3 _ List.mem_cons_self) h3)
  · split at h
    · rename_i ci' fs hσ
      rename_i ci k _ q st _
      cases hb : Nat.beq ci ci'
      · rw [hb] at h; cases h
      · rw [hb] at h
        simp only [cond_true] at h
        split at h
        · rename_i v hv
          cases h
          exact x_up_same h1 h2 (cons_in (h1 _ (List.mem_of_getElem? hσ) v (List.mem_of_getElem? hv)) fun v hv => h3 v (List.mem_cons_of_mem _ hv))
        · cases h
    · cases h
  · split at h
    · rename_i ci' fs hσ
      rename_i ci k _ v q st _
      cases hb : Nat.beq ci ci' && (decide (narrow (a_ty ci k) v = v) && (fits (a_ty ci k) v && Nat.blt k fs.length))
      · rw [hb] at h; cases h
      · rw [hb] at h
        cases h
        exact x_up_set h1 h2 (fun v hv => h3 v (List.mem_cons_of_mem _ (List.mem_cons_of_mem _ hv))) (mem_set_in (h1 _ (List.mem_of_getElem? hσ)) (h3 _ List.mem_cons_self))
    · cases h
  · cases h
    rename_i ci _ _ _ _ _ _ st
    exact x_up_push h1 h2 h3 (x_dfs_in _ _)
  · rename_i tt _ _ x st
    cases hb : x_sz x
    · rw [hb] at h; cases h
    · rw [hb] at h
      cases h
      exact x_up_push h1 h2 (fun v hv => h3 v (List.mem_cons_of_mem _ hv)) fun v hv => by rw [List.eq_of_mem_replicate hv]; exact x_df_ok _ _
  · rename_i x st
    cases hb : x_sz x
    · rw [hb] at h; cases h
    · rw [hb] at h
      cases h
      exact x_up_push h1 h2 (fun v hv => h3 v (List.mem_cons_of_mem _ hv)) fun v hv => by rw [List.eq_of_mem_replicate hv]; trivial
  · split at h
    · rename_i vs hσ
      rename_i x i q st _
      cases hb : x_ix i vs.length
      · rw [hb] at h; cases h
      · rw [hb] at h
        cases h
        exact x_up_set h1 h2 (fun v hv => h3 v (List.mem_cons_of_mem _ (List.mem_cons_of_mem _ (List.mem_cons_of_mem _ hv)))) (mem_set_in (h1 _ (List.mem_of_getElem? hσ)) trivial)
    · cases h
  · split at h
    · rename_i vs fs hσ hr
      rename_i r i q st _ _
      cases hb : x_ix i vs.length
      · rw [hb] at h; cases h
      · rw [hb] at h
        cases h
        exact x_up_set h1 h2 (fun v hv => h3 v (List.mem_cons_of_mem _ (List.mem_cons_of_mem _ (List.mem_cons_of_mem _ hv)))) (mem_set_in (h1 _ (List.mem_of_getElem? hσ)) (h3 _ List.mem_cons_self))
    · cases h
  · cases h
theorem x_step_ok (hC : m_Ctx p s m args meth c cc nL own dC dI aC A xa X Y) (hAO : va_AO "LetByTheDegree$State" s) {ini : Prop} (hini : ini → meth.name = "<init>") {q : a_K} {g g' : m_G} (hi : x_inv g) (hn0 : n0 ≤ g.1.length) (hX : g.1.length < m_X0) (hd : decode cc g.2.2.2.1 = .ok (q.2.1, q.2.2.1)) (hw : x_wd own ini q.2.1 q.2.2.2.2) (h : x_step nL q g = some g') (hce : g'.2.1 ≤ R.cells) (hsl : g'.2.2.1 ≤ R.slots) (k : mV p l e R s m args below meth c QQ dC dI aC A n0 ad0 xa nL g') : mV p l e R s m args below meth c QQ dC dI aC A n0 ad0 xa nL g := by
  obtain ⟨σ, ce, sl, pc, ls, st⟩ := g
  obtain ⟨z, i, n, fl, aux⟩ := q
  obtain ⟨h1, h2, h3⟩ := hi
  unfold x_step at h
  simp only at h h1 h2 h3 hd hn0 hX hw
  split at h
  · split at h
    · rename_i hx
      cases h
      exact mV_aload_n hC hd hx k
    · cases h
  · split at h
    · rename_i hx
      cases h
      exact mV_aload hC hd hx k
    · cases h
  · split at h
    · rename_i hx
      cases h
      exact mV_iload_n hC hd hx k
    · cases h
  · rename_i j x st
    cases hb : Nat.blt (j : Nat) nL
    · rw [hb] at h; cases h
    · rw [hb] at h
      cases h
      exact mV_istore_n hC hd (Nat.le_of_ble_eq_true hb) k
  · cases h
    exact mV_iconst hC hd k
  · cases h
    exact mV_bipush hC hd k
  · cases h
    exact mV_sipush hC hd k
  · rename_i j k'
    split at h
    · rename_i x hx
      cases hb : Nat.blt j nL
      · rw [hb] at h; cases h
      · rw [hb] at h
        cases h
        exact mV_iinc hC hd hx (Nat.le_of_ble_eq_true hb) k
    · cases h
  · split at h
    · rename_i t ht
      cases h
      exact mV_goto hC hd ht k
    · cases h
  · split at h
    · rename_i t ht
      cases h
      refine mV_icmp_ge hC hd ht (fun u => ?_) (fun u => ?_)
      · rw [if_pos u] at k; exact k
      · rw [if_neg u] at k; exact k
    · cases h
  · split at h
    · rename_i t ht
      cases h
      refine mV_icmp_gt hC hd ht (fun u => ?_) (fun u => ?_)
      · rw [if_pos u] at k; exact k
      · rw [if_neg u] at k; exact k
    · cases h
  · cases h
    exact mV_dup hC hd rfl k
  · split at h
    · rename_i ci' fs hσ
      rename_i j ci k' ne q st _
      cases hb : Nat.beq ci ci'
      · rw [hb] at h; cases h
      · rw [hb] at h
        simp only [cond_true] at h
        have hb := Nat.eq_of_beq_eq_true hb
        subst hb
        split at h
        · rename_i v hv
          cases h
          obtain ⟨r, hr, hk, w1, w2⟩ := hw
          by_cases hne : ne = 0
          · exact mV_getfield hC hd hσ hr hk (w1 hne) hv k
          · exact mV_getfieldN hC hd hσ hr hk (w2 hne) hv k
        · cases h
    · cases h
  · split at h
    · rename_i ci' fs hσ
      rename_i j ci k' ne v q st _
      cases hb : Nat.beq ci ci' && (decide (narrow (a_ty ci k') v = v) && (fits (a_ty ci k') v && Nat.blt k' fs.length))
      · rw [hb] at h; cases h
      · rw [hb] at h
        cases h
        obtain ⟨b1, b2⟩ := Bool.and_eq_true _ _ |>.mp hb
        obtain ⟨b3, b4⟩ := Bool.and_eq_true _ _ |>.mp b2
        obtain ⟨b5, b6⟩ := Bool.and_eq_true _ _ |>.mp b4
        have b1 := Nat.eq_of_beq_eq_true b1
        subst b1
        obtain ⟨⟨r, hr, hk, w1, w2⟩, w3⟩ := hw
        rcases w3 r hr with w4 | ⟨w4, w5, w6, w7⟩
        · by_cases hne : ne = 0
          · exact mV_putfield hC hd hσ hr hk (w1 hne) w4 (of_decide_eq_true b3) b5 (Nat.le_of_ble_eq_true b6) k
          · exact mV_putfieldN hC hd hσ hr hk (w2 hne) w4 (of_decide_eq_true b3) b5 (Nat.le_of_ble_eq_true b6) k
        · exact mV_putfieldF hC hd hσ hr hk (w1 w6) w4 (hini w7) w5 (of_decide_eq_true b3) b5 (Nat.le_of_ble_eq_true b6) k
    · cases h
  · cases h
    rename_i ci _ _ _ _ _ _ st
    obtain ⟨r, hr, w1, w2, w3⟩ := hw
    obtain ⟨d1, d2, d3, d4⟩ := x_dfs_ok hr
    rw [d4] at k hsl
    exact mV_new hC hd hr w1 w2 w3 d1 d2 hce hsl hn0 hX h1 h2 h3 (d3 _) k
  · rename_i tt _ _ x st
    cases hb : x_sz x
    · rw [hb] at h; cases h
    · rw [hb] at h
      cases h
      obtain ⟨b1, b2, b3⟩ := x_sz_ok hb
      obtain ⟨w1, w2, w3⟩ := hw
      have hcb : x.toInt.toNat * componentBytes (m_ty tt) ≤ 10000 * 8 := Nat.mul_le_mul b3 m_cb
      exact mV_newa hC hd w1 w3 w2 b1 b2 (by omega) hce hsl hn0 hX h1 h2 (fun v hv => h3 v (List.mem_cons_of_mem _ hv)) k
  · rename_i x st
    cases hb : x_sz x
    · rw [hb] at h; cases h
    · rw [hb] at h
      cases h
      obtain ⟨b1, b2, b3⟩ := x_sz_ok hb
      exact mV_newq hC hAO hd hw b1 b2 (by omega) hce hsl hn0 hX h1 h2 (fun v hv => h3 v (List.mem_cons_of_mem _ hv)) k
  · split at h
    · rename_i vs hσ
      rename_i x i q st _
      cases hb : x_ix i vs.length
      · rw [hb] at h; cases h
      · rw [hb] at h
        cases h
        exact mV_iastore hC hd hσ (x_ix_ok hb) k
    · cases h
  · split at h
    · rename_i vs fs hσ hr
      rename_i r i q st _ _
      cases hb : x_ix i vs.length
      · rw [hb] at h; cases h
      · rw [hb] at h
        cases h
        exact mV_aastore hC hd hσ hr (x_ix_ok hb) k
    · cases h
  · cases h
end XS

def x_rcv (σ : m_H) (o ci : Nat) : Bool := match σ[o]? with
  | some (.inr c, _) => Nat.beq ci c
  | _ => false
theorem x_rcv_ok {σ : m_H} {o ci : Nat} (h : x_rcv σ o ci = true) : ∃ fs, σ[o]? = some (.inr ci, fs) := by
  unfold x_rcv at h
  split at h
  · rename_i c fs hc
    have := Nat.eq_of_beq_eq_true h
    subst this
    exact ⟨fs, hc⟩
  · cases h
/-- with the calls: a constructor run to its end, within d frames -/
noncomputable def x_exec (code : Nat → List (List a_K)) : Nat → Nat → Nat → m_G → Option (m_H × Nat × Nat)
  | 0, _, _, _ => none
  | f + 1, d, y, (σ, ce, sl, pc, ls, st) => match a_mt[y]? with
    | none => none
    | some qy => (match k_get (code y) pc with
    | none => none
    | some q => (match q.2.1, q.2.2.1, q.2.2.2.2, st with
      | .return_, 1, _, [] => some (σ, ce, sl)
      | .invokespecial _, 3, [_, _], .ref _ :: r => bif Nat.ble 1 d && Nat.ble r.length 4 then x_exec code f d y (σ, ce, sl, pc + 3, ls, r) else none
      | .invokespecial _, 3, [_, y2, _, _], st => (match a_mw[y2]?, a_mt[y2]?, d with
        | some (2, _, _, _, _, _, _, _, np), some q2, d2 + 1 => (match (st.take (np + 1)).reverse with
          | .ref o :: as => bif Nat.beq as.length np && (Nat.ble (np + 1) st.length && (Nat.ble (st.drop (np + 1)).length 4 && (plainFor q2.1 && (decide (q2.2.2.2 = none) && Nat.ble (lg_sl (.ref o :: as)).length q2.2.2.1)))) then (match x_exec code f d2 y2 (σ, 0, 0, 0, lv_args 0 (.ref o :: as), []) with
            | some (σ2, c2, s2) => bif Nat.blt σ2.length m_X0 then x_exec code f (d2 + 1) y (σ2, ce + c2, sl + s2, pc + 3, ls, st.drop (np + 1)) else none
            | none => none) else none
          | _ => none)
        | _, _, _ => none)
      | .invokevirtual _, 3, [_, y2, _, ne], st => (match a_mw[y2]?, a_mt[y2]?, d with
        | some (0, ci, _, _, _, _, _, _, np), some q2, d2 + 1 => (match (st.take (np + 1)).reverse with
          | .ref o :: as => bif Nat.beq as.length np && (Nat.ble (np + 1) st.length && (Nat.ble (st.drop (np + 1)).length 4 && (plainFor q2.1 && (decide (q2.2.2.2 = none) && (Nat.ble (lg_sl (.ref o :: as)).length q2.2.2.1 && (Nat.beq ne 0 && (Nat.blt ci 14 && x_rcv σ o ci))))))) then (match x_exec code f d2 y2 (σ, 0, 0, 0, lv_args 0 (.ref o :: as), []) with
            | some (σ2, c2, s2) => bif Nat.blt σ2.length m_X0 then x_exec code f (d2 + 1) y (σ2, ce + c2, sl + s2, pc + 3, ls, st.drop (np + 1)) else none
            | none => none) else none
          | _ => none)
        | _, _, _ => none)
      | _, _, _, _ => (match x_step qy.2.2.1 q (σ, ce, sl, pc, ls, st) with
        | some g => x_exec code f d y g
        | none => none)))
end
section
/-! CONSTRUCTORS run: what the run tells of the machine -/
theorem v_cat_le (v : Value) : v.category ≤ 2 := by cases v <;> first | exact Nat.le_refl _ | exact Nat.le_succ _
theorem v_cats_le : ∀ (st : List Value), (st.map fun v => v.category).sum ≤ 2 * st.length
  | [] => Nat.le_refl _
  | v :: st => by
    have := v_cats_le st
    have := v_cat_le v
    simp only [List.map_cons, List.sum_cons, List.length_cons]
    omega
theorem x_stk {np o : Nat} {as st : List Value} (h : (st.take (np + 1)).reverse = .ref o :: as) : st = as.reverse ++ .ref o :: st.drop (np + 1) := by
  have h1 : st.take (np + 1) = as.reverse ++ [.ref o] := by
    have := congrArg List.reverse h
    rw [List.reverse_reverse, List.reverse_cons] at this
    exact this
  have h2 := List.take_append_drop (np + 1) st
  rw [h1, List.append_assoc] at h2
  exact h2.symm
theorem x_stk_in {n np o : Nat} {as st : List Value} (h : (st.take (np + 1)).reverse = .ref o :: as) (hs : ∀ v ∈ st, m_vOk n v) : ∀ v ∈ (Value.ref o :: as), m_vOk n v := fun v hv => by
  rw [← h] at hv
  exact hs v (List.mem_of_mem_take (List.mem_reverse.mp hv))
theorem x_obj : Cond.instanceMethod Lib.objectInit ∈ a_tb ∧ Cond.code Lib.objectInit ⟨#[0xb1]⟩ 1 none ∈ a_tb := ⟨a_in (k := 1) (i := 34) rfl rfl, a_in (k := 1) (i := 35) rfl rfl⟩
section XE
variable {l : Launch} {X : Nat → Option (List Int32)} {Y : (Nat → Prop) → State → Heap → Prop} {xa : Nat → Nat}
noncomputable def x_codeOk (code : Nat → List (List a_K)) : Prop := ∀ (y : Nat) (q : a_M), a_mt[y]? = some q → ∀ r ∈ code y, ∀ e ∈ r, decode q.2.1 e.1 = .ok (e.2.1, e.2.2.1) ∧ x_wd q.1.cls (q.1.name = "<init>") e.2.1 e.2.2.2.2
theorem x_exec_ok (hY : m_Yok Y) (hYA : ∀ A U H, Y A U H → va_AO "LetByTheDegree$State" U) {code : Nat → List (List a_K)} (hcode : x_codeOk code) :
    ∀ (f d y : Nat) (g : m_G) (σ' : m_H) (c' s' : Nat), x_exec code f d y g = some (σ', c', s') → x_inv g → σ'.length < m_X0 →
    (m_hOk σ'.length σ' ∧ g.1.length ≤ σ'.length ∧ g.2.1 ≤ c' ∧ g.2.2.1 ≤ s') ∧
    ∀ (q : a_M), a_mt[y]? = some q → ∀ (p : Program) (e : Env) (R : Room) (s : State) (m : MethodId) (args : Array Value) (below : List Frame) (meth : Method) (c : Code) (dC : Nat → ClassId) (dI : Nat → Nat → Nat) (aC : Nat → ClassId) (ad0 : Nat → Nat) (σ0 : m_H) (sz mc ms : Nat),
      m_Ctx p s m args meth c q.2.1 q.2.2.1 q.1.cls dC dI aC (va_A (m_W ad0 aC σ0) sz) xa X Y → meth.name = q.1.name → meth.sig.returnType = none → (d ≤ R.frames ∧ 40 * d ≤ R.locals) → (mc ≤ R.cells ∧ ms ≤ R.slots) → c' ≤ mc → s' ≤ ms → σ0.length ≤ g.1.length →
      mV p l e R s m args below meth c (MQ below (m_Qc dC dI aC xa ad0 sz σ0 (fun r z => r = none ∧ z = σ')) args s mc ms (va_A (m_W ad0 aC σ0) sz)) dC dI aC (va_A (m_W ad0 aC σ0) sz) σ0.length ad0 xa q.2.2.1 g := by
  intro f
  induction f with
  | zero =>
    intro d y g σ' c' s' h
    unfold x_exec at h
    cases h
  | succ f ih =>
    intro d y g σ' c' s' h hi hσ
    obtain ⟨σ, ce, sl, pc, ls, st⟩ := g
    unfold x_exec at h
    split at h
    · cases h
    · rename_i qy hqy
      split at h
      · cases h
      · rename_i qk hqk
        obtain ⟨⟨row, r1, r2⟩, hpc⟩ := k_get_in hqk
        obtain ⟨hdec, hwd⟩ := hcode y qy hqy row r1 qk r2
        rw [hpc] at hdec
        obtain ⟨hi1, hi2, hi3⟩ := hi
        simp only at hi1 hi2 hi3
        split at h
        · -- the end
          rename_i e1 e2
          cases h
          refine ⟨⟨hi1, Nat.le_refl _, Nat.le_refl _, Nat.le_refl _⟩, ?_⟩
          intro q hq p e R s m args below meth c dC dI aC ad0 σ0 sz mc ms hC hn hrt hR hroom hc hs h0
          rw [e1, e2] at hdec
          obtain rfl : q = qy := Option.some.inj (hq.symm.trans hqy)
          exact mV_vret hC hdec hrt ⟨rfl, rfl⟩ hc hs
        · -- Object's constructor
          rename_i idx a b o r e1 e2 e3
          cases hb : Nat.ble 1 d && Nat.ble r.length 4
          · rw [hb] at h; cases h
          · rw [hb] at h
            simp only [cond_true] at h
            obtain ⟨b1, b2⟩ := Bool.and_eq_true _ _ |>.mp hb
            have b1 := Nat.le_of_ble_eq_true b1
            have b2 := Nat.le_of_ble_eq_true b2
            obtain ⟨u1, u2⟩ := ih _ _ _ _ _ _ h ⟨hi1, hi2, fun v hv => hi3 v (List.mem_cons_of_mem _ hv)⟩ hσ
            refine ⟨u1, ?_⟩
            intro q hq p e R s m args below meth c dC dI aC ad0 σ0 sz mc ms hC hn hrt hR hroom hc hs h0
            have k := u2 q hq p e R s m args below meth c dC dI aC ad0 σ0 sz mc ms hC hn hrt hR hroom hc hs h0
            rw [e1, e2] at hdec
            rw [e1, e3] at hwd
            obtain rfl : q = qy := Option.some.inj (hq.symm.trans hqy)
            have hcat := v_cats_le r
            exact mV_objInit hC hdec hwd x_obj.1 x_obj.2 (by omega) (by omega) k
        · -- a constructor
          rename_i stA x1 x2 x3 stB idx j y2 kd ne e1 e2 e3
          split at h
          · rename_i z1 z2 z3 z4 z5 z6 z7 np q2 d2 hmw hmt
            split at h
            · rename_i o as has
              cases hb : Nat.beq as.length np && (Nat.ble (np + 1) stA.length && (Nat.ble (stA.drop (np + 1)).length 4 && (plainFor q2.1 && (decide (q2.2.2.2 = none) && Nat.ble (lg_sl (.ref o :: as)).length q2.2.2.1))))
              · rw [hb] at h; cases h
              · rw [hb] at h
                simp only [cond_true] at h
                obtain ⟨b1, c1⟩ := Bool.and_eq_true _ _ |>.mp hb
                obtain ⟨b2, c2⟩ := Bool.and_eq_true _ _ |>.mp c1
                obtain ⟨b3, c3⟩ := Bool.and_eq_true _ _ |>.mp c2
                obtain ⟨b4, c4⟩ := Bool.and_eq_true _ _ |>.mp c3
                obtain ⟨b5, b6⟩ := Bool.and_eq_true _ _ |>.mp c4
                have b1 := Nat.eq_of_beq_eq_true b1
                have b3 := Nat.le_of_ble_eq_true b3
                have b5 := of_decide_eq_true b5
                have b6 := Nat.le_of_ble_eq_true b6
                split at h
                · rename_i σ2 cc2 ss2 hcal
                  cases hbl : Nat.blt σ2.length m_X0
                  · rw [hbl] at h; cases h
                  rw [hbl] at h
                  simp only [cond_true] at h
                  have hσ2 : σ2.length < m_X0 := Nat.le_of_ble_eq_true hbl
                  have hA := x_stk_in has hi3
                  have hiC : x_inv (σ, 0, 0, 0, lv_args 0 (Value.ref o :: as), ([] : List Value)) := ⟨hi1, fun u hu => hA _ (lv_args_in _ 0 u hu), fun v hv => by cases hv⟩
                  have hdr : ∀ v ∈ stA.drop (np + 1), m_vOk σ.length v := fun v hv => hi3 v (List.mem_of_mem_drop hv)
                  obtain ⟨v1, v2⟩ := ih _ _ _ _ _ _ hcal hiC hσ2
                  have hlen2 : σ.length ≤ σ2.length := v1.2.1
                  obtain ⟨u1, u2⟩ := ih _ _ _ _ _ _ h ⟨v1.1, fun u hu => m_vOk_mono hlen2 (hi2 u hu), fun v hv => m_vOk_mono hlen2 (hdr v hv)⟩ hσ
                  have u1b : ce + cc2 ≤ c' := u1.2.2.1
                  have u1c : sl + ss2 ≤ s' := u1.2.2.2
                  have u1d : σ2.length ≤ σ'.length := u1.2.1
                  refine ⟨⟨u1.1, Nat.le_trans hlen2 u1d, by show ce ≤ c'; omega, by show sl ≤ s'; omega⟩, ?_⟩
                  intro q hq p e R s m args below meth c dC dI aC ad0 σ0 sz mc ms hC hn hrt hR hroom hc hs h0
                  have h0 : σ0.length ≤ σ.length := h0
                  obtain rfl : q = qy := Option.some.inj (hq.symm.trans hqy)
                  have k := u2 q hq p e R s m args below meth c dC dI aC ad0 σ0 sz mc ms hC hn hrt hR hroom hc hs (Nat.le_trans h0 hlen2)
                  rw [e1, e2] at hdec
                  rw [e1, e3] at hwd
                  obtain ⟨q3, hq3, w1, w1n⟩ := hwd
                  obtain rfl : q3 = q2 := Option.some.inj (hq3.symm.trans hmt)
                  obtain ⟨yc, y20, -, yin, -, ynm, yini, ymh, ynp⟩ := a_mw_at hq3 hmw
                  have hM : v_K l X Y xa d2 q3.1 q3.2.1 q3.2.2.1 none σ (.ref o :: as) (fun r z => r = none ∧ z = σ2) cc2 ss2 := v_K_of b4 b6 (fun p e s m args below meth c dC dI aC ad sz hC hn hrt => v2 q3 hq3 p e (m_rm d2 cc2 ss2) s m args below meth c dC dI aC ad σ sz cc2 ss2 hC hn hrt ⟨Nat.le_refl _, Nat.le_refl _⟩ ⟨Nat.le_refl _, Nat.le_refl _⟩ (Nat.le_refl _) (Nat.le_refl _) (Nat.le_refl _))
                  have w5 := a_mt_in q3 (List.mem_of_getElem? hq3)
                  unfold a_mIn at w5
                  rw [b5] at w5
                  have hcat := v_cats_le (stA.drop (np + 1))
                  have kk : ∀ (r : Option Value) (z : m_H), (r = none ∧ z = σ2) → mV p l e R s m args below meth c (MQ below (m_Qc dC dI aC xa ad0 sz σ0 (fun r z => r = none ∧ z = σ')) args s mc ms (va_A (m_W ad0 aC σ0) sz)) dC dI aC (va_A (m_W ad0 aC σ0) sz) σ0.length ad0 xa q.2.2.1 (z, ce + cc2, sl + ss2, pc + 3, ls, r.toList ++ stA.drop (np + 1)) := by
                    rintro r z ⟨rfl, rfl⟩
                    exact k
                  rw [x_stk has]
                  by_cases hne : ne = 0
                  · exact mV_callI hY hC hdec hM (ynm rfl) (w1 hne) (yin (by decide)) yini w5 ymh (by rw [ynp, b1]) (by omega) y20 (by omega) (by omega) (by omega) h0 hdr hi2 kk
                  · exact mV_callIN hY hC hdec hM (ynm rfl) (w1n hne) (yin (by decide)) yini w5 ymh (by rw [ynp, b1]) (by omega) y20 (by omega) (by omega) (by omega) h0 hdr hi2 kk
                · cases h
            · cases h
          · cases h
        · -- a method
          rename_i stA x1 x2 x3 stB idx j y2 kd ne e1 e2 e3
          split at h
          · rename_i ci z2 z3 z4 z5 z6 z7 np q2 d2 hmw hmt
            split at h
            · rename_i o as has
              cases hb : Nat.beq as.length np && (Nat.ble (np + 1) stA.length && (Nat.ble (stA.drop (np + 1)).length 4 && (plainFor q2.1 && (decide (q2.2.2.2 = none) && (Nat.ble (lg_sl (.ref o :: as)).length q2.2.2.1 && (Nat.beq ne 0 && (Nat.blt ci 14 && x_rcv σ o ci)))))))
              · rw [hb] at h; cases h
              · rw [hb] at h
                simp only [cond_true] at h
                obtain ⟨b1, c1⟩ := Bool.and_eq_true _ _ |>.mp hb
                obtain ⟨b2, c2⟩ := Bool.and_eq_true _ _ |>.mp c1
                obtain ⟨b3, c3⟩ := Bool.and_eq_true _ _ |>.mp c2
                obtain ⟨b4, c4⟩ := Bool.and_eq_true _ _ |>.mp c3
                obtain ⟨b5, c5⟩ := Bool.and_eq_true _ _ |>.mp c4
                obtain ⟨b6, c6⟩ := Bool.and_eq_true _ _ |>.mp c5
                obtain ⟨b7, c7⟩ := Bool.and_eq_true _ _ |>.mp c6
                obtain ⟨b8, b9⟩ := Bool.and_eq_true _ _ |>.mp c7
                have b1 := Nat.eq_of_beq_eq_true b1
                have b3 := Nat.le_of_ble_eq_true b3
                have b5 := of_decide_eq_true b5
                have b6 := Nat.le_of_ble_eq_true b6
                have b7 := Nat.eq_of_beq_eq_true b7
                have b8 : ci < 14 := Nat.le_of_ble_eq_true b8
                obtain ⟨fs, hσo⟩ := x_rcv_ok b9
                · split at h
                  · rename_i σ2 cc2 ss2 hcal
                    cases hbl : Nat.blt σ2.length m_X0
                    · rw [hbl] at h; cases h
                    rw [hbl] at h
                    simp only [cond_true] at h
                    have hσ2 : σ2.length < m_X0 := Nat.le_of_ble_eq_true hbl
                    have hA := x_stk_in has hi3
                    have hiC : x_inv (σ, 0, 0, 0, lv_args 0 (Value.ref o :: as), ([] : List Value)) := ⟨hi1, fun u hu => hA _ (lv_args_in _ 0 u hu), fun v hv => by cases hv⟩
                    have hdr : ∀ v ∈ stA.drop (np + 1), m_vOk σ.length v := fun v hv => hi3 v (List.mem_of_mem_drop hv)
                    obtain ⟨v1, v2⟩ := ih _ _ _ _ _ _ hcal hiC hσ2
                    have hlen2 : σ.length ≤ σ2.length := v1.2.1
                    obtain ⟨u1, u2⟩ := ih _ _ _ _ _ _ h ⟨v1.1, fun u hu => m_vOk_mono hlen2 (hi2 u hu), fun v hv => m_vOk_mono hlen2 (hdr v hv)⟩ hσ
                    have u1b : ce + cc2 ≤ c' := u1.2.2.1
                    have u1c : sl + ss2 ≤ s' := u1.2.2.2
                    have u1d : σ2.length ≤ σ'.length := u1.2.1
                    refine ⟨⟨u1.1, Nat.le_trans hlen2 u1d, by show ce ≤ c'; omega, by show sl ≤ s'; omega⟩, ?_⟩
                    intro q hq p e R s m args below meth c dC dI aC ad0 σ0 sz mc ms hC hn hrt hR hroom hc hs h0
                    have h0 : σ0.length ≤ σ.length := h0
                    obtain rfl : q = qy := Option.some.inj (hq.symm.trans hqy)
                    have k := u2 q hq p e R s m args below meth c dC dI aC ad0 σ0 sz mc ms hC hn hrt hR hroom hc hs (Nat.le_trans h0 hlen2)
                    rw [e1, e2] at hdec
                    rw [e1, e3] at hwd
                    obtain ⟨q3, hq3, w1, w1n⟩ := hwd
                    obtain rfl : q3 = q2 := Option.some.inj (hq3.symm.trans hmt)
                    obtain ⟨yc, y20, -, yin, ysel, -, yini, ymh, ynp⟩ := a_mw_at hq3 hmw
                    have hM : v_K l X Y xa d2 q3.1 q3.2.1 q3.2.2.1 none σ (.ref o :: as) (fun r z => r = none ∧ z = σ2) cc2 ss2 := v_K_of b4 b6 (fun p e s m args below meth c dC dI aC ad sz hC hn hrt => v2 q3 hq3 p e (m_rm d2 cc2 ss2) s m args below meth c dC dI aC ad σ sz cc2 ss2 hC hn hrt ⟨Nat.le_refl _, Nat.le_refl _⟩ ⟨Nat.le_refl _, Nat.le_refl _⟩ (Nat.le_refl _) (Nat.le_refl _) (Nat.le_refl _))
                    have w5 := a_mt_in q3 (List.mem_of_getElem? hq3)
                    unfold a_mIn at w5
                    rw [b5] at w5
                    have hcat := v_cats_le (stA.drop (np + 1))
                    have kk : ∀ (r : Option Value) (z : m_H), (r = none ∧ z = σ2) → mV p l e R s m args below meth c (MQ below (m_Qc dC dI aC xa ad0 sz σ0 (fun r z => r = none ∧ z = σ')) args s mc ms (va_A (m_W ad0 aC σ0) sz)) dC dI aC (va_A (m_W ad0 aC σ0) sz) σ0.length ad0 xa q.2.2.1 (z, ce + cc2, sl + ss2, pc + 3, ls, r.toList ++ stA.drop (np + 1)) := by
                      rintro r z ⟨rfl, rfl⟩
                      exact k
                    have hcl : vwCl[ci]? = some (vwCl[ci]'b8) := List.getElem?_eq_getElem b8
                    have hrc := a_R_cls hcl
                    rw [x_stk has]
                    refine mV_callV hY hC hdec hM hσo hcl (yc.trans hrc.symm) (w1 b7) (yin (by decide)) ?_ ?_ w5 ymh (by rw [ynp, b1]) (by omega) y20 (by omega) (by omega) (by omega) h0 hdr hi2 kk
                    · have := ysel rfl
                      rw [hrc, ← yc]; exact this
                    · rw [hrc, ← yc]; exact yini
                  · cases h
            · cases h
          · cases h
        · -- the others
          split at h
          · rename_i g hg
            have hup := x_step_up ⟨hi1, hi2, hi3⟩ hg
            obtain ⟨u1, u2⟩ := ih _ _ _ _ _ _ h hup.1 hσ
            have a1 : σ.length ≤ g.1.length := hup.2.1
            have a2 : ce ≤ g.2.1 := hup.2.2.1
            have a3 : sl ≤ g.2.2.1 := hup.2.2.2
            refine ⟨⟨u1.1, Nat.le_trans a1 u1.2.1, Nat.le_trans a2 u1.2.2.1, Nat.le_trans a3 u1.2.2.2⟩, ?_⟩
            intro q hq p e R s m args below meth c dC dI aC ad0 σ0 sz mc ms hC hn hrt hR hroom hc hs h0
            have h0 : σ0.length ≤ σ.length := h0
            have k := u2 q hq p e R s m args below meth c dC dI aC ad0 σ0 sz mc ms hC hn hrt hR hroom hc hs (Nat.le_trans h0 a1)
            obtain rfl : q = qy := Option.some.inj (hq.symm.trans hqy)
            have b1 := u1.2.2.1
            have b2 := u1.2.2.2
            have b3 := u1.2.1
            exact x_step_ok hC (hYA _ _ _ hC.2.2.2.2.2.2.2.1.2.2.2.2) (fun z => hn.trans z) ⟨hi1, hi2, hi3⟩ h0 (by show σ.length < m_X0; omega) hdec hwd hg (by omega) (by omega) k
          · cases h
end XE
end
section
/-! THE METHODS, instruction by instruction, 0 -/
theorem kt_4_ok : kt_4.all (fun r => r.all (k_one 4 prog_6_method_2_code)) = true := d_all (by decide +kernel)
theorem kt_14_ok : kt_14.all (fun r => r.all (k_one 12 prog_1_method_2_code)) = true := d_all (by decide +kernel)
theorem kt_15_ok : kt_15.all (fun r => r.all (k_one 6 prog_8_method_2_code)) = true := d_all (by decide +kernel)
theorem kt_16_ok : kt_16.all (fun r => r.all (k_one 12 prog_1_method_3_code)) = true := d_all (by decide +kernel)
theorem kt_17_ok : kt_17.all (fun r => r.all (k_one 6 prog_8_method_3_code)) = true := d_all (by decide +kernel)
theorem kt_18_ok : kt_18.all (fun r => r.all (k_one 12 prog_1_method_4_code)) = true := d_all (by decide +kernel)
theorem kt_19_ok : kt_19.all (fun r => r.all (k_one 1 prog_3_method_9_code)) = true := d_all (by decide +kernel)
theorem kt_20_ok : kt_20.all (fun r => r.all (k_one 6 prog_8_method_5_code)) = true := d_all (by decide +kernel)
theorem kt_21_ok : kt_21.all (fun r => r.all (k_one 1 prog_3_method_10_code)) = true := d_all (by decide +kernel)
theorem kt_22_ok : kt_22.all (fun r => r.all (k_one 1 prog_3_method_11_code)) = true := d_all (by decide +kernel)
theorem kt_23_ok : kt_23.all (fun r => r.all (k_one 6 prog_8_method_7_code)) = true := d_all (by decide +kernel)
theorem kt_24_ok : kt_24.all (fun r => r.all (k_one 6 prog_8_method_6_code)) = true := d_all (by decide +kernel)
theorem kt_25_ok : kt_25.all (fun r => r.all (k_one 12 prog_1_method_59_code)) = true := d_all (by decide +kernel)
theorem kt_26_ok : kt_26.all (fun r => r.all (k_one 6 prog_8_method_8_code)) = true := d_all (by decide +kernel)
theorem kt_27_ok : kt_27.all (fun r => r.all (k_one 6 prog_8_method_9_code)) = true := d_all (by decide +kernel)
theorem kt_28_ok : kt_28.all (fun r => r.all (k_one 6 prog_8_method_10_code)) = true := d_all (by decide +kernel)
theorem kt_29_ok : kt_29.all (fun r => r.all (k_one 6 prog_8_method_4_code)) = true := d_all (by decide +kernel)
theorem kt_30_ok : kt_30.all (fun r => r.all (k_one 1 prog_3_method_12_code)) = true := d_all (by decide +kernel)
theorem kt_31_ok : kt_31.all (fun r => r.all (k_one 8 prog_10_method_3_code)) = true := d_all (by decide +kernel)
theorem kt_32_ok : kt_32.all (fun r => r.all (k_one 1 prog_3_method_2_code)) = true := d_all (by decide +kernel)
theorem kt_33_ok : kt_33.all (fun r => r.all (k_one 3 prog_5_method_4_code)) = true := d_all (by decide +kernel)
theorem kt_34_ok : kt_34.all (fun r => r.all (k_one 3 prog_5_method_5_code)) = true := d_all (by decide +kernel)
theorem kt_35_ok : kt_35.all (fun r => r.all (k_one 12 prog_1_method_5_code)) = true := d_all (by decide +kernel)
theorem kt_36_ok : kt_36.all (fun r => r.all (k_one 1 prog_3_method_13_code)) = true := d_all (by decide +kernel)
theorem kt_37_ok : kt_37.all (fun r => r.all (k_one 1 prog_3_method_14_code)) = true := d_all (by decide +kernel)
theorem kt_38_ok : kt_38.all (fun r => r.all (k_one 1 prog_3_method_15_code)) = true := d_all (by decide +kernel)
theorem kt_39_ok : kt_39.all (fun r => r.all (k_one 12 prog_1_method_6_code)) = true := d_all (by decide +kernel)
theorem kt_40_ok : kt_40.all (fun r => r.all (k_one 5 prog_7_method_2_code)) = true := d_all (by decide +kernel)
theorem kt_41_ok : kt_41.all (fun r => r.all (k_one 5 prog_7_method_4_code)) = true := d_all (by decide +kernel)
theorem kt_42_ok : kt_42.all (fun r => r.all (k_one 5 prog_7_method_5_code)) = true := d_all (by decide +kernel)
theorem kt_43_ok : kt_43.all (fun r => r.all (k_one 5 prog_7_method_6_code)) = true := d_all (by decide +kernel)
theorem kt_44_ok : kt_44.all (fun r => r.all (k_one 5 prog_7_method_8_code)) = true := d_all (by decide +kernel)
theorem kt_45_ok : kt_45.all (fun r => r.all (k_one 5 prog_7_method_9_code)) = true := d_all (by decide +kernel)
theorem kt_46_ok : kt_46.all (fun r => r.all (k_one 5 prog_7_method_10_code)) = true := d_all (by decide +kernel)
theorem kt_47_ok : kt_47.all (fun r => r.all (k_one 5 prog_7_method_11_code)) = true := d_all (by decide +kernel)
end
section
/-! THE METHODS, instruction by instruction, 1 -/
theorem kt_48_ok : kt_48.all (fun r => r.all (k_one 5 prog_7_method_3_code)) = true := d_all (by decide +kernel)
theorem kt_51_ok : kt_51.all (fun r => r.all (k_one 5 prog_7_method_7_code)) = true := d_all (by decide +kernel)
theorem kt_52_ok : kt_52.all (fun r => r.all (k_one 4 prog_6_method_3_code)) = true := d_all (by decide +kernel)
theorem kt_53_ok : kt_53.all (fun r => r.all (k_one 12 prog_1_method_9_code)) = true := d_all (by decide +kernel)
theorem kt_54_ok : kt_54.all (fun r => r.all (k_one 12 prog_1_method_10_code)) = true := d_all (by decide +kernel)
theorem kt_55_ok : kt_55.all (fun r => r.all (k_one 1 prog_3_method_3_code)) = true := d_all (by decide +kernel)
theorem kt_56_ok : kt_56.all (fun r => r.all (k_one 12 prog_1_method_11_code)) = true := d_all (by decide +kernel)
theorem kt_57_ok : kt_57.all (fun r => r.all (k_one 12 prog_1_method_12_code)) = true := d_all (by decide +kernel)
theorem kt_58_ok : kt_58.all (fun r => r.all (k_one 12 prog_1_method_13_code)) = true := d_all (by decide +kernel)
theorem kt_59_ok : kt_59.all (fun r => r.all (k_one 12 prog_1_method_14_code)) = true := d_all (by decide +kernel)
theorem kt_60_ok : kt_60.all (fun r => r.all (k_one 3 prog_5_method_2_code)) = true := d_all (by decide +kernel)
theorem kt_61_ok : kt_61.all (fun r => r.all (k_one 8 prog_10_method_2_code)) = true := d_all (by decide +kernel)
theorem kt_62_ok : kt_62.all (fun r => r.all (k_one 12 prog_1_method_15_code)) = true := d_all (by decide +kernel)
theorem kt_63_ok : kt_63.all (fun r => r.all (k_one 12 prog_1_method_16_code)) = true := d_all (by decide +kernel)
theorem kt_64_ok : kt_64.all (fun r => r.all (k_one 12 prog_1_method_17_code)) = true := d_all (by decide +kernel)
theorem kt_65_ok : kt_65.all (fun r => r.all (k_one 12 prog_1_method_19_code)) = true := d_all (by decide +kernel)
theorem kt_66_ok : kt_66.all (fun r => r.all (k_one 0 prog_2_method_2_code)) = true := d_all (by decide +kernel)
theorem kt_67_ok : kt_67.all (fun r => r.all (k_one 0 prog_2_method_10_code)) = true := d_all (by decide +kernel)
theorem kt_68_ok : kt_68.all (fun r => r.all (k_one 0 prog_2_method_13_code)) = true := d_all (by decide +kernel)
theorem kt_69_ok : kt_69.all (fun r => r.all (k_one 0 prog_2_method_14_code)) = true := d_all (by decide +kernel)
theorem kt_70_ok : kt_70.all (fun r => r.all (k_one 0 prog_2_method_3_code)) = true := d_all (by decide +kernel)
theorem kt_71_ok : kt_71.all (fun r => r.all (k_one 4 prog_6_method_4_code)) = true := d_all (by decide +kernel)
theorem kt_72_ok : kt_72.all (fun r => r.all (k_one 4 prog_6_method_5_code)) = true := d_all (by decide +kernel)
end
section
/-! THE METHODS, instruction by instruction, 2 -/
theorem kt_73_ok : kt_73.all (fun r => r.all (k_one 0 prog_2_method_15_code)) = true := d_all (by decide +kernel)
theorem kt_74_ok : kt_74.all (fun r => r.all (k_one 0 prog_2_method_16_code)) = true := d_all (by decide +kernel)
theorem kt_75_ok : kt_75.all (fun r => r.all (k_one 0 prog_2_method_17_code)) = true := d_all (by decide +kernel)
theorem kt_76_ok : kt_76.all (fun r => r.all (k_one 12 prog_1_method_57_code)) = true := d_all (by decide +kernel)
theorem kt_77_ok : kt_77.all (fun r => r.all (k_one 12 prog_1_method_56_code)) = true := d_all (by decide +kernel)
theorem kt_78_ok : kt_78.all (fun r => r.all (k_one 12 prog_1_method_55_code)) = true := d_all (by decide +kernel)
theorem kt_79_ok : kt_79.all (fun r => r.all (k_one 12 prog_1_method_58_code)) = true := d_all (by decide +kernel)
theorem kt_80_ok : kt_80.all (fun r => r.all (k_one 12 prog_1_method_18_code)) = true := d_all (by decide +kernel)
theorem kt_81_ok : kt_81.all (fun r => r.all (k_one 12 prog_1_method_20_code)) = true := d_all (by decide +kernel)
theorem kt_82_ok : kt_82.all (fun r => r.all (k_one 12 prog_1_method_21_code)) = true := d_all (by decide +kernel)
theorem kt_83_ok : kt_83.all (fun r => r.all (k_one 11 prog_13_method_2_code)) = true := d_all (by decide +kernel)
theorem kt_84_ok : kt_84.all (fun r => r.all (k_one 11 prog_13_method_3_code)) = true := d_all (by decide +kernel)
theorem kt_85_ok : kt_85.all (fun r => r.all (k_one 11 prog_13_method_4_code)) = true := d_all (by decide +kernel)
theorem kt_86_ok : kt_86.all (fun r => r.all (k_one 12 prog_1_method_22_code)) = true := d_all (by decide +kernel)
theorem kt_87_ok : kt_87.all (fun r => r.all (k_one 12 prog_1_method_23_code)) = true := d_all (by decide +kernel)
theorem kt_88_ok : kt_88.all (fun r => r.all (k_one 3 prog_5_method_3_code)) = true := d_all (by decide +kernel)
theorem kt_89_ok : kt_89.all (fun r => r.all (k_one 12 prog_1_method_24_code)) = true := d_all (by decide +kernel)
theorem kt_90_ok : kt_90.all (fun r => r.all (k_one 12 prog_1_method_25_code)) = true := d_all (by decide +kernel)
theorem kt_91_ok : kt_91.all (fun r => r.all (k_one 12 prog_1_method_26_code)) = true := d_all (by decide +kernel)
theorem kt_92_ok : kt_92.all (fun r => r.all (k_one 1 prog_3_method_8_code)) = true := d_all (by decide +kernel)
theorem kt_93_ok : kt_93.all (fun r => r.all (k_one 12 prog_1_method_27_code)) = true := d_all (by decide +kernel)
theorem kt_94_ok : kt_94.all (fun r => r.all (k_one 12 prog_1_method_28_code)) = true := d_all (by decide +kernel)
theorem kt_95_ok : kt_95.all (fun r => r.all (k_one 12 prog_1_method_29_code)) = true := d_all (by decide +kernel)
theorem kt_96_ok : kt_96.all (fun r => r.all (k_one 0 prog_2_method_11_code)) = true := d_all (by decide +kernel)
theorem kt_97_ok : kt_97.all (fun r => r.all (k_one 0 prog_2_method_12_code)) = true := d_all (by decide +kernel)
theorem kt_98_ok : kt_98.all (fun r => r.all (k_one 12 prog_1_method_30_code)) = true := d_all (by decide +kernel)
end
section
/-! THE METHODS, instruction by instruction, 3 -/
theorem kt_99_ok : kt_99.all (fun r => r.all (k_one 1 prog_3_method_6_code)) = true := d_all (by decide +kernel)
theorem kt_100_ok : kt_100.all (fun r => r.all (k_one 1 prog_3_method_5_code)) = true := d_all (by decide +kernel)
theorem kt_101_ok : kt_101.all (fun r => r.all (k_one 16 prog_21_method_49_code)) = true := d_all (by decide +kernel)
theorem kt_102_ok : kt_102.all (fun r => r.all (k_one 2 prog_4_method_2_code)) = true := d_all (by decide +kernel)
theorem kt_103_ok : kt_103.all (fun r => r.all (k_one 2 prog_4_method_3_code)) = true := d_all (by decide +kernel)
theorem kt_104_ok : kt_104.all (fun r => r.all (k_one 2 prog_4_method_4_code)) = true := d_all (by decide +kernel)
theorem kt_105_ok : kt_105.all (fun r => r.all (k_one 1 prog_3_method_7_code)) = true := d_all (by decide +kernel)
theorem kt_106_ok : kt_106.all (fun r => r.all (k_one 2 prog_4_method_5_code)) = true := d_all (by decide +kernel)
theorem kt_107_ok : kt_107.all (fun r => r.all (k_one 2 prog_4_method_6_code)) = true := d_all (by decide +kernel)
theorem kt_108_ok : kt_108.all (fun r => r.all (k_one 12 prog_1_method_31_code)) = true := d_all (by decide +kernel)
theorem kt_109_ok : kt_109.all (fun r => r.all (k_one 12 prog_1_method_32_code)) = true := d_all (by decide +kernel)
theorem kt_110_ok : kt_110.all (fun r => r.all (k_one 12 prog_1_method_33_code)) = true := d_all (by decide +kernel)
theorem kt_111_ok : kt_111.all (fun r => r.all (k_one 7 prog_9_method_2_code)) = true := d_all (by decide +kernel)
theorem kt_112_ok : kt_112.all (fun r => r.all (k_one 7 prog_9_method_3_code)) = true := d_all (by decide +kernel)
theorem kt_113_ok : kt_113.all (fun r => r.all (k_one 7 prog_9_method_4_code)) = true := d_all (by decide +kernel)
theorem kt_114_ok : kt_114.all (fun r => r.all (k_one 15 prog_23_method_50_code)) = true := d_all (by decide +kernel)
theorem kt_115_ok : kt_115.all (fun r => r.all (k_one 12 prog_1_method_34_code)) = true := d_all (by decide +kernel)
theorem kt_116_ok : kt_116.all (fun r => r.all (k_one 12 prog_1_method_35_code)) = true := d_all (by decide +kernel)
theorem kt_117_ok : kt_117.all (fun r => r.all (k_one 0 prog_2_method_6_code)) = true := d_all (by decide +kernel)
theorem kt_118_ok : kt_118.all (fun r => r.all (k_one 0 prog_2_method_7_code)) = true := d_all (by decide +kernel)
theorem kt_119_ok : kt_119.all (fun r => r.all (k_one 0 prog_2_method_5_code)) = true := d_all (by decide +kernel)
theorem kt_120_ok : kt_120.all (fun r => r.all (k_one 0 prog_2_method_8_code)) = true := d_all (by decide +kernel)
theorem kt_121_ok : kt_121.all (fun r => r.all (k_one 0 prog_2_method_4_code)) = true := d_all (by decide +kernel)
end
section
/-! THE METHODS, instruction by instruction, 4 -/
theorem kt_122_ok : kt_122.all (fun r => r.all (k_one 12 prog_1_method_36_code)) = true := d_all (by decide +kernel)
theorem kt_123_ok : kt_123.all (fun r => r.all (k_one 12 prog_1_method_37_code)) = true := d_all (by decide +kernel)
theorem kt_125_ok : kt_125.all (fun r => r.all (k_one 12 prog_1_method_38_code)) = true := d_all (by decide +kernel)
theorem kt_126_ok : kt_126.all (fun r => r.all (k_one 12 prog_1_method_39_code)) = true := d_all (by decide +kernel)
theorem kt_127_ok : kt_127.all (fun r => r.all (k_one 0 prog_2_method_9_code)) = true := d_all (by decide +kernel)
theorem kt_128_ok : kt_128.all (fun r => r.all (k_one 17 prog_22_method_50_code)) = true := d_all (by decide +kernel)
theorem kt_129_ok : kt_129.all (fun r => r.all (k_one 12 prog_1_method_40_code)) = true := d_all (by decide +kernel)
theorem kt_130_ok : kt_130.all (fun r => r.all (k_one 9 prog_11_method_2_code)) = true := d_all (by decide +kernel)
theorem kt_131_ok : kt_131.all (fun r => r.all (k_one 9 prog_11_method_3_code)) = true := d_all (by decide +kernel)
theorem kt_132_ok : kt_132.all (fun r => r.all (k_one 9 prog_11_method_4_code)) = true := d_all (by decide +kernel)
theorem kt_133_ok : kt_133.all (fun r => r.all (k_one 12 prog_1_method_41_code)) = true := d_all (by decide +kernel)
theorem kt_134_ok : kt_134.all (fun r => r.all (k_one 12 prog_1_method_42_code)) = true := d_all (by decide +kernel)
theorem kt_135_ok : kt_135.all (fun r => r.all (k_one 12 prog_1_method_43_code)) = true := d_all (by decide +kernel)
theorem kt_136_ok : kt_136.all (fun r => r.all (k_one 12 prog_1_method_44_code)) = true := d_all (by decide +kernel)
theorem kt_137_ok : kt_137.all (fun r => r.all (k_one 12 prog_1_method_45_code)) = true := d_all (by decide +kernel)
end
section
/-! THE METHODS, instruction by instruction, 5 -/
theorem kt_138_ok : kt_138.all (fun r => r.all (k_one 12 prog_1_method_46_code)) = true := d_all (by decide +kernel)
theorem kt_139_ok : kt_139.all (fun r => r.all (k_one 10 prog_12_method_3_code)) = true := d_all (by decide +kernel)
theorem kt_140_ok : kt_140.all (fun r => r.all (k_one 10 prog_12_method_4_code)) = true := d_all (by decide +kernel)
theorem kt_141_ok : kt_141.all (fun r => r.all (k_one 10 prog_12_method_5_code)) = true := d_all (by decide +kernel)
theorem kt_142_ok : kt_142.all (fun r => r.all (k_one 10 prog_12_method_2_code)) = true := d_all (by decide +kernel)
theorem kt_143_ok : kt_143.all (fun r => r.all (k_one 12 prog_1_method_47_code)) = true := d_all (by decide +kernel)
theorem kt_144_ok : kt_144.all (fun r => r.all (k_one 12 prog_1_method_48_code)) = true := d_all (by decide +kernel)
theorem kt_145_ok : kt_145.all (fun r => r.all (k_one 0 prog_2_method_18_code)) = true := d_all (by decide +kernel)
theorem kt_146_ok : kt_146.all (fun r => r.all (k_one 12 prog_1_method_49_code)) = true := d_all (by decide +kernel)
theorem kt_147_ok : kt_147.all (fun r => r.all (k_one 12 prog_1_method_50_code)) = true := d_all (by decide +kernel)
theorem kt_148_ok : kt_148.all (fun r => r.all (k_one 0 prog_2_method_19_code)) = true := d_all (by decide +kernel)
theorem kt_149_ok : kt_149.all (fun r => r.all (k_one 0 prog_2_method_20_code)) = true := d_all (by decide +kernel)
theorem kt_150_ok : kt_150.all (fun r => r.all (k_one 12 prog_1_method_51_code)) = true := d_all (by decide +kernel)
theorem kt_151_ok : kt_151.all (fun r => r.all (k_one 3 prog_5_method_6_code)) = true := d_all (by decide +kernel)
theorem kt_152_ok : kt_152.all (fun r => r.all (k_one 12 prog_1_method_52_code)) = true := d_all (by decide +kernel)
theorem kt_153_ok : kt_153.all (fun r => r.all (k_one 3 prog_5_method_7_code)) = true := d_all (by decide +kernel)
theorem kt_154_ok : kt_154.all (fun r => r.all (k_one 12 prog_1_method_53_code)) = true := d_all (by decide +kernel)
theorem kt_157_ok : kt_157.all (fun r => r.all (k_one 1 prog_3_method_4_code)) = true := d_all (by decide +kernel)
theorem kt_160_ok : kt_160.all (fun r => r.all (k_one 13 prog_15_method_9_code)) = true := d_all (by decide +kernel)
theorem kt_161_ok : kt_161.all (fun r => r.all (k_one 13 prog_15_method_10_code)) = true := d_all (by decide +kernel)
theorem kt_162_ok : kt_162.all (fun r => r.all (k_one 13 prog_15_method_3_code)) = true := d_all (by decide +kernel)
theorem kt_163_ok : kt_163.all (fun r => r.all (k_one 13 prog_15_method_19_code)) = true := d_all (by decide +kernel)
theorem kt_164_ok : kt_164.all (fun r => r.all (k_one 13 prog_15_method_11_code)) = true := d_all (by decide +kernel)
theorem kt_165_ok : kt_165.all (fun r => r.all (k_one 13 prog_15_method_13_code)) = true := d_all (by decide +kernel)
theorem kt_166_ok : kt_166.all (fun r => r.all (k_one 13 prog_15_method_18_code)) = true := d_all (by decide +kernel)
theorem kt_168_ok : kt_168.all (fun r => r.all (k_one 13 prog_15_method_12_code)) = true := d_all (by decide +kernel)
theorem kt_169_ok : kt_169.all (fun r => r.all (k_one 13 prog_15_method_14_code)) = true := d_all (by decide +kernel)
theorem kt_170_ok : kt_170.all (fun r => r.all (k_one 13 prog_15_method_15_code)) = true := d_all (by decide +kernel)
theorem kt_171_ok : kt_171.all (fun r => r.all (k_one 13 prog_15_method_7_code)) = true := d_all (by decide +kernel)
theorem kt_172_ok : kt_172.all (fun r => r.all (k_one 13 prog_15_method_21_code)) = true := d_all (by decide +kernel)
end
section
/-! THE METHODS, instruction by instruction, 6 -/
theorem kt_173_ok : kt_173.all (fun r => r.all (k_one 13 prog_15_method_20_code)) = true := d_all (by decide +kernel)
theorem kt_174_ok : kt_174.all (fun r => r.all (k_one 13 prog_15_method_16_code)) = true := d_all (by decide +kernel)
theorem kt_175_ok : kt_175.all (fun r => r.all (k_one 13 prog_15_method_27_code)) = true := d_all (by decide +kernel)
theorem kt_176_ok : kt_176.all (fun r => r.all (k_one 13 prog_15_method_22_code)) = true := d_all (by decide +kernel)
theorem kt_177_ok : kt_177.all (fun r => r.all (k_one 13 prog_15_method_23_code)) = true := d_all (by decide +kernel)
theorem kt_178_ok : kt_178.all (fun r => r.all (k_one 13 prog_15_method_24_code)) = true := d_all (by decide +kernel)
theorem kt_179_ok : kt_179.all (fun r => r.all (k_one 13 prog_15_method_26_code)) = true := d_all (by decide +kernel)
theorem kt_180_ok : kt_180.all (fun r => r.all (k_one 13 prog_15_method_25_code)) = true := d_all (by decide +kernel)
theorem kt_181_ok : kt_181.all (fun r => r.all (k_one 13 prog_15_method_34_code)) = true := d_all (by decide +kernel)
theorem kt_182_ok : kt_182.all (fun r => r.all (k_one 13 prog_15_method_5_code)) = true := d_all (by decide +kernel)
theorem kt_183_ok : kt_183.all (fun r => r.all (k_one 13 prog_15_method_30_code)) = true := d_all (by decide +kernel)
theorem kt_184_ok : kt_184.all (fun r => r.all (k_one 13 prog_15_method_31_code)) = true := d_all (by decide +kernel)
theorem kt_185_ok : kt_185.all (fun r => r.all (k_one 13 prog_15_method_4_code)) = true := d_all (by decide +kernel)
theorem kt_186_ok : kt_186.all (fun r => r.all (k_one 13 prog_15_method_29_code)) = true := d_all (by decide +kernel)
theorem kt_187_ok : kt_187.all (fun r => r.all (k_one 13 prog_15_method_33_code)) = true := d_all (by decide +kernel)
theorem kt_188_ok : kt_188.all (fun r => r.all (k_one 13 prog_15_method_32_code)) = true := d_all (by decide +kernel)
theorem kt_189_ok : kt_189.all (fun r => r.all (k_one 13 prog_15_method_28_code)) = true := d_all (by decide +kernel)
theorem kt_190_ok : kt_190.all (fun r => r.all (k_one 13 prog_15_method_35_code)) = true := d_all (by decide +kernel)
theorem kt_191_ok : kt_191.all (fun r => r.all (k_one 13 prog_15_method_8_code)) = true := d_all (by decide +kernel)
theorem kt_192_ok : kt_192.all (fun r => r.all (k_one 13 prog_15_method_36_code)) = true := d_all (by decide +kernel)
theorem kt_193_ok : kt_193.all (fun r => r.all (k_one 13 prog_15_method_37_code)) = true := d_all (by decide +kernel)
theorem kt_194_ok : kt_194.all (fun r => r.all (k_one 13 prog_15_method_38_code)) = true := d_all (by decide +kernel)
theorem kt_195_ok : kt_195.all (fun r => r.all (k_one 13 prog_15_method_44_code)) = true := d_all (by decide +kernel)
theorem kt_196_ok : kt_196.all (fun r => r.all (k_one 13 prog_15_method_42_code)) = true := d_all (by decide +kernel)
end
section
/-! THE METHODS, instruction by instruction, 7 -/
theorem kt_197_ok : kt_197.all (fun r => r.all (k_one 13 prog_15_method_40_code)) = true := d_all (by decide +kernel)
theorem kt_198_ok : kt_198.all (fun r => r.all (k_one 13 prog_15_method_39_code)) = true := d_all (by decide +kernel)
theorem kt_199_ok : kt_199.all (fun r => r.all (k_one 13 prog_15_method_43_code)) = true := d_all (by decide +kernel)
theorem kt_200_ok : kt_200.all (fun r => r.all (k_one 13 prog_15_method_41_code)) = true := d_all (by decide +kernel)
theorem kt_201_ok : kt_201.all (fun r => r.all (k_one 13 prog_15_method_47_code)) = true := d_all (by decide +kernel)
theorem kt_202_ok : kt_202.all (fun r => r.all (k_one 13 prog_15_method_45_code)) = true := d_all (by decide +kernel)
theorem kt_203_ok : kt_203.all (fun r => r.all (k_one 13 prog_15_method_46_code)) = true := d_all (by decide +kernel)
theorem kt_204_ok : kt_204.all (fun r => r.all (k_one 13 prog_15_method_52_code)) = true := d_all (by decide +kernel)
theorem kt_205_ok : kt_205.all (fun r => r.all (k_one 13 prog_15_method_53_code)) = true := d_all (by decide +kernel)
theorem kt_206_ok : kt_206.all (fun r => r.all (k_one 13 prog_15_method_50_code)) = true := d_all (by decide +kernel)
theorem kt_207_ok : kt_207.all (fun r => r.all (k_one 13 prog_15_method_51_code)) = true := d_all (by decide +kernel)
theorem kt_208_ok : kt_208.all (fun r => r.all (k_one 13 prog_15_method_48_code)) = true := d_all (by decide +kernel)
theorem kt_209_ok : kt_209.all (fun r => r.all (k_one 13 prog_15_method_49_code)) = true := d_all (by decide +kernel)
theorem kt_210_ok : kt_210.all (fun r => r.all (k_one 13 prog_15_method_6_code)) = true := d_all (by decide +kernel)
theorem kt_211_ok : kt_211.all (fun r => r.all (k_one 13 prog_15_method_54_code)) = true := d_all (by decide +kernel)
theorem kt_214_ok : kt_214.all (fun r => r.all (k_one 13 prog_15_method_56_code)) = true := d_all (by decide +kernel)
theorem kt_215_ok : kt_215.all (fun r => r.all (k_one 13 prog_15_method_58_code)) = true := d_all (by decide +kernel)
theorem kt_216_ok : kt_216.all (fun r => r.all (k_one 13 prog_15_method_59_code)) = true := d_all (by decide +kernel)
theorem kt_217_ok : kt_217.all (fun r => r.all (k_one 13 prog_15_method_62_code)) = true := d_all (by decide +kernel)
theorem kt_218_ok : kt_218.all (fun r => r.all (k_one 13 prog_15_method_60_code)) = true := d_all (by decide +kernel)
theorem kt_219_ok : kt_219.all (fun r => r.all (k_one 13 prog_15_method_61_code)) = true := d_all (by decide +kernel)
theorem kt_220_ok : kt_220.all (fun r => r.all (k_one 13 prog_15_method_66_code)) = true := d_all (by decide +kernel)
theorem kt_221_ok : kt_221.all (fun r => r.all (k_one 13 prog_15_method_65_code)) = true := d_all (by decide +kernel)
theorem kt_222_ok : kt_222.all (fun r => r.all (k_one 13 prog_15_method_63_code)) = true := d_all (by decide +kernel)
theorem kt_223_ok : kt_223.all (fun r => r.all (k_one 13 prog_15_method_64_code)) = true := d_all (by decide +kernel)
theorem kt_224_ok : kt_224.all (fun r => r.all (k_one 16 prog_21_method_48_code)) = true := d_all (by decide +kernel)
end
section
/-! THE METHODS, instruction by instruction, 8 -/
theorem kt_225_ok : kt_225.all (fun r => r.all (k_one 13 prog_15_method_67_code)) = true := d_all (by decide +kernel)
theorem kt_226_ok : kt_226.all (fun r => r.all (k_one 13 prog_15_method_68_code)) = true := d_all (by decide +kernel)
theorem kt_227_ok : kt_227.all (fun r => r.all (k_one 13 prog_15_method_73_code)) = true := d_all (by decide +kernel)
theorem kt_228_ok : kt_228.all (fun r => r.all (k_one 13 prog_15_method_69_code)) = true := d_all (by decide +kernel)
theorem kt_229_ok : kt_229.all (fun r => r.all (k_one 13 prog_15_method_71_code)) = true := d_all (by decide +kernel)
theorem kt_230_ok : kt_230.all (fun r => r.all (k_one 13 prog_15_method_70_code)) = true := d_all (by decide +kernel)
theorem kt_231_ok : kt_231.all (fun r => r.all (k_one 13 prog_15_method_72_code)) = true := d_all (by decide +kernel)
theorem kt_232_ok : kt_232.all (fun r => r.all (k_one 13 prog_15_method_74_code)) = true := d_all (by decide +kernel)
theorem kt_233_ok : kt_233.all (fun r => r.all (k_one 13 prog_15_method_79_code)) = true := d_all (by decide +kernel)
theorem kt_234_ok : kt_234.all (fun r => r.all (k_one 13 prog_15_method_75_code)) = true := d_all (by decide +kernel)
theorem kt_235_ok : kt_235.all (fun r => r.all (k_one 13 prog_15_method_76_code)) = true := d_all (by decide +kernel)
theorem kt_236_ok : kt_236.all (fun r => r.all (k_one 13 prog_15_method_77_code)) = true := d_all (by decide +kernel)
theorem kt_237_ok : kt_237.all (fun r => r.all (k_one 13 prog_15_method_78_code)) = true := d_all (by decide +kernel)
theorem kt_238_ok : kt_238.all (fun r => r.all (k_one 13 prog_15_method_80_code)) = true := d_all (by decide +kernel)
theorem kt_239_ok : kt_239.all (fun r => r.all (k_one 13 prog_15_method_83_code)) = true := d_all (by decide +kernel)
theorem kt_240_ok : kt_240.all (fun r => r.all (k_one 13 prog_15_method_82_code)) = true := d_all (by decide +kernel)
theorem kt_242_ok : kt_242.all (fun r => r.all (k_one 13 prog_15_method_84_code)) = true := d_all (by decide +kernel)
theorem kt_243_ok : kt_243.all (fun r => r.all (k_one 13 prog_15_method_85_code)) = true := d_all (by decide +kernel)
theorem kt_244_ok : kt_244.all (fun r => r.all (k_one 13 prog_15_method_86_code)) = true := d_all (by decide +kernel)
end
section
/-! THE METHODS, instruction by instruction, 9 -/
theorem kt_245_ok : kt_245.all (fun r => r.all (k_one 13 prog_15_method_89_code)) = true := d_all (by decide +kernel)
theorem kt_246_ok : kt_246.all (fun r => r.all (k_one 13 prog_15_method_88_code)) = true := d_all (by decide +kernel)
theorem kt_247_ok : kt_247.all (fun r => r.all (k_one 13 prog_15_method_87_code)) = true := d_all (by decide +kernel)
theorem kt_249_ok : kt_249.all (fun r => r.all (k_one 13 prog_15_method_91_code)) = true := d_all (by decide +kernel)
theorem kt_250_ok : kt_250.all (fun r => r.all (k_one 13 prog_15_method_90_code)) = true := d_all (by decide +kernel)
theorem kt_251_ok : kt_251.all (fun r => r.all (k_one 13 prog_15_method_92_code)) = true := d_all (by decide +kernel)
theorem kt_252_ok : kt_252.all (fun r => r.all (k_one 13 prog_15_method_93_code)) = true := d_all (by decide +kernel)
theorem kt_253_ok : kt_253.all (fun r => r.all (k_one 13 prog_15_method_96_code)) = true := d_all (by decide +kernel)
theorem kt_254_ok : kt_254.all (fun r => r.all (k_one 13 prog_15_method_95_code)) = true := d_all (by decide +kernel)
theorem kt_255_ok : kt_255.all (fun r => r.all (k_one 13 prog_15_method_94_code)) = true := d_all (by decide +kernel)
theorem kt_256_ok : kt_256.all (fun r => r.all (k_one 13 prog_15_method_97_code)) = true := d_all (by decide +kernel)
theorem kt_257_ok : kt_257.all (fun r => r.all (k_one 13 prog_15_method_98_code)) = true := d_all (by decide +kernel)
theorem kt_258_ok : kt_258.all (fun r => r.all (k_one 13 prog_15_method_99_code)) = true := d_all (by decide +kernel)
theorem kt_259_ok : kt_259.all (fun r => r.all (k_one 13 prog_15_method_100_code)) = true := d_all (by decide +kernel)
end
section
/-! THE METHODS, instruction by instruction, 10 -/
theorem kt_260_ok : kt_260.all (fun r => r.all (k_one 13 prog_15_method_101_code)) = true := d_all (by decide +kernel)
theorem kt_261_ok : kt_261.all (fun r => r.all (k_one 13 prog_15_method_102_code)) = true := d_all (by decide +kernel)
theorem kt_213_ok : kt_213.all (fun r => r.all (k_one 13 prog_15_method_57_code)) = true := d_all (by decide +kernel)
theorem kt_212_ok : kt_212.all (fun r => r.all (k_one 13 prog_15_method_55_code)) = true := d_all (by decide +kernel)
theorem kt_167_ok : kt_167.all (fun r => r.all (k_one 13 prog_15_method_17_code)) = true := d_all (by decide +kernel)
theorem kt_241_ok : kt_241.all (fun r => r.all (k_one 13 prog_15_method_81_code)) = true := d_all (by decide +kernel)
theorem kt_155_ok : kt_155.all (fun r => r.all (k_one 12 prog_1_method_7_code)) = true := d_all (by decide +kernel)
theorem kt_156_ok : kt_156.all (fun r => r.all (k_one 12 prog_1_method_8_code)) = true := d_all (by decide +kernel)
theorem kt_158_ok : kt_158.all (fun r => r.all (k_one 12 prog_1_method_54_code)) = true := d_all (by decide +kernel)
end
