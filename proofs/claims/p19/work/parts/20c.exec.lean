/-! CONSTRUCTORS run: cells made one by one -/
def x_dfs (ci : Nat) : List Value := match vwCl[ci]? with
  | some r => (List.range r.2.2).map fun j => defaultValue (a_ty ci j)
  | none => []
theorem x_df_re (ad : Nat → Nat) (ty : FieldType) : m_re ad (defaultValue ty) = defaultValue ty := by cases ty <;> rfl
theorem x_df_ok (n : Nat) (ty : FieldType) : m_vOk n (defaultValue ty) := by cases ty <;> trivial
theorem x_dfs_ok {ci : Nat} {r : vw_C} (hc : vwCl[ci]? = some r) : (∀ j, j < r.2.2 → defaultValue (a_ty ci j) = vp_V (x_dfs ci) j) ∧ (∀ ad, (x_dfs ci).map (m_re ad) = x_dfs ci) ∧ (∀ n, ∀ v ∈ x_dfs ci, m_vOk n v) ∧ (x_dfs ci).length = r.2.2 := by
  have e : x_dfs ci = (List.range r.2.2).map fun j => defaultValue (a_ty ci j) := by unfold x_dfs; rw [hc]
  refine ⟨fun j hj => ?_, fun ad => ?_, fun n v hv => ?_, by rw [e]; simp⟩
  · unfold vp_V
    rw [e, List.getD_eq_getElem?_getD, List.getElem?_map, List.getElem?_range hj]
    rfl
  · rw [e, List.map_map]
    exact List.map_congr_left fun j _ => x_df_re ad _
  · rw [e] at hv
    obtain ⟨j, -, rfl⟩ := List.mem_map.mp hv
    exact x_df_ok n _
theorem x_dfs_in (ci n : Nat) : ∀ v ∈ x_dfs ci, m_vOk n v := by
  cases hc : vwCl[ci]? with
  | none =>
    intro v hv
    unfold x_dfs at hv
    rw [hc] at hv
    cases hv
  | some r => exact (x_dfs_ok hc).2.2.1 _
def x_wd (own : String) (ini : Prop) (i : Jvm.ClassFile.Instr) (aux : List Nat) : Prop := match i, aux with
  | .getfield idx, [_, ci, k, ne] => k_fw own idx ci k ne
  | .putfield idx, [_, ci, k, ne] => k_fw own idx ci k ne ∧ ∀ r, vwCl[ci]? = some r → ((r.2.1 k).2.2.2 = false ∨ ((r.2.1 k).2.2.2 = true ∧ (r.2.1 k).1 = own ∧ ne = 0 ∧ ini))
  | .invokespecial idx, [_, y, _, ne] => k_lk own idx y ne
  | .invokevirtual idx, [_, y, _, ne] => k_lk own idx y ne
  | .invokespecial idx, [_, _] => Cond.methodLink own idx Lib.objectInit ∈ a_tb
  | .new idx, [ci, _, _, _, _, _, _] => ∃ r, vwCl[ci]? = some r ∧ Cond.classLink own idx r.1 ∈ a_tb ∧ Cond.instantiable r.1 r.2.2 ∈ a_tb ∧ Cond.initialized r.1 ∈ a_tb
  | .newarray t, [tt, _, _] => Cond.arrayClass (newarray.typeOf t) ∈ a_tb ∧ newarray.typeOf t = m_ty tt ∧ tt ≤ 4
  | .anewarray idx, [_, _] => Cond.classLink own idx "LetByTheDegree$State" ∈ a_tb
  | .new _, _ => False
  | .newarray _, _ => False
  | .anewarray _, _ => False
  | .getfield _, _ => False
  | .putfield _, _ => False
  | .invokespecial _, _ => False
  | .invokevirtual _, _ => False
  | _, _ => True
def x_in (a b : Nat) (w : Cond) : Bool := decide ((a_part a)[b]? = some w) && goodWord w
theorem x_in_ok {a b : Nat} {w : Cond} (h : x_in a b w = true) : w ∈ a_tb := by
  obtain ⟨g1, g2⟩ := Bool.and_eq_true _ _ |>.mp h
  exact a_in (of_decide_eq_true g1) g2
def x_wchk (c : Nat) (ini : Bool) (i : Jvm.ClassFile.Instr) (aux : List Nat) : Bool := match i, aux with
  | .getfield idx, [j, ci, k, ne] => k_fchk c idx j ci k ne
  | .putfield idx, [j, ci, k, ne] => k_fchk c idx j ci k ne && (match vwCl[ci]? with
    | some r => !(r.2.1 k).2.2.2 || (decide ((r.2.1 k).1 = a_R c) && (Nat.beq ne 0 && ini))
    | none => false)
  | .invokespecial idx, [j, y, _, ne] => k_lchk c idx j y ne
  | .invokevirtual idx, [j, y, _, ne] => k_lchk c idx j y ne
  | .invokespecial idx, [a, b] => x_in a b (.methodLink (a_R c) idx Lib.objectInit)
  | .new idx, [ci, a, b, a2, b2, a3, b3] => (match vwCl[ci]? with
    | some r => x_in a b (.classLink (a_R c) idx r.1) && (x_in a2 b2 (.instantiable r.1 r.2.2) && x_in a3 b3 (.initialized r.1))
    | none => false)
  | .newarray t, [tt, a, b] => x_in a b (.arrayClass (newarray.typeOf t)) && (decide (newarray.typeOf t = m_ty tt) && Nat.ble tt 4)
  | .anewarray idx, [a, b] => x_in a b (.classLink (a_R c) idx "LetByTheDegree$State")
  | .new _, _ => false
  | .newarray _, _ => false
  | .anewarray _, _ => false
  | .getfield _, _ => false
  | .putfield _, _ => false
  | .invokespecial _, _ => false
  | .invokevirtual _, _ => false
  | _, _ => true
theorem x_wchk_ok {c : Nat} {ini : Bool} {i : Jvm.ClassFile.Instr} {aux : List Nat} (h : x_wchk c ini i aux = true) : x_wd (a_R c) (ini = true) i aux := by
  unfold x_wchk at h
  unfold x_wd
  split at h
  · exact k_fchk_ok h
  · obtain ⟨h1, h2⟩ := Bool.and_eq_true _ _ |>.mp h
    refine ⟨k_fchk_ok h1, fun r hr => ?_⟩
    rw [hr] at h2
    simp only at h2
    cases hf : (r.2.1 _).2.2.2
    · exact Or.inl rfl
    · rw [hf] at h2
      obtain ⟨h3, h4⟩ := Bool.and_eq_true _ _ |>.mp h2
      obtain ⟨h5, h6⟩ := Bool.and_eq_true _ _ |>.mp h4
      exact Or.inr ⟨rfl, of_decide_eq_true h3, Nat.eq_of_beq_eq_true h5, h6⟩
  · exact k_lchk_ok h
  · exact k_lchk_ok h
  · exact x_in_ok h
  · split at h
    · rename_i r hr
      obtain ⟨h1, h2⟩ := Bool.and_eq_true _ _ |>.mp h
      obtain ⟨h3, h4⟩ := Bool.and_eq_true _ _ |>.mp h2
      exact ⟨r, hr, x_in_ok h1, x_in_ok h3, x_in_ok h4⟩
    · cases h
  · obtain ⟨h1, h2⟩ := Bool.and_eq_true _ _ |>.mp h
    obtain ⟨h3, h4⟩ := Bool.and_eq_true _ _ |>.mp h2
    exact ⟨x_in_ok h1, of_decide_eq_true h3, Nat.le_of_ble_eq_true h4⟩
  · exact x_in_ok h
  all_goals first | (cases h; done) | trivial
def x_ix (i : Int32) (n : Nat) : Bool := i_le 0 i.toInt && Nat.blt i.toInt.toNat n
theorem x_ix_ok {i : Int32} {n : Nat} (h : x_ix i n = true) : vp_in i n := by
  obtain ⟨h1, h2⟩ := Bool.and_eq_true _ _ |>.mp h
  have h1 := i_le_iff.mp h1
  have h2 : i.toInt.toNat < n := Nat.le_of_ble_eq_true h2
  exact vp_in_iff.mpr ⟨h1, by omega⟩
def x_sz (x : Int32) : Bool := i_le 0 x.toInt && Nat.ble x.toInt.toNat 10000
/-- one instruction that calls nothing -/
def x_step (nL : Nat) (q : a_K) (g : m_G) : Option m_G := match g with
  | (σ, ce, sl, pc, ls, st) => match q with
    | (_, i, n, _, aux) => match i, n, aux, st with
      | .aload_n j, 1, _, st => (match m_ld (j : Nat) ls with
        | some (.ref x) => some (σ, ce, sl, pc + 1, ls, .ref x :: st)
        | _ => none)
      | .aload j, 2, _, st => (match m_ld j ls with
        | some (.ref x) => some (σ, ce, sl, pc + 2, ls, .ref x :: st)
        | _ => none)
      | .iload_n j, 1, _, st => (match m_ld (j : Nat) ls with
        | some (.int x) => some (σ, ce, sl, pc + 1, ls, .int x :: st)
        | _ => none)
      | .istore_n j, 1, _, .int x :: st => bif Nat.blt (j : Nat) nL then some (σ, ce, sl, pc + 1, m_st1 (j : Nat) (.int x) ls, st) else none
      | .iconst k, 1, _, st => some (σ, ce, sl, pc + 1, ls, .int (Int32.ofInt k) :: st)
      | .bipush k, 2, _, st => some (σ, ce, sl, pc + 2, ls, .int (Int8.ofInt k).toInt32 :: st)
      | .sipush k, 3, _, st => some (σ, ce, sl, pc + 3, ls, .int (Int16.ofInt k).toInt32 :: st)
      | .iinc j k, 3, _, st => (match m_ld j ls with
        | some (.int x) => bif Nat.blt j nL then some (σ, ce, sl, pc + 3, m_st1 j (.int (x + Int32.ofInt k)) ls, st) else none
        | _ => none)
      | .goto off, 3, _, st => (match (pc : Int) + off with
        | .ofNat t => some (σ, ce, sl, t, ls, st)
        | _ => none)
      | .if_icmp .ge off, 3, _, .int y :: .int x :: st => (match (pc : Int) + off with
        | .ofNat t => some (σ, ce, sl, (if y ≤ x then t else pc + 3), ls, st)
        | _ => none)
      | .if_icmp .gt off, 3, _, .int y :: .int x :: st => (match (pc : Int) + off with
        | .ofNat t => some (σ, ce, sl, (if y < x then t else pc + 3), ls, st)
        | _ => none)
      | .dup, 1, _, .ref a :: st => some (σ, ce, sl, pc + 1, ls, .ref a :: .ref a :: st)
      | .getfield _, 3, [_, ci, k, _], .ref q :: st => (match σ[q]? with
        | some (.inr ci', fs) => bif Nat.beq ci ci' then (match fs[k]? with
          | some v => some (σ, ce, sl, pc + 3, ls, v :: st)
          | none => none) else none
        | _ => none)
      | .putfield _, 3, [_, ci, k, _], v :: .ref q :: st => (match σ[q]? with
        | some (.inr ci', fs) => bif Nat.beq ci ci' && (decide (narrow (a_ty ci k) v = v) && (fits (a_ty ci k) v && Nat.blt k fs.length)) then some (σ.set q (.inr ci, fs.set k v), ce, sl, pc + 3, ls, st) else none
        | _ => none)
      | .new _, 3, [ci, _, _, _, _, _, _], st => some (σ ++ [(.inr ci, x_dfs ci)], ce + 1, sl + (x_dfs ci).length, pc + 3, ls, .ref σ.length :: st)
      | .newarray _, 2, [tt, _, _], .int x :: st => bif x_sz x then some (σ ++ [(.inl tt, List.replicate x.toInt.toNat (defaultValue (m_ty tt)))], ce + 1, sl + x.toInt.toNat, pc + 2, ls, .ref σ.length :: st) else none
      | .anewarray _, 3, [_, _], .int x :: st => bif x_sz x then some (σ ++ [(.inl 5, List.replicate x.toInt.toNat .null)], ce + 1, sl + x.toInt.toNat, pc + 3, ls, .ref σ.length :: st) else none
      | .iastore, 1, _, .int x :: .int i :: .ref q :: st => (match σ[q]? with
        | some (.inl 0, vs) => bif x_ix i vs.length then some (σ.set q (.inl 0, vs.set i.toInt.toNat (.int x)), ce, sl, pc + 1, ls, st) else none
        | _ => none)
      | .aastore, 1, _, .ref r :: .int i :: .ref q :: st => (match σ[q]?, σ[r]? with
        | some (.inl 5, vs), some (.inr 8, _) => bif x_ix i vs.length then some (σ.set q (.inl 5, vs.set i.toInt.toNat (.ref r)), ce, sl, pc + 1, ls, st) else none
        | _, _ => none)
      | _, _, _, _ => none
def x_inv (g : m_G) : Prop := m_hOk g.1.length g.1 ∧ (∀ q ∈ g.2.2.2.2.1, m_vOk g.1.length q.2) ∧ ∀ v ∈ g.2.2.2.2.2, m_vOk g.1.length v
theorem m_vOk_mono {n n' : Nat} (h : n ≤ n') {v : Value} (hv : m_vOk n v) : m_vOk n' v := by
  cases v <;> first | trivial | (rcases hv with hv | hv
                                 · exact Or.inl (Nat.lt_of_lt_of_le hv h)
                                 · exact Or.inr hv)
theorem m_hOk_set {n : Nat} {σ : m_H} (h : m_hOk n σ) {q : Nat} {c : m_C} (hc : ∀ v ∈ c.2, m_vOk n v) : m_hOk n (σ.set q c) := fun z hz => by
  rcases List.mem_or_eq_of_mem_set hz with hz | rfl
  · exact h z hz
  · exact hc
theorem m_hOk_push {σ : m_H} (h : m_hOk σ.length σ) {c : m_C} (hc : ∀ v ∈ c.2, m_vOk σ.length v) : m_hOk (σ ++ [c]).length (σ ++ [c]) := fun z hz v hv => by
  have hl : σ.length ≤ (σ ++ [c]).length := by simp
  rcases List.mem_append.mp hz with hz | hz
  · exact m_vOk_mono hl (h z hz v hv)
  · obtain rfl := List.mem_singleton.mp hz
    exact m_vOk_mono hl (hc v hv)
theorem m_st1_in {i : Nat} {v : Value} {ls : List (Nat × Value)} {P : Value → Prop} (h : ∀ q ∈ ls, P q.2) (hv : P v) : ∀ q ∈ m_st1 i v ls, P q.2 := fun q hq => by
  rcases List.mem_cons.mp hq with rfl | hq
  · exact hv
  · exact h q (List.mem_filter.mp hq).1
theorem x_ld_mem {i : Nat} {ls : List (Nat × Value)} {v : Value} (h : m_ld i ls = some v) : ∃ q ∈ ls, q.2 = v := by
  unfold m_ld at h
  obtain ⟨q, h1, h2⟩ := Option.map_eq_some_iff.mp h
  exact ⟨q, List.mem_of_find?_eq_some h1, h2⟩
theorem cons_in {n : Nat} {v : Value} {st : List Value} (hv : m_vOk n v) (h : ∀ u ∈ st, m_vOk n u) : ∀ u ∈ v :: st, m_vOk n u := fun u hu => by
  rcases List.mem_cons.mp hu with rfl | hu
  · exact hv
  · exact h u hu
/-- what holds of a state stays, and cells only come -/
def x_up (g g' : m_G) : Prop := x_inv g' ∧ g.1.length ≤ g'.1.length ∧ g.2.1 ≤ g'.2.1 ∧ g.2.2.1 ≤ g'.2.2.1
theorem x_up_same {σ : m_H} {ce sl pc pc' : Nat} {ls ls' : List (Nat × Value)} {st st' : List Value} (h : m_hOk σ.length σ) (hl : ∀ q ∈ ls', m_vOk σ.length q.2) (hs : ∀ v ∈ st', m_vOk σ.length v) : x_up (σ, ce, sl, pc, ls, st) (σ, ce, sl, pc', ls', st') := ⟨⟨h, hl, hs⟩, Nat.le_refl _, Nat.le_refl _, Nat.le_refl _⟩
theorem x_up_set {σ : m_H} {ce sl pc pc' q : Nat} {c : m_C} {ls : List (Nat × Value)} {st st' : List Value} (h : m_hOk σ.length σ) (hl : ∀ q ∈ ls, m_vOk σ.length q.2) (hs : ∀ v ∈ st', m_vOk σ.length v) (hc : ∀ v ∈ c.2, m_vOk σ.length v) : x_up (σ, ce, sl, pc, ls, st) (σ.set q c, ce, sl, pc', ls, st') := by
  have e : (σ.set q c).length = σ.length := by simp
  exact ⟨⟨by show m_hOk (σ.set q c).length _; rw [e]; exact m_hOk_set h hc, by show ∀ z ∈ ls, m_vOk (σ.set q c).length z.2; rw [e]; exact hl, by show ∀ z ∈ st', m_vOk (σ.set q c).length z; rw [e]; exact hs⟩, by show σ.length ≤ (σ.set q c).length; rw [e]; exact Nat.le_refl _, Nat.le_refl _, Nat.le_refl _⟩
theorem x_up_push {σ : m_H} {ce sl pc pc' n : Nat} {c : m_C} {ls : List (Nat × Value)} {st st' : List Value} (h : m_hOk σ.length σ) (hl : ∀ q ∈ ls, m_vOk σ.length q.2) (hs : ∀ v ∈ st', m_vOk σ.length v) (hc : ∀ v ∈ c.2, m_vOk σ.length v) : x_up (σ, ce, sl, pc, ls, st) (σ ++ [c], ce + 1, sl + n, pc', ls, .ref σ.length :: st') := by
  have hl1 : σ.length ≤ (σ ++ [c]).length := by simp
  refine ⟨⟨m_hOk_push h hc, fun q hq => m_vOk_mono hl1 (hl q hq), cons_in (Or.inl (by show σ.length < (σ ++ [c]).length; simp)) fun v hv => m_vOk_mono hl1 (hs v hv)⟩, hl1, Nat.le_succ _, Nat.le_add_right _ _⟩
theorem mem_set_in {n k : Nat} {vs : List Value} {v : Value} (h : ∀ u ∈ vs, m_vOk n u) (hv : m_vOk n v) : ∀ u ∈ vs.set k v, m_vOk n u := fun u hu => by
  rcases List.mem_or_eq_of_mem_set hu with hu | rfl
  · exact h u hu
  · exact hv
theorem x_sz_ok {x : Int32} (h : x_sz x = true) : ¬ x < 0 ∧ x.toNatClampNeg = x.toInt.toNat ∧ x.toInt.toNat ≤ 10000 := by
  obtain ⟨h1, h2⟩ := Bool.and_eq_true _ _ |>.mp h
  have h1 := i_le_iff.mp h1
  exact ⟨fun z => by
    have := i32_lt.mp z
    rw [i32_0] at this
    omega, rfl, Nat.le_of_ble_eq_true h2⟩
theorem m_cb {t : Nat} : componentBytes (m_ty t) ≤ 8 := by
  rcases (show t = 0 ∨ t = 1 ∨ t = 2 ∨ t = 3 ∨ t = 4 ∨ 5 ≤ t by omega) with rfl | rfl | rfl | rfl | rfl | h
  · exact Nat.le_of_ble_eq_true rfl
  · exact Nat.le_of_ble_eq_true rfl
  · exact Nat.le_of_ble_eq_true rfl
  · exact Nat.le_of_ble_eq_true rfl
  · exact Nat.le_of_ble_eq_true rfl
  · obtain ⟨k, rfl⟩ : ∃ k, t = k + 5 := ⟨t - 5, by omega⟩
    exact Nat.le_of_ble_eq_true rfl
section XS
variable {p : Program} {l : Launch} {e : Env} {R : Room} {s : State} {m : MethodId} {args : Array Value} {below : List Frame} {meth : Method} {c : Code} {QQ : State → Prop} {dC : Nat → ClassId} {dI : Nat → Nat → Nat} {aC : Nat → ClassId} {A : Nat → Prop} {n0 : Nat} {ad0 xa : Nat → Nat} {nL : Nat} {cc : ByteArray} {own : String} {X : Nat → Option (List Int32)} {Y : (Nat → Prop) → State → Heap → Prop}
theorem x_step_up {q : a_K} {g g' : m_G} (hi : x_inv g) (h : x_step nL q g = some g') : x_up g g' := by
  obtain ⟨σ, ce, sl, pc, ls, st⟩ := g
  obtain ⟨z, i, n, fl, aux⟩ := q
  obtain ⟨h1, h2, h3⟩ := hi
  unfold x_step at h
  simp only at h h1 h2 h3
  split at h
  · split at h
    · rename_i j st x hx
      cases h
      obtain ⟨u, u1, u2⟩ := x_ld_mem hx
      exact x_up_same h1 h2 (cons_in (by rw [← u2]; exact h2 u u1) h3)
    · cases h
  · split at h
    · rename_i j st x hx
      cases h
      obtain ⟨u, u1, u2⟩ := x_ld_mem hx
      exact x_up_same h1 h2 (cons_in (by rw [← u2]; exact h2 u u1) h3)
    · cases h
  · split at h
    · cases h
      exact x_up_same h1 h2 (cons_in trivial h3)
    · cases h
  · rename_i j x st
    cases hb : Nat.blt (j : Nat) nL
    · rw [hb] at h; cases h
    · rw [hb] at h
      cases h
      exact x_up_same h1 (m_st1_in h2 trivial) fun v hv => h3 v (List.mem_cons_of_mem _ hv)
  · cases h
    exact x_up_same h1 h2 (cons_in trivial h3)
  · cases h
    exact x_up_same h1 h2 (cons_in trivial h3)
  · cases h
    exact x_up_same h1 h2 (cons_in trivial h3)
  · rename_i j k
    split at h
    · cases hb : Nat.blt j nL
      · rw [hb] at h; cases h
      · rw [hb] at h
        cases h
        exact x_up_same h1 (m_st1_in h2 trivial) h3
    · cases h
  · split at h
    · cases h
      exact x_up_same h1 h2 h3
    · cases h
  · split at h
    · cases h
      exact x_up_same h1 h2 fun v hv => h3 v (List.mem_cons_of_mem _ (List.mem_cons_of_mem _ hv))
    · cases h
  · split at h
    · cases h
      exact x_up_same h1 h2 fun v hv => h3 v (List.mem_cons_of_mem _ (List.mem_cons_of_mem _ hv))
    · cases h
  · cases h
    exact x_up_same h1 h2 (cons_in (h3 _ List.mem_cons_self) h3)
  · split at h
    · rename_i ci' fs hσ
      rename_i ci k _ q st _
      cases hb : Nat.beq ci ci'
      · rw [hb] at h; cases h
      · rw [hb] at h
        simp only [cond_true] at h
        split at h
        · rename_i v hv
          cases h
          exact x_up_same h1 h2 (cons_in (h1 _ (List.mem_of_getElem? hσ) v (List.mem_of_getElem? hv)) fun v hv => h3 v (List.mem_cons_of_mem _ hv))
        · cases h
    · cases h
  · split at h
    · rename_i ci' fs hσ
      rename_i ci k _ v q st _
      cases hb : Nat.beq ci ci' && (decide (narrow (a_ty ci k) v = v) && (fits (a_ty ci k) v && Nat.blt k fs.length))
      · rw [hb] at h; cases h
      · rw [hb] at h
        cases h
        exact x_up_set h1 h2 (fun v hv => h3 v (List.mem_cons_of_mem _ (List.mem_cons_of_mem _ hv))) (mem_set_in (h1 _ (List.mem_of_getElem? hσ)) (h3 _ List.mem_cons_self))
    · cases h
  · cases h
    rename_i ci _ _ _ _ _ _ st
    exact x_up_push h1 h2 h3 (x_dfs_in _ _)
  · rename_i tt _ _ x st
    cases hb : x_sz x
    · rw [hb] at h; cases h
    · rw [hb] at h
      cases h
      exact x_up_push h1 h2 (fun v hv => h3 v (List.mem_cons_of_mem _ hv)) fun v hv => by rw [List.eq_of_mem_replicate hv]; exact x_df_ok _ _
  · rename_i x st
    cases hb : x_sz x
    · rw [hb] at h; cases h
    · rw [hb] at h
      cases h
      exact x_up_push h1 h2 (fun v hv => h3 v (List.mem_cons_of_mem _ hv)) fun v hv => by rw [List.eq_of_mem_replicate hv]; trivial
  · split at h
    · rename_i vs hσ
      rename_i x i q st _
      cases hb : x_ix i vs.length
      · rw [hb] at h; cases h
      · rw [hb] at h
        cases h
        exact x_up_set h1 h2 (fun v hv => h3 v (List.mem_cons_of_mem _ (List.mem_cons_of_mem _ (List.mem_cons_of_mem _ hv)))) (mem_set_in (h1 _ (List.mem_of_getElem? hσ)) trivial)
    · cases h
  · split at h
    · rename_i vs fs hσ hr
      rename_i r i q st _ _
      cases hb : x_ix i vs.length
      · rw [hb] at h; cases h
      · rw [hb] at h
        cases h
        exact x_up_set h1 h2 (fun v hv => h3 v (List.mem_cons_of_mem _ (List.mem_cons_of_mem _ (List.mem_cons_of_mem _ hv)))) (mem_set_in (h1 _ (List.mem_of_getElem? hσ)) (h3 _ List.mem_cons_self))
    · cases h
  · cases h
theorem x_step_ok (hC : m_Ctx p s m args meth c cc nL own dC dI aC A xa X Y) (hAO : va_AO "LetByTheDegree$State" s) {ini : Prop} (hini : ini → meth.name = "<init>") {q : a_K} {g g' : m_G} (hi : x_inv g) (hn0 : n0 ≤ g.1.length) (hX : g.1.length < m_X0) (hd : decode cc g.2.2.2.1 = .ok (q.2.1, q.2.2.1)) (hw : x_wd own ini q.2.1 q.2.2.2.2) (h : x_step nL q g = some g') (hce : g'.2.1 ≤ R.cells) (hsl : g'.2.2.1 ≤ R.slots) (k : mV p l e R s m args below meth c QQ dC dI aC A n0 ad0 xa nL g') : mV p l e R s m args below meth c QQ dC dI aC A n0 ad0 xa nL g := by
  obtain ⟨σ, ce, sl, pc, ls, st⟩ := g
  obtain ⟨z, i, n, fl, aux⟩ := q
  obtain ⟨h1, h2, h3⟩ := hi
  unfold x_step at h
  simp only at h h1 h2 h3 hd hn0 hX hw
  split at h
  · split at h
    · rename_i hx
      cases h
      exact mV_aload_n hC hd hx k
    · cases h
  · split at h
    · rename_i hx
      cases h
      exact mV_aload hC hd hx k
    · cases h
  · split at h
    · rename_i hx
      cases h
      exact mV_iload_n hC hd hx k
    · cases h
  · rename_i j x st
    cases hb : Nat.blt (j : Nat) nL
    · rw [hb] at h; cases h
    · rw [hb] at h
      cases h
      exact mV_istore_n hC hd (Nat.le_of_ble_eq_true hb) k
  · cases h
    exact mV_iconst hC hd k
  · cases h
    exact mV_bipush hC hd k
  · cases h
    exact mV_sipush hC hd k
  · rename_i j k'
    split at h
    · rename_i x hx
      cases hb : Nat.blt j nL
      · rw [hb] at h; cases h
      · rw [hb] at h
        cases h
        exact mV_iinc hC hd hx (Nat.le_of_ble_eq_true hb) k
    · cases h
  · split at h
    · rename_i t ht
      cases h
      exact mV_goto hC hd ht k
    · cases h
  · split at h
    · rename_i t ht
      cases h
      refine mV_icmp_ge hC hd ht (fun u => ?_) (fun u => ?_)
      · rw [if_pos u] at k; exact k
      · rw [if_neg u] at k; exact k
    · cases h
  · split at h
    · rename_i t ht
      cases h
      refine mV_icmp_gt hC hd ht (fun u => ?_) (fun u => ?_)
      · rw [if_pos u] at k; exact k
      · rw [if_neg u] at k; exact k
    · cases h
  · cases h
    exact mV_dup hC hd rfl k
  · split at h
    · rename_i ci' fs hσ
      rename_i j ci k' ne q st _
      cases hb : Nat.beq ci ci'
      · rw [hb] at h; cases h
      · rw [hb] at h
        simp only [cond_true] at h
        have hb := Nat.eq_of_beq_eq_true hb
        subst hb
        split at h
        · rename_i v hv
          cases h
          obtain ⟨r, hr, hk, w1, w2⟩ := hw
          by_cases hne : ne = 0
          · exact mV_getfield hC hd hσ hr hk (w1 hne) hv k
          · exact mV_getfieldN hC hd hσ hr hk (w2 hne) hv k
        · cases h
    · cases h
  · split at h
    · rename_i ci' fs hσ
      rename_i j ci k' ne v q st _
      cases hb : Nat.beq ci ci' && (decide (narrow (a_ty ci k') v = v) && (fits (a_ty ci k') v && Nat.blt k' fs.length))
      · rw [hb] at h; cases h
      · rw [hb] at h
        cases h
        obtain ⟨b1, b2⟩ := Bool.and_eq_true _ _ |>.mp hb
        obtain ⟨b3, b4⟩ := Bool.and_eq_true _ _ |>.mp b2
        obtain ⟨b5, b6⟩ := Bool.and_eq_true _ _ |>.mp b4
        have b1 := Nat.eq_of_beq_eq_true b1
        subst b1
        obtain ⟨⟨r, hr, hk, w1, w2⟩, w3⟩ := hw
        rcases w3 r hr with w4 | ⟨w4, w5, w6, w7⟩
        · by_cases hne : ne = 0
          · exact mV_putfield hC hd hσ hr hk (w1 hne) w4 (of_decide_eq_true b3) b5 (Nat.le_of_ble_eq_true b6) k
          · exact mV_putfieldN hC hd hσ hr hk (w2 hne) w4 (of_decide_eq_true b3) b5 (Nat.le_of_ble_eq_true b6) k
        · exact mV_putfieldF hC hd hσ hr hk (w1 w6) w4 (hini w7) w5 (of_decide_eq_true b3) b5 (Nat.le_of_ble_eq_true b6) k
    · cases h
  · cases h
    rename_i ci _ _ _ _ _ _ st
    obtain ⟨r, hr, w1, w2, w3⟩ := hw
    obtain ⟨d1, d2, d3, d4⟩ := x_dfs_ok hr
    rw [d4] at k hsl
    exact mV_new hC hd hr w1 w2 w3 d1 d2 hce hsl hn0 hX h1 h2 h3 (d3 _) k
  · rename_i tt _ _ x st
    cases hb : x_sz x
    · rw [hb] at h; cases h
    · rw [hb] at h
      cases h
      obtain ⟨b1, b2, b3⟩ := x_sz_ok hb
      obtain ⟨w1, w2, w3⟩ := hw
      have hcb : x.toInt.toNat * componentBytes (m_ty tt) ≤ 10000 * 8 := Nat.mul_le_mul b3 m_cb
      exact mV_newa hC hd w1 w3 w2 b1 b2 (by omega) hce hsl hn0 hX h1 h2 (fun v hv => h3 v (List.mem_cons_of_mem _ hv)) k
  · rename_i x st
    cases hb : x_sz x
    · rw [hb] at h; cases h
    · rw [hb] at h
      cases h
      obtain ⟨b1, b2, b3⟩ := x_sz_ok hb
      exact mV_newq hC hAO hd hw b1 b2 (by omega) hce hsl hn0 hX h1 h2 (fun v hv => h3 v (List.mem_cons_of_mem _ hv)) k
  · split at h
    · rename_i vs hσ
      rename_i x i q st _
      cases hb : x_ix i vs.length
      · rw [hb] at h; cases h
      · rw [hb] at h
        cases h
        exact mV_iastore hC hd hσ (x_ix_ok hb) k
    · cases h
  · split at h
    · rename_i vs fs hσ hr
      rename_i r i q st _ _
      cases hb : x_ix i vs.length
      · rw [hb] at h; cases h
      · rw [hb] at h
        cases h
        exact mV_aastore hC hd hσ hr (x_ix_ok hb) k
    · cases h
  · cases h
end XS

def x_rcv (σ : m_H) (o ci : Nat) : Bool := match σ[o]? with
  | some (.inr c, _) => Nat.beq ci c
  | _ => false
theorem x_rcv_ok {σ : m_H} {o ci : Nat} (h : x_rcv σ o ci = true) : ∃ fs, σ[o]? = some (.inr ci, fs) := by
  unfold x_rcv at h
  split at h
  · rename_i c fs hc
    have := Nat.eq_of_beq_eq_true h
    subst this
    exact ⟨fs, hc⟩
  · cases h
/-- with the calls: a constructor run to its end, within d frames -/
def x_exec (code : Nat → List (List a_K)) : Nat → Nat → Nat → m_G → Option (m_H × Nat × Nat)
  | 0, _, _, _ => none
  | f + 1, d, y, (σ, ce, sl, pc, ls, st) => match a_mt[y]? with
    | none => none
    | some qy => (match k_get (code y) pc with
    | none => none
    | some q => (match q.2.1, q.2.2.1, q.2.2.2.2, st with
      | .return_, 1, _, [] => some (σ, ce, sl)
      | .invokespecial _, 3, [_, _], .ref _ :: r => bif Nat.ble 1 d && Nat.ble r.length 4 then x_exec code f d y (σ, ce, sl, pc + 3, ls, r) else none
      | .invokespecial _, 3, [_, y2, _, _], st => (match a_mw[y2]?, a_mt[y2]?, d with
        | some (2, _, _, _, _, _, _, _, np), some q2, d2 + 1 => (match (st.take (np + 1)).reverse with
          | .ref o :: as => bif Nat.beq as.length np && (Nat.ble (np + 1) st.length && (Nat.ble (st.drop (np + 1)).length 4 && (plainFor q2.1 && (decide (q2.2.2.2 = none) && Nat.ble (lg_sl (.ref o :: as)).length q2.2.2.1)))) then (match x_exec code f d2 y2 (σ, 0, 0, 0, lv_args 0 (.ref o :: as), []) with
            | some (σ2, c2, s2) => bif Nat.blt σ2.length m_X0 then x_exec code f (d2 + 1) y (σ2, ce + c2, sl + s2, pc + 3, ls, st.drop (np + 1)) else none
            | none => none) else none
          | _ => none)
        | _, _, _ => none)
      | .invokevirtual _, 3, [_, y2, _, ne], st => (match a_mw[y2]?, a_mt[y2]?, d with
        | some (0, ci, _, _, _, _, _, _, np), some q2, d2 + 1 => (match (st.take (np + 1)).reverse with
          | .ref o :: as => bif Nat.beq as.length np && (Nat.ble (np + 1) st.length && (Nat.ble (st.drop (np + 1)).length 4 && (plainFor q2.1 && (decide (q2.2.2.2 = none) && (Nat.ble (lg_sl (.ref o :: as)).length q2.2.2.1 && (Nat.beq ne 0 && (Nat.blt ci 14 && x_rcv σ o ci))))))) then (match x_exec code f d2 y2 (σ, 0, 0, 0, lv_args 0 (.ref o :: as), []) with
            | some (σ2, c2, s2) => bif Nat.blt σ2.length m_X0 then x_exec code f (d2 + 1) y (σ2, ce + c2, sl + s2, pc + 3, ls, st.drop (np + 1)) else none
            | none => none) else none
          | _ => none)
        | _, _, _ => none)
      | _, _, _, _ => (match x_step qy.2.2.1 q (σ, ce, sl, pc, ls, st) with
        | some g => x_exec code f d y g
        | none => none)))
