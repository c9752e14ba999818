/-! THE LAW'S START: both constructors, the cells they leave -/
theorem okb_t {B : Int} (hB : 0 ≤ B) {t : Nat × Int × Int} {v : Value} (h : t_okb t v = true) : t_ok B t v := by
  unfold t_okb at h
  unfold t_ok
  split at h
  · rename_i x e
    rw [e]
    obtain ⟨h1, h2⟩ := Bool.and_eq_true _ _ |>.mp h
    exact ⟨x, rfl, i_le_iff.mp h1, i_le_iff.mp h2⟩
  · rename_i k e
    rw [e]
    exact congrArg Value.ref (Nat.eq_of_beq_eq_true h)
  · rename_i x e
    rw [e]
    exact ⟨x, rfl⟩
  · rename_i x e
    rw [e]
    have := i_eq_iff.mp h
    exact ⟨x, rfl, by omega, by omega⟩
  · rename_i e
    rw [e]
    exact Or.inl rfl
  · rename_i k e
    rw [e]
    exact Or.inr ⟨k, rfl⟩
  · cases h
theorem okb_v {v : Value} (h : m_vOkb v = true) : m_vOk h_N v := by
  cases v with
  | ref k => exact Or.inl (Nat.le_of_ble_eq_true h)
  | _ => trivial
theorem okb_r {B : Int} (hB : 0 ≤ B) {p : Nat} : ∀ (vs : List Value) (n : Nat), r_okb p n vs = true → ∀ (k : Nat) (v : Value), vs[k]? = some v → t_ok B (h_ty p (n + k)) v ∧ m_vOk h_N v
  | [], _, _, _, _, h => by simp at h
  | v0 :: vs, n, h, k, v, hv => by
    unfold r_okb at h
    obtain ⟨h1, h⟩ := Bool.and_eq_true _ _ |>.mp h
    obtain ⟨h2, h⟩ := Bool.and_eq_true _ _ |>.mp h
    cases k with
    | zero =>
      obtain rfl : v0 = v := by simpa using hv
      exact ⟨okb_t hB h1, okb_v h2⟩
    | succ k =>
      have := okb_r hB vs (n + 1) h k v (by simpa using hv)
      rw [show n + (k + 1) = n + 1 + k by omega]
      exact this
theorem okb_h {B : Int} (hB : 0 ≤ B) : ∀ (σ : m_H) (n : Nat), h_okb n σ = true → ∀ p, p < σ.length → ∃ vs, σ[p]? = some (h_kd (n + p), vs) ∧ vs.length = h_ln (n + p) ∧ ∀ (k : Nat) (v : Value), vs[k]? = some v → t_ok B (h_ty (n + p) k) v ∧ m_vOk h_N v
  | [], _, _, p, h => by simp at h
  | c :: σ, n, h, p, hp => by
    unfold h_okb at h
    obtain ⟨h1, h⟩ := Bool.and_eq_true _ _ |>.mp h
    obtain ⟨h2, h⟩ := Bool.and_eq_true _ _ |>.mp h
    obtain ⟨h3, h⟩ := Bool.and_eq_true _ _ |>.mp h
    cases p with
    | zero =>
      refine ⟨c.2, ?_, Nat.eq_of_beq_eq_true h2, fun k v hv => ?_⟩
      · have e : c.1 = h_kd n := of_decide_eq_true h1
        show some c = some (h_kd (n + 0), c.2)
        rw [Nat.add_zero, ← e]
      · have := okb_r hB c.2 0 h3 k v hv
        rw [Nat.zero_add] at this
        exact this
    | succ p =>
      have := okb_h hB σ (n + 1) h p (by simpa using hp)
      rw [show n + (p + 1) = n + 1 + p by omega]
      obtain ⟨vs, g1, g2⟩ := this
      exact ⟨vs, by rw [List.getElem?_cons_succ]; exact g1, g2⟩
theorem okb_ok {B : Int} (hB : 0 ≤ B) {σ : m_H} (hl : σ.length = h_N) (h : h_okb 0 σ = true) : h_ok B σ := ⟨hl, fun p hp => by
  have := okb_h hB σ 0 h p (by rw [hl]; exact hp)
  rw [Nat.zero_add] at this
  exact this⟩
theorem xs_get : ∃ (a b : m_H) (c1 s1 c2 s2 : Nat), x_exec xcode 3000 8 0 (xs_0, 0, 0, 0, lv_args 0 [.ref 0], []) = some (a, c1, s1) ∧ x_exec xcode 3000 8 159 (a ++ [(.inr 13, x_dfs 13)], 0, 0, 0, lv_args 0 [.ref a.length], []) = some (b, c2, s2) ∧ a.length = 251 ∧ b.length = 278 ∧ c1 ≤ 300 ∧ c2 ≤ 300 ∧ s1 ≤ 4000 ∧ s2 ≤ 4000 ∧ h_okb 0 (b ++ [(.inl 4, [.long 0])]) = true := by
  have h := xs_ok
  unfold xs_3b at h
  split at h
  · rename_i a c1 s1 b c2 s2 h1 h2
    unfold xs_2 at h2
    rw [h1] at h2
    unfold xs_1 at h1
    obtain ⟨g1, h⟩ := Bool.and_eq_true _ _ |>.mp h
    obtain ⟨g2, h⟩ := Bool.and_eq_true _ _ |>.mp h
    obtain ⟨g3, h⟩ := Bool.and_eq_true _ _ |>.mp h
    obtain ⟨g4, h⟩ := Bool.and_eq_true _ _ |>.mp h
    obtain ⟨g5, h⟩ := Bool.and_eq_true _ _ |>.mp h
    obtain ⟨g6, h⟩ := Bool.and_eq_true _ _ |>.mp h
    exact ⟨a, b, c1, s1, c2, s2, h1, h2, Nat.eq_of_beq_eq_true g1, Nat.eq_of_beq_eq_true g2, Nat.le_of_ble_eq_true g3, Nat.le_of_ble_eq_true g4, Nat.le_of_ble_eq_true g5, Nat.le_of_ble_eq_true g6, h⟩
  · cases h
def q_ini1 : a_M := (⟨"LetByTheDegree", "<init>", "()V"⟩, prog_1_method_1_code, 1, none)
def q_ini2 : a_M := (⟨"LetByTheDegreeModel", "<init>", "()V"⟩, prog_15_method_1_code, 1, none)
theorem q_ini1_at : a_mt[0]? = some q_ini1 := rfl
set_option maxRecDepth 100000 in
theorem q_ini2_at : a_mt[159]? = some q_ini2 := rfl
theorem q_ini1_w : Cond.code q_ini1.1 q_ini1.2.1 q_ini1.2.2.1 none ∈ a_tb := a_mt_in q_ini1 (List.mem_of_getElem? q_ini1_at)
theorem q_ini2_w : Cond.code q_ini2.1 q_ini2.2.1 q_ini2.2.2.1 none ∈ a_tb := a_mt_in q_ini2 (List.mem_of_getElem? q_ini2_at)
theorem st_mk {l : Launch} {X : Nat → Option (List Int32)} {xa : Nat → Nat} {y : Nat} {q : a_M} (hq : a_mt[y]? = some q) (hpl : plainFor q.1 = true) {σ σ' : m_H} {o c' s' f d : Nat} (h : x_exec xcode f d y (σ, 0, 0, 0, lv_args 0 [.ref o], []) = some (σ', c', s')) (ho : o < σ.length) (hh : m_hOk σ.length σ) (hl : σ'.length < m_X0) (hln : (lg_sl [.ref o]).length ≤ q.2.2.1) :
    m_hOk σ'.length σ' ∧ σ.length ≤ σ'.length ∧ v_K l X (yY xa) xa d q.1 q.2.1 q.2.2.1 none σ [.ref o] (fun r z => r = none ∧ z = σ') c' s' := by
  have hA : ∀ v ∈ [Value.ref o], m_vOk σ.length v := fun v hv => by
    obtain rfl := List.mem_singleton.mp hv
    exact Or.inl ho
  obtain ⟨v1, v2⟩ := x_exec_ok (l := l) (X := X) (yY_ok xa) (yY_AO xa) xcode_ok f d y _ _ _ _ h ⟨hh, fun u hu => hA _ (lv_args_in _ 0 u hu), fun v hv => by cases hv⟩ hl
  exact ⟨v1.1, v1.2.1, v_K_of hpl hln (fun p e s m args below meth c dC dI aC ad sz hC hn hrt => v2 q hq p e (m_rm d c' s') s m args below meth c dC dI aC ad σ sz c' s' hC hn hrt ⟨Nat.le_refl _, Nat.le_refl _⟩ ⟨Nat.le_refl _, Nat.le_refl _⟩ (Nat.le_refl _) (Nat.le_refl _) (Nat.le_refl _))⟩
