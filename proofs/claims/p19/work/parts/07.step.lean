/-! ONE INSTRUCTION over what is known: numbers, the frame, the stack, jumps -/
def c_le (E : A_E) (F : A_F) (a b : A_V) (k : Int) : List (A_E × A_F) := match a_asm E F a b k with
  | some q => [q]
  | none => []
def c_ok (B : Int) (ρ : List Int) (C : List (A_E × A_F)) : Prop := ∃ q ∈ C, e_ok B q.1 ρ ∧ f_ok q.2 ρ
theorem c_le_ok {B : Int} {E : A_E} {F : A_F} {ρ : List Int} (e : e_ok B E ρ) (f : f_ok F ρ) {a b : A_V} {x y k : Int} (ha : a_ev ρ a = some x) (hb : a_ev ρ b = some y) (h : x ≤ y + k) : c_ok B ρ (c_le E F a b k) := by
  obtain ⟨q, h1, h2, h3⟩ := a_asm_ok e f ha hb h
  unfold c_le
  rw [h1]
  exact ⟨q, List.mem_cons_self, h2, h3⟩
def c_eq (E : A_E) (F : A_F) (a b : A_V) : List (A_E × A_F) := match a_asm E F a b 0 with
  | some q => c_le q.1 q.2 b a 0
  | none => []
theorem c_eq_ok {B : Int} {E : A_E} {F : A_F} {ρ : List Int} (e : e_ok B E ρ) (f : f_ok F ρ) {a b : A_V} {x y : Int} (ha : a_ev ρ a = some x) (hb : a_ev ρ b = some y) (h : x = y) : c_ok B ρ (c_eq E F a b) := by
  obtain ⟨q, h1, h2, h3⟩ := a_asm_ok e f ha hb (k := 0) (by omega)
  unfold c_eq
  rw [h1]
  exact c_le_ok h2 h3 hb ha (by omega)
def i_eq (a b : Int) : Bool := i_le a b && i_le b a
theorem i_eq_iff {a b : Int} : i_eq a b = true ↔ a = b := by
  unfold i_eq
  constructor
  · intro h
    obtain ⟨h1, h2⟩ := Bool.and_eq_true _ _ |>.mp h
    have := i_le_iff.mp h1
    have := i_le_iff.mp h2
    omega
  · intro h
    exact Bool.and_eq_true _ _ |>.mpr ⟨i_le_iff.mpr (by omega), i_le_iff.mpr (by omega)⟩
def c_ne (z : Bool) (E : A_E) (F : A_F) (a b : A_V) : List (A_E × A_F) :=
  bif a_cst a && a_cst b then (bif i_eq a.2.2 b.2.2 then [] else [(E, F)]) else
  bif !a_cst a && !a_cst b && Nat.beq a.2.1 b.2.1 then (bif i_eq a.2.2 b.2.2 then [] else [(E, F)]) else
  bif a_leq E F a b 0 then c_le E F a b (-1) else bif a_leq E F b a 0 then c_le E F b a (-1) else
  bif z then c_le E F a b (-1) ++ c_le E F b a (-1) else [(E, F)]
theorem c_ok_l {B : Int} {ρ : List Int} {C D : List (A_E × A_F)} (h : c_ok B ρ C) : c_ok B ρ (C ++ D) := by
  obtain ⟨q, h1, h2⟩ := h
  exact ⟨q, List.mem_append_left _ h1, h2⟩
theorem c_ok_r {B : Int} {ρ : List Int} {C D : List (A_E × A_F)} (h : c_ok B ρ D) : c_ok B ρ (C ++ D) := by
  obtain ⟨q, h1, h2⟩ := h
  exact ⟨q, List.mem_append_right _ h1, h2⟩
theorem c_ne_ok {B : Int} {E : A_E} {F : A_F} {ρ : List Int} (e : e_ok B E ρ) (f : f_ok F ρ) {z : Bool} {a b : A_V} {x y : Int} (ha : a_ev ρ a = some x) (hb : a_ev ρ b = some y) (h : ¬ x = y) : c_ok B ρ (c_ne z E F a b) := by
  have self : c_ok B ρ [(E, F)] := ⟨_, List.mem_cons_self, e, f⟩
  unfold c_ne
  cases c1 : a_cst a && a_cst b
  · simp only [cond_false]
    cases c2 : !a_cst a && !a_cst b && Nat.beq a.2.1 b.2.1
    · simp only [cond_false]
      cases c3 : a_leq E F a b 0
      · simp only [cond_false]
        cases c4 : a_leq E F b a 0
        · simp only [cond_false]
          cases z
          · exact self
          · simp only [cond_true]
            rcases (by omega : x < y ∨ y < x) with q | q
            · exact c_ok_l (c_le_ok e f ha hb (by omega))
            · exact c_ok_r (c_le_ok e f hb ha (by omega))
        · simp only [cond_true]
          have := a_leq_ok e f hb ha c4
          exact c_le_ok e f hb ha (by omega)
      · simp only [cond_true]
        have := a_leq_ok e f ha hb c3
        exact c_le_ok e f ha hb (by omega)
    · simp only [cond_true]
      obtain ⟨d1, d2⟩ := Bool.and_eq_true _ _ |>.mp c2
      obtain ⟨d3, d4⟩ := Bool.and_eq_true _ _ |>.mp d1
      obtain ⟨r, r1, h1⟩ := a_ev_var ha (by simpa using d3)
      obtain ⟨r', r2, h2⟩ := a_ev_var hb (by simpa using d4)
      have hv := Nat.eq_of_beq_eq_true d2
      rw [hv] at r1
      have : r = r' := Option.some.inj (r1.symm.trans r2)
      cases c5 : i_eq a.2.2 b.2.2
      · exact self
      · have := i_eq_iff.mp c5
        omega
  · simp only [cond_true]
    obtain ⟨d1, d2⟩ := Bool.and_eq_true _ _ |>.mp c1
    have h1 := a_ev_cst ha d1
    have h2 := a_ev_cst hb d2
    cases c5 : i_eq a.2.2 b.2.2
    · exact self
    · have := i_eq_iff.mp c5
      omega
def c_if (t z : Bool) (cn : Jvm.ClassFile.Cond) (E : A_E) (F : A_F) (a b : A_V) : List (A_E × A_F) := match cn with
  | .eq => bif t then c_eq E F a b else c_ne z E F a b
  | .ne => bif t then c_ne z E F a b else c_eq E F a b
  | .lt => bif t then c_le E F a b (-1) else c_le E F b a 0
  | .ge => bif t then c_le E F b a 0 else c_le E F a b (-1)
  | .gt => bif t then c_le E F b a (-1) else c_le E F a b 0
  | .le => bif t then c_le E F a b 0 else c_le E F b a (-1)
/-- the frame -/
def l_get (j : Nat) : List (Nat × A_V) → Option A_V
  | [] => none
  | q :: ls => bif Nat.beq q.1 j then some q.2 else l_get j ls
theorem l_get_in {j : Nat} {a : A_V} : ∀ {ls : List (Nat × A_V)}, l_get j ls = some a → (j, a) ∈ ls
  | [], h => by cases h
  | q :: ls, h => by
    unfold l_get at h
    cases hb : Nat.beq q.1 j
    · rw [hb] at h; exact List.mem_cons_of_mem _ (l_get_in h)
    · rw [hb] at h
      have := Nat.eq_of_beq_eq_true hb
      cases h; subst this; exact List.mem_cons_self
def a_isR (a : A_V) : Bool := Nat.beq a.1 2
def a_c1 (a : A_V) : Bool := a_isI a || a_isR a
theorem v_ref {ρ : List Int} {a : A_V} {v : Value} (h : v_ok ρ a v) (hr : a_isR a = true) : v = .ref a.2.1 := by
  obtain ⟨t, n, c⟩ := a
  have : t = 2 := Nat.eq_of_beq_eq_true hr
  subst this
  exact h
theorem v_cat1 {ρ : List Int} {a : A_V} {v : Value} (h : v_ok ρ a v) (hc : a_c1 a = true) : v.category = 1 := by
  rcases Bool.or_eq_true _ _ |>.mp hc with h1 | h1
  · obtain ⟨x, rfl, _⟩ := v_int h h1; rfl
  · rw [v_ref h h1]; rfl
theorem v_cat2 {ρ : List Int} {a : A_V} {v : Value} (h : v_ok ρ a v) (hc : a_isL a = true) : v.category = 2 := by
  obtain ⟨x, rfl, _⟩ := v_long h hc; rfl
def l_kp (j : Nat) (w : Bool) (q : Nat × A_V) : Bool := !(Nat.beq q.1 j) && (!(w && Nat.beq q.1 (j + 1)) && (!(Nat.beq (q.1 + 1) j) || a_c1 q.2))
def l_put (j : Nat) (a : A_V) (w : Bool) (ls : List (Nat × A_V)) : List (Nat × A_V) := (j, a) :: ls.filter (l_kp j w)
theorem find_filter {α : Type} {f g : α → Bool} : ∀ {l : List α} {a : α}, l.find? f = some a → g a = true → (l.filter g).find? f = some a
  | [], a, h, _ => by cases h
  | b :: l, a, h, hg => by
    simp only [List.find?_cons] at h
    cases hb : f b
    · rw [hb] at h
      simp only at h
      have ih := find_filter h hg
      simp only [List.filter_cons]
      split
      · simp [hb, ih]
      · exact ih
    · rw [hb] at h
      simp only [Option.some.injEq] at h
      subst h
      simp [List.filter_cons, hg, hb]
theorem m_ld_keep {i j : Nat} {v u : Value} {f : Nat × Value → Bool} {ls : List (Nat × Value)} (h : m_ld i ls = some v) (hij : ¬ i = j) (hf : f (i, v) = true) : m_ld i ((j, u) :: ls.filter f) = some v := by
  unfold m_ld at h ⊢
  obtain ⟨q, h1, h2⟩ := Option.map_eq_some_iff.mp h
  have hq : q = (i, v) := by
    have := List.find?_some h1
    have h3 : q.1 = i := by simpa using this
    obtain ⟨q1, q2⟩ := q
    simp only at h2 h3
    rw [h2, h3]
  subst hq
  have h4 : (((j, u) : Nat × Value).1 == i) = false := by simpa using Ne.symm hij
  rw [List.find?_cons, h4]
  simp only
  rw [find_filter h1 hf]; rfl
theorem m_ld_self {j : Nat} {u : Value} {ls : List (Nat × Value)} : m_ld j ((j, u) :: ls) = some u := by
  unfold m_ld; simp
theorem l_put_ok1 {ρ : List Int} {j : Nat} {a : A_V} {v : Value} {ls : List (Nat × A_V)} {vs : List (Nat × Value)} (h : l_ok ρ ls vs) (hv : v_ok ρ a v) : l_ok ρ (l_put j a false ls) (m_st1 j v vs) := by
  intro q hq
  rcases List.mem_cons.mp hq with rfl | hq
  · exact ⟨v, m_ld_self, hv⟩
  · obtain ⟨h1, h2⟩ := List.mem_filter.mp hq
    obtain ⟨u, h3, h4⟩ := h q h1
    obtain ⟨g1, g2⟩ := Bool.and_eq_true _ _ |>.mp h2
    obtain ⟨g2, g3⟩ := Bool.and_eq_true _ _ |>.mp g2
    have hne : ¬ q.1 = j := fun z => by rw [z] at g1; simp at g1
    refine ⟨u, m_ld_keep h3 hne ?_, h4⟩
    simp only [Bool.and_eq_true, Bool.not_eq_true', beq_eq_false_iff_ne, ne_eq]
    refine ⟨hne, ?_⟩
    rcases Bool.or_eq_true _ _ |>.mp g3 with g | g
    · have : ¬ q.1 + 1 = j := fun z => by rw [z] at g; simp at g
      simp [this]
    · have := v_cat1 h4 g
      simp [this]
theorem l_put_ok2 {ρ : List Int} {j : Nat} {a : A_V} {v : Value} {ls : List (Nat × A_V)} {vs : List (Nat × Value)} (h : l_ok ρ ls vs) (hv : v_ok ρ a v) : l_ok ρ (l_put j a true ls) (m_st2 j v vs) := by
  intro q hq
  rcases List.mem_cons.mp hq with rfl | hq
  · exact ⟨v, m_ld_self, hv⟩
  · obtain ⟨h1, h2⟩ := List.mem_filter.mp hq
    obtain ⟨u, h3, h4⟩ := h q h1
    obtain ⟨g1, g2⟩ := Bool.and_eq_true _ _ |>.mp h2
    obtain ⟨g2, g3⟩ := Bool.and_eq_true _ _ |>.mp g2
    have hne : ¬ q.1 = j := fun z => by rw [z] at g1; simp at g1
    have hne2 : ¬ q.1 = j + 1 := fun z => by rw [z] at g2; simp at g2
    refine ⟨u, m_ld_keep h3 hne ?_, h4⟩
    simp only [Bool.and_eq_true, Bool.not_eq_true', beq_eq_false_iff_ne, ne_eq]
    refine ⟨hne, hne2, ?_⟩
    rcases Bool.or_eq_true _ _ |>.mp g3 with g | g
    · have : ¬ q.1 + 1 = j := fun z => by rw [z] at g; simp at g
      simp [this]
    · have := v_cat1 h4 g
      simp [this]
theorem lv_st1 {j : Nat} {v : Value} {vs : List (Nat × Value)} (h : ∀ q ∈ vs, m_vOk h_N q.2) (hv : m_vOk h_N v) : ∀ q ∈ m_st1 j v vs, m_vOk h_N q.2 := fun q hq => by
  rcases List.mem_cons.mp hq with rfl | hq
  · exact hv
  · exact h q (List.mem_filter.mp hq).1
theorem lv_st2 {j : Nat} {v : Value} {vs : List (Nat × Value)} (h : ∀ q ∈ vs, m_vOk h_N q.2) (hv : m_vOk h_N v) : ∀ q ∈ m_st2 j v vs, m_vOk h_N q.2 := fun q hq => by
  rcases List.mem_cons.mp hq with rfl | hq
  · exact hv
  · exact h q (List.mem_filter.mp hq).1
/-- the stack -/
theorem s_one {ρ : List Int} {a : A_V} {r : List A_V} {stC : List Value} (h : s_ok ρ (a :: r) stC) : ∃ v stC', stC = v :: stC' ∧ v_ok ρ a v ∧ s_ok ρ r stC' := by
  cases stC with
  | nil => exact absurd h id
  | cons v t => exact ⟨v, t, rfl, h.1, h.2⟩
theorem s_int {ρ : List Int} {a : A_V} {r : List A_V} {stC : List Value} (h : s_ok ρ (a :: r) stC) (ia : a_isI a = true) : ∃ x stC', stC = .int x :: stC' ∧ a_ev ρ a = some x.toInt ∧ s_ok ρ r stC' := by
  obtain ⟨v, t, h1, h2, h3⟩ := s_one h
  obtain ⟨x, rfl, h4⟩ := v_int h2 ia
  exact ⟨x, t, h1, h4, h3⟩
theorem s_long {ρ : List Int} {a : A_V} {r : List A_V} {stC : List Value} (h : s_ok ρ (a :: r) stC) (ia : a_isL a = true) : ∃ x stC', stC = .long x :: stC' ∧ a_ev ρ a = some x.toInt ∧ s_ok ρ r stC' := by
  obtain ⟨v, t, h1, h2, h3⟩ := s_one h
  obtain ⟨x, rfl, h4⟩ := v_long h2 ia
  exact ⟨x, t, h1, h4, h3⟩
theorem s_ref {ρ : List Int} {a : A_V} {r : List A_V} {stC : List Value} (h : s_ok ρ (a :: r) stC) (ia : a_isR a = true) : ∃ stC', stC = .ref a.2.1 :: stC' ∧ s_ok ρ r stC' := by
  obtain ⟨v, t, h1, h2, h3⟩ := s_one h
  exact ⟨t, by rw [h1, v_ref h2 ia], h3⟩
theorem s_two {ρ : List Int} {a b : A_V} {r : List A_V} {stC : List Value} (h : s_ok ρ (b :: a :: r) stC) (ia : a_isI a = true) (ib : a_isI b = true) : ∃ x y stC', stC = .int y :: .int x :: stC' ∧ a_ev ρ a = some x.toInt ∧ a_ev ρ b = some y.toInt ∧ s_ok ρ r stC' := by
  obtain ⟨y, t, h1, h2, h3⟩ := s_int h ib
  obtain ⟨x, t', h4, h5, h6⟩ := s_int h3 ia
  exact ⟨x, y, t', by rw [h1, h4], h5, h2, h6⟩
theorem sv_tl {v : Value} {t : List Value} (h : ∀ u ∈ v :: t, m_vOk h_N u) : ∀ u ∈ t, m_vOk h_N u := fun u hu => h u (List.mem_cons_of_mem _ hu)
theorem sv_cons {v : Value} {t : List Value} (hv : m_vOk h_N v) (h : ∀ u ∈ t, m_vOk h_N u) : ∀ u ∈ v :: t, m_vOk h_N u := fun u hu => by
  rcases List.mem_cons.mp hu with rfl | hu
  · exact hv
  · exact h u hu
section ST
variable {p : Program} {l : Launch} {e : Env} {R : Room} {s : State} {m : MethodId} {args : Array Value} {below : List Frame} {meth : Method} {c : Code} {QQ : z_Q → State → Prop} {dC : Nat → ClassId} {dI : Nat → Nat → Nat} {aC : Nat → ClassId} {A : Nat → Prop} {n0 : Nat} {ad0 xa : Nat → Nat} {nL : Nat} {cc : ByteArray} {own : String} {X : Nat → Option (List Int32)} {Y : (Nat → Prop) → State → Heap → Prop}
variable {K : List (List a_K)} {Z : z_G → z_Q → Prop} {aux : List Nat}
variable {T fv B : Int} {ρ0 ρ : List Int} {σ0 σ : m_H} {md : A_D} {ce sl pc : Nat} {lsC : List (Nat × Value)} {stC : List Value} {E : A_E} {F : A_F} {ls : List (Nat × A_V)} {st : List A_V} {ov : A_O} {bu ph : A_L} {L : List A_S}
/-- two ints to one -/
def st_bin (g : A_E → A_F → A_V → A_V → A_R) (pc : Nat) (E : A_E) (F : A_F) (ls : List (Nat × A_V)) (st : List A_V) (ov : A_O) (bu ph : A_L) : Option (List A_S) := match st with
  | b :: a :: r => bif a_isI a && a_isI b then some [s_put (pc + 1) (g E F a b) ls r ov bu ph] else none
  | _ => none
theorem st_bin_ok (hg : g_ok T fv ρ0 σ0 md B ρ (pc, E, F, ls, st, ov, bu, ph) (σ, ce, sl, pc, lsC, stC)) {g : A_E → A_F → A_V → A_V → A_R} {f : Int32 → Int32 → Int32} (hs : st_bin g pc E F ls st ov bu ph = some L)
    (hf : ∀ (a b : A_V) (x y : Int32), a_isI a = true → a_isI b = true → a_ev ρ a = some x.toInt → a_ev ρ b = some y.toInt → r_ok B ρ (g E F a b) (f x y))
    (row : ∀ (x y : Int32) (t : List Value), mW K Z p l e R s m args below meth c QQ dC dI aC A n0 ad0 xa nL (σ, ce, sl, pc + 1, lsC, .int (f x y) :: t) → mW K Z p l e R s m args below meth c QQ dC dI aC A n0 ad0 xa nL (σ, ce, sl, pc, lsC, .int y :: .int x :: t)) (k : ∀ S ∈ L, ∀ (B : Int) (ρ : List Int) (g : m_G), g_ok T fv ρ0 σ0 md B ρ S g → mW K Z p l e R s m args below meth c QQ dC dI aC A n0 ad0 xa nL g) : mW K Z p l e R s m args below meth c QQ dC dI aC A n0 ad0 xa nL (σ, ce, sl, pc, lsC, stC) := by
  unfold st_bin at hs
  split at hs
  · rename_i b a r
    cases hc : a_isI a && a_isI b
    · rw [hc] at hs; cases hs
    · rw [hc] at hs
      cases hs
      obtain ⟨ia, ib⟩ := Bool.and_eq_true _ _ |>.mp hc
      obtain ⟨x, y, t, rfl, ha, hb, ht⟩ := s_two hg.s ia ib
      obtain ⟨ρ', hg'⟩ := g_put (pc' := pc + 1) hg (hf a b x y ia ib ha hb) ht (sv_tl (sv_tl hg.sv))
      exact row x y t (k _ List.mem_cons_self _ _ _ hg')
  · cases hs
def st_un (g : A_E → A_F → A_V → A_R) (pc : Nat) (E : A_E) (F : A_F) (ls : List (Nat × A_V)) (st : List A_V) (ov : A_O) (bu ph : A_L) : Option (List A_S) := match st with
  | a :: r => bif a_isI a then some [s_put (pc + 1) (g E F a) ls r ov bu ph] else none
  | _ => none
theorem st_un_ok (hg : g_ok T fv ρ0 σ0 md B ρ (pc, E, F, ls, st, ov, bu, ph) (σ, ce, sl, pc, lsC, stC)) {g : A_E → A_F → A_V → A_R} {f : Int32 → Int32} (hs : st_un g pc E F ls st ov bu ph = some L)
    (hf : ∀ (a : A_V) (x : Int32), a_isI a = true → a_ev ρ a = some x.toInt → r_ok B ρ (g E F a) (f x))
    (row : ∀ (x : Int32) (t : List Value), mW K Z p l e R s m args below meth c QQ dC dI aC A n0 ad0 xa nL (σ, ce, sl, pc + 1, lsC, .int (f x) :: t) → mW K Z p l e R s m args below meth c QQ dC dI aC A n0 ad0 xa nL (σ, ce, sl, pc, lsC, .int x :: t)) (k : ∀ S ∈ L, ∀ (B : Int) (ρ : List Int) (g : m_G), g_ok T fv ρ0 σ0 md B ρ S g → mW K Z p l e R s m args below meth c QQ dC dI aC A n0 ad0 xa nL g) : mW K Z p l e R s m args below meth c QQ dC dI aC A n0 ad0 xa nL (σ, ce, sl, pc, lsC, stC) := by
  unfold st_un at hs
  split at hs
  · rename_i a r
    cases ia : a_isI a
    · rw [ia] at hs; cases hs
    · rw [ia] at hs
      cases hs
      obtain ⟨x, t, rfl, ha, ht⟩ := s_int hg.s ia
      obtain ⟨ρ', hg'⟩ := g_put (pc' := pc + 1) hg (hf a x ia ha) ht (sv_tl hg.sv)
      exact row x t (k _ List.mem_cons_self _ _ _ hg')
  · cases hs
/-- a value that nothing else hangs on comes on the stack -/
def st_push (pc : Nat) (a : A_V) (E : A_E) (F : A_F) (ls : List (Nat × A_V)) (st : List A_V) (ov : A_O) (bu ph : A_L) : List A_S := [(pc, E, F, ls, a :: st, ov, bu, ph)]
theorem st_push_ok (hg : g_ok T fv ρ0 σ0 md B ρ (pc, E, F, ls, st, ov, bu, ph) (σ, ce, sl, pc, lsC, stC)) {pc' : Nat} {a : A_V} {v : Value} (hv : v_ok ρ a v) (hm : m_vOk h_N v) (hL : st_push pc' a E F ls st ov bu ph = L)
    (row : mW K Z p l e R s m args below meth c QQ dC dI aC A n0 ad0 xa nL (σ, ce, sl, pc', lsC, v :: stC) → mW K Z p l e R s m args below meth c QQ dC dI aC A n0 ad0 xa nL (σ, ce, sl, pc, lsC, stC)) (k : ∀ S ∈ L, ∀ (B : Int) (ρ : List Int) (g : m_G), g_ok T fv ρ0 σ0 md B ρ S g → mW K Z p l e R s m args below meth c QQ dC dI aC A n0 ad0 xa nL g) : mW K Z p l e R s m args below meth c QQ dC dI aC A n0 ad0 xa nL (σ, ce, sl, pc, lsC, stC) := by
  subst hL
  refine row (k _ List.mem_cons_self B ρ _ (hg.to r_ext.rf hg.e hg.f hg.l hg.lv ⟨hv, hg.s⟩ (sv_cons hm hg.sv) hg.o))
/-- loads and stores of the frame -/
def st_ld (t : Nat) (j pc n : Nat) (E : A_E) (F : A_F) (ls : List (Nat × A_V)) (st : List A_V) (ov : A_O) (bu ph : A_L) : Option (List A_S) := match l_get j ls with
  | some a => bif (match t with | 0 => a_isI a | 1 => a_isL a | _ => a_isR a) then some [(pc + n, E, F, ls, a :: st, ov, bu, ph)] else none
  | none => none
theorem m_ld_mem {i : Nat} {v : Value} {ls : List (Nat × Value)} (h : m_ld i ls = some v) : ∃ q ∈ ls, q.2 = v := by
  unfold m_ld at h
  obtain ⟨q, h1, h2⟩ := Option.map_eq_some_iff.mp h
  exact ⟨q, List.mem_of_find?_eq_some h1, h2⟩
theorem st_ld_ok (hg : g_ok T fv ρ0 σ0 md B ρ (pc, E, F, ls, st, ov, bu, ph) (σ, ce, sl, pc, lsC, stC)) {t j n : Nat} (hs : st_ld t j pc n E F ls st ov bu ph = some L)
    (row : ∀ v, m_ld j lsC = some v → (match t with | 0 => ∃ x, v = .int x | 1 => ∃ x, v = .long x | _ => ∃ x, v = .ref x) → mW K Z p l e R s m args below meth c QQ dC dI aC A n0 ad0 xa nL (σ, ce, sl, pc + n, lsC, v :: stC) → mW K Z p l e R s m args below meth c QQ dC dI aC A n0 ad0 xa nL (σ, ce, sl, pc, lsC, stC)) (k : ∀ S ∈ L, ∀ (B : Int) (ρ : List Int) (g : m_G), g_ok T fv ρ0 σ0 md B ρ S g → mW K Z p l e R s m args below meth c QQ dC dI aC A n0 ad0 xa nL g) : mW K Z p l e R s m args below meth c QQ dC dI aC A n0 ad0 xa nL (σ, ce, sl, pc, lsC, stC) := by
  unfold st_ld at hs
  split at hs
  · rename_i a ha
    obtain ⟨v, h1, h2⟩ := hg.l _ (l_get_in ha)
    obtain ⟨q, q1, q2⟩ := m_ld_mem h1
    have hm : m_vOk h_N v := by rw [← q2]; exact hg.lv q q1
    cases hc : (match t with | 0 => a_isI a | 1 => a_isL a | _ => a_isR a)
    · rw [hc] at hs; cases hs
    · rw [hc] at hs
      cases hs
      refine row v h1 ?_ (k _ List.mem_cons_self B ρ _ (hg.to r_ext.rf hg.e hg.f hg.l hg.lv ⟨h2, hg.s⟩ (sv_cons hm hg.sv) hg.o))
      match t, hc with
      | 0, hc => obtain ⟨x, h3, _⟩ := v_int h2 hc; exact ⟨x, h3⟩
      | 1, hc => obtain ⟨x, h3, _⟩ := v_long h2 hc; exact ⟨x, h3⟩
      | t + 2, hc => exact ⟨_, v_ref h2 hc⟩
  · cases hs
def st_st (t : Nat) (j nL pc n : Nat) (E : A_E) (F : A_F) (ls : List (Nat × A_V)) (st : List A_V) (ov : A_O) (bu ph : A_L) : Option (List A_S) := match st with
  | a :: r => bif (match t with | 0 => a_isI a && Nat.blt j nL | 1 => a_isL a && Nat.blt (j + 1) nL | _ => a_isR a && Nat.blt j nL) then some [(pc + n, E, F, l_put j a (Nat.beq t 1) ls, r, ov, bu, ph)] else none
  | _ => none
theorem st_st_ok (hg : g_ok T fv ρ0 σ0 md B ρ (pc, E, F, ls, st, ov, bu, ph) (σ, ce, sl, pc, lsC, stC)) {t j n nL0 : Nat} (hs : st_st t j nL0 pc n E F ls st ov bu ph = some L)
    (r0 : t = 0 → j < nL0 → ∀ (x : Int32) (r : List Value), mW K Z p l e R s m args below meth c QQ dC dI aC A n0 ad0 xa nL (σ, ce, sl, pc + n, m_st1 j (.int x) lsC, r) → mW K Z p l e R s m args below meth c QQ dC dI aC A n0 ad0 xa nL (σ, ce, sl, pc, lsC, .int x :: r))
    (r1 : t = 1 → j + 1 < nL0 → ∀ (x : Int64) (r : List Value), mW K Z p l e R s m args below meth c QQ dC dI aC A n0 ad0 xa nL (σ, ce, sl, pc + n, m_st2 j (.long x) lsC, r) → mW K Z p l e R s m args below meth c QQ dC dI aC A n0 ad0 xa nL (σ, ce, sl, pc, lsC, .long x :: r))
    (r2 : 2 ≤ t → j < nL0 → ∀ (x : Nat) (r : List Value), mW K Z p l e R s m args below meth c QQ dC dI aC A n0 ad0 xa nL (σ, ce, sl, pc + n, m_st1 j (.ref x) lsC, r) → mW K Z p l e R s m args below meth c QQ dC dI aC A n0 ad0 xa nL (σ, ce, sl, pc, lsC, .ref x :: r)) (k : ∀ S ∈ L, ∀ (B : Int) (ρ : List Int) (g : m_G), g_ok T fv ρ0 σ0 md B ρ S g → mW K Z p l e R s m args below meth c QQ dC dI aC A n0 ad0 xa nL g) : mW K Z p l e R s m args below meth c QQ dC dI aC A n0 ad0 xa nL (σ, ce, sl, pc, lsC, stC) := by
  unfold st_st at hs
  split at hs
  · rename_i a r
    obtain ⟨v, t', e1, h2, h3⟩ := s_one hg.s
    subst e1
    have hm : m_vOk h_N v := hg.sv v List.mem_cons_self
    cases hc : (match t with | 0 => a_isI a && Nat.blt j nL0 | 1 => a_isL a && Nat.blt (j + 1) nL0 | _ => a_isR a && Nat.blt j nL0)
    · rw [hc] at hs; cases hs
    · rw [hc] at hs
      cases hs
      have one : Nat.beq t 1 = false → mW K Z p l e R s m args below meth c QQ dC dI aC A n0 ad0 xa nL (σ, ce, sl, pc + n, m_st1 j v lsC, t') := fun z => by
        rw [z] at k
        exact k _ List.mem_cons_self B ρ _ (hg.to r_ext.rf hg.e hg.f (l_put_ok1 hg.l h2) (lv_st1 hg.lv hm) h3 (sv_tl hg.sv) hg.o)
      match t, hc, one with
      | 0, hc, one =>
        obtain ⟨c1, c2⟩ := Bool.and_eq_true _ _ |>.mp hc
        obtain ⟨x, rfl, _⟩ := v_int h2 c1
        exact r0 rfl (Nat.le_of_ble_eq_true c2) x t' (one rfl)
      | 1, hc, one =>
        obtain ⟨c1, c2⟩ := Bool.and_eq_true _ _ |>.mp hc
        obtain ⟨x, rfl, _⟩ := v_long h2 c1
        exact r1 rfl (Nat.le_of_ble_eq_true c2) x t' (k _ List.mem_cons_self B ρ _ (hg.to r_ext.rf hg.e hg.f (l_put_ok2 hg.l h2) (lv_st2 hg.lv hm) h3 (sv_tl hg.sv) hg.o))
      | t + 2, hc, one =>
        obtain ⟨c1, c2⟩ := Bool.and_eq_true _ _ |>.mp hc
        have := v_ref h2 c1
        subst this
        exact r2 (by omega) (Nat.le_of_ble_eq_true c2) _ t' (one rfl)
  · cases hs
def st_inc (j : Nat) (n : Int) (nL pc : Nat) (E : A_E) (F : A_F) (ls : List (Nat × A_V)) (st : List A_V) (ov : A_O) (bu ph : A_L) : Option (List A_S) := match l_get j ls with
  | some a => bif a_isI a && Nat.blt j nL then (match a_addF E F a n with | (E', F', a') => some [(pc + 3, E', F', l_put j a' false ls, st, ov, bu, ph)]) else none
  | none => none
theorem st_inc_ok (hg : g_ok T fv ρ0 σ0 md B ρ (pc, E, F, ls, st, ov, bu, ph) (σ, ce, sl, pc, lsC, stC)) {j nL0 : Nat} {n : Int} (hs : st_inc j n nL0 pc E F ls st ov bu ph = some L)
    (row : j < nL0 → ∀ x : Int32, m_ld j lsC = some (.int x) → mW K Z p l e R s m args below meth c QQ dC dI aC A n0 ad0 xa nL (σ, ce, sl, pc + 3, m_st1 j (.int (x + Int32.ofInt n)) lsC, stC) → mW K Z p l e R s m args below meth c QQ dC dI aC A n0 ad0 xa nL (σ, ce, sl, pc, lsC, stC)) (k : ∀ S ∈ L, ∀ (B : Int) (ρ : List Int) (g : m_G), g_ok T fv ρ0 σ0 md B ρ S g → mW K Z p l e R s m args below meth c QQ dC dI aC A n0 ad0 xa nL g) : mW K Z p l e R s m args below meth c QQ dC dI aC A n0 ad0 xa nL (σ, ce, sl, pc, lsC, stC) := by
  unfold st_inc at hs
  split at hs
  · rename_i a ha
    obtain ⟨v, h1, h2⟩ := hg.l _ (l_get_in ha)
    cases hc : a_isI a && Nat.blt j nL0
    · rw [hc] at hs; cases hs
    · rw [hc] at hs
      cases hs
      obtain ⟨c1, c2⟩ := Bool.and_eq_true _ _ |>.mp hc
      obtain ⟨x, rfl, h3⟩ := v_int h2 c1
      obtain ⟨ρ', g1, g2, g3, g4, g5⟩ := r_addk hg.e hg.f (k := n) c1 h3
      exact row (Nat.le_of_ble_eq_true c2) x h1 (k _ List.mem_cons_self B ρ' _ (hg.to g1 g2 g3 (l_put_ok1 (l_ok_ext g1 hg.l) (v_of_int g5 g4)) (lv_st1 hg.lv trivial) (s_ok_ext g1 _ _ hg.s) hg.sv (o_ok_ext g1 hg.o)))
  · cases hs
end ST
