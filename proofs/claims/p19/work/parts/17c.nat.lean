/-! Math.max, min, abs of ints, max of longs: the machine's own rows -/
def nt_ws : Nat → MethodName × ByteArray × Nat × Option FieldType := fun k => match k with
  | 0 => (Lib.Math.max.name, Lib.Math.max.code, 2, some .int)
  | 1 => (Lib.Math.min.name, Lib.Math.min.code, 2, some .int)
  | 2 => (Lib.Math.abs.name, Lib.Math.abs.code, 1, some .int)
  | _ => (Lib.MathLoose.max_long.x, Lib.MathLoose.max_long.code, 4, some .long)
theorem nt_ini : Cond.initialized "java/lang/Math" ∈ a_tb := a_in (k := 1) (i := 18) rfl rfl
theorem nt_w0 : Cond.static Lib.Math.max.name ∈ a_tb ∧ Cond.code Lib.Math.max.name Lib.Math.max.code 2 (some .int) ∈ a_tb := ⟨a_in (k := 3) (i := 237) rfl rfl, a_in (k := 3) (i := 238) rfl rfl⟩
theorem nt_w1 : Cond.static Lib.Math.min.name ∈ a_tb ∧ Cond.code Lib.Math.min.name Lib.Math.min.code 2 (some .int) ∈ a_tb := ⟨a_in (k := 4) (i := 0) rfl rfl, a_in (k := 4) (i := 1) rfl rfl⟩
theorem nt_w2 : Cond.static Lib.Math.abs.name ∈ a_tb ∧ Cond.code Lib.Math.abs.name Lib.Math.abs.code 1 (some .int) ∈ a_tb := ⟨a_in (k := 8) (i := 183) rfl rfl, a_in (k := 8) (i := 184) rfl rfl⟩
theorem nt_w3 : Cond.static Lib.MathLoose.max_long.x ∈ a_tb ∧ Cond.code Lib.MathLoose.max_long.x Lib.MathLoose.max_long.code 4 (some .long) ∈ a_tb := ⟨a_in (k := 5) (i := 140) rfl rfl, a_in (k := 5) (i := 141) rfl rfl⟩
def nt_nm : Nat → MethodName := fun k => match k with
  | 0 => Lib.Math.max.name
  | 1 => Lib.Math.min.name
  | 2 => Lib.Math.abs.name
  | _ => Lib.MathLoose.max_long.x
/-- the link's word -/
def k_nw (own : String) (x kd : Nat) : Prop := Cond.methodLink own x (nt_nm kd) ∈ a_tb
theorem z_max_ok (x y : Int32) : (if x.toInt < y.toInt then y.toInt else x.toInt) = (if x < y then y else x).toInt := by
  by_cases h : x < y
  · rw [if_pos h, if_pos (Int32.lt_iff_toInt_lt.mp h)]
  · rw [if_neg h, if_neg (fun z => h (Int32.lt_iff_toInt_lt.mpr z))]
theorem z_min_ok (x y : Int32) : (if y.toInt < x.toInt then y.toInt else x.toInt) = (if y < x then y else x).toInt := by
  by_cases h : y < x
  · rw [if_pos h, if_pos (Int32.lt_iff_toInt_lt.mp h)]
  · rw [if_neg h, if_neg (fun z => h (Int32.lt_iff_toInt_lt.mpr z))]
theorem z_abs_ok (x : Int32) : (if 0 ≤ x.toInt then x.toInt else z_sub 0 x.toInt) = (if 0 ≤ x then x else 0 - x).toInt := by
  by_cases h : 0 ≤ x
  · rw [if_pos h, if_pos (show (0 : Int) ≤ x.toInt from Int32.le_iff_toInt_le.mp h)]
  · rw [if_neg h, if_neg (show ¬ (0 : Int) ≤ x.toInt from fun z => h (Int32.le_iff_toInt_le.mpr z))]
    exact z_sub_ok 0 x
theorem z_maxl_ok (x y : Int64) : (if y.toInt < x.toInt then x.toInt else y.toInt) = (if y < x then x else y).toInt := by
  by_cases h : y < x
  · rw [if_pos h, if_pos (Int64.lt_iff_toInt_lt.mp h)]
  · rw [if_neg h, if_neg (fun z => h (Int64.lt_iff_toInt_lt.mpr z))]
section NV
variable {p : Program} {l : Launch} {e : Env} {R : Room} {s : State} {m : MethodId} {args : Array Value} {below : List Frame} {meth : Method} {c : Code} {QQ : State → Prop} {dC : Nat → ClassId} {dI : Nat → Nat → Nat} {aC : Nat → ClassId} {A : Nat → Prop} {n0 : Nat} {ad0 xa : Nat → Nat} {nL : Nat} {cc : ByteArray} {own : String} {X : Nat → Option (List Int32)} {Y : (Nat → Prop) → State → Heap → Prop}
variable {σ : m_H} {ce sl pc : Nat} {lsC : List (Nat × Value)} {stC : List Value}
theorem mV_mmax (hC : m_Ctx p s m args meth c cc nL own dC dI aC A xa X Y) {idx : Nat} {x y : Int32} (hd : decode cc pc = .ok (.invokestatic idx, 3)) (w : k_nw own idx 0) (hR : 1 ≤ R.frames ∧ 40 ≤ R.locals) (h8 : (stC.map fun v => v.category).sum ≤ 8) (hce : ce ≤ R.cells) (hsl : sl ≤ R.slots) (k : mV p l e R s m args below meth c QQ dC dI aC A n0 ad0 xa nL (σ, ce, sl, pc + 3, lsC, .int (if x < y then y else x) :: stC)) : mV p l e R s m args below meth c QQ dC dI aC A n0 ad0 xa nL (σ, ce, sl, pc, lsC, .int y :: .int x :: stC) := by
  intro ad H locs lsC h1 h2 h3 h4 h5 h6
  refine va_mmax hC.1 hC.2.1 (hC.2.2.1.trans h6.1.symm) hC.2.2.2.1 (m_ctb hC w) (m_ctb hC nt_w0.1) (m_ctb hC nt_ini) (m_ctb hC nt_w0.2) hR.1 ?_ hce hsl hd (k ad H locs lsC h1 h2 h3 h4 h5 h6)
  rw [m_cats]
  omega
theorem mV_mmin (hC : m_Ctx p s m args meth c cc nL own dC dI aC A xa X Y) {idx : Nat} {x y : Int32} (hd : decode cc pc = .ok (.invokestatic idx, 3)) (w : k_nw own idx 1) (hR : 1 ≤ R.frames ∧ 40 ≤ R.locals) (h8 : (stC.map fun v => v.category).sum ≤ 8) (hce : ce ≤ R.cells) (hsl : sl ≤ R.slots) (k : mV p l e R s m args below meth c QQ dC dI aC A n0 ad0 xa nL (σ, ce, sl, pc + 3, lsC, .int (if y < x then y else x) :: stC)) : mV p l e R s m args below meth c QQ dC dI aC A n0 ad0 xa nL (σ, ce, sl, pc, lsC, .int y :: .int x :: stC) := by
  intro ad H locs lsC h1 h2 h3 h4 h5 h6
  refine va_mmin hC.1 hC.2.1 (hC.2.2.1.trans h6.1.symm) hC.2.2.2.1 (m_ctb hC w) (m_ctb hC nt_w1.1) (m_ctb hC nt_ini) (m_ctb hC nt_w1.2) hR.1 ?_ hce hsl hd (k ad H locs lsC h1 h2 h3 h4 h5 h6)
  rw [m_cats]
  omega
theorem mV_mabs (hC : m_Ctx p s m args meth c cc nL own dC dI aC A xa X Y) {idx : Nat} {x : Int32} (hd : decode cc pc = .ok (.invokestatic idx, 3)) (w : k_nw own idx 2) (hR : 1 ≤ R.frames ∧ 40 ≤ R.locals) (h8 : (stC.map fun v => v.category).sum ≤ 8) (hce : ce ≤ R.cells) (hsl : sl ≤ R.slots) (k : mV p l e R s m args below meth c QQ dC dI aC A n0 ad0 xa nL (σ, ce, sl, pc + 3, lsC, .int (if 0 ≤ x then x else 0 - x) :: stC)) : mV p l e R s m args below meth c QQ dC dI aC A n0 ad0 xa nL (σ, ce, sl, pc, lsC, .int x :: stC) := by
  intro ad H locs lsC h1 h2 h3 h4 h5 h6
  refine va_mabs hC.1 hC.2.1 (hC.2.2.1.trans h6.1.symm) hC.2.2.2.1 (m_ctb hC w) (m_ctb hC nt_w2.1) (m_ctb hC nt_ini) (m_ctb hC nt_w2.2) hR.1 ?_ hce hsl hd (k ad H locs lsC h1 h2 h3 h4 h5 h6)
  rw [m_cats]
  omega
theorem mV_mmaxl (hC : m_Ctx p s m args meth c cc nL own dC dI aC A xa X Y) {idx : Nat} {x y : Int64} (hd : decode cc pc = .ok (.invokestatic idx, 3)) (w : k_nw own idx 3) (hR : 1 ≤ R.frames ∧ 40 ≤ R.locals) (h8 : (stC.map fun v => v.category).sum ≤ 8) (hce : ce ≤ R.cells) (hsl : sl ≤ R.slots) (k : mV p l e R s m args below meth c QQ dC dI aC A n0 ad0 xa nL (σ, ce, sl, pc + 3, lsC, .long (if y < x then x else y) :: stC)) : mV p l e R s m args below meth c QQ dC dI aC A n0 ad0 xa nL (σ, ce, sl, pc, lsC, .long y :: .long x :: stC) := by
  intro ad H locs lsC h1 h2 h3 h4 h5 h6
  refine va_mmax_long hC.1 hC.2.1 (hC.2.2.1.trans h6.1.symm) hC.2.2.2.1 (m_ctb hC w) (m_ctb hC nt_w3.1) (m_ctb hC nt_ini) (m_ctb hC nt_w3.2) hR.1 ?_ hce hsl hd (k ad H locs lsC h1 h2 h3 h4 h5 h6)
  rw [m_cats]
  omega
end NV
section NT
variable {p : Program} {l : Launch} {e : Env} {R : Room} {s : State} {m : MethodId} {args : Array Value} {below : List Frame} {meth : Method} {c : Code} {QQ : z_Q → State → Prop} {dC : Nat → ClassId} {dI : Nat → Nat → Nat} {aC : Nat → ClassId} {A : Nat → Prop} {n0 : Nat} {ad0 xa : Nat → Nat} {nL : Nat} {cc : ByteArray} {own : String} {X : Nat → Option (List Int32)} {Y : (Nat → Prop) → State → Heap → Prop}
variable {K : List (List a_K)} {Z : z_G → z_Q → Prop} {aux : List Nat}
variable {T fv B : Int} {ρ0 ρ : List Int} {σ0 σ : m_H} {md : A_D} {ce sl pc : Nat} {lsC : List (Nat × Value)} {stC : List Value} {E : A_E} {F : A_F} {ls : List (Nat × A_V)} {st : List A_V} {ov : A_O} {bu ph : A_L} {L : List A_S}
theorem mW_mmax (hC : m_Ctx p s m args meth c cc nL own dC dI aC A xa X Y) {idx xj xk : Nat} {x y : Int32} (hd : z_dx K cc pc (.invokestatic idx) 3 [0, xj, xk]) (w : k_nw own idx 0) (hR : 1 ≤ R.frames ∧ 40 ≤ R.locals) (h8 : (stC.map fun v => v.category).sum ≤ 8) (hce : ce ≤ R.cells) (hsl : sl ≤ R.slots) (k : mW K Z p l e R s m args below meth c QQ dC dI aC A n0 ad0 xa nL (σ, ce, sl, pc + 3, lsC, .int (if x < y then y else x) :: stC)) : mW K Z p l e R s m args below meth c QQ dC dI aC A n0 ad0 xa nL (σ, ce, sl, pc, lsC, .int y :: .int x :: stC) := fun hcl hz zl hl => mV_mmax hC hd.1 w hR h8 hce hsl (w_st hcl hd rfl (fun _ => z_pi (z_max_ok x y)) (k hcl hz zl hl))
theorem mW_mmin (hC : m_Ctx p s m args meth c cc nL own dC dI aC A xa X Y) {idx xj xk : Nat} {x y : Int32} (hd : z_dx K cc pc (.invokestatic idx) 3 [1, xj, xk]) (w : k_nw own idx 1) (hR : 1 ≤ R.frames ∧ 40 ≤ R.locals) (h8 : (stC.map fun v => v.category).sum ≤ 8) (hce : ce ≤ R.cells) (hsl : sl ≤ R.slots) (k : mW K Z p l e R s m args below meth c QQ dC dI aC A n0 ad0 xa nL (σ, ce, sl, pc + 3, lsC, .int (if y < x then y else x) :: stC)) : mW K Z p l e R s m args below meth c QQ dC dI aC A n0 ad0 xa nL (σ, ce, sl, pc, lsC, .int y :: .int x :: stC) := fun hcl hz zl hl => mV_mmin hC hd.1 w hR h8 hce hsl (w_st hcl hd rfl (fun _ => z_pi (z_min_ok x y)) (k hcl hz zl hl))
theorem mW_mabs (hC : m_Ctx p s m args meth c cc nL own dC dI aC A xa X Y) {idx xj xk : Nat} {x : Int32} (hd : z_dx K cc pc (.invokestatic idx) 3 [2, xj, xk]) (w : k_nw own idx 2) (hR : 1 ≤ R.frames ∧ 40 ≤ R.locals) (h8 : (stC.map fun v => v.category).sum ≤ 8) (hce : ce ≤ R.cells) (hsl : sl ≤ R.slots) (k : mW K Z p l e R s m args below meth c QQ dC dI aC A n0 ad0 xa nL (σ, ce, sl, pc + 3, lsC, .int (if 0 ≤ x then x else 0 - x) :: stC)) : mW K Z p l e R s m args below meth c QQ dC dI aC A n0 ad0 xa nL (σ, ce, sl, pc, lsC, .int x :: stC) := fun hcl hz zl hl => mV_mabs hC hd.1 w hR h8 hce hsl (w_st hcl hd rfl (fun _ => z_pi (z_abs_ok x)) (k hcl hz zl hl))
theorem mW_mmaxl (hC : m_Ctx p s m args meth c cc nL own dC dI aC A xa X Y) {idx xj xk : Nat} {x y : Int64} (hd : z_dx K cc pc (.invokestatic idx) 3 [3, xj, xk]) (w : k_nw own idx 3) (hR : 1 ≤ R.frames ∧ 40 ≤ R.locals) (h8 : (stC.map fun v => v.category).sum ≤ 8) (hce : ce ≤ R.cells) (hsl : sl ≤ R.slots) (k : mW K Z p l e R s m args below meth c QQ dC dI aC A n0 ad0 xa nL (σ, ce, sl, pc + 3, lsC, .long (if y < x then x else y) :: stC)) : mW K Z p l e R s m args below meth c QQ dC dI aC A n0 ad0 xa nL (σ, ce, sl, pc, lsC, .long y :: .long x :: stC) := fun hcl hz zl hl => mV_mmaxl hC hd.1 w hR h8 hce hsl (w_st hcl hd rfl (fun _ => z_pi (z_maxl_ok x y)) (k hcl hz zl hl))
def o_l {α : Type} : Option α → List α
  | some a => [a]
  | none => []
/-- the way on, with the result on the stack -/
def nt_to (pc : Nat) (ls : List (Nat × A_V)) (b : A_V) (r : List A_V) (ov : A_O) (bu ph : A_L) (q : Option (A_E × A_F)) : List A_S := match q with
  | some (E, F) => [(pc, E, F, ls, b :: r, ov, bu, ph)]
  | none => []
def nt_deep (E : A_E) (dp : A_L) (r : List A_V) : Bool := i_le 1 (l_lo E dp) && (match s_cat r with | some k => Nat.ble k 8 | none => false)
def st_nat (kd : Nat) (dp : A_L) (pc : Nat) (E : A_E) (F : A_F) (ls : List (Nat × A_V)) (st : List A_V) (ov : A_O) (bu ph : A_L) : Option (List A_S) := match kd, st with
  | 0, b :: a :: r => bif a_isI a && (a_isI b && nt_deep E dp r) then some (nt_to (pc + 3) ls b r ov bu ph (a_asm E F a b (-1)) ++ nt_to (pc + 3) ls a r ov bu ph (a_asm E F b a 0)) else none
  | 1, b :: a :: r => bif a_isI a && (a_isI b && nt_deep E dp r) then some (nt_to (pc + 3) ls b r ov bu ph (a_asm E F b a (-1)) ++ nt_to (pc + 3) ls a r ov bu ph (a_asm E F a b 0)) else none
  | 2, a :: r => bif a_isI a && nt_deep E dp r then some (nt_to (pc + 3) ls a r ov bu ph (a_asm E F (0, 0, 0) a 0) ++ (match a_asm E F a (0, 0, -1) 0 with
    | some (E', F') => [s_put (pc + 3) (a_sub E' F' (0, 0, 0) a) ls r ov bu ph]
    | none => [])) else none
  | 3, b :: a :: r => bif a_isL a && (a_isL b && nt_deep E dp r) then some [(pc + 3, (a_mkL E l_m l_M).1, F, ls, (a_mkL E l_m l_M).2 :: r, ov, bu, ph)] else none
  | _, _ => none
theorem nt_deep_ok {r : List A_V} {rc : List Value} {dp : A_L} {dc : Nat} {dv : Int} (he : e_ok B E ρ) (hx : r_ext ρ0 ρ) (hr : s_ok ρ r rc) (hdp : l_ev ρ0 dp = some dv) (hdv : dv ≤ (dc : Int)) (hR0 : dc ≤ R.frames ∧ 40 * dc ≤ R.locals) (h : nt_deep E dp r = true) : (1 ≤ R.frames ∧ 40 ≤ R.locals) ∧ (rc.map fun v => v.category).sum ≤ 8 := by
  obtain ⟨h1, h2⟩ := Bool.and_eq_true _ _ |>.mp h
  have h1 := i_le_iff.mp h1
  have h3 := l_lo_ok he (l_ev_ext hx hdp)
  refine ⟨by omega, ?_⟩
  split at h2
  · rename_i kk hkk
    rw [s_cat_ok _ _ _ hr hkk]
    exact Nat.le_of_ble_eq_true h2
  · cases h2
theorem st_nat_ok (hC : m_Ctx p s m args meth c cc nL own dC dI aC A xa X Y) {kd idx dc xj xk : Nat} {dp : A_L} {dv : Int} (hg : g_ok T fv ρ0 σ0 md B ρ (pc, E, F, ls, st, ov, bu, ph) (σ, ce, sl, pc, lsC, stC)) (hd : z_dx K cc pc (.invokestatic idx) 3 [kd, xj, xk]) (hw : k_nw own idx kd) (hdp : l_ev ρ0 dp = some dv) (hdv : dv ≤ (dc : Int)) (hR0 : dc ≤ R.frames ∧ 40 * dc ≤ R.locals)
    (hs : st_nat kd dp pc E F ls st ov bu ph = some L) (k : ∀ S ∈ L, ∀ (B : Int) (ρ : List Int) (g : m_G), g_ok T fv ρ0 σ0 md B ρ S g → mW K Z p l e R s m args below meth c QQ dC dI aC A n0 ad0 xa nL g) : mW K Z p l e R s m args below meth c QQ dC dI aC A n0 ad0 xa nL (σ, ce, sl, pc, lsC, stC) := by
  have he : e_ok B E ρ := hg.e
  have hf : f_ok F ρ := hg.f
  have hce : ce = 0 := hg.ce
  have hsl : sl = 0 := hg.sl
  subst hce; subst hsl
  unfold st_nat at hs
  split at hs
  · rename_i b a r
    cases hc : a_isI a && (a_isI b && nt_deep E dp r)
    · rw [hc] at hs; cases hs
    · rw [hc] at hs
      cases hs
      obtain ⟨c1, q1⟩ := Bool.and_eq_true _ _ |>.mp hc
      obtain ⟨c2, c3⟩ := Bool.and_eq_true _ _ |>.mp q1
      obtain ⟨y, t1, e1, hb, ht1⟩ := s_int hg.s c2
      have e1 : stC = .int y :: t1 := e1
      obtain ⟨x, t2, e2, ha, ht2⟩ := s_int ht1 c1
      subst e2
      subst e1
      have hsv : ∀ v ∈ t2, m_vOk h_N v := fun v hv => hg.sv v (List.mem_cons_of_mem _ (List.mem_cons_of_mem _ hv))
      obtain ⟨d1, d2⟩ := nt_deep_ok he hg.x0 ht2 hdp hdv hR0 c3
      refine mW_mmax hC hd hw d1 d2 (Nat.zero_le _) (Nat.zero_le _) ?_
      by_cases hxy : x < y
      · rw [if_pos hxy]
        have h1 := i32_lt.mp hxy
        obtain ⟨⟨E1, F1⟩, g1, g2, g3⟩ := a_asm_ok he hf (k := -1) ha hb (by omega)
        exact k _ (List.mem_append_left _ (by rw [g1]; exact List.mem_cons_self)) B ρ _ (hg.to (st' := b :: r) r_ext.rf g2 g3 hg.l hg.lv ⟨v_of_int c2 hb, ht2⟩ (fun v hv => by
          rcases List.mem_cons.mp hv with rfl | hv
          · trivial
          · exact hsv v hv) hg.o)
      · rw [if_neg hxy]
        have h1 : ¬ x.toInt < y.toInt := fun z => hxy (i32_lt.mpr z)
        obtain ⟨⟨E1, F1⟩, g1, g2, g3⟩ := a_asm_ok he hf (k := 0) hb ha (by omega)
        exact k _ (List.mem_append_right _ (by rw [g1]; exact List.mem_cons_self)) B ρ _ (hg.to (st' := a :: r) r_ext.rf g2 g3 hg.l hg.lv ⟨v_of_int c1 ha, ht2⟩ (fun v hv => by
          rcases List.mem_cons.mp hv with rfl | hv
          · trivial
          · exact hsv v hv) hg.o)
  · rename_i b a r
    cases hc : a_isI a && (a_isI b && nt_deep E dp r)
    · rw [hc] at hs; cases hs
    · rw [hc] at hs
      cases hs
      obtain ⟨c1, q1⟩ := Bool.and_eq_true _ _ |>.mp hc
      obtain ⟨c2, c3⟩ := Bool.and_eq_true _ _ |>.mp q1
      obtain ⟨y, t1, e1, hb, ht1⟩ := s_int hg.s c2
      have e1 : stC = .int y :: t1 := e1
      obtain ⟨x, t2, e2, ha, ht2⟩ := s_int ht1 c1
      subst e2
      subst e1
      have hsv : ∀ v ∈ t2, m_vOk h_N v := fun v hv => hg.sv v (List.mem_cons_of_mem _ (List.mem_cons_of_mem _ hv))
      obtain ⟨d1, d2⟩ := nt_deep_ok he hg.x0 ht2 hdp hdv hR0 c3
      refine mW_mmin hC hd hw d1 d2 (Nat.zero_le _) (Nat.zero_le _) ?_
      by_cases hxy : y < x
      · rw [if_pos hxy]
        have h1 := i32_lt.mp hxy
        obtain ⟨⟨E1, F1⟩, g1, g2, g3⟩ := a_asm_ok he hf (k := -1) hb ha (by omega)
        exact k _ (List.mem_append_left _ (by rw [g1]; exact List.mem_cons_self)) B ρ _ (hg.to (st' := b :: r) r_ext.rf g2 g3 hg.l hg.lv ⟨v_of_int c2 hb, ht2⟩ (fun v hv => by
          rcases List.mem_cons.mp hv with rfl | hv
          · trivial
          · exact hsv v hv) hg.o)
      · rw [if_neg hxy]
        have h1 : ¬ y.toInt < x.toInt := fun z => hxy (i32_lt.mpr z)
        obtain ⟨⟨E1, F1⟩, g1, g2, g3⟩ := a_asm_ok he hf (k := 0) ha hb (by omega)
        exact k _ (List.mem_append_right _ (by rw [g1]; exact List.mem_cons_self)) B ρ _ (hg.to (st' := a :: r) r_ext.rf g2 g3 hg.l hg.lv ⟨v_of_int c1 ha, ht2⟩ (fun v hv => by
          rcases List.mem_cons.mp hv with rfl | hv
          · trivial
          · exact hsv v hv) hg.o)
  · rename_i a r
    cases hc : a_isI a && nt_deep E dp r
    · rw [hc] at hs; cases hs
    · rw [hc] at hs
      cases hs
      obtain ⟨c1, c3⟩ := Bool.and_eq_true _ _ |>.mp hc
      obtain ⟨x, t2, e2, ha, ht2⟩ := s_int hg.s c1
      have e2 : stC = .int x :: t2 := e2
      subst e2
      have hsv : ∀ v ∈ t2, m_vOk h_N v := fun v hv => hg.sv v (List.mem_cons_of_mem _ hv)
      obtain ⟨d1, d2⟩ := nt_deep_ok he hg.x0 ht2 hdp hdv hR0 c3
      refine mW_mabs hC hd hw d1 d2 (Nat.zero_le _) (Nat.zero_le _) ?_
      by_cases hx0 : 0 ≤ x
      · rw [if_pos hx0]
        have h1 : 0 ≤ x.toInt := by
          have := Int32.le_iff_toInt_le.mp hx0
          rwa [i32_0] at this
        obtain ⟨⟨E1, F1⟩, g1, g2, g3⟩ := a_asm_ok he hf (a := (0, 0, 0)) (x := 0) (k := 0) rfl ha (by omega)
        exact k _ (List.mem_append_left _ (by rw [g1]; exact List.mem_cons_self)) B ρ _ (hg.to (st' := a :: r) r_ext.rf g2 g3 hg.l hg.lv ⟨v_of_int c1 ha, ht2⟩ (fun v hv => by
          rcases List.mem_cons.mp hv with rfl | hv
          · trivial
          · exact hsv v hv) hg.o)
      · rw [if_neg hx0]
        have h1 : x.toInt ≤ -1 := by
          have h2 : ¬ (0 : Int32).toInt ≤ x.toInt := fun z => hx0 (Int32.le_iff_toInt_le.mpr z)
          rw [i32_0] at h2
          omega
        obtain ⟨⟨E1, F1⟩, g1, g2, g3⟩ := a_asm_ok he hf (b := (0, 0, -1)) (y := -1) (k := 0) ha rfl (by omega)
        have hg1 : g_ok T fv ρ0 σ0 md B ρ (pc, E1, F1, ls, a :: r, ov, bu, ph) (σ, 0, 0, pc, lsC, .int x :: t2) := hg.to r_ext.rf g2 g3 hg.l hg.lv ⟨v_of_int c1 ha, ht2⟩ hg.sv hg.o
        have hr : r_ok B ρ (a_sub E1 F1 (0, 0, 0) a) (0 - x) := a_sub_ok g2 g3 rfl c1 (x := 0) (y := x) (by rw [i32_0]; rfl) ha
        obtain ⟨ρ', hq⟩ := g_put (pc' := pc + 3) hg1 hr ht2 hsv
        exact k _ (List.mem_append_right _ (by rw [g1]; exact List.mem_cons_self)) B ρ' _ hq
  · rename_i b a r
    cases hc : a_isL a && (a_isL b && nt_deep E dp r)
    · rw [hc] at hs; cases hs
    · rw [hc] at hs
      cases hs
      obtain ⟨c1, q1⟩ := Bool.and_eq_true _ _ |>.mp hc
      obtain ⟨c2, c3⟩ := Bool.and_eq_true _ _ |>.mp q1
      obtain ⟨y, t1, e1, hb, ht1⟩ := s_long hg.s c2
      have e1 : stC = .long y :: t1 := e1
      obtain ⟨x, t2, e2, ha, ht2⟩ := s_long ht1 c1
      subst e2
      subst e1
      have hsv : ∀ v ∈ t2, m_vOk h_N v := fun v hv => hg.sv v (List.mem_cons_of_mem _ (List.mem_cons_of_mem _ hv))
      obtain ⟨d1, d2⟩ := nt_deep_ok he hg.x0 ht2 hdp hdv hR0 c3
      refine mW_mmaxl hC hd hw d1 d2 (Nat.zero_le _) (Nat.zero_le _) ?_
      generalize (if y < x then x else y) = z
      obtain ⟨ρ', g1, g2, g3, g4⟩ := a_mkL_ok he (lo := l_m) (hi := l_M) z (i64_rng z)
      exact k _ List.mem_cons_self B ρ' _ (hg.to g1 g2 (f_ok_ext g1 hf) (l_ok_ext g1 hg.l) hg.lv ⟨v_of_long g4 g3, s_ok_ext g1 _ _ ht2⟩ (fun v hv => by
          rcases List.mem_cons.mp hv with rfl | hv
          · trivial
          · exact hsv v hv) (o_ok_ext g1 hg.o))
  · cases hs
end NT
