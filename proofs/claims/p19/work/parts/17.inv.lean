/-! A CALL in one instruction -/
noncomputable def c_sem (l : Launch) (X : Nat → Option (List Int32)) (Y : (Nat → Prop) → State → Heap → Prop) (xa : Nat → Nat) (d : Nat) (C : A_C) : Prop := match C with
  | (y, E0, args, ov0, mc, tau, dep, alts, _, _) => ∀ (q : a_M), a_mt[y]? = some q → ∀ (ρ0 : List Int) (M z dz : Int) (σ : m_H) (vs : List Value), e_ok M E0 ρ0 → 0 ≤ M → h_ok M σ → l_ev ρ0 tau = some z → 0 ≤ z → M + z ≤ 1073741824 → l_ev ρ0 dep = some dz → dz ≤ (d : Int) → o_ok ρ0 ov0 σ → s_ok ρ0 args vs → (∀ v ∈ vs, m_vOk h_N v) →
    m_K y l X Y xa d q.1 q.2.1 q.2.2.1 q.2.2.2 σ vs (c_post alts mc (M + z) ρ0 σ) 0 0
theorem s_app {ρ : List Int} : ∀ (l : List A_V) (m : List Value) (l' : List A_V) (m' : List Value), s_ok ρ l m → s_ok ρ l' m' → s_ok ρ (l ++ l') (m ++ m')
  | [], [], _, _, _, h => h
  | [], _ :: _, _, _, h, _ => absurd h id
  | _ :: _, [], _, _, h, _ => absurd h id
  | _ :: l, _ :: m, l', m', h, h2 => ⟨h.1, s_app l m l' m' h.2 h2⟩
theorem s_rev {ρ : List Int} : ∀ (l : List A_V) (m : List Value), s_ok ρ l m → s_ok ρ l.reverse m.reverse
  | [], [], h => h
  | [], _ :: _, h => absurd h id
  | _ :: _, [], h => absurd h id
  | a :: l, v :: m, h => by
    rw [List.reverse_cons, List.reverse_cons]
    exact s_app _ _ _ _ (s_rev l m h.2) ⟨h.1, trivial⟩
theorem s_cutn {ρ : List Int} : ∀ (n : Nat) (l : List A_V) (m : List Value), s_ok ρ l m → s_ok ρ (l.take n) (m.take n) ∧ s_ok ρ (l.drop n) (m.drop n)
  | 0, l, m, h => ⟨by simp only [List.take_zero]; trivial, h⟩
  | _ + 1, [], [], h => ⟨h, h⟩
  | _ + 1, [], _ :: _, h => absurd h id
  | _ + 1, _ :: _, [], h => absurd h id
  | n + 1, a :: l, v :: m, h => by
    obtain ⟨h1, h2⟩ := s_cutn n l m h.2
    exact ⟨⟨h.1, h1⟩, h2⟩
theorem s_len {ρ : List Int} : ∀ (l : List A_V) (m : List Value), s_ok ρ l m → l.length = m.length
  | [], [], _ => rfl
  | [], _ :: _, h => absurd h id
  | _ :: _, [], h => absurd h id
  | _ :: l, _ :: m, h => by simp [s_len l m h.2]
/-- the stack's words -/
def s_cat : List A_V → Option Nat
  | [] => some 0
  | a :: l => match s_cat l with
    | some n => bif a_c1 a then some (n + 1) else bif a_isL a then some (n + 2) else none
    | none => none
theorem s_cat_ok {ρ : List Int} : ∀ (l : List A_V) (m : List Value) (n : Nat), s_ok ρ l m → s_cat l = some n → (m.map fun v => v.category).sum = n
  | [], [], n, _, h => by cases h; rfl
  | [], _ :: _, _, h, _ => absurd h id
  | _ :: _, [], _, h, _ => absurd h id
  | a :: l, v :: m, n, h, hc => by
    unfold s_cat at hc
    split at hc
    · rename_i k hk
      have ih := s_cat_ok l m k h.2 hk
      cases h1 : a_c1 a
      · rw [h1] at hc
        cases h2 : a_isL a
        · rw [h2] at hc; cases hc
        · rw [h2] at hc
          cases hc
          have := v_cat2 h.1 h2
          simp only [List.map_cons, List.sum_cons]
          omega
      · rw [h1] at hc
        cases hc
        have := v_cat1 h.1 h1
        simp only [List.map_cons, List.sum_cons]
        omega
    · cases hc
def o_first {α β : Type} (f : α → Option β) : List α → Option β
  | [] => none
  | a :: l => match f a with
    | some b => some b
    | none => o_first f l
theorem o_first_ok {α β : Type} {f : α → Option β} {b : β} : ∀ {l : List α}, o_first f l = some b → ∃ a ∈ l, f a = some b
  | [], h => by cases h
  | a :: l, h => by
    unfold o_first at h
    split at h
    · rename_i b' hb
      cases h
      exact ⟨a, List.mem_cons_self, hb⟩
    · obtain ⟨c, c1, c2⟩ := o_first_ok h
      exact ⟨c, List.mem_cons_of_mem _ c1, c2⟩
/-- is the call of the kind that the instruction is for -/
def st_rcv (kd ci ne : Nat) (i : Jvm.ClassFile.Instr) (acts : List A_V) : Bool := match kd, i, acts with
  | 0, .invokevirtual _, a :: _ => a_isR a && (Nat.beq ne 0 && (Nat.blt a.2.1 h_N && (decide (h_kd a.2.1 = .inr ci) && Nat.blt ci 14)))
  | 1, .invokestatic _, _ => true
  | _, _, _ => false
def st_in1 (md : A_D) (dp : A_L) (kd ci np ne : Nat) (i : Jvm.ClassFile.Instr) (pc : Nat) (E : A_E) (F : A_F) (ls : List (Nat × A_V)) (st : List A_V) (ov : A_O) (bu ph : A_L) (C : A_C) : Option (List A_S) :=
  bif Nat.beq C.2.2.1.length (bif Nat.beq kd 1 then np else np + 1) && (Nat.ble C.2.2.1.length st.length && (st_rcv kd ci ne i (st.take C.2.2.1.length).reverse && (match s_cat (st.drop C.2.2.1.length) with | some k => Nat.ble k 8 | none => false)))
  then c_call (pc + 3) md dp C E F ls (st.take C.2.2.1.length).reverse (st.drop C.2.2.1.length) ov bu ph else none
def st_inv (cs : Nat → List A_C) (md : A_D) (dp : A_L) (i : Jvm.ClassFile.Instr) (y ne : Nat) (pc : Nat) (E : A_E) (F : A_F) (ls : List (Nat × A_V)) (st : List A_V) (ov : A_O) (bu ph : A_L) : Option (List A_S) := match a_mw[y]? with
  | some (kd, ci, _, _, _, _, _, _, np) => o_first (st_in1 md dp kd ci np ne i pc E F ls st ov bu ph) (cs y)
  | none => none
theorem a_R_cls {ci : Nat} {r : vw_C} (h : vwCl[ci]? = some r) : r.1 = a_R ci := by
  have hl : ci < 14 := (List.getElem?_eq_some_iff.mp h).1
  rcases (show ci = 0 ∨ ci = 1 ∨ ci = 2 ∨ ci = 3 ∨ ci = 4 ∨ ci = 5 ∨ ci = 6 ∨ ci = 7 ∨ ci = 8 ∨ ci = 9 ∨ ci = 10 ∨ ci = 11 ∨ ci = 12 ∨ ci = 13 by omega) with rfl | rfl | rfl | rfl | rfl | rfl | rfl | rfl | rfl | rfl | rfl | rfl | rfl | rfl <;> (cases h; rfl)
section IV
variable {p : Program} {l : Launch} {e : Env} {R : Room} {s : State} {m : MethodId} {args : Array Value} {below : List Frame} {meth : Method} {c : Code} {QQ : z_Q → State → Prop} {dC : Nat → ClassId} {dI : Nat → Nat → Nat} {aC : Nat → ClassId} {A : Nat → Prop} {n0 : Nat} {ad0 xa : Nat → Nat} {nL : Nat} {cc : ByteArray} {own : String} {X : Nat → Option (List Int32)} {Y : (Nat → Prop) → State → Heap → Prop}
variable {K : List (List a_K)} {Z : z_G → z_Q → Prop} {aux : List Nat}
variable {T fv B : Int} {ρ0 ρ : List Int} {σ0 σ : m_H} {md : A_D} {ce sl pc : Nat} {lsC : List (Nat × Value)} {stC : List Value} {E : A_E} {F : A_F} {ls : List (Nat × A_V)} {st : List A_V} {ov : A_O} {bu ph : A_L} {L : List A_S}
theorem st_inv_ok (hC : m_Ctx p s m args meth c cc nL own dC dI aC A xa X Y) (hY : m_Yok Y) (hT : T ≤ 1073741824) {cs : Nat → List A_C} {dp : A_L} {dc : Nat} {dv : Int} {i : Jvm.ClassFile.Instr} {y ne idx : Nat} (hi : i = .invokevirtual idx ∨ i = .invokestatic idx) (hg : g_ok T fv ρ0 σ0 md B ρ (pc, E, F, ls, st, ov, bu, ph) (σ, ce, sl, pc, lsC, stC))
    {xj xw : Nat} (hd : z_dx K cc pc i 3 [xj, y, xw, ne]) (hlk : k_lk own idx y ne) (hcy : ∀ C ∈ cs y, C.1 = y) (hcs : ∀ d, dc = d + 1 → ∀ C ∈ cs y, c_sem l X Y xa d C) (hdp : l_ev ρ0 dp = some dv) (hdv : dv ≤ (dc : Int)) (hR0 : dc ≤ R.frames ∧ 40 * dc ≤ R.locals) (hn0 : n0 ≤ h_N)
    (hs : st_inv cs md dp i y ne pc E F ls st ov bu ph = some L) (k : ∀ S ∈ L, ∀ (B : Int) (ρ : List Int) (g : m_G), g_ok T fv ρ0 σ0 md B ρ S g → mW K Z p l e R s m args below meth c QQ dC dI aC A n0 ad0 xa nL g) : mW K Z p l e R s m args below meth c QQ dC dI aC A n0 ad0 xa nL (σ, ce, sl, pc, lsC, stC) := by
  have hce : ce = 0 := hg.ce
  have hsl : sl = 0 := hg.sl
  subst hce
  subst hsl
  obtain ⟨hB0, zz, zz1, zz2, zz3⟩ := hg.bu
  have hB : B ≤ 1073741824 := by omega
  unfold st_inv at hs
  split at hs
  · rename_i kd ci x1 x2 x3 x4 x5 x6 np hmw
    obtain ⟨C, hC1, hC2⟩ := o_first_ok hs
    have hCy := hcy C hC1
    obtain ⟨q, hq, w1, w1n⟩ := hlk
    obtain ⟨yc, y20, yst, yin, ysel, -, yini, ymh, ynp⟩ := a_mw_at hq hmw
    obtain ⟨cy, E0, cargs, ov0, mc, tau, dep, alts, cuts, ph0⟩ := C
    simp only at hCy
    subst hCy
    unfold st_in1 at hC2
    simp only at hC2
    cases hck : Nat.beq cargs.length (bif Nat.beq kd 1 then np else np + 1) && (Nat.ble cargs.length st.length && (st_rcv kd ci ne i (st.take cargs.length).reverse && (match s_cat (st.drop cargs.length) with | some k => Nat.ble k 8 | none => false)))
    · rw [hck] at hC2; cases hC2
    · rw [hck] at hC2
      simp only [cond_true] at hC2
      obtain ⟨k1b, hk1⟩ := Bool.and_eq_true _ _ |>.mp hck
      obtain ⟨k2b, hk2⟩ := Bool.and_eq_true _ _ |>.mp hk1
      obtain ⟨k3, k4⟩ := Bool.and_eq_true _ _ |>.mp hk2
      clear hck hk1 hk2
      have k1 := Nat.eq_of_beq_eq_true k1b
      have k2 := Nat.le_of_ble_eq_true k2b
      clear k1b k2b
      obtain ⟨t1, t2⟩ := s_cutn cargs.length st stC hg.s
      have t3 := s_rev _ _ t1
      have hsv2 : ∀ v ∈ stC.drop cargs.length, m_vOk h_N v := fun v hv => hg.sv v (List.mem_of_mem_drop hv)
      have hsv1 : ∀ v ∈ (stC.take cargs.length).reverse, m_vOk h_N v := fun v hv => hg.sv v (List.mem_of_mem_take (List.mem_reverse.mp hv))
      obtain ⟨ρc, z, dz, a1, a2, a3, a4, a5, a5b, a6, a7, a8, a9⟩ := c_call_ok hB hg t3 t2 hsv2 hdp hC2
      obtain ⟨d, hd1⟩ : ∃ d, dc = d + 1 := ⟨dc - 1, by omega⟩
      have hsem := hcs d hd1 _ hC1
      have hR : d + 1 ≤ R.frames ∧ 40 * d + 40 ≤ R.locals := by omega
      have hM := hsem q hq ρc B z dz σ _ a1 hB0 hg.h a2 a3 (by omega) a5 (by omega) a7 a8 hsv1
      have hlen : stC.length = st.length := (s_len _ _ hg.s).symm
      have hvl : ((stC.take cargs.length).reverse).length = cargs.length := by simp; omega
      have hcat : ((stC.drop cargs.length).map fun v => v.category).sum ≤ 8 := by
        split at k4
        · rename_i kk hkk
          rw [s_cat_ok _ _ _ t2 hkk]
          exact Nat.le_of_ble_eq_true k4
        · cases k4
      have hσl : σ.length = h_N := hg.h.1
      have ho : ∀ v ∈ stC.drop cargs.length, m_vOk σ.length v := by rw [hσl]; exact hsv2
      have hol : ∀ u ∈ lsC, m_vOk σ.length u.2 := by rw [hσl]; exact hg.lv
      have hkk : ∀ (r : Option Value) (σ' : m_H), c_post alts mc (B + z) ρc σ r σ' → mW K Z p l e R s m args below meth c QQ dC dI aC A n0 ad0 xa nL (σ', 0 + 0, 0 + 0, pc + 3, lsC, r.toList ++ stC.drop cargs.length) := fun r σ' hp => by
        obtain ⟨S, hS, B', ρ', hg'⟩ := a9 r σ' hp
        exact k S hS B' ρ' _ hg'
      have hstk : stC = (stC.take cargs.length).reverse.reverse ++ stC.drop cargs.length := by rw [List.reverse_reverse, List.take_append_drop]
      generalize hvs : (stC.take cargs.length).reverse = vs at hM hvl hstk t3
      have hc0 : 0 + 0 ≤ R.cells := Nat.zero_le _
      have hs0 : 0 + 0 ≤ R.slots := Nat.zero_le _
      have w5 : Cond.code q.1 q.2.1 q.2.2.1 q.2.2.2 ∈ a_tb := a_mt_in q (List.mem_of_getElem? hq)
      unfold st_rcv at k3
      split at k3
      · rename_i a arest hacts
        rcases hi with hi | hi
        · cases hi
          obtain ⟨c1, k5⟩ := Bool.and_eq_true _ _ |>.mp k3
          obtain ⟨c2, k6⟩ := Bool.and_eq_true _ _ |>.mp k5
          obtain ⟨c3, k7⟩ := Bool.and_eq_true _ _ |>.mp k6
          obtain ⟨c4, c5⟩ := Bool.and_eq_true _ _ |>.mp k7
          have c2 := Nat.eq_of_beq_eq_true c2
          have c3 : a.2.1 < h_N := Nat.le_of_ble_eq_true c3
          have c4 : h_kd a.2.1 = .inr ci := of_decide_eq_true c4
          have c5 : ci < 14 := Nat.le_of_ble_eq_true c5
          rw [hacts] at t3
          obtain ⟨as, e1, -⟩ := s_ref t3 c1
          subst e1
          obtain ⟨fs, h1, -, -⟩ := h_cell hg.h c3
          rw [c4] at h1
          have hcl : vwCl[ci]? = some (vwCl[ci]'c5) := List.getElem?_eq_getElem c5
          have hrc := a_R_cls hcl
          rw [hstk, List.reverse_cons, List.append_assoc]
          refine mW_callV hY hC (y := q.1) hd ?_ hM h1 hcl (yc.trans hrc.symm) (w1 c2) (yin (by decide)) ?_ ?_ w5 ymh ?_ hR y20 hc0 hs0 hcat (by rw [hσl]; exact hn0) ho hol hkk
          · unfold z_np
            rw [hmw]
            simp only [List.length_cons] at hvl
            have : Nat.beq 0 1 = false := rfl
            rw [this] at k1
            simp only [cond_false] at k1
            show np = as.length
            omega
          · have := ysel rfl
            rw [hrc, ← yc]; exact this
          · rw [hrc, ← yc]; exact yini
          · rw [ynp]
            simp only [List.length_cons] at hvl
            have : Nat.beq 0 1 = false := rfl
            rw [this] at k1
            simp only [cond_false] at k1
            congr 1
            omega
        · cases hi
      · rcases hi with hi | hi
        · cases hi
        · cases hi
          have : Nat.beq 1 1 = true := rfl
          rw [this] at k1
          simp only [cond_true] at k1
          have hlen2 : (parseMethodDescriptor q.1.desc).map (fun d => d.parameters.length) = some vs.length := by rw [ynp, hvl, k1]
          have hnp : z_np cy = vs.length := by
            unfold z_np
            rw [hmw, hvl, k1]
          by_cases hne : ne = 0
          · rw [hstk]
            exact mW_callS hY hC (y := q.1) hd hnp hM (w1 hne) (yst rfl) yini w5 ymh hlen2 hR y20 hc0 hs0 hcat (by rw [hσl]; exact hn0) ho hol hkk
          · rw [hstk]
            exact mW_callSN hY hC (y := q.1) hd hnp hM (w1n hne) (yst rfl) yini w5 ymh hlen2 hR y20 hc0 hs0 hcat (by rw [hσl]; exact hn0) ho hol hkk
      · cases k3
  · cases hs
end IV
/-! a call, its end told by the plain numbers, too -/
section IW
variable {p : Program} {l : Launch} {e : Env} {R : Room} {s : State} {m : MethodId} {args : Array Value} {below : List Frame} {meth : Method} {c : Code} {QQ : z_Q → State → Prop} {dC : Nat → ClassId} {dI : Nat → Nat → Nat} {aC : Nat → ClassId} {A : Nat → Prop} {n0 : Nat} {ad0 xa : Nat → Nat} {nL : Nat} {cc : ByteArray} {own : String} {X : Nat → Option (List Int32)} {Y : (Nat → Prop) → State → Heap → Prop}
variable {K : List (List a_K)} {Z : z_G → z_Q → Prop} {aux : List Nat}
variable {T fv B : Int} {ρ0 ρ : List Int} {σ0 σ : m_H} {md : A_D} {ce sl pc : Nat} {lsC : List (Nat × Value)} {stC : List Value} {E : A_E} {F : A_F} {ls : List (Nat × A_V)} {st : List A_V} {ov : A_O} {bu ph : A_L} {L : List A_S}
theorem st_invE_ok (hC : m_Ctx p s m args meth c cc nL own dC dI aC A xa X Y) (hY : m_Yok Y) (hT : T ≤ 1073741824) {cs : Nat → List A_C} {dp : A_L} {dc : Nat} {dv : Int} {i : Jvm.ClassFile.Instr} {y ne idx : Nat} (hi : i = .invokevirtual idx ∨ i = .invokestatic idx) (hg : g_ok T fv ρ0 σ0 md B ρ (pc, E, F, ls, st, ov, bu, ph) (σ, ce, sl, pc, lsC, stC))
    {xj xw : Nat} (hd : z_dx K cc pc i 3 [xj, y, xw, ne]) (hlk : k_lk own idx y ne) (hcy : ∀ C ∈ cs y, C.1 = y) (hcs : ∀ d, dc = d + 1 → ∀ C ∈ cs y, c_sem l X Y xa d C) (hdp : l_ev ρ0 dp = some dv) (hdv : dv ≤ (dc : Int)) (hR0 : dc ≤ R.frames ∧ 40 * dc ≤ R.locals) (hn0 : n0 ≤ h_N)
    (hs : st_inv cs md dp i y ne pc E F ls st ov bu ph = some L) (k : ∀ (C : A_C) (ρc : List Int) (z : Int) (vs rest : List Value) (r : Option Value) (σ' : m_H), C ∈ cs y → vs.length = C.2.2.1.length → stC = vs.reverse ++ rest → s_ok ρ (st.drop C.2.2.1.length) rest → 0 ≤ z → B + z ≤ T → c_post C.2.2.2.2.2.2.2.1 C.2.2.2.2.1 (B + z) ρc σ r σ' → z_ok σ' → z_Ev y (z_m σ, 0, z_fr y (z_s vs), []) (z_m σ', r.map z_v) → mW K Z p l e R s m args below meth c QQ dC dI aC A n0 ad0 xa nL (σ', 0, 0, pc + 3, lsC, r.toList ++ rest)) : mW K Z p l e R s m args below meth c QQ dC dI aC A n0 ad0 xa nL (σ, ce, sl, pc, lsC, stC) := by
  have hce : ce = 0 := hg.ce
  have hsl : sl = 0 := hg.sl
  subst hce
  subst hsl
  obtain ⟨hB0, zz, zz1, zz2, zz3⟩ := hg.bu
  have hB : B ≤ 1073741824 := by omega
  unfold st_inv at hs
  split at hs
  · rename_i kd ci x1 x2 x3 x4 x5 x6 np hmw
    obtain ⟨C, hC1, hC2⟩ := o_first_ok hs
    have hCy := hcy C hC1
    obtain ⟨q, hq, w1, w1n⟩ := hlk
    obtain ⟨yc, y20, yst, yin, ysel, -, yini, ymh, ynp⟩ := a_mw_at hq hmw
    obtain ⟨cy, E0, cargs, ov0, mc, tau, dep, alts, cuts, ph0⟩ := C
    simp only at hCy
    subst hCy
    unfold st_in1 at hC2
    simp only at hC2
    cases hck : Nat.beq cargs.length (bif Nat.beq kd 1 then np else np + 1) && (Nat.ble cargs.length st.length && (st_rcv kd ci ne i (st.take cargs.length).reverse && (match s_cat (st.drop cargs.length) with | some k => Nat.ble k 8 | none => false)))
    · rw [hck] at hC2; cases hC2
    · rw [hck] at hC2
      simp only [cond_true] at hC2
      obtain ⟨k1b, hk1⟩ := Bool.and_eq_true _ _ |>.mp hck
      obtain ⟨k2b, hk2⟩ := Bool.and_eq_true _ _ |>.mp hk1
      obtain ⟨k3, k4⟩ := Bool.and_eq_true _ _ |>.mp hk2
      clear hck hk1 hk2
      have k1 := Nat.eq_of_beq_eq_true k1b
      have k2 := Nat.le_of_ble_eq_true k2b
      clear k1b k2b
      obtain ⟨t1, t2⟩ := s_cutn cargs.length st stC hg.s
      have t3 := s_rev _ _ t1
      have hsv2 : ∀ v ∈ stC.drop cargs.length, m_vOk h_N v := fun v hv => hg.sv v (List.mem_of_mem_drop hv)
      have hsv1 : ∀ v ∈ (stC.take cargs.length).reverse, m_vOk h_N v := fun v hv => hg.sv v (List.mem_of_mem_take (List.mem_reverse.mp hv))
      obtain ⟨ρc, z, dz, a1, a2, a3, a4, a5, a5b, a6, a7, a8, a9⟩ := c_call_ok hB hg t3 t2 hsv2 hdp hC2
      obtain ⟨d, hd1⟩ : ∃ d, dc = d + 1 := ⟨dc - 1, by omega⟩
      have hsem := hcs d hd1 _ hC1
      have hR : d + 1 ≤ R.frames ∧ 40 * d + 40 ≤ R.locals := by omega
      have hM := (hsem q hq ρc B z dz σ _ a1 hB0 hg.h a2 a3 (by omega) a5 (by omega) a7 a8 hsv1).E
      have hlen : stC.length = st.length := (s_len _ _ hg.s).symm
      have hvl : ((stC.take cargs.length).reverse).length = cargs.length := by simp; omega
      have hcat : ((stC.drop cargs.length).map fun v => v.category).sum ≤ 8 := by
        split at k4
        · rename_i kk hkk
          rw [s_cat_ok _ _ _ t2 hkk]
          exact Nat.le_of_ble_eq_true k4
        · cases k4
      have hσl : σ.length = h_N := hg.h.1
      have ho : ∀ v ∈ stC.drop cargs.length, m_vOk σ.length v := by rw [hσl]; exact hsv2
      have hol : ∀ u ∈ lsC, m_vOk σ.length u.2 := by rw [hσl]; exact hg.lv
      have hkk : ∀ (r : Option Value) (σ' : m_H), (c_post alts mc (B + z) ρc σ r σ' ∧ z_ok σ' ∧ z_Ev cy (z_m σ, 0, z_fr cy (z_s (stC.take cargs.length).reverse), []) (z_m σ', r.map z_v)) → mW K Z p l e R s m args below meth c QQ dC dI aC A n0 ad0 xa nL (σ', 0 + 0, 0 + 0, pc + 3, lsC, r.toList ++ stC.drop cargs.length) := fun r σ' hp => k _ ρc z (stC.take cargs.length).reverse _ r σ' hC1 hvl (by rw [List.reverse_reverse, List.take_append_drop]) t2 a3 a4 hp.1 hp.2.1 hp.2.2
      have hstk : stC = (stC.take cargs.length).reverse.reverse ++ stC.drop cargs.length := by rw [List.reverse_reverse, List.take_append_drop]
      generalize hvs : (stC.take cargs.length).reverse = vs at hM hvl hstk t3 hkk
      have hc0 : 0 + 0 ≤ R.cells := Nat.zero_le _
      have hs0 : 0 + 0 ≤ R.slots := Nat.zero_le _
      have w5 : Cond.code q.1 q.2.1 q.2.2.1 q.2.2.2 ∈ a_tb := a_mt_in q (List.mem_of_getElem? hq)
      unfold st_rcv at k3
      split at k3
      · rename_i a arest hacts
        rcases hi with hi | hi
        · cases hi
          obtain ⟨c1, k5⟩ := Bool.and_eq_true _ _ |>.mp k3
          obtain ⟨c2, k6⟩ := Bool.and_eq_true _ _ |>.mp k5
          obtain ⟨c3, k7⟩ := Bool.and_eq_true _ _ |>.mp k6
          obtain ⟨c4, c5⟩ := Bool.and_eq_true _ _ |>.mp k7
          have c2 := Nat.eq_of_beq_eq_true c2
          have c3 : a.2.1 < h_N := Nat.le_of_ble_eq_true c3
          have c4 : h_kd a.2.1 = .inr ci := of_decide_eq_true c4
          have c5 : ci < 14 := Nat.le_of_ble_eq_true c5
          rw [hacts] at t3
          obtain ⟨as, e1, -⟩ := s_ref t3 c1
          subst e1
          obtain ⟨fs, h1, -, -⟩ := h_cell hg.h c3
          rw [c4] at h1
          have hcl : vwCl[ci]? = some (vwCl[ci]'c5) := List.getElem?_eq_getElem c5
          have hrc := a_R_cls hcl
          rw [hstk, List.reverse_cons, List.append_assoc]
          refine mW_callV hY hC (y := q.1) hd ?_ hM h1 hcl (yc.trans hrc.symm) (w1 c2) (yin (by decide)) ?_ ?_ w5 ymh ?_ hR y20 hc0 hs0 hcat (by rw [hσl]; exact hn0) ho hol hkk
          · unfold z_np
            rw [hmw]
            simp only [List.length_cons] at hvl
            have : Nat.beq 0 1 = false := rfl
            rw [this] at k1
            simp only [cond_false] at k1
            show np = as.length
            omega
          · have := ysel rfl
            rw [hrc, ← yc]; exact this
          · rw [hrc, ← yc]; exact yini
          · rw [ynp]
            simp only [List.length_cons] at hvl
            have : Nat.beq 0 1 = false := rfl
            rw [this] at k1
            simp only [cond_false] at k1
            congr 1
            omega
        · cases hi
      · rcases hi with hi | hi
        · cases hi
        · cases hi
          have : Nat.beq 1 1 = true := rfl
          rw [this] at k1
          simp only [cond_true] at k1
          have hlen2 : (parseMethodDescriptor q.1.desc).map (fun d => d.parameters.length) = some vs.length := by rw [ynp, hvl, k1]
          have hnp : z_np cy = vs.length := by
            unfold z_np
            rw [hmw, hvl, k1]
          by_cases hne : ne = 0
          · rw [hstk]
            exact mW_callS hY hC (y := q.1) hd hnp hM (w1 hne) (yst rfl) yini w5 ymh hlen2 hR y20 hc0 hs0 hcat (by rw [hσl]; exact hn0) ho hol hkk
          · rw [hstk]
            exact mW_callSN hY hC (y := q.1) hd hnp hM (w1n hne) (yst rfl) yini w5 ymh hlen2 hR y20 hc0 hs0 hcat (by rw [hσl]; exact hn0) ho hol hkk
      · cases k3
  · cases hs
end IW
