/-! A STRING of the class, seen from its methods; indexOf in one instruction -/
def ix_y : MethodName := ⟨"java/lang/String", "indexOf", "(I)I"⟩
def ix_b : List Int32 := [119, 105, 97, 102, 121, 110, 104]
/-- the letters of the rule: where they lie -/
def y_str (xa : Nat → Nat) (A : Nat → Prop) (U : State) (H : Heap) : Prop := vk_R "LetByTheDegree$RuleReader" 80 "wiafynh" (xa 2) U ∧ va_O "java/lang/String" (xa 2) A U H ∧ va_OF "java/lang/String" "coder" "B" (.int 0) (xa 2) A U H ∧ va_OF "java/lang/String" "value" "[B" (.ref (xa 4)) (xa 2) A U H ∧ va_T .byte (xa 4) 7 (fun j => .int (ix_b.getD j 0)) A U H ∧ va_Z "java/lang/String" "COMPACT_STRINGS" "Z" (.int 1) A U H
def ix_q (σ : m_H) (x0 : Int32) : Option Value → m_H → Prop := fun r σ' => σ' = σ ∧ ∃ x : Int32, r = some (.int x) ∧ x.toInt = z_idx x0.toInt
theorem z_idx_b (x : Int) : -1 ≤ z_idx x ∧ z_idx x ≤ 6 := by
  unfold z_idx
  repeat' split
  all_goals decide
def ix_K (l : Launch) (X : Nat → Option (List Int32)) (Y : (Nat → Prop) → State → Heap → Prop) (xa : Nat → Nat) : Prop := ∀ (d : Nat) (σ : m_H) (x : Int32), 7 ≤ d → v_K l X Y xa d ix_y prog_25_method_79_code 2 (some .int) σ [.ref (m_X0 + 2), .int x] (ix_q σ x) 0 0
theorem ix_w : Cond.instanceMethod ix_y ∈ a_tb ∧ Cond.selects "java/lang/String" ix_y ix_y ∈ a_tb ∧ Cond.code ix_y prog_25_method_79_code 2 (some .int) ∈ a_tb ∧ Cond.initialized "java/lang/String" ∈ a_tb := ⟨a_in (k := 3) (i := 209) rfl rfl, a_in (k := 3) (i := 210) rfl rfl, a_in (k := 3) (i := 211) rfl rfl, a_in (k := 1) (i := 16) rfl rfl⟩
/-- what the strings are known by, at the method's start -/
def k_iw (own : String) (x : Nat) : Prop := Cond.methodLink own x ix_y ∈ a_tb
def st_ix (dp : A_L) (pc : Nat) (E : A_E) (F : A_F) (ls : List (Nat × A_V)) (st : List A_V) (ov : A_O) (bu ph : A_L) : Option (List A_S) := match st with
  | c :: a :: r => bif a_isI c && (Nat.beq a.1 2 && (Nat.beq a.2.1 (m_X0 + 2) && (i_le 8 (l_lo E dp) && (match s_cat r with | some k => Nat.ble k 8 | none => false)))) then some [(pc + 3, (a_mk E (-1) 6).1, F, ls, (a_mk E (-1) 6).2 :: r, ov, bu, ph)] else none
  | _ => none
section SV
variable {p : Program} {l : Launch} {e : Env} {R : Room} {s : State} {m : MethodId} {args : Array Value} {below : List Frame} {meth : Method} {c : Code} {QQ : State → Prop} {dC : Nat → ClassId} {dI : Nat → Nat → Nat} {aC : Nat → ClassId} {A : Nat → Prop} {n0 : Nat} {ad0 xa : Nat → Nat} {nL : Nat} {cc : ByteArray} {own : String} {X : Nat → Option (List Int32)} {Y : (Nat → Prop) → State → Heap → Prop}
variable {σ : m_H} {ce sl pc : Nat} {lsC : List (Nat × Value)} {stC : List Value}
theorem mV_ldcs (hC : m_Ctx p s m args meth c cc nL own dC dI aC A xa X Y) {idx : Nat} (hZ : vk_R own idx "wiafynh" (xa 2) s) (hd : decode cc pc = .ok (.ldc idx, 2)) (k : mV p l e R s m args below meth c QQ dC dI aC A n0 ad0 xa nL (σ, ce, sl, pc + 2, lsC, .ref (m_X0 + 2) :: stC)) : mV p l e R s m args below meth c QQ dC dI aC A n0 ad0 xa nL (σ, ce, sl, pc, lsC, stC) := by
  intro ad H locs lsC h1 h2 h3 h4 h5 h6
  refine va_ldcS hC.1 hC.2.1 hC.2.2.2.1 hZ hd ?_
  have := k ad H locs lsC h1 h2 h3 h4 h5 h6
  simpa [m_re, h2] using this
theorem mV_callIx (hY : m_Yok Y) (hC : m_Ctx p s m args meth c cc nL own dC dI aC A xa X Y) {idx d : Nat} {x : Int32} {Q : Option Value → m_H → Prop} (hE : va_O "java/lang/String" (xa 2) A s s.heap) (hd : decode cc pc = .ok (.invokevirtual idx, 3)) (hM : v_K l X Y xa d ix_y prog_25_method_79_code 2 (some .int) σ [.ref (m_X0 + 2), .int x] Q 0 0) (w1 : k_iw own idx)
    (hR : d + 1 ≤ R.frames ∧ 40 * d + 40 ≤ R.locals) (hce : ce ≤ R.cells) (hsl : sl ≤ R.slots) (h8 : (stC.map fun v => v.category).sum ≤ 8) (hn0 : n0 ≤ σ.length) (ho : ∀ v ∈ stC, m_vOk σ.length v) (hol : ∀ q ∈ lsC, m_vOk σ.length q.2)
    (kk : ∀ (r : Option Value) (σ' : m_H), Q r σ' → mV p l e R s m args below meth c QQ dC dI aC A n0 ad0 xa nL (σ', ce, sl, pc + 3, lsC, r.toList ++ stC)) : mV p l e R s m args below meth c QQ dC dI aC A n0 ad0 xa nL (σ, ce, sl, pc, lsC, .int x :: .ref (m_X0 + 2) :: stC) := by
  intro ad H locs lsC h1 h2 h3 h4 h5 h6
  have hG : GoodIn a_tb (wsV own idx "java/lang/String" ix_y (m_ws ix_y prog_25_method_79_code 2 (some .int))) := a_good fun w hw => by
    rcases List.mem_append.mp hw with h | h
    · simp only [List.mem_cons, List.not_mem_nil, or_false] at h
      rcases h with rfl | rfl | rfl | rfl
      · exact w1
      · exact ix_w.1
      · exact ix_w.2.1
      · exact ix_w.2.2.2
    · exact m_wsIn ix_w.2.2.1 w h
  have hrc : ∃ cell : Cell, H[ad (m_X0 + 2)]? = some cell ∧ cell.vm.isStatics = false ∧ s.vm.findClass "java/lang/String" = some cell.cls := by
    obtain ⟨cell, g1, g2, g3, -⟩ := hE.kept h5.2.1
    rw [h2]
    exact ⟨cell, g1, g2, g3⟩
  refine m_goOn (mc := 0) (ms := 0) (st := stC) hC (ad := ad) (σ := σ) (H := H) (locs := locs) (va_runV (As := [Value.int x]) (rest := stC.map (m_re ad)) (g := F0 m pc lsC ((Value.int x :: .ref (m_X0 + 2) :: stC).map (m_re ad))) hC.fix (hM dC dI aC ad H.size h2)
    (cwV 1 hC.2.2.2.2.1 hG rfl rfl rfl ⟨rfl, by decide, by decide, by decide⟩ (m_room hR (by decide))) ⟨m_blind hY, hrc, m_pre (as := [.ref (m_X0 + 2), .int x]) hY hC h3 h4 h5⟩ rfl rfl h6.1 rfl (m_cats8 h8 _) hd ⟨hce, hsl⟩) h1 h2 hn0 h4 h5 h6 ho hol kk
end SV
section ST
variable {p : Program} {l : Launch} {e : Env} {R : Room} {s : State} {m : MethodId} {args : Array Value} {below : List Frame} {meth : Method} {c : Code} {QQ : z_Q → State → Prop} {dC : Nat → ClassId} {dI : Nat → Nat → Nat} {aC : Nat → ClassId} {A : Nat → Prop} {n0 : Nat} {ad0 xa : Nat → Nat} {nL : Nat} {cc : ByteArray} {own : String} {X : Nat → Option (List Int32)} {Y : (Nat → Prop) → State → Heap → Prop}
variable {K : List (List a_K)} {Z : z_G → z_Q → Prop} {aux : List Nat}
variable {T fv B : Int} {ρ0 ρ : List Int} {σ0 σ : m_H} {md : A_D} {ce sl pc : Nat} {lsC : List (Nat × Value)} {stC : List Value} {E : A_E} {F : A_F} {ls : List (Nat × A_V)} {st : List A_V} {ov : A_O} {bu ph : A_L} {L : List A_S}
theorem mW_ldcs (hC : m_Ctx p s m args meth c cc nL own dC dI aC A xa X Y) {idx xj xk : Nat} (hZ : vk_R own idx "wiafynh" (xa 2) s) (hd : z_dx K cc pc (.ldc idx) 2 [xj, xk]) (k : mW K Z p l e R s m args below meth c QQ dC dI aC A n0 ad0 xa nL (σ, ce, sl, pc + 2, lsC, .ref (m_X0 + 2) :: stC)) : mW K Z p l e R s m args below meth c QQ dC dI aC A n0 ad0 xa nL (σ, ce, sl, pc, lsC, stC) := fun hcl hz zl hl => mV_ldcs hC hZ hd.1 (w_st hcl hd rfl (fun _ => rfl) (k hcl hz zl hl))
theorem mW_callIx (hY : m_Yok Y) (hC : m_Ctx p s m args meth c cc nL own dC dI aC A xa X Y) {idx d xj xk xw : Nat} {x : Int32} (hE : va_O "java/lang/String" (xa 2) A s s.heap) (hd : z_dx K cc pc (.invokevirtual idx) 3 [xj, xk, xw]) (hM : v_K l X Y xa d ix_y prog_25_method_79_code 2 (some .int) σ [.ref (m_X0 + 2), .int x] (ix_q σ x) 0 0) (w1 : k_iw own idx)
    (hR : d + 1 ≤ R.frames ∧ 40 * d + 40 ≤ R.locals) (hce : ce ≤ R.cells) (hsl : sl ≤ R.slots) (h8 : (stC.map fun v => v.category).sum ≤ 8) (hn0 : n0 ≤ σ.length) (ho : ∀ v ∈ stC, m_vOk σ.length v) (hol : ∀ q ∈ lsC, m_vOk σ.length q.2)
    (kk : ∀ (r : Option Value) (σ' : m_H), ix_q σ x r σ' → mW K Z p l e R s m args below meth c QQ dC dI aC A n0 ad0 xa nL (σ', ce, sl, pc + 3, lsC, r.toList ++ stC)) : mW K Z p l e R s m args below meth c QQ dC dI aC A n0 ad0 xa nL (σ, ce, sl, pc, lsC, .int x :: .ref (m_X0 + 2) :: stC) := fun hcl hz zl hl => mV_callIx hY hC hE hd.1 hM w1 hR hce hsl h8 hn0 ho hol (fun r σ' hQ => by
  have hk := kk r σ' hQ hcl
  obtain ⟨rfl, y, rfl, hy⟩ := hQ
  exact w_st hcl hd rfl (fun _ => z_pi hy.symm) (hk hz zl hl))
theorem st_ix_ok (hC : m_Ctx p s m args meth c cc nL own dC dI aC A xa X Y) (hY : m_Yok Y) (hYS : ∀ A U H, Y A U H → y_str xa A U H) (hK : ix_K l X Y xa) {idx dc xj xk xw : Nat} {dp : A_L} {dv : Int} (hg : g_ok T fv ρ0 σ0 md B ρ (pc, E, F, ls, st, ov, bu, ph) (σ, ce, sl, pc, lsC, stC)) (hd : z_dx K cc pc (.invokevirtual idx) 3 [xj, xk, xw]) (hw : k_iw own idx) (hdp : l_ev ρ0 dp = some dv) (hdv : dv ≤ (dc : Int)) (hR0 : dc ≤ R.frames ∧ 40 * dc ≤ R.locals) (hn0 : n0 ≤ h_N)
    (hs : st_ix dp pc E F ls st ov bu ph = some L) (k : ∀ S ∈ L, ∀ (B : Int) (ρ : List Int) (g : m_G), g_ok T fv ρ0 σ0 md B ρ S g → mW K Z p l e R s m args below meth c QQ dC dI aC A n0 ad0 xa nL g) : mW K Z p l e R s m args below meth c QQ dC dI aC A n0 ad0 xa nL (σ, ce, sl, pc, lsC, stC) := by
  have he : e_ok B E ρ := hg.e
  have hf : f_ok F ρ := hg.f
  have hce : ce = 0 := hg.ce
  have hsl : sl = 0 := hg.sl
  subst hce; subst hsl
  unfold st_ix at hs
  split at hs
  · rename_i c a r
    cases hc : a_isI c && (Nat.beq a.1 2 && (Nat.beq a.2.1 (m_X0 + 2) && (i_le 8 (l_lo E dp) && (match s_cat r with | some k => Nat.ble k 8 | none => false))))
    · rw [hc] at hs; cases hs
    · rw [hc] at hs
      cases hs
      obtain ⟨c1, q1⟩ := Bool.and_eq_true _ _ |>.mp hc
      obtain ⟨c2, q2⟩ := Bool.and_eq_true _ _ |>.mp q1
      obtain ⟨c3, q3⟩ := Bool.and_eq_true _ _ |>.mp q2
      obtain ⟨c4, c5⟩ := Bool.and_eq_true _ _ |>.mp q3
      have c2 := Nat.eq_of_beq_eq_true c2
      have c3 := Nat.eq_of_beq_eq_true c3
      have c4 := i_le_iff.mp c4
      obtain ⟨x, t1, e1, hx, ht1⟩ := s_int hg.s c1
      have e1 : stC = .int x :: t1 := e1
      subst e1
      cases t1 with
      | nil => exact absurd ht1 id
      | cons v t2 =>
        obtain ⟨hv, ht2⟩ := ht1
        have ev : v = .ref (m_X0 + 2) := by
          unfold v_ok at hv
          rw [c2] at hv
          simp only at hv
          rw [hv, c3]
        subst ev
        have hdl := l_lo_ok he (l_ev_ext hg.x0 hdp)
        have hcat : (t2.map fun v => v.category).sum ≤ 8 := by
          split at c5
          · rename_i kk hkk
            rw [s_cat_ok _ _ _ ht2 hkk]
            exact Nat.le_of_ble_eq_true c5
          · cases c5
        obtain ⟨d, rfl⟩ : ∃ d, dc = d + 1 := ⟨dc - 1, by omega⟩
        have hσl : σ.length = h_N := hg.h.1
        have hsv : ∀ u ∈ t2, m_vOk h_N u := fun u hu => hg.sv u (List.mem_cons_of_mem _ (List.mem_cons_of_mem _ hu))
        refine mW_callIx hY hC (hYS _ _ _ hC.2.2.2.2.2.2.2.1.2.2.2.2).2.1 hd (hK d σ x (by omega)) hw (by omega) (Nat.zero_le _) (Nat.zero_le _) hcat (by rw [hσl]; exact hn0) (by rw [hσl]; exact hsv) (by rw [hσl]; exact hg.lv) (fun r' σ' hq => ?_)
        obtain ⟨rfl, y, rfl, y0⟩ := hq
        have y1 : -1 ≤ y.toInt := by rw [y0]; exact (z_idx_b _).1
        have y2 : y.toInt ≤ 6 := by rw [y0]; exact (z_idx_b _).2
        obtain ⟨ρ', g1, g2, g3, g4⟩ := a_mk_ok he (lo := -1) (hi := 6) y (fun _ _ => ⟨y1, y2⟩)
        exact k _ List.mem_cons_self B ρ' _ (hg.to (st' := (a_mk E (-1) 6).2 :: r) g1 g2 (f_ok_ext g1 hf) (l_ok_ext g1 hg.l) hg.lv ⟨v_of_int g4 g3, s_ok_ext g1 _ _ ht2⟩ (fun u hu => by
          rcases List.mem_cons.mp hu with rfl | hu
          · trivial
          · exact hsv u hu) (o_ok_ext g1 hg.o))
  · cases hs
end ST
