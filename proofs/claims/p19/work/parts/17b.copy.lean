/-! ROWS OF INTS COPIED (System.arraycopy) in one instruction -/
theorem cpy_at {fs gs : List Value} {sp dp n : Nat} (h1 : sp + n ≤ fs.length) (h2 : dp + n ≤ gs.length) (k : Nat) : (gs.take dp ++ (fs.drop sp).take n ++ gs.drop (dp + n))[k]? = if dp ≤ k ∧ k < dp + n then fs[sp + (k - dp)]? else gs[k]? := by
  have e1 : (gs.take dp).length = dp := by simp; omega
  have e2 : ((fs.drop sp).take n).length = n := by simp; omega
  by_cases hk : dp ≤ k ∧ k < dp + n
  · rw [if_pos hk, List.getElem?_append_left (by simp; omega), List.getElem?_append_right (by omega), e1, List.getElem?_take, if_pos (by omega), List.getElem?_drop]
  · rw [if_neg hk]
    by_cases hk2 : k < dp
    · rw [List.getElem?_append_left (by simp; omega), List.getElem?_append_left (by omega), List.getElem?_take, if_pos hk2]
    · rw [List.getElem?_append_right (by simp; omega)]
      simp only [List.length_append, e1, e2, List.getElem?_drop]
      congr 1
      omega
/-- one type within another -/
def t_sub (t u : Nat × Int × Int) : Bool := match t, u with
  | (0, a, b), (0, c, d) => i_le c a && i_le b d
  | _, _ => false
theorem t_sub_ok {B : Int} {t u : Nat × Int × Int} {v : Value} (h : t_sub t u = true) (hv : t_ok B t v) : t_ok B u v := by
  unfold t_sub at h
  split at h
  · obtain ⟨h1, h2⟩ := Bool.and_eq_true _ _ |>.mp h
    have h1 := i_le_iff.mp h1
    have h2 := i_le_iff.mp h2
    obtain ⟨x, rfl, h3, h4⟩ := hv
    simp only at h3 h4
    exact ⟨x, rfl, by show _ ≤ _; simp only; omega, by show _ ≤ _; simp only; omega⟩
  · cases h
/-- all types from s on, m of them, within those from d on; or, if the places are fixed, one by one -/
def t_cpy (fx : Bool) (p s q d m e : Nat) : Bool := bif fx then (List.range m).all (fun j => t_sub (h_ty p (s + j)) (h_ty q (d + j))) else (List.range m).all (fun i => (List.range e).all (fun j => t_sub (h_ty p (s + i)) (h_ty q (d + j))))
def a_fix (E : A_E) (F : A_F) (a : A_V) : Bool := i_le (a_hi E F a) (a_lo E F a)
/-- words of arraycopy -/
def k_cw (own : String) (idx : Nat) : Prop := Cond.methodLink own idx arraycopyName ∈ a_tb ∧ Cond.native arraycopyName ∈ a_tb ∧ Cond.static arraycopyName ∈ a_tb ∧ Cond.initialized "java/lang/System" ∈ a_tb
def cp_chk (md : A_D) (dp : A_L) (E : A_E) (F : A_F) (r : List A_V) (n d b s a : A_V) : Bool :=
  a_isI n && (a_isI d && (a_isR b && (a_isI s && (a_isR a && (i_le 0 (a_lo E F n) && (i_le 0 (a_lo E F d) && (i_le 0 (a_lo E F s) && (Nat.blt a.2.1 h_N && (Nat.blt b.2.1 h_N && (decide (h_kd a.2.1 = .inl 0) && (decide (h_kd b.2.1 = .inl 0) && (i_le (a_hi E F s + a_hi E F n) (h_ln a.2.1) && (i_le (a_hi E F d + a_hi E F n) (h_ln b.2.1) && (t_cpy (a_fix E F s && a_fix E F d) a.2.1 (a_lo E F s).toNat b.2.1 (a_lo E F d).toNat (a_hi E F s + a_hi E F n - a_lo E F s).toNat (a_hi E F d + a_hi E F n - a_lo E F d).toNat && (d_has md b.2.1 (a_lo E F d).toNat ((a_hi E F d + a_hi E F n).toNat - 1) && (i_le 1 (l_lo E dp) && (match s_cat r with | some k => Nat.ble k 8 | none => false)))))))))))))))))
def st_cpy (md : A_D) (dp : A_L) (pc : Nat) (E : A_E) (F : A_F) (ls : List (Nat × A_V)) (st : List A_V) (ov : A_O) (bu ph : A_L) : Option (List A_S) := match st with
  | n :: d :: b :: s :: a :: r => bif cp_chk md dp E F r n d b s a then some [(pc + 3, E, F, ls, r, o_cut b.2.1 (a_lo E F d).toNat ((a_hi E F d + a_hi E F n).toNat - 1) ov, bu, ph)] else none
  | _ => none
theorem c_at_row {σ : m_H} {p : Nat} {kd : Nat ⊕ Nat} {gs new : List Value} (h : σ[p]? = some (kd, gs)) (p' k' : Nat) : c_at (σ.set p (kd, new)) p' k' = if p' = p then new[k']? else c_at σ p' k' := by
  have hl := (List.getElem?_eq_some_iff.mp h).1
  by_cases hp : p' = p
  · subst hp
    rw [c_at_eq (List.getElem?_set_self hl), if_pos rfl]
  · have : (σ.set p (kd, new))[p']? = σ[p']? := List.getElem?_set_ne (Ne.symm hp)
    unfold c_at
    rw [this, if_neg hp]
theorem h_row_ok {B : Int} {σ : m_H} (e : h_ok B σ) {p : Nat} {gs new : List Value} (h : σ[p]? = some (h_kd p, gs)) (hl : new.length = h_ln p) (hv : ∀ (k : Nat) (v : Value), new[k]? = some v → t_ok B (h_ty p k) v ∧ m_vOk h_N v) : h_ok B (σ.set p (h_kd p, new)) := by
  refine ⟨by simp [e.1], fun p' hp' => ?_⟩
  by_cases hp : p' = p
  · subst hp
    have hlt := (List.getElem?_eq_some_iff.mp h).1
    exact ⟨new, List.getElem?_set_self hlt, hl, hv⟩
  · obtain ⟨ws, w1, w2, w3⟩ := e.2 p' hp'
    exact ⟨ws, by rw [List.getElem?_set_ne (Ne.symm hp)]; exact w1, w2, w3⟩
section CP
variable {p : Program} {l : Launch} {e : Env} {R : Room} {s : State} {m : MethodId} {args : Array Value} {below : List Frame} {meth : Method} {c : Code} {QQ : z_Q → State → Prop} {dC : Nat → ClassId} {dI : Nat → Nat → Nat} {aC : Nat → ClassId} {A : Nat → Prop} {n0 : Nat} {ad0 xa : Nat → Nat} {nL : Nat} {cc : ByteArray} {own : String} {X : Nat → Option (List Int32)} {Y : (Nat → Prop) → State → Heap → Prop}
variable {K : List (List a_K)} {Z : z_G → z_Q → Prop} {aux : List Nat}
variable {T fv B : Int} {ρ0 ρ : List Int} {σ0 σ : m_H} {md : A_D} {ce sl pc : Nat} {lsC : List (Nat × Value)} {stC : List Value} {E : A_E} {F : A_F} {ls : List (Nat × A_V)} {st : List A_V} {ov : A_O} {bu ph : A_L} {L : List A_S}
theorem st_cpy_ok (hC : m_Ctx p s m args meth c cc nL own dC dI aC A xa X Y) {dp : A_L} {dc : Nat} {dv : Int} {idx : Nat} (hg : g_ok T fv ρ0 σ0 md B ρ (pc, E, F, ls, st, ov, bu, ph) (σ, ce, sl, pc, lsC, stC)) {xj xk : Nat} (hd : z_dx K cc pc (.invokestatic idx) 3 [xj, xk]) (hw : k_cw own idx) (hdp : l_ev ρ0 dp = some dv) (hdv : dv ≤ (dc : Int)) (hR0 : dc ≤ R.frames ∧ 40 * dc ≤ R.locals)
    (hs : st_cpy md dp pc E F ls st ov bu ph = some L) (k : ∀ S ∈ L, ∀ (B : Int) (ρ : List Int) (g : m_G), g_ok T fv ρ0 σ0 md B ρ S g → mW K Z p l e R s m args below meth c QQ dC dI aC A n0 ad0 xa nL g) : mW K Z p l e R s m args below meth c QQ dC dI aC A n0 ad0 xa nL (σ, ce, sl, pc, lsC, stC) := by
  have he : e_ok B E ρ := hg.e
  have hf : f_ok F ρ := hg.f
  unfold st_cpy at hs
  split at hs
  · rename_i n d b s' a r
    cases hc : cp_chk md dp E F r n d b s' a
    · rw [hc] at hs; cases hs
    · rw [hc] at hs
      cases hs
      unfold cp_chk at hc
      obtain ⟨c1, q1⟩ := Bool.and_eq_true _ _ |>.mp hc
      obtain ⟨c2, q2⟩ := Bool.and_eq_true _ _ |>.mp q1
      obtain ⟨c3, q3⟩ := Bool.and_eq_true _ _ |>.mp q2
      obtain ⟨c4, q4⟩ := Bool.and_eq_true _ _ |>.mp q3
      obtain ⟨c5, q5⟩ := Bool.and_eq_true _ _ |>.mp q4
      obtain ⟨c6, q6⟩ := Bool.and_eq_true _ _ |>.mp q5
      obtain ⟨c7, q7⟩ := Bool.and_eq_true _ _ |>.mp q6
      obtain ⟨c8, q8⟩ := Bool.and_eq_true _ _ |>.mp q7
      obtain ⟨c9, q9⟩ := Bool.and_eq_true _ _ |>.mp q8
      obtain ⟨c10, q10⟩ := Bool.and_eq_true _ _ |>.mp q9
      obtain ⟨c11, q11⟩ := Bool.and_eq_true _ _ |>.mp q10
      obtain ⟨c12, q12⟩ := Bool.and_eq_true _ _ |>.mp q11
      obtain ⟨c13, q13⟩ := Bool.and_eq_true _ _ |>.mp q12
      obtain ⟨c14, q14⟩ := Bool.and_eq_true _ _ |>.mp q13
      obtain ⟨c15, q15⟩ := Bool.and_eq_true _ _ |>.mp q14
      obtain ⟨c16, q16⟩ := Bool.and_eq_true _ _ |>.mp q15
      obtain ⟨c17, c18⟩ := Bool.and_eq_true _ _ |>.mp q16
      clear hc q1 q2 q3 q4 q5 q6 q7 q8 q9 q10 q11 q12 q13 q14 q15 q16
      have d6 := i_le_iff.mp c6
      have d7 := i_le_iff.mp c7
      have d8 := i_le_iff.mp c8
      have d9 : a.2.1 < h_N := Nat.le_of_ble_eq_true c9
      have d10 : b.2.1 < h_N := Nat.le_of_ble_eq_true c10
      have d11 : h_kd a.2.1 = .inl 0 := of_decide_eq_true c11
      have d12 : h_kd b.2.1 = .inl 0 := of_decide_eq_true c12
      have d13 := i_le_iff.mp c13
      have d14 := i_le_iff.mp c14
      have d17 := i_le_iff.mp c17
      obtain ⟨xn, t1, e1, hn, ht1⟩ := s_int hg.s c1
      obtain ⟨xd, t2, e2, hd2, ht2⟩ := s_int ht1 c2
      obtain ⟨t3, e3, ht3⟩ := s_ref ht2 c3
      obtain ⟨xs, t4, e4, hs2, ht4⟩ := s_int ht3 c4
      obtain ⟨t5, e5, ht5⟩ := s_ref ht4 c5
      subst e5
      subst e4
      subst e3
      subst e2
      have e1 : stC = .int xn :: .int xd :: .ref b.2.1 :: .int xs :: .ref a.2.1 :: t5 := e1
      subst e1
      have n1 := a_lo_ok he hf hn
      have n2 := a_hi_ok he hf hn
      have n3 := a_lo_ok he hf hd2
      have n4 := a_hi_ok he hf hd2
      have n5 := a_lo_ok he hf hs2
      have n6 := a_hi_ok he hf hs2
      have hdv1 := l_lo_ok he (l_ev_ext hg.x0 hdp)
      obtain ⟨fs, f1, f2, f3⟩ := h_cell hg.h d9
      obtain ⟨gs, g1, g2, g3⟩ := h_cell hg.h d10
      have cn : xn.toNatClampNeg = xn.toInt.toNat := rfl
      have cd : xd.toNatClampNeg = xd.toInt.toNat := rfl
      have cs : xs.toNatClampNeg = xs.toInt.toNat := rfl
      have hb1 : xs.toInt.toNat + xn.toInt.toNat ≤ fs.length := by rw [f2]; omega
      have hb2 : xd.toInt.toNat + xn.toInt.toNat ≤ gs.length := by rw [g2]; omega
      have h8 : ((t5.map fun v => v.category)).sum ≤ 8 := by
        split at c18
        · rename_i kk hkk
          rw [s_cat_ok _ _ _ ht5 hkk]
          exact Nat.le_of_ble_eq_true c18
        · cases c18
      have hat := cpy_at hb1 hb2
      have hneg : ∀ x : Int32, 0 ≤ x.toInt → ¬ x < 0 := fun x hx z => by
        have := i32_lt.mp z
        rw [i32_0] at this
        omega
      have hrng : ∀ j, xd.toInt.toNat ≤ j → j < xd.toInt.toNat + xn.toInt.toNat → t_sub (h_ty a.2.1 (xs.toInt.toNat + (j - xd.toInt.toNat))) (h_ty b.2.1 j) = true := by
        intro j j1 j2
        unfold t_cpy at c15
        cases hfx : a_fix E F s' && a_fix E F d
        · rw [hfx] at c15
          have h1 := List.all_eq_true.mp c15 (xs.toInt.toNat + (j - xd.toInt.toNat) - (a_lo E F s').toNat) (List.mem_range.mpr (by omega))
          have h2 := List.all_eq_true.mp h1 (j - (a_lo E F d).toNat) (List.mem_range.mpr (by omega))
          rw [show (a_lo E F s').toNat + (xs.toInt.toNat + (j - xd.toInt.toNat) - (a_lo E F s').toNat) = xs.toInt.toNat + (j - xd.toInt.toNat) by omega, show (a_lo E F d).toNat + (j - (a_lo E F d).toNat) = j by omega] at h2
          exact h2
        · rw [hfx] at c15
          obtain ⟨x1, x2⟩ := Bool.and_eq_true _ _ |>.mp hfx
          have x1 := i_le_iff.mp x1
          have x2 := i_le_iff.mp x2
          have h1 := List.all_eq_true.mp c15 (j - xd.toInt.toNat) (List.mem_range.mpr (by omega))
          rw [show (a_lo E F s').toNat + (j - xd.toInt.toNat) = xs.toInt.toNat + (j - xd.toInt.toNat) by omega, show (a_lo E F d).toNat + (j - xd.toInt.toNat) = j by omega] at h1
          exact h1
      generalize hnew : gs.take xd.toInt.toNat ++ (fs.drop xs.toInt.toNat).take xn.toInt.toNat ++ gs.drop (xd.toInt.toNat + xn.toInt.toNat) = new at hat
      have hnl : new.length = h_ln b.2.1 := by rw [← hnew, ← g2]; simp; omega
      have hin : ∀ j, xd.toInt.toNat ≤ j → j < xd.toInt.toNat + xn.toInt.toNat → (a_lo E F d).toNat ≤ j ∧ j ≤ (a_hi E F d + a_hi E F n).toNat - 1 := fun j j1 j2 => by omega
      have hrow : h_ok B (σ.set b.2.1 (h_kd b.2.1, new)) := by
        refine h_row_ok hg.h g1 hnl (fun j v hv => ?_)
        rw [hat] at hv
        split at hv
        · rename_i hj
          obtain ⟨v', v1, v2, v3⟩ := f3 (xs.toInt.toNat + (j - xd.toInt.toNat)) (by omega)
          rw [v1] at hv
          cases hv
          exact ⟨t_sub_ok (hrng j hj.1 hj.2) v2, v3⟩
        · have hjl := (List.getElem?_eq_some_iff.mp hv).1
          obtain ⟨v', v1, v2, v3⟩ := g3 j (by omega)
          rw [v1] at hv
          cases hv
          exact ⟨v2, v3⟩
      have hcat : ∀ p' j, ¬ (p' = b.2.1 ∧ xd.toInt.toNat ≤ j ∧ j < xd.toInt.toNat + xn.toInt.toNat) → c_at (σ.set b.2.1 (h_kd b.2.1, new)) p' j = c_at σ p' j := fun p' j hn => by
        rw [c_at_row g1]
        split
        · rename_i hp
          subst hp
          rw [hat, if_neg (fun z => hn ⟨rfl, z⟩), c_at_eq g1]
        · rfl
      refine mW_copyi hC hd hw.1 hw.2.1 hw.2.2.1 hw.2.2.2 (by rw [f1, d11]) (by rw [g1, d12]) (hneg xs (by omega)) (hneg xd (by omega)) (hneg xn (by omega)) (by rw [cs, cn]; exact hb1) (by rw [cd, cn]; exact hb2) (by omega) h8 ?_
      rw [cs, cd, cn, hnew, ← d12]
      refine k _ List.mem_cons_self B ρ _ ⟨hg.x0, he, hf, hg.bu, hg.ph, hrow, hg.ce, hg.sl, rfl, hg.l, hg.lv, ht5, (fun v hv => hg.sv v (List.mem_cons_of_mem _ (List.mem_cons_of_mem _ (List.mem_cons_of_mem _ (List.mem_cons_of_mem _ (List.mem_cons_of_mem _ hv)))))), ?_, ?_⟩
      · intro q hq
        obtain ⟨q1, q2⟩ := List.mem_filter.mp hq
        obtain ⟨u, u1, u2⟩ := hg.o q q1
        refine ⟨u, ?_, u2⟩
        have := hcat q.1.1 q.1.2 (fun z => by
          obtain ⟨z1, z2, z3⟩ := z
          obtain ⟨i1, i2⟩ := hin _ z2 z3
          have b1 : Nat.beq q.1.1 b.2.1 = true := by rw [z1]; exact Nat.beq_refl _
          rw [b1, Nat.ble_eq.mpr i1, Nat.ble_eq.mpr i2] at q2
          cases q2)
        exact this.trans u1
      · intro p' j hnd
        have := hcat p' j (fun z => hnd (by
          obtain ⟨z1, z2, z3⟩ := z
          obtain ⟨i1, i2⟩ := hin _ z2 z3
          rw [z1]
          exact d_has_ok c16 i1 i2))
        exact this.trans (hg.fr p' j hnd)
  · cases hs
end CP
