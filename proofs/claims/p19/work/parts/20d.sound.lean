/-! CONSTRUCTORS run: what the run tells of the machine -/
theorem v_cat_le (v : Value) : v.category ≤ 2 := by cases v <;> first | exact Nat.le_refl _ | exact Nat.le_succ _
theorem v_cats_le : ∀ (st : List Value), (st.map fun v => v.category).sum ≤ 2 * st.length
  | [] => Nat.le_refl _
  | v :: st => by
    have := v_cats_le st
    have := v_cat_le v
    simp only [List.map_cons, List.sum_cons, List.length_cons]
    omega
theorem x_stk {np o : Nat} {as st : List Value} (h : (st.take (np + 1)).reverse = .ref o :: as) : st = as.reverse ++ .ref o :: st.drop (np + 1) := by
  have h1 : st.take (np + 1) = as.reverse ++ [.ref o] := by
    have := congrArg List.reverse h
    rw [List.reverse_reverse, List.reverse_cons] at this
    exact this
  have h2 := List.take_append_drop (np + 1) st
  rw [h1, List.append_assoc] at h2
  exact h2.symm
theorem x_stk_in {n np o : Nat} {as st : List Value} (h : (st.take (np + 1)).reverse = .ref o :: as) (hs : ∀ v ∈ st, m_vOk n v) : ∀ v ∈ (Value.ref o :: as), m_vOk n v := fun v hv => by
  rw [← h] at hv
  exact hs v (List.mem_of_mem_take (List.mem_reverse.mp hv))
theorem x_obj : Cond.instanceMethod Lib.objectInit ∈ a_tb ∧ Cond.code Lib.objectInit ⟨#[0xb1]⟩ 1 none ∈ a_tb := ⟨a_in (k := 1) (i := 34) rfl rfl, a_in (k := 1) (i := 35) rfl rfl⟩
section XE
variable {l : Launch} {X : Nat → Option (List Int32)} {Y : (Nat → Prop) → State → Heap → Prop} {xa : Nat → Nat}
def x_codeOk (code : Nat → List (List a_K)) : Prop := ∀ (y : Nat) (q : a_M), a_mt[y]? = some q → ∀ r ∈ code y, ∀ e ∈ r, decode q.2.1 e.1 = .ok (e.2.1, e.2.2.1) ∧ x_wd q.1.cls (q.1.name = "<init>") e.2.1 e.2.2.2.2
theorem x_exec_ok (hY : m_Yok Y) (hYA : ∀ A U H, Y A U H → va_AO "LetByTheDegree$State" U) {code : Nat → List (List a_K)} (hcode : x_codeOk code) :
    ∀ (f d y : Nat) (g : m_G) (σ' : m_H) (c' s' : Nat), x_exec code f d y g = some (σ', c', s') → x_inv g → σ'.length < m_X0 →
    (m_hOk σ'.length σ' ∧ g.1.length ≤ σ'.length ∧ g.2.1 ≤ c' ∧ g.2.2.1 ≤ s') ∧
    ∀ (q : a_M), a_mt[y]? = some q → ∀ (p : Program) (e : Env) (R : Room) (s : State) (m : MethodId) (args : Array Value) (below : List Frame) (meth : Method) (c : Code) (dC : Nat → ClassId) (dI : Nat → Nat → Nat) (aC : Nat → ClassId) (ad0 : Nat → Nat) (σ0 : m_H) (sz mc ms : Nat),
      m_Ctx p s m args meth c q.2.1 q.2.2.1 q.1.cls dC dI aC (va_A (m_W ad0 aC σ0) sz) xa X Y → meth.name = q.1.name → meth.sig.returnType = none → (d ≤ R.frames ∧ 40 * d ≤ R.locals) → (mc ≤ R.cells ∧ ms ≤ R.slots) → c' ≤ mc → s' ≤ ms → σ0.length ≤ g.1.length →
      mV p l e R s m args below meth c (MQ below (m_Qc dC dI aC xa ad0 sz σ0 (fun r z => r = none ∧ z = σ')) args s mc ms (va_A (m_W ad0 aC σ0) sz)) dC dI aC (va_A (m_W ad0 aC σ0) sz) σ0.length ad0 xa q.2.2.1 g := by
  intro f
  induction f with
  | zero =>
    intro d y g σ' c' s' h
    unfold x_exec at h
    cases h
  | succ f ih =>
    intro d y g σ' c' s' h hi hσ
    obtain ⟨σ, ce, sl, pc, ls, st⟩ := g
    unfold x_exec at h
    split at h
    · cases h
    · rename_i qy hqy
      split at h
      · cases h
      · rename_i qk hqk
        obtain ⟨⟨row, r1, r2⟩, hpc⟩ := k_get_in hqk
        obtain ⟨hdec, hwd⟩ := hcode y qy hqy row r1 qk r2
        rw [hpc] at hdec
        obtain ⟨hi1, hi2, hi3⟩ := hi
        simp only at hi1 hi2 hi3
        split at h
        · -- the end
          rename_i e1 e2
          cases h
          refine ⟨⟨hi1, Nat.le_refl _, Nat.le_refl _, Nat.le_refl _⟩, ?_⟩
          intro q hq p e R s m args below meth c dC dI aC ad0 σ0 sz mc ms hC hn hrt hR hroom hc hs h0
          rw [e1, e2] at hdec
          obtain rfl : q = qy := Option.some.inj (hq.symm.trans hqy)
          exact mV_vret hC hdec hrt ⟨rfl, rfl⟩ hc hs
        · -- Object's constructor
          rename_i idx a b o r e1 e2 e3
          cases hb : Nat.ble 1 d && Nat.ble r.length 4
          · rw [hb] at h; cases h
          · rw [hb] at h
            simp only [cond_true] at h
            obtain ⟨b1, b2⟩ := Bool.and_eq_true _ _ |>.mp hb
            have b1 := Nat.le_of_ble_eq_true b1
            have b2 := Nat.le_of_ble_eq_true b2
            obtain ⟨u1, u2⟩ := ih _ _ _ _ _ _ h ⟨hi1, hi2, fun v hv => hi3 v (List.mem_cons_of_mem _ hv)⟩ hσ
            refine ⟨u1, ?_⟩
            intro q hq p e R s m args below meth c dC dI aC ad0 σ0 sz mc ms hC hn hrt hR hroom hc hs h0
            have k := u2 q hq p e R s m args below meth c dC dI aC ad0 σ0 sz mc ms hC hn hrt hR hroom hc hs h0
            rw [e1, e2] at hdec
            rw [e1, e3] at hwd
            obtain rfl : q = qy := Option.some.inj (hq.symm.trans hqy)
            have hcat := v_cats_le r
            exact mV_objInit hC hdec hwd x_obj.1 x_obj.2 (by omega) (by omega) k
        · -- a constructor
          rename_i stA x1 x2 x3 stB idx j y2 kd ne e1 e2 e3
          split at h
          · rename_i z1 z2 z3 z4 z5 z6 z7 np q2 d2 hmw hmt
            split at h
            · rename_i o as has
              cases hb : Nat.beq as.length np && (Nat.ble (np + 1) stA.length && (Nat.ble (stA.drop (np + 1)).length 4 && (plainFor q2.1 && (decide (q2.2.2.2 = none) && Nat.ble (lg_sl (.ref o :: as)).length q2.2.2.1))))
              · rw [hb] at h; cases h
              · rw [hb] at h
                simp only [cond_true] at h
                obtain ⟨b1, c1⟩ := Bool.and_eq_true _ _ |>.mp hb
                obtain ⟨b2, c2⟩ := Bool.and_eq_true _ _ |>.mp c1
                obtain ⟨b3, c3⟩ := Bool.and_eq_true _ _ |>.mp c2
                obtain ⟨b4, c4⟩ := Bool.and_eq_true _ _ |>.mp c3
                obtain ⟨b5, b6⟩ := Bool.and_eq_true _ _ |>.mp c4
                have b1 := Nat.eq_of_beq_eq_true b1
                have b3 := Nat.le_of_ble_eq_true b3
                have b5 := of_decide_eq_true b5
                have b6 := Nat.le_of_ble_eq_true b6
                split at h
                · rename_i σ2 cc2 ss2 hcal
                  cases hbl : Nat.blt σ2.length m_X0
                  · rw [hbl] at h; cases h
                  rw [hbl] at h
                  simp only [cond_true] at h
                  have hσ2 : σ2.length < m_X0 := Nat.le_of_ble_eq_true hbl
                  have hA := x_stk_in has hi3
                  have hiC : x_inv (σ, 0, 0, 0, lv_args 0 (Value.ref o :: as), ([] : List Value)) := ⟨hi1, fun u hu => hA _ (lv_args_in _ 0 u hu), fun v hv => by cases hv⟩
                  have hdr : ∀ v ∈ stA.drop (np + 1), m_vOk σ.length v := fun v hv => hi3 v (List.mem_of_mem_drop hv)
                  obtain ⟨v1, v2⟩ := ih _ _ _ _ _ _ hcal hiC hσ2
                  have hlen2 : σ.length ≤ σ2.length := v1.2.1
                  obtain ⟨u1, u2⟩ := ih _ _ _ _ _ _ h ⟨v1.1, fun u hu => m_vOk_mono hlen2 (hi2 u hu), fun v hv => m_vOk_mono hlen2 (hdr v hv)⟩ hσ
                  have u1b : ce + cc2 ≤ c' := u1.2.2.1
                  have u1c : sl + ss2 ≤ s' := u1.2.2.2
                  have u1d : σ2.length ≤ σ'.length := u1.2.1
                  refine ⟨⟨u1.1, Nat.le_trans hlen2 u1d, by show ce ≤ c'; omega, by show sl ≤ s'; omega⟩, ?_⟩
                  intro q hq p e R s m args below meth c dC dI aC ad0 σ0 sz mc ms hC hn hrt hR hroom hc hs h0
                  have h0 : σ0.length ≤ σ.length := h0
                  obtain rfl : q = qy := Option.some.inj (hq.symm.trans hqy)
                  have k := u2 q hq p e R s m args below meth c dC dI aC ad0 σ0 sz mc ms hC hn hrt hR hroom hc hs (Nat.le_trans h0 hlen2)
                  rw [e1, e2] at hdec
                  rw [e1, e3] at hwd
                  obtain ⟨q3, hq3, w1, w1n⟩ := hwd
                  obtain rfl : q3 = q2 := Option.some.inj (hq3.symm.trans hmt)
                  obtain ⟨yc, y20, -, yin, -, ynm, yini, ymh, ynp⟩ := a_mw_at hq3 hmw
                  have hM : v_K l X Y xa d2 q3.1 q3.2.1 q3.2.2.1 none σ (.ref o :: as) (fun r z => r = none ∧ z = σ2) cc2 ss2 := v_K_of b4 b6 (fun p e s m args below meth c dC dI aC ad sz hC hn hrt => v2 q3 hq3 p e (m_rm d2 cc2 ss2) s m args below meth c dC dI aC ad σ sz cc2 ss2 hC hn hrt ⟨Nat.le_refl _, Nat.le_refl _⟩ ⟨Nat.le_refl _, Nat.le_refl _⟩ (Nat.le_refl _) (Nat.le_refl _) (Nat.le_refl _))
                  have w5 := a_mt_in q3 (List.mem_of_getElem? hq3)
                  unfold a_mIn at w5
                  rw [b5] at w5
                  have hcat := v_cats_le (stA.drop (np + 1))
                  have kk : ∀ (r : Option Value) (z : m_H), (r = none ∧ z = σ2) → mV p l e R s m args below meth c (MQ below (m_Qc dC dI aC xa ad0 sz σ0 (fun r z => r = none ∧ z = σ')) args s mc ms (va_A (m_W ad0 aC σ0) sz)) dC dI aC (va_A (m_W ad0 aC σ0) sz) σ0.length ad0 xa q.2.2.1 (z, ce + cc2, sl + ss2, pc + 3, ls, r.toList ++ stA.drop (np + 1)) := by
                    rintro r z ⟨rfl, rfl⟩
                    exact k
                  rw [x_stk has]
                  by_cases hne : ne = 0
                  · exact mV_callI hY hC hdec hM (ynm rfl) (w1 hne) (yin (by decide)) yini w5 ymh (by rw [ynp, b1]) (by omega) y20 (by omega) (by omega) (by omega) h0 hdr hi2 kk
                  · exact mV_callIN hY hC hdec hM (ynm rfl) (w1n hne) (yin (by decide)) yini w5 ymh (by rw [ynp, b1]) (by omega) y20 (by omega) (by omega) (by omega) h0 hdr hi2 kk
                · cases h
            · cases h
          · cases h
        · -- a method
          rename_i stA x1 x2 x3 stB idx j y2 kd ne e1 e2 e3
          split at h
          · rename_i ci z2 z3 z4 z5 z6 z7 np q2 d2 hmw hmt
            split at h
            · rename_i o as has
              cases hb : Nat.beq as.length np && (Nat.ble (np + 1) stA.length && (Nat.ble (stA.drop (np + 1)).length 4 && (plainFor q2.1 && (decide (q2.2.2.2 = none) && (Nat.ble (lg_sl (.ref o :: as)).length q2.2.2.1 && (Nat.beq ne 0 && (Nat.blt ci 14 && x_rcv σ o ci)))))))
              · rw [hb] at h; cases h
              · rw [hb] at h
                simp only [cond_true] at h
                obtain ⟨b1, c1⟩ := Bool.and_eq_true _ _ |>.mp hb
                obtain ⟨b2, c2⟩ := Bool.and_eq_true _ _ |>.mp c1
                obtain ⟨b3, c3⟩ := Bool.and_eq_true _ _ |>.mp c2
                obtain ⟨b4, c4⟩ := Bool.and_eq_true _ _ |>.mp c3
                obtain ⟨b5, c5⟩ := Bool.and_eq_true _ _ |>.mp c4
                obtain ⟨b6, c6⟩ := Bool.and_eq_true _ _ |>.mp c5
                obtain ⟨b7, c7⟩ := Bool.and_eq_true _ _ |>.mp c6
                obtain ⟨b8, b9⟩ := Bool.and_eq_true _ _ |>.mp c7
                have b1 := Nat.eq_of_beq_eq_true b1
                have b3 := Nat.le_of_ble_eq_true b3
                have b5 := of_decide_eq_true b5
                have b6 := Nat.le_of_ble_eq_true b6
                have b7 := Nat.eq_of_beq_eq_true b7
                have b8 : ci < 14 := Nat.le_of_ble_eq_true b8
                obtain ⟨fs, hσo⟩ := x_rcv_ok b9
                · split at h
                  · rename_i σ2 cc2 ss2 hcal
                    cases hbl : Nat.blt σ2.length m_X0
                    · rw [hbl] at h; cases h
                    rw [hbl] at h
                    simp only [cond_true] at h
                    have hσ2 : σ2.length < m_X0 := Nat.le_of_ble_eq_true hbl
                    have hA := x_stk_in has hi3
                    have hiC : x_inv (σ, 0, 0, 0, lv_args 0 (Value.ref o :: as), ([] : List Value)) := ⟨hi1, fun u hu => hA _ (lv_args_in _ 0 u hu), fun v hv => by cases hv⟩
                    have hdr : ∀ v ∈ stA.drop (np + 1), m_vOk σ.length v := fun v hv => hi3 v (List.mem_of_mem_drop hv)
                    obtain ⟨v1, v2⟩ := ih _ _ _ _ _ _ hcal hiC hσ2
                    have hlen2 : σ.length ≤ σ2.length := v1.2.1
                    obtain ⟨u1, u2⟩ := ih _ _ _ _ _ _ h ⟨v1.1, fun u hu => m_vOk_mono hlen2 (hi2 u hu), fun v hv => m_vOk_mono hlen2 (hdr v hv)⟩ hσ
                    have u1b : ce + cc2 ≤ c' := u1.2.2.1
                    have u1c : sl + ss2 ≤ s' := u1.2.2.2
                    have u1d : σ2.length ≤ σ'.length := u1.2.1
                    refine ⟨⟨u1.1, Nat.le_trans hlen2 u1d, by show ce ≤ c'; omega, by show sl ≤ s'; omega⟩, ?_⟩
                    intro q hq p e R s m args below meth c dC dI aC ad0 σ0 sz mc ms hC hn hrt hR hroom hc hs h0
                    have h0 : σ0.length ≤ σ.length := h0
                    obtain rfl : q = qy := Option.some.inj (hq.symm.trans hqy)
                    have k := u2 q hq p e R s m args below meth c dC dI aC ad0 σ0 sz mc ms hC hn hrt hR hroom hc hs (Nat.le_trans h0 hlen2)
                    rw [e1, e2] at hdec
                    rw [e1, e3] at hwd
                    obtain ⟨q3, hq3, w1, w1n⟩ := hwd
                    obtain rfl : q3 = q2 := Option.some.inj (hq3.symm.trans hmt)
                    obtain ⟨yc, y20, -, yin, ysel, -, yini, ymh, ynp⟩ := a_mw_at hq3 hmw
                    have hM : v_K l X Y xa d2 q3.1 q3.2.1 q3.2.2.1 none σ (.ref o :: as) (fun r z => r = none ∧ z = σ2) cc2 ss2 := v_K_of b4 b6 (fun p e s m args below meth c dC dI aC ad sz hC hn hrt => v2 q3 hq3 p e (m_rm d2 cc2 ss2) s m args below meth c dC dI aC ad σ sz cc2 ss2 hC hn hrt ⟨Nat.le_refl _, Nat.le_refl _⟩ ⟨Nat.le_refl _, Nat.le_refl _⟩ (Nat.le_refl _) (Nat.le_refl _) (Nat.le_refl _))
                    have w5 := a_mt_in q3 (List.mem_of_getElem? hq3)
                    unfold a_mIn at w5
                    rw [b5] at w5
                    have hcat := v_cats_le (stA.drop (np + 1))
                    have kk : ∀ (r : Option Value) (z : m_H), (r = none ∧ z = σ2) → mV p l e R s m args below meth c (MQ below (m_Qc dC dI aC xa ad0 sz σ0 (fun r z => r = none ∧ z = σ')) args s mc ms (va_A (m_W ad0 aC σ0) sz)) dC dI aC (va_A (m_W ad0 aC σ0) sz) σ0.length ad0 xa q.2.2.1 (z, ce + cc2, sl + ss2, pc + 3, ls, r.toList ++ stA.drop (np + 1)) := by
                      rintro r z ⟨rfl, rfl⟩
                      exact k
                    have hcl : vwCl[ci]? = some (vwCl[ci]'b8) := List.getElem?_eq_getElem b8
                    have hrc := a_R_cls hcl
                    rw [x_stk has]
                    refine mV_callV hY hC hdec hM hσo hcl (yc.trans hrc.symm) (w1 b7) (yin (by decide)) ?_ ?_ w5 ymh (by rw [ynp, b1]) (by omega) y20 (by omega) (by omega) (by omega) h0 hdr hi2 kk
                    · have := ysel rfl
                      rw [hrc, ← yc]; exact this
                    · rw [hrc, ← yc]; exact yini
                  · cases h
            · cases h
          · cases h
        · -- the others
          split at h
          · rename_i g hg
            have hup := x_step_up ⟨hi1, hi2, hi3⟩ hg
            obtain ⟨u1, u2⟩ := ih _ _ _ _ _ _ h hup.1 hσ
            have a1 : σ.length ≤ g.1.length := hup.2.1
            have a2 : ce ≤ g.2.1 := hup.2.2.1
            have a3 : sl ≤ g.2.2.1 := hup.2.2.2
            refine ⟨⟨u1.1, Nat.le_trans a1 u1.2.1, Nat.le_trans a2 u1.2.2.1, Nat.le_trans a3 u1.2.2.2⟩, ?_⟩
            intro q hq p e R s m args below meth c dC dI aC ad0 σ0 sz mc ms hC hn hrt hR hroom hc hs h0
            have h0 : σ0.length ≤ σ.length := h0
            have k := u2 q hq p e R s m args below meth c dC dI aC ad0 σ0 sz mc ms hC hn hrt hR hroom hc hs (Nat.le_trans h0 a1)
            obtain rfl : q = qy := Option.some.inj (hq.symm.trans hqy)
            have b1 := u1.2.2.1
            have b2 := u1.2.2.2
            have b3 := u1.2.1
            exact x_step_ok hC (hYA _ _ _ hC.2.2.2.2.2.2.2.1.2.2.2.2) (fun z => hn.trans z) ⟨hi1, hi2, hi3⟩ h0 (by show σ.length < m_X0; omega) hdec hwd hg (by omega) (by omega) k
          · cases h
end XE
