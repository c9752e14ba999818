/-! BY HAND: what the reader doesn't reach -/
theorem kd {own : String} {cc : ByteArray} {code : List (List a_K)} (h : ∀ r ∈ code, ∀ q ∈ r, k_ok own cc q) {pc : Nat} {q : a_K} (hq : k_get code pc = some q) : kx_ok code own cc q := by
  obtain ⟨⟨r, h1, h2⟩, h3⟩ := k_get_in hq
  have h4 := h r h1 q h2
  obtain ⟨q1, q2⟩ := q
  obtain rfl : q1 = pc := h3
  exact ⟨⟨h4.1, q2.2.2.1, hq⟩, h4.2⟩
section HD
variable {p : Program} {l : Launch} {e : Env} {R : Room} {s : State} {m : MethodId} {args : Array Value} {below : List Frame} {meth : Method} {c : Code} {QQ : z_Q → State → Prop} {dC : Nat → ClassId} {dI : Nat → Nat → Nat} {aC : Nat → ClassId} {A : Nat → Prop} {n0 : Nat} {ad0 xa : Nat → Nat} {nL : Nat} {cc : ByteArray} {own : String} {X : Nat → Option (List Int32)} {Y : (Nat → Prop) → State → Heap → Prop}
variable {K : List (List a_K)} {Z : z_G → z_Q → Prop}
variable {σ : m_H} {ce sl pc mc ms : Nat} {ls : List (Nat × Value)} {st : List Value}
theorem mW_gf (hC : m_Ctx p s m args meth c cc nL own dC dI aC A xa X Y) {idx fl j ci k ne q : Nat} {fs : List Value} {v : Value} (hq : kx_ok K own cc (pc, .getfield idx, 3, fl, [j, ci, k, ne])) (hσ : σ[q]? = some (.inr ci, fs)) (hv : fs[k]? = some v) (kk : mW K Z p l e R s m args below meth c QQ dC dI aC A n0 ad0 xa nL (σ, ce, sl, pc + 3, ls, v :: st)) : mW K Z p l e R s m args below meth c QQ dC dI aC A n0 ad0 xa nL (σ, ce, sl, pc, ls, .ref q :: st) := by
  obtain ⟨r, hr, hk, w1, w2⟩ := hq.2.1
  by_cases hne : ne = 0
  · exact mW_getfield hC hq.1 hσ hr hk (w1 hne) hv kk
  · exact mW_getfieldN hC hq.1 hσ hr hk (w2 hne) hv kk
theorem mW_pf (hC : m_Ctx p s m args meth c cc nL own dC dI aC A xa X Y) {idx fl j ci k ne q : Nat} {fs : List Value} {v : Value} (hq : kx_ok K own cc (pc, .putfield idx, 3, fl, [j, ci, k, ne])) (hσ : σ[q]? = some (.inr ci, fs)) (hn : narrow (a_ty ci k) v = v) (hf : fits (a_ty ci k) v = true) (hl : k < fs.length) (kk : mW K Z p l e R s m args below meth c QQ dC dI aC A n0 ad0 xa nL (σ.set q (.inr ci, fs.set k v), ce, sl, pc + 3, ls, st)) : mW K Z p l e R s m args below meth c QQ dC dI aC A n0 ad0 xa nL (σ, ce, sl, pc, ls, v :: .ref q :: st) := by
  obtain ⟨⟨r, hr, hk, w1, w2⟩, w3⟩ := hq.2.1
  by_cases hne : ne = 0
  · exact mW_putfield hC hq.1 hσ hr hk (w1 hne) (w3 r hr) hn hf hl kk
  · exact mW_putfieldN hC hq.1 hσ hr hk (w2 hne) (w3 r hr) hn hf hl kk
theorem mW_invV (hY : m_Yok Y) (hC : m_Ctx p s m args meth c cc nL own dC dI aC A xa X Y) {idx fl j y w ne q ci np d x1 x2 x3 x4 x5 x6 : Nat} {qy : a_M} {fs as : List Value} {Q : Option Value → m_H → Prop} (hq : kx_ok K own cc (pc, .invokevirtual idx, 3, fl, [j, y, w, ne])) (hmt : a_mt[y]? = some qy) (hmw : a_mw[y]? = some (0, ci, x1, x2, x3, x4, x5, x6, np)) (hne : ne = 0) (hM : m_K y l X Y xa d qy.1 qy.2.1 qy.2.2.1 qy.2.2.2 σ (.ref q :: as) Q mc ms) (hσ : σ[q]? = some (.inr ci, fs)) (hci : ci < 14) (hnp : as.length = np)
    (hR : d + 1 ≤ R.frames ∧ 40 * d + 40 ≤ R.locals) (hce : ce + mc ≤ R.cells) (hsl : sl + ms ≤ R.slots) (h8 : st.length ≤ 4) (hn0 : n0 ≤ σ.length) (ho : ∀ v ∈ st, m_vOk σ.length v) (hol : ∀ q ∈ ls, m_vOk σ.length q.2)
    (kk : ∀ (r : Option Value) (σ' : m_H), Q r σ' → mW K Z p l e R s m args below meth c QQ dC dI aC A n0 ad0 xa nL (σ', ce + mc, sl + ms, pc + 3, ls, r.toList ++ st)) : mW K Z p l e R s m args below meth c QQ dC dI aC A n0 ad0 xa nL (σ, ce, sl, pc, ls, as.reverse ++ .ref q :: st) := by
  obtain ⟨q3, hq3, w1, -⟩ := hq.2.2.1 idx j y w ne (Or.inl rfl) rfl
  obtain rfl : q3 = qy := Option.some.inj (hq3.symm.trans hmt)
  obtain ⟨yc, y20, -, yin, ysel, -, yini, ymh, ynp⟩ := a_mw_at hq3 hmw
  have w5 := a_mt_in q3 (List.mem_of_getElem? hq3)
  have hcl : vwCl[ci]? = some (vwCl[ci]'hci) := List.getElem?_eq_getElem hci
  have hrc := a_R_cls hcl
  have hcat := v_cats_le st
  refine mW_callV hY hC hq.1 (by unfold z_np; rw [hmw, hnp]) hM hσ hcl (yc.trans hrc.symm) (w1 hne) (yin (by decide)) ?_ ?_ w5 ymh (by rw [ynp, hnp]) hR y20 hce hsl (by omega) hn0 ho hol kk
  · have := ysel rfl
    rw [hrc, ← yc]; exact this
  · rw [hrc, ← yc]; exact yini
theorem mW_invS (hY : m_Yok Y) (hC : m_Ctx p s m args meth c cc nL own dC dI aC A xa X Y) {idx fl j y w ne ci np d x1 x2 x3 x4 x5 x6 : Nat} {qy : a_M} {as : List Value} {Q : Option Value → m_H → Prop} (hq : kx_ok K own cc (pc, .invokestatic idx, 3, fl, [j, y, w, ne])) (hmt : a_mt[y]? = some qy) (hmw : a_mw[y]? = some (1, ci, x1, x2, x3, x4, x5, x6, np)) (hM : m_K y l X Y xa d qy.1 qy.2.1 qy.2.2.1 qy.2.2.2 σ as Q mc ms) (hnp : as.length = np)
    (hR : d + 1 ≤ R.frames ∧ 40 * d + 40 ≤ R.locals) (hce : ce + mc ≤ R.cells) (hsl : sl + ms ≤ R.slots) (h8 : st.length ≤ 4) (hn0 : n0 ≤ σ.length) (ho : ∀ v ∈ st, m_vOk σ.length v) (hol : ∀ q ∈ ls, m_vOk σ.length q.2)
    (kk : ∀ (r : Option Value) (σ' : m_H), Q r σ' → mW K Z p l e R s m args below meth c QQ dC dI aC A n0 ad0 xa nL (σ', ce + mc, sl + ms, pc + 3, ls, r.toList ++ st)) : mW K Z p l e R s m args below meth c QQ dC dI aC A n0 ad0 xa nL (σ, ce, sl, pc, ls, as.reverse ++ st) := by
  obtain ⟨q3, hq3, w1, w1n⟩ := hq.2.2.1 idx j y w ne (Or.inr rfl) rfl
  obtain rfl : q3 = qy := Option.some.inj (hq3.symm.trans hmt)
  obtain ⟨yc, y20, yst, -, -, -, yini, ymh, ynp⟩ := a_mw_at hq3 hmw
  have w5 := a_mt_in q3 (List.mem_of_getElem? hq3)
  have hcat := v_cats_le st
  by_cases hne : ne = 0
  · exact mW_callS hY hC hq.1 (by unfold z_np; rw [hmw, hnp]) hM (w1 hne) (yst rfl) yini w5 ymh (by rw [ynp, hnp]) hR y20 hce hsl (by omega) hn0 ho hol kk
  · exact mW_callSN hY hC hq.1 (by unfold z_np; rw [hmw, hnp]) hM (w1n hne) (yst rfl) yini w5 ymh (by rw [ynp, hnp]) hR y20 hce hsl (by omega) hn0 ho hol kk
end HD
/-- what comes back may be told more weakly -/
theorem m_K_post {yi : Nat} {l : Launch} {X : Nat → Option (List Int32)} {Y : (Nat → Prop) → State → Heap → Prop} {xa : Nat → Nat} {d n mc ms : Nat} {y : MethodName} {b : ByteArray} {r : Option FieldType} {σ : m_H} {as : List Value} {Q Q' : Option Value → m_H → Prop} (h : m_K yi l X Y xa d y b n r σ as Q mc ms) (hQ : ∀ r σ', Q r σ' → Q' r σ') : m_K yi l X Y xa d y b n r σ as Q' mc ms := fun hz => (h hz).mono fun r σ' q => ⟨hQ _ _ q.1, q.2⟩
/-- a method by its number, exactly -/
noncomputable def e_K (l : Launch) (X : Nat → Option (List Int32)) (Y : (Nat → Prop) → State → Heap → Prop) (xa : Nat → Nat) (d y : Nat) (σ : m_H) (as : List Value) (Q : Option Value → m_H → Prop) : Prop := ∀ q, a_mt[y]? = some q → m_K y l X Y xa d q.1 q.2.1 q.2.2.1 q.2.2.2 σ as Q 0 0
section HK
variable {l : Launch} {X : Nat → Option (List Int32)} {Y : (Nat → Prop) → State → Heap → Prop} {xa : Nat → Nat}
theorem e_fine {d : Nat} {σ : m_H} {fs : List Value} {w : Int32} (hσ : σ[251]? = some (.inr 13, fs)) (hw : fs[16]? = some (.int w)) : e_K l X Y xa d 165 σ [.ref 251] (fun r σ' => r = some (.int (if w = -1 then 1 else 0)) ∧ σ' = σ) := by
  intro q hq
  cases hq
  refine m_K_of (K := kt_165) rfl (by decide +kernel) (Nat.le_of_ble_eq_true rfl) rfl (fun p e s m args below meth c dC dI aC ad sz hC hn hrt => ?_)
  have hk := k_all_ok (own := "LetByTheDegreeModel") rfl kt_165_ok
  refine mW_aload_n hC (kd hk (pc := 0) rfl).1 rfl ?_
  refine mW_gf hC (kd hk (pc := 1) rfl) hσ hw ?_
  refine mW_iconst hC (kd hk (pc := 4) rfl).1 ?_
  refine mW_icmp_ne hC (kd hk (pc := 5) rfl).1 (tgt := 12) rfl (fun h => ?_) (fun h => ?_)
  · refine mW_iconst hC (kd hk (pc := 12) rfl).1 ?_
    refine mW_iret hC (kd hk (pc := 13) rfl).1 hrt rfl ⟨?_, rfl⟩ (Nat.le_refl _) (Nat.le_refl _)
    rw [if_neg (show ¬ w = -1 from h)]; rfl
  · refine mW_iconst hC (kd hk (pc := 8) rfl).1 ?_
    refine mW_goto hC (kd hk (pc := 9) rfl).1 (tgt := 13) rfl ?_
    refine mW_iret hC (kd hk (pc := 13) rfl).1 hrt rfl ⟨?_, rfl⟩ (Nat.le_refl _) (Nat.le_refl _)
    rw [if_pos (show w = -1 from h)]; rfl
theorem e_in {d : Nat} {σ : m_H} {v lo hi : Int32} : e_K l X Y xa d 162 σ [.int v, .int lo, .int hi] (fun r σ' => r = some (.int (if lo ≤ v ∧ v ≤ hi then 1 else 0)) ∧ σ' = σ) := by
  intro q hq
  cases hq
  refine m_K_of (K := kt_162) rfl (by decide +kernel) (Nat.le_of_ble_eq_true rfl) rfl (fun p e s m args below meth c dC dI aC ad sz hC hn hrt => ?_)
  have hk := k_all_ok (own := "LetByTheDegreeModel") rfl kt_162_ok
  refine mW_iload_n hC (kd hk (pc := 0) rfl).1 rfl ?_
  refine mW_iload_n hC (kd hk (pc := 1) rfl).1 rfl ?_
  refine mW_icmp_lt hC (kd hk (pc := 2) rfl).1 (tgt := 14) rfl (fun h => ?_) (fun h => ?_)
  · refine mW_iconst hC (kd hk (pc := 14) rfl).1 ?_
    refine mW_iret hC (kd hk (pc := 15) rfl).1 hrt rfl ⟨?_, rfl⟩ (Nat.le_refl _) (Nat.le_refl _)
    rw [if_neg (fun z => absurd h (Int32.not_lt.mpr z.1))]; rfl
  · refine mW_iload_n hC (kd hk (pc := 5) rfl).1 rfl ?_
    refine mW_iload_n hC (kd hk (pc := 6) rfl).1 rfl ?_
    refine mW_icmp_gt hC (kd hk (pc := 7) rfl).1 (tgt := 14) rfl (fun h2 => ?_) (fun h2 => ?_)
    · refine mW_iconst hC (kd hk (pc := 14) rfl).1 ?_
      refine mW_iret hC (kd hk (pc := 15) rfl).1 hrt rfl ⟨?_, rfl⟩ (Nat.le_refl _) (Nat.le_refl _)
      rw [if_neg (fun z => absurd h2 (Int32.not_lt.mpr z.2))]; rfl
    · refine mW_iconst hC (kd hk (pc := 10) rfl).1 ?_
      refine mW_goto hC (kd hk (pc := 11) rfl).1 (tgt := 15) rfl ?_
      refine mW_iret hC (kd hk (pc := 15) rfl).1 hrt rfl ⟨?_, rfl⟩ (Nat.le_refl _) (Nat.le_refl _)
      rw [if_pos ⟨Int32.not_lt.mp h, Int32.not_lt.mp h2⟩]; rfl
theorem e_here {d : Nat} {σ : m_H} {fs vs : List Value} {A L T : Int32} {q : Nat} {x : Int32} (hσ : σ[251]? = some (.inr 13, fs)) (hA : fs[15]? = some (.int A)) (hL : fs[13]? = some (.int L)) (hT : fs[14]? = some (.int T)) (hq : fs[12]? = some (.ref q)) (hσ2 : σ[q]? = some (.inl 1, vs)) (hx : A < L → A < T → vp_in A vs.length ∧ vs[A.toNatClampNeg]? = some (.int x)) :
    e_K l X Y xa d 168 σ [.ref 251] (fun r σ' => r = some (.int (if A < L ∧ A < T then x &&& 255 else -1)) ∧ σ' = σ) := by
  intro q hq
  cases hq
  refine m_K_of (K := kt_168) rfl (by decide +kernel) (Nat.le_of_ble_eq_true rfl) rfl (fun p e s m args below meth c dC dI aC ad sz hC hn hrt => ?_)
  have hk := k_all_ok (own := "LetByTheDegreeModel") rfl kt_168_ok
  refine mW_aload_n hC (kd hk (pc := 0) rfl).1 rfl ?_
  refine mW_gf hC (kd hk (pc := 1) rfl) hσ hA ?_
  refine mW_aload_n hC (kd hk (pc := 4) rfl).1 rfl ?_
  refine mW_gf hC (kd hk (pc := 5) rfl) hσ hL ?_
  refine mW_icmp_ge hC (kd hk (pc := 8) rfl).1 (tgt := 38) rfl (fun h => ?_) (fun h => ?_)
  · refine mW_iconst hC (kd hk (pc := 38) rfl).1 ?_
    refine mW_iret hC (kd hk (pc := 39) rfl).1 hrt rfl ⟨?_, rfl⟩ (Nat.le_refl _) (Nat.le_refl _)
    rw [if_neg (fun z => absurd z.1 (Int32.not_lt.mpr h))]; rfl
  · have h := Int32.not_le.mp h
    refine mW_aload_n hC (kd hk (pc := 11) rfl).1 rfl ?_
    refine mW_gf hC (kd hk (pc := 12) rfl) hσ hA ?_
    refine mW_aload_n hC (kd hk (pc := 15) rfl).1 rfl ?_
    refine mW_gf hC (kd hk (pc := 16) rfl) hσ hT ?_
    refine mW_icmp_ge hC (kd hk (pc := 19) rfl).1 (tgt := 38) rfl (fun h2 => ?_) (fun h2 => ?_)
    · refine mW_iconst hC (kd hk (pc := 38) rfl).1 ?_
      refine mW_iret hC (kd hk (pc := 39) rfl).1 hrt rfl ⟨?_, rfl⟩ (Nat.le_refl _) (Nat.le_refl _)
      rw [if_neg (fun z => absurd z.2 (Int32.not_lt.mpr h2))]; rfl
    · have h2 := Int32.not_le.mp h2
      obtain ⟨x1, x2⟩ := hx h h2
      refine mW_aload_n hC (kd hk (pc := 22) rfl).1 rfl ?_
      refine mW_gf hC (kd hk (pc := 23) rfl) hσ hq ?_
      refine mW_aload_n hC (kd hk (pc := 26) rfl).1 rfl ?_
      refine mW_gf hC (kd hk (pc := 27) rfl) hσ hA ?_
      refine mW_baload hC (kd hk (pc := 30) rfl).1 hσ2 x1 x2 ?_
      refine mW_sipush hC (kd hk (pc := 31) rfl).1 ?_
      refine mW_iand hC (kd hk (pc := 34) rfl).1 ?_
      refine mW_goto hC (kd hk (pc := 35) rfl).1 (tgt := 39) rfl ?_
      refine mW_iret hC (kd hk (pc := 39) rfl).1 hrt rfl ⟨?_, rfl⟩ (Nat.le_refl _) (Nat.le_refl _)
      rw [if_pos ⟨h, h2⟩]; rfl
end HK
