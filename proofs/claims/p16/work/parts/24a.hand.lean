section
/-! BY HAND: what the reader doesn't reach -/
theorem kd {own : String} {cc : ByteArray} {code : List (List a_K)} (h : ∀ r ∈ code, ∀ q ∈ r, k_ok own cc q) {pc : Nat} {q : a_K} (hq : k_get code pc = some q) : kx_ok code own cc q := by
  obtain ⟨⟨r, h1, h2⟩, h3⟩ := k_get_in hq
  have h4 := h r h1 q h2
  obtain ⟨q1, q2⟩ := q
  obtain rfl : q1 = pc := h3
  exact ⟨⟨h4.1, q2.2.2.1, hq⟩, h4.2⟩
section HD
variable {p : Program} {l : Launch} {e : Env} {R : Room} {s : State} {m : MethodId} {args : Array Value} {below : List Frame} {meth : Method} {c : Code} {QQ : z_Q → State → Prop} {dC : Nat → ClassId} {dI : Nat → Nat → Nat} {aC : Nat → ClassId} {A : Nat → Prop} {n0 : Nat} {ad0 xa : Nat → Nat} {nL : Nat} {cc : ByteArray} {own : String} {X : Nat → Option (List Int32)} {Y : (Nat → Prop) → State → Heap → Prop}
variable {K : List (List a_K)} {Z : z_G → z_Q → Prop}
variable {σ : m_H} {ce sl pc mc ms : Nat} {ls : List (Nat × Value)} {st : List Value}
theorem mW_gf (hC : m_Ctx p s m args meth c cc nL own dC dI aC A xa X Y) {idx fl j ci k ne q : Nat} {fs : List Value} {v : Value} (hq : kx_ok K own cc (pc, .getfield idx, 3, fl, [j, ci, k, ne])) (hσ : σ[q]? = some (.inr ci, fs)) (hv : fs[k]? = some v) (kk : mW K Z p l e R s m args below meth c QQ dC dI aC A n0 ad0 xa nL (σ, ce, sl, pc + 3, ls, v :: st)) : mW K Z p l e R s m args below meth c QQ dC dI aC A n0 ad0 xa nL (σ, ce, sl, pc, ls, .ref q :: st) := by
  obtain ⟨r, hr, hk, w1, w2⟩ := hq.2.1
  by_cases hne : ne = 0
  · exact mW_getfield hC hq.1 hσ hr hk (w1 hne) hv kk
  · exact mW_getfieldN hC hq.1 hσ hr hk (w2 hne) hv kk
theorem mW_pf (hC : m_Ctx p s m args meth c cc nL own dC dI aC A xa X Y) {idx fl j ci k ne q : Nat} {fs : List Value} {v : Value} (hq : kx_ok K own cc (pc, .putfield idx, 3, fl, [j, ci, k, ne])) (hσ : σ[q]? = some (.inr ci, fs)) (hn : narrow (a_ty ci k) v = v) (hf : fits (a_ty ci k) v = true) (hl : k < fs.length) (kk : mW K Z p l e R s m args below meth c QQ dC dI aC A n0 ad0 xa nL (σ.set q (.inr ci, fs.set k v), ce, sl, pc + 3, ls, st)) : mW K Z p l e R s m args below meth c QQ dC dI aC A n0 ad0 xa nL (σ, ce, sl, pc, ls, v :: .ref q :: st) := by
  obtain ⟨⟨r, hr, hk, w1, w2⟩, w3⟩ := hq.2.1
  by_cases hne : ne = 0
  · exact mW_putfield hC hq.1 hσ hr hk (w1 hne) (w3 r hr) hn hf hl kk
  · exact mW_putfieldN hC hq.1 hσ hr hk (w2 hne) (w3 r hr) hn hf hl kk
theorem mW_invV (hY : m_Yok Y) (hC : m_Ctx p s m args meth c cc nL own dC dI aC A xa X Y) {idx fl j y w ne q ci np d x1 x2 x3 x4 x5 x6 : Nat} {qy : a_M} {fs as : List Value} {Q : Option Value → m_H → Prop} (hq : kx_ok K own cc (pc, .invokevirtual idx, 3, fl, [j, y, w, ne])) (hmt : a_mt[y]? = some qy) (hmw : a_mw[y]? = some (0, ci, x1, x2, x3, x4, x5, x6, np)) (hne : ne = 0) (hM : m_K y l X Y xa d qy.1 qy.2.1 qy.2.2.1 qy.2.2.2 σ (.ref q :: as) Q mc ms) (hσ : σ[q]? = some (.inr ci, fs)) (hci : ci < 14) (hnp : as.length = np)
    (hR : d + 1 ≤ R.frames ∧ 40 * d + 40 ≤ R.locals) (hce : ce + mc ≤ R.cells) (hsl : sl + ms ≤ R.slots) (h8 : st.length ≤ 4) (hn0 : n0 ≤ σ.length) (ho : ∀ v ∈ st, m_vOk σ.length v) (hol : ∀ q ∈ ls, m_vOk σ.length q.2)
    (kk : ∀ (r : Option Value) (σ' : m_H), Q r σ' → mW K Z p l e R s m args below meth c QQ dC dI aC A n0 ad0 xa nL (σ', ce + mc, sl + ms, pc + 3, ls, r.toList ++ st)) : mW K Z p l e R s m args below meth c QQ dC dI aC A n0 ad0 xa nL (σ, ce, sl, pc, ls, as.reverse ++ .ref q :: st) := by
  obtain ⟨q3, hq3, w1, -⟩ := hq.2.2.1 idx j y w ne (Or.inl rfl) rfl
  obtain rfl : q3 = qy := Option.some.inj (hq3.symm.trans hmt)
  obtain ⟨yc, y20, -, yin, ysel, -, yini, ymh, ynp⟩ := a_mw_at hq3 hmw
  have w5 := a_mt_in q3 (List.mem_of_getElem? hq3)
  have hcl : vwCl[ci]? = some (vwCl[ci]'hci) := List.getElem?_eq_getElem hci
  have hrc := a_R_cls hcl
  have hcat := v_cats_le st
  refine mW_callV hY hC hq.1 (by unfold z_np; rw [hmw, hnp]) hM hσ hcl (yc.trans hrc.symm) (w1 hne) (yin (by decide)) ?_ ?_ w5 ymh (by rw [ynp, hnp]) hR y20 hce hsl (by omega) hn0 ho hol kk
  · have := ysel rfl
    rw [hrc, ← yc]; exact this
  · rw [hrc, ← yc]; exact yini
theorem mW_invS (hY : m_Yok Y) (hC : m_Ctx p s m args meth c cc nL own dC dI aC A xa X Y) {idx fl j y w ne ci np d x1 x2 x3 x4 x5 x6 : Nat} {qy : a_M} {as : List Value} {Q : Option Value → m_H → Prop} (hq : kx_ok K own cc (pc, .invokestatic idx, 3, fl, [j, y, w, ne])) (hmt : a_mt[y]? = some qy) (hmw : a_mw[y]? = some (1, ci, x1, x2, x3, x4, x5, x6, np)) (hM : m_K y l X Y xa d qy.1 qy.2.1 qy.2.2.1 qy.2.2.2 σ as Q mc ms) (hnp : as.length = np)
    (hR : d + 1 ≤ R.frames ∧ 40 * d + 40 ≤ R.locals) (hce : ce + mc ≤ R.cells) (hsl : sl + ms ≤ R.slots) (h8 : st.length ≤ 4) (hn0 : n0 ≤ σ.length) (ho : ∀ v ∈ st, m_vOk σ.length v) (hol : ∀ q ∈ ls, m_vOk σ.length q.2)
    (kk : ∀ (r : Option Value) (σ' : m_H), Q r σ' → mW K Z p l e R s m args below meth c QQ dC dI aC A n0 ad0 xa nL (σ', ce + mc, sl + ms, pc + 3, ls, r.toList ++ st)) : mW K Z p l e R s m args below meth c QQ dC dI aC A n0 ad0 xa nL (σ, ce, sl, pc, ls, as.reverse ++ st) := by
  obtain ⟨q3, hq3, w1, w1n⟩ := hq.2.2.1 idx j y w ne (Or.inr rfl) rfl
  obtain rfl : q3 = qy := Option.some.inj (hq3.symm.trans hmt)
  obtain ⟨yc, y20, yst, -, -, -, yini, ymh, ynp⟩ := a_mw_at hq3 hmw
  have w5 := a_mt_in q3 (List.mem_of_getElem? hq3)
  have hcat := v_cats_le st
  by_cases hne : ne = 0
  · exact mW_callS hY hC hq.1 (by unfold z_np; rw [hmw, hnp]) hM (w1 hne) (yst rfl) yini w5 ymh (by rw [ynp, hnp]) hR y20 hce hsl (by omega) hn0 ho hol kk
  · exact mW_callSN hY hC hq.1 (by unfold z_np; rw [hmw, hnp]) hM (w1n hne) (yst rfl) yini w5 ymh (by rw [ynp, hnp]) hR y20 hce hsl (by omega) hn0 ho hol kk
end HD
/-- what comes back may be told more weakly -/
theorem m_K_post {yi : Nat} {l : Launch} {X : Nat → Option (List Int32)} {Y : (Nat → Prop) → State → Heap → Prop} {xa : Nat → Nat} {d n mc ms : Nat} {y : MethodName} {b : ByteArray} {r : Option FieldType} {σ : m_H} {as : List Value} {Q Q' : Option Value → m_H → Prop} (h : m_K yi l X Y xa d y b n r σ as Q mc ms) (hQ : ∀ r σ', Q r σ' → Q' r σ') : m_K yi l X Y xa d y b n r σ as Q' mc ms := fun hz => (h hz).mono fun r σ' q => ⟨hQ _ _ q.1, q.2⟩
/-- a method by its number, exactly -/
noncomputable def e_K (l : Launch) (X : Nat → Option (List Int32)) (Y : (Nat → Prop) → State → Heap → Prop) (xa : Nat → Nat) (d y : Nat) (σ : m_H) (as : List Value) (Q : Option Value → m_H → Prop) : Prop := ∀ q, a_mt[y]? = some q → m_K y l X Y xa d q.1 q.2.1 q.2.2.1 q.2.2.2 σ as Q 0 0
section HK
variable {l : Launch} {X : Nat → Option (List Int32)} {Y : (Nat → Prop) → State → Heap → Prop} {xa : Nat → Nat}
theorem e_fine {d : Nat} {σ : m_H} {fs : List Value} {w : Int32} (hσ : σ[251]? = some (.inr 13, fs)) (hw : fs[16]? = some (.int w)) : e_K l X Y xa d 165 σ [.ref 251] (fun r σ' => r = some (.int (if w = -1 then 1 else 0)) ∧ σ' = σ) := by
  intro q hq
  cases hq
  refine m_K_of (K := kt_165) rfl (by decide +kernel) (Nat.le_of_ble_eq_true rfl) rfl (fun p e s m args below meth c dC dI aC ad sz hC hn hrt => ?_)
  have hk := k_all_ok (own := "LetByTheDegreeModel") rfl kt_165_ok
  refine mW_aload_n hC (kd hk (pc := 0) rfl).1 rfl ?_
  refine mW_gf hC (kd hk (pc := 1) rfl) hσ hw ?_
  refine mW_iconst hC (kd hk (pc := 4) rfl).1 ?_
  refine mW_icmp_ne hC (kd hk (pc := 5) rfl).1 (tgt := 12) rfl (fun h => ?_) (fun h => ?_)
  · refine mW_iconst hC (kd hk (pc := 12) rfl).1 ?_
    refine mW_iret hC (kd hk (pc := 13) rfl).1 hrt rfl ⟨?_, rfl⟩ (Nat.le_refl _) (Nat.le_refl _)
    rw [if_neg (show ¬ w = -1 from h)]; rfl
  · refine mW_iconst hC (kd hk (pc := 8) rfl).1 ?_
    refine mW_goto hC (kd hk (pc := 9) rfl).1 (tgt := 13) rfl ?_
    refine mW_iret hC (kd hk (pc := 13) rfl).1 hrt rfl ⟨?_, rfl⟩ (Nat.le_refl _) (Nat.le_refl _)
    rw [if_pos (show w = -1 from h)]; rfl
theorem e_in {d : Nat} {σ : m_H} {v lo hi : Int32} : e_K l X Y xa d 162 σ [.int v, .int lo, .int hi] (fun r σ' => r = some (.int (if lo ≤ v ∧ v ≤ hi then 1 else 0)) ∧ σ' = σ) := by
  intro q hq
  cases hq
  refine m_K_of (K := kt_162) rfl (by decide +kernel) (Nat.le_of_ble_eq_true rfl) rfl (fun p e s m args below meth c dC dI aC ad sz hC hn hrt => ?_)
  have hk := k_all_ok (own := "LetByTheDegreeModel") rfl kt_162_ok
  refine mW_iload_n hC (kd hk (pc := 0) rfl).1 rfl ?_
  refine mW_iload_n hC (kd hk (pc := 1) rfl).1 rfl ?_
  refine mW_icmp_lt hC (kd hk (pc := 2) rfl).1 (tgt := 14) rfl (fun h => ?_) (fun h => ?_)
  · refine mW_iconst hC (kd hk (pc := 14) rfl).1 ?_
    refine mW_iret hC (kd hk (pc := 15) rfl).1 hrt rfl ⟨?_, rfl⟩ (Nat.le_refl _) (Nat.le_refl _)
    rw [if_neg (fun z => absurd h (Int32.not_lt.mpr z.1))]; rfl
  · refine mW_iload_n hC (kd hk (pc := 5) rfl).1 rfl ?_
    refine mW_iload_n hC (kd hk (pc := 6) rfl).1 rfl ?_
    refine mW_icmp_gt hC (kd hk (pc := 7) rfl).1 (tgt := 14) rfl (fun h2 => ?_) (fun h2 => ?_)
    · refine mW_iconst hC (kd hk (pc := 14) rfl).1 ?_
      refine mW_iret hC (kd hk (pc := 15) rfl).1 hrt rfl ⟨?_, rfl⟩ (Nat.le_refl _) (Nat.le_refl _)
      rw [if_neg (fun z => absurd h2 (Int32.not_lt.mpr z.2))]; rfl
    · refine mW_iconst hC (kd hk (pc := 10) rfl).1 ?_
      refine mW_goto hC (kd hk (pc := 11) rfl).1 (tgt := 15) rfl ?_
      refine mW_iret hC (kd hk (pc := 15) rfl).1 hrt rfl ⟨?_, rfl⟩ (Nat.le_refl _) (Nat.le_refl _)
      rw [if_pos ⟨Int32.not_lt.mp h, Int32.not_lt.mp h2⟩]; rfl
theorem e_here {d : Nat} {σ : m_H} {fs vs : List Value} {A L T : Int32} {q : Nat} {x : Int32} (hσ : σ[251]? = some (.inr 13, fs)) (hA : fs[15]? = some (.int A)) (hL : fs[13]? = some (.int L)) (hT : fs[14]? = some (.int T)) (hq : fs[12]? = some (.ref q)) (hσ2 : σ[q]? = some (.inl 1, vs)) (hx : A < L → A < T → vp_in A vs.length ∧ vs[A.toNatClampNeg]? = some (.int x)) :
    e_K l X Y xa d 168 σ [.ref 251] (fun r σ' => r = some (.int (if A < L ∧ A < T then x &&& 255 else -1)) ∧ σ' = σ) := by
  intro q hq
  cases hq
  refine m_K_of (K := kt_168) rfl (by decide +kernel) (Nat.le_of_ble_eq_true rfl) rfl (fun p e s m args below meth c dC dI aC ad sz hC hn hrt => ?_)
  have hk := k_all_ok (own := "LetByTheDegreeModel") rfl kt_168_ok
  refine mW_aload_n hC (kd hk (pc := 0) rfl).1 rfl ?_
  refine mW_gf hC (kd hk (pc := 1) rfl) hσ hA ?_
  refine mW_aload_n hC (kd hk (pc := 4) rfl).1 rfl ?_
  refine mW_gf hC (kd hk (pc := 5) rfl) hσ hL ?_
  refine mW_icmp_ge hC (kd hk (pc := 8) rfl).1 (tgt := 38) rfl (fun h => ?_) (fun h => ?_)
  · refine mW_iconst hC (kd hk (pc := 38) rfl).1 ?_
    refine mW_iret hC (kd hk (pc := 39) rfl).1 hrt rfl ⟨?_, rfl⟩ (Nat.le_refl _) (Nat.le_refl _)
    rw [if_neg (fun z => absurd z.1 (Int32.not_lt.mpr h))]; rfl
  · have h := Int32.not_le.mp h
    refine mW_aload_n hC (kd hk (pc := 11) rfl).1 rfl ?_
    refine mW_gf hC (kd hk (pc := 12) rfl) hσ hA ?_
    refine mW_aload_n hC (kd hk (pc := 15) rfl).1 rfl ?_
    refine mW_gf hC (kd hk (pc := 16) rfl) hσ hT ?_
    refine mW_icmp_ge hC (kd hk (pc := 19) rfl).1 (tgt := 38) rfl (fun h2 => ?_) (fun h2 => ?_)
    · refine mW_iconst hC (kd hk (pc := 38) rfl).1 ?_
      refine mW_iret hC (kd hk (pc := 39) rfl).1 hrt rfl ⟨?_, rfl⟩ (Nat.le_refl _) (Nat.le_refl _)
      rw [if_neg (fun z => absurd z.2 (Int32.not_lt.mpr h2))]; rfl
    · have h2 := Int32.not_le.mp h2
      obtain ⟨x1, x2⟩ := hx h h2
      refine mW_aload_n hC (kd hk (pc := 22) rfl).1 rfl ?_
      refine mW_gf hC (kd hk (pc := 23) rfl) hσ hq ?_
      refine mW_aload_n hC (kd hk (pc := 26) rfl).1 rfl ?_
      refine mW_gf hC (kd hk (pc := 27) rfl) hσ hA ?_
      refine mW_baload hC (kd hk (pc := 30) rfl).1 hσ2 x1 x2 ?_
      refine mW_sipush hC (kd hk (pc := 31) rfl).1 ?_
      refine mW_iand hC (kd hk (pc := 34) rfl).1 ?_
      refine mW_goto hC (kd hk (pc := 35) rfl).1 (tgt := 39) rfl ?_
      refine mW_iret hC (kd hk (pc := 39) rfl).1 hrt rfl ⟨?_, rfl⟩ (Nat.le_refl _) (Nat.le_refl _)
      rw [if_pos ⟨h, h2⟩]; rfl
end HK
end
section
/-! the greatest common divisor -/
def q_common (σ : m_H) (a b : Int64) : Option Value → m_H → Prop := fun r σ' => σ' = σ ∧ ∃ x : Int64, r = some (.long x) ∧ (x = 0 → a = 0 ∧ b = 0)
section HC
variable {l : Launch} {X : Nat → Option (List Int32)} {Y : (Nat → Prop) → State → Heap → Prop} {xa : Nat → Nat}
theorem i64_rem (x y : Int64) : (x - x / y * y).toInt = x.toInt.tmod y.toInt := by
  have e : x - x / y * y = x % y := by
    apply Int64.toInt_inj.mp
    have h1 := Int64.le_toInt (x % y)
    have h2 := Int64.toInt_lt (x % y)
    rw [Int64.toInt_sub, Int64.toInt_mul, Int64.toInt_div, Int.bmod_mul_bmod, Int.sub_bmod_bmod, Int.mul_comm (x.toInt.tdiv y.toInt), ← Int.tmod_def, ← Int64.toInt_mod]
    exact Int.bmod_eq_of_le_mul_two (by omega) (by omega)
  rw [e, Int64.toInt_mod]
theorem lg_cmp_0 {x y : Int64} : lg_cmp x y = 0 ↔ x = y := by
  unfold lg_cmp
  by_cases h : x > y
  · rw [if_pos h]
    refine ⟨fun z => absurd z (by decide), fun z => ?_⟩
    subst z
    exact (Int64.lt_irrefl h).elim
  · rw [if_neg h]
    by_cases h2 : x = y
    · rw [if_pos h2]; exact ⟨fun _ => h2, fun _ => rfl⟩
    · rw [if_neg h2]; exact ⟨fun z => absurd z (by decide), fun z => absurd z h2⟩
theorem e_common_step (hY : m_Yok Y) {d : Nat} {σ : m_H} {a b : Int64} (hd : ¬ b = 0 → ∃ d', d = d' + 1 ∧ e_K l X Y xa d' 241 σ [.long b, .long (a - a / b * b)] (q_common σ b (a - a / b * b))) : e_K l X Y xa d 241 σ [.long a, .long b] (q_common σ a b) := by
  intro q hq
  cases hq
  refine m_K_of (K := kt_241) rfl (by decide +kernel) (Nat.le_of_ble_eq_true rfl) rfl (fun p e s m args below meth c dC dI aC ad sz hC hn hrt => ?_)
  have hk := k_all_ok (own := "LetByTheDegreeModel") rfl kt_241_ok
  refine mW_lload_n hC (kd hk (pc := 0) rfl).1 rfl ?_
  refine mW_lconst hC (kd hk (pc := 1) rfl).1 ?_
  refine mW_lcmp hC (kd hk (pc := 2) rfl).1 ?_
  refine mW_if_ne hC (kd hk (pc := 3) rfl).1 (tgt := 10) rfl (fun h => ?_) (fun h => ?_)
  · have hb : ¬ b = 0 := fun z => h (lg_cmp_0.mpr z)
    obtain ⟨d', rfl, hM⟩ := hd hb
    refine mW_lload_n hC (kd hk (pc := 10) rfl).1 rfl ?_
    refine mW_lload_n hC (kd hk (pc := 11) rfl).1 rfl ?_
    refine mW_lload_n hC (kd hk (pc := 12) rfl).1 rfl ?_
    refine mW_lrem hC (kd hk (pc := 13) rfl).1 hb ?_
    refine mW_invS hY hC (as := [.long b, .long (a - a / b * b)]) (st := []) (kd hk (pc := 14) rfl) rfl rfl (hM _ rfl) rfl ⟨Nat.le_refl _, Nat.le_refl _⟩ (Nat.zero_le _) (Nat.zero_le _) (Nat.zero_le _) (Nat.le_refl _) (fun v hv => by cases hv) (fun u hu => ?_) (fun r σ' hQ => ?_)
    · rcases List.mem_cons.mp hu with rfl | hu
      · trivial
      · rcases List.mem_cons.mp hu with rfl | hu
        · trivial
        · cases hu
    · obtain ⟨rfl, x, rfl, hx⟩ := hQ
      refine mW_lret hC (kd hk (pc := 17) rfl).1 hrt ⟨rfl, x, rfl, fun z => absurd (hx z).1 hb⟩ (Nat.le_refl _) (Nat.le_refl _)
  · have hb : b = 0 := lg_cmp_0.mp h
    refine mW_lload_n hC (kd hk (pc := 6) rfl).1 rfl ?_
    refine mW_goto hC (kd hk (pc := 7) rfl).1 (tgt := 17) rfl ?_
    exact mW_lret hC (kd hk (pc := 17) rfl).1 hrt ⟨rfl, a, rfl, fun z => ⟨z, hb⟩⟩ (Nat.le_refl _) (Nat.le_refl _)
theorem nat_mod_half {m k : Nat} (hk : 0 < k) (h : k < m) : 2 * (m % k) < m := by
  have h1 := Nat.mod_lt m hk
  have h2 := Nat.div_add_mod m k
  have h3 : 1 ≤ m / k := Nat.div_pos (Nat.le_of_lt h) hk
  have h4 : k * 1 ≤ k * (m / k) := Nat.mul_le_mul_left k h3
  omega
theorem e_common (hY : m_Yok Y) : ∀ (n : Nat) (a b : Int64) (d : Nat) (σ : m_H), b.toInt.natAbs < 2 ^ n → 2 * n ≤ d → e_K l X Y xa d 241 σ [.long a, .long b] (q_common σ a b)
  | 0, a, b, d, σ, hb, hd => by
    refine e_common_step hY (fun z => absurd ?_ z)
    have : b.toInt = 0 := by
      have : b.toInt.natAbs < 1 := hb
      omega
    exact Int64.toInt_inj.mp this
  | n + 1, a, b, d, σ, hb, hd => by
    refine e_common_step hY (fun z => ⟨d - 1, by omega, ?_⟩)
    have hb0 : b.toInt ≠ 0 := fun y => z (Int64.toInt_inj.mp y)
    have e1 : (a - a / b * b).toInt.natAbs = a.toInt.natAbs % b.toInt.natAbs := by rw [i64_rem, Int.natAbs_tmod]
    refine e_common_step hY (fun z2 => ⟨d - 2, by omega, ?_⟩)
    have hr0 : (a - a / b * b).toInt ≠ 0 := fun y => z2 (Int64.toInt_inj.mp y)
    refine e_common hY n _ _ (d - 2) σ ?_ (by omega)
    rw [i64_rem, Int.natAbs_tmod]
    have h1 : (a - a / b * b).toInt.natAbs < b.toInt.natAbs := by rw [e1]; exact Nat.mod_lt _ (by omega)
    have h2 := nat_mod_half (m := b.toInt.natAbs) (k := (a - a / b * b).toInt.natAbs) (by omega) h1
    have h3 : 2 ^ (n + 1) = 2 * 2 ^ n := by rw [Nat.pow_succ, Nat.mul_comm]
    omega
theorem cn_0_sem (hY : m_Yok Y) (d : Nat) : c_sem l X Y xa d cn_0 := by
  intro q hq ρ0 M z dz σ vs he hM hh htau hz hMz hdep hdz ho ha hv
  obtain ⟨a, t1, e1, ha1, ht1⟩ := s_long ha rfl
  subst e1
  obtain ⟨b, t2, e2, hb1, ht2⟩ := s_long ht1 rfl
  subst e2
  cases t2 with
  | cons v t => exact absurd ht2 id
  | nil =>
    cases hdep
    have hzz : (0 : Int) + 0 = z := Option.some.inj htau
    obtain rfl : z = 0 := by omega
    clear hzz
    have hdz : (130 : Int) ≤ (d : Int) := hdz
    have hb2 : ρ0[1]? = some b.toInt := by
      have : (ρ0[1]?).map (fun r => r + 0) = some b.toInt := hb1
      simpa using this
    have hbr := he.2 1 _ _ rfl hb2
    have hb3 : 1 ≤ b.toInt := hbr.1
    have hb4 : b.toInt ≤ 9223372036854775807 := hbr.2.1
    have hm := e_common (l := l) (X := X) (xa := xa) hY 63 a b d σ (by
      have : (2 : Nat) ^ 63 = 9223372036854775808 := by decide +kernel
      omega) (by omega) q hq
    refine m_K_post hm (fun r σ' hQ => ?_)
    obtain ⟨rfl, x, rfl, hx⟩ := hQ
    have hx0 : x.toInt ≠ 0 := fun y => by
      have := (hx (Int64.toInt_inj.mp y)).2
      rw [this] at hb3
      exact absurd hb3 (by decide)
    have hxr := i64_rng x
    have hl : ρ0.length = 2 := he.1
    have hat : (ρ0 ++ [x.toInt])[2]? = some x.toInt := by
      rw [List.getElem?_append_right (by omega), hl]; rfl
    have hret : v_ok (ρ0 ++ [x.toInt]) (4, 2, 0) (.long x) := ⟨x, x.toInt, rfl, hat, by show x.toInt = x.toInt + 0; omega⟩
    have hM0 : M + 0 = M := by omega
    rcases Int.lt_or_gt_of_ne hx0 with hneg | hpos
    · exact ⟨_, List.mem_cons_of_mem _ List.mem_cons_self, ρ0 ++ [x.toInt], r_ext.push _, by rw [hM0]; exact e_ok_push he ⟨hxr.1, by show x.toInt ≤ -1; omega, fun y => by cases y⟩, fun q hq => (by cases hq), hret, by rw [hM0]; exact hh, (fun q hq => by cases hq), fun p k _ => rfl⟩
    · exact ⟨_, List.mem_cons_self, ρ0 ++ [x.toInt], r_ext.push _, by rw [hM0]; exact e_ok_push he ⟨by show (1 : Int) ≤ x.toInt; omega, hxr.2, fun y => by cases y⟩, fun q hq => (by cases hq), hret, by rw [hM0]; exact hh, (fun q hq => by cases hq), fun p k _ => rfl⟩
end HC
end
section
/-! one of some signs -/
section HO
variable {l : Launch} {X : Nat → Option (List Int32)} {Y : (Nat → Prop) → State → Heap → Prop} {xa : Nat → Nat}
theorem m_rm_ok {d mc ms : Nat} : d + 1 ≤ (m_rm (d + 1) mc ms).frames ∧ 40 * d + 40 ≤ (m_rm (d + 1) mc ms).locals := ⟨Nat.le_refl _, Nat.le_refl _⟩
theorem vok_ref {n k : Nat} (h : k < n) : m_vOk n (.ref k) := Or.inl h
theorem e_fault (hY : m_Yok Y) {d : Nat} {σ : m_H} {fs : List Value} {w x : Int32} (hl : 251 < σ.length) (hfl : 16 < fs.length) (hσ : σ[251]? = some (.inr 13, fs)) (hw : fs[16]? = some (.int w)) : e_K l X Y xa (d + 1) 169 σ [.ref 251, .int x] (fun r σ' => r = none ∧ σ' = (if w = -1 then σ.set 251 (.inr 13, fs.set 16 (.int x)) else σ)) := by
  intro q hq
  cases hq
  refine m_K_of (K := kt_169) rfl (by decide +kernel) (Nat.le_of_ble_eq_true rfl) rfl (fun p e s m args below meth c dC dI aC ad sz hC hn hrt => ?_)
  have hk := k_all_ok (own := "LetByTheDegreeModel") rfl kt_169_ok
  refine mW_aload_n hC (kd hk (pc := 0) rfl).1 rfl ?_
  refine mW_invV hY hC (as := []) (st := []) (kd hk (pc := 1) rfl) rfl rfl rfl (e_fine hσ hw _ rfl) hσ (by decide) rfl m_rm_ok (Nat.zero_le _) (Nat.zero_le _) (Nat.zero_le _) (Nat.le_refl _) (fun v hv => by cases hv) (fun u hu => ?_) (fun r σ' hQ => ?_)
  · rcases List.mem_cons.mp hu with rfl | hu
    · exact vok_ref hl
    · rcases List.mem_cons.mp hu with rfl | hu
      · trivial
      · cases hu
  · obtain ⟨rfl, rfl⟩ := hQ
    refine mW_if_eq hC (kd hk (pc := 4) rfl).1 (tgt := 12) rfl (fun h => ?_) (fun h => ?_)
    · have hw1 : ¬ w = -1 := fun z => by rw [if_pos z] at h; exact absurd h (by decide)
      exact mW_vret hC (kd hk (pc := 12) rfl).1 hrt ⟨rfl, by rw [if_neg hw1]⟩ (Nat.le_refl _) (Nat.le_refl _)
    · have hw1 : w = -1 := by
        by_cases z : w = -1
        · exact z
        · rw [if_neg z] at h; exact absurd rfl h
      refine mW_aload_n hC (kd hk (pc := 7) rfl).1 rfl ?_
      refine mW_iload_n hC (kd hk (pc := 8) rfl).1 rfl ?_
      refine mW_pf hC (kd hk (pc := 9) rfl) hσ rfl rfl hfl ?_
      exact mW_vret hC (kd hk (pc := 12) rfl).1 hrt ⟨rfl, by rw [if_pos hw1]⟩ (Nat.le_refl _) (Nat.le_refl _)
end HO
end
section
/-! one of some signs -/
section HO
variable {l : Launch} {X : Nat → Option (List Int32)} {Y : (Nat → Prop) → State → Heap → Prop} {xa : Nat → Nat}
theorem e_oneOf (hY : m_Yok Y) {d : Nat} {σ : m_H} {fs vs : List Value} {w A L T fi mn x : Int32} {q : Nat} (hl : 251 < σ.length) (hfl : 16 < fs.length) (hσ : σ[251]? = some (.inr 13, fs)) (hw : fs[16]? = some (.int w)) (hA : fs[15]? = some (.int A)) (hL : fs[13]? = some (.int L)) (hT : fs[14]? = some (.int T)) (hq : fs[12]? = some (.ref q)) (hq2 : q < σ.length) (hqn : q ≠ 251) (hσ2 : σ[q]? = some (.inl 1, vs)) (hx : A < L → A < T → vp_in A vs.length ∧ vs[A.toNatClampNeg]? = some (.int x))
    (hA0 : 0 ≤ A.toInt) (hA1 : A.toInt ≤ 1000) (hfi : 0 ≤ fi.toInt) :
    e_K l X Y xa (d + 2) 167 σ [.ref 251, .int fi, .int mn] (fun r σ' => (r = some (.int 0) ∧ σ' = σ) ∨ (r = some (.int 0) ∧ σ' = σ.set 251 (.inr 13, fs.set 16 (.int A))) ∨
      (r = some (.int (x - fi)) ∧ σ' = σ.set 251 (.inr 13, fs.set 15 (.int (A + 1))) ∧ (fi ≤ (if A < L ∧ A < T then x &&& 255 else -1) ∧ (if A < L ∧ A < T then x &&& 255 else -1) ≤ fi + mn - 1))) := by
  intro qq hqq
  cases hqq
  refine m_K_of (K := kt_167) rfl (by decide +kernel) (Nat.le_of_ble_eq_true rfl) rfl (fun p e s m args below meth c dC dI aC ad sz hC hn hrt => ?_)
  have hk := k_all_ok (own := "LetByTheDegreeModel") rfl kt_167_ok
  have hls : ∀ u ∈ ([(0, .ref 251), (1, .int fi), (2, .int mn)] : List (Nat × Value)), m_vOk σ.length u.2 := fun u hu => by
    rcases List.mem_cons.mp hu with rfl | hu
    · exact vok_ref hl
    · rcases List.mem_cons.mp hu with rfl | hu
      · trivial
      · rcases List.mem_cons.mp hu with rfl | hu
        · trivial
        · cases hu
  refine mW_aload_n hC (kd hk (pc := 0) rfl).1 rfl ?_
  refine mW_invV hY hC (as := []) (st := []) (kd hk (pc := 1) rfl) rfl rfl rfl (e_fine (d := d + 1) hσ hw _ rfl) hσ (by decide) rfl m_rm_ok (Nat.zero_le _) (Nat.zero_le _) (Nat.zero_le _) (Nat.le_refl _) (fun v hv => by cases hv) hls (fun r σ' hQ => ?_)
  obtain ⟨rfl, rfl⟩ := hQ
  refine mW_if_ne hC (kd hk (pc := 4) rfl).1 (tgt := 9) rfl (fun h => ?_) (fun h => ?_)
  · refine mW_aload_n hC (kd hk (pc := 9) rfl).1 rfl ?_
    refine mW_invV hY hC (as := []) (st := []) (kd hk (pc := 10) rfl) rfl rfl rfl (e_here (d := d + 1) hσ hA hL hT hq hσ2 hx _ rfl) hσ (by decide) rfl m_rm_ok (Nat.zero_le _) (Nat.zero_le _) (Nat.zero_le _) (Nat.le_refl _) (fun v hv => by cases hv) hls (fun r σ' hQ => ?_)
    obtain ⟨rfl, rfl⟩ := hQ
    refine mW_iload_n hC (kd hk (pc := 13) rfl).1 rfl ?_
    refine mW_iload_n hC (kd hk (pc := 14) rfl).1 rfl ?_
    refine mW_iload_n hC (kd hk (pc := 15) rfl).1 rfl ?_
    refine mW_iadd hC (kd hk (pc := 16) rfl).1 ?_
    refine mW_iconst hC (kd hk (pc := 17) rfl).1 ?_
    refine mW_isub hC (kd hk (pc := 18) rfl).1 ?_
    refine mW_invS hY hC (as := [.int (if A < L ∧ A < T then x &&& 255 else -1), .int fi, .int (fi + mn - Int32.ofInt 1)]) (st := []) (kd hk (pc := 19) rfl) rfl rfl (e_in (d := d + 1) _ rfl) rfl m_rm_ok (Nat.zero_le _) (Nat.zero_le _) (Nat.zero_le _) (Nat.le_refl _) (fun v hv => by cases hv) hls (fun r σ' hQ => ?_)
    obtain ⟨rfl, rfl⟩ := hQ
    refine mW_if_ne hC (kd hk (pc := 22) rfl).1 (tgt := 35) rfl (fun h2 => ?_) (fun h2 => ?_)
    · refine mW_aload_n hC (kd hk (pc := 35) rfl).1 rfl ?_
      refine mW_dup hC (kd hk (pc := 36) rfl).1 rfl ?_
      refine mW_gf hC (kd hk (pc := 37) rfl) hσ hA ?_
      refine mW_iconst hC (kd hk (pc := 40) rfl).1 ?_
      refine mW_iadd hC (kd hk (pc := 41) rfl).1 ?_
      refine mW_pf hC (kd hk (pc := 42) rfl) hσ rfl rfl (by omega) ?_
      have g1 : (σ'.set 251 (.inr 13, fs.set 15 (.int (A + Int32.ofInt 1))))[251]? = some (.inr 13, fs.set 15 (.int (A + Int32.ofInt 1))) := List.getElem?_set_self hl
      have g2 : (fs.set 15 (Value.int (A + Int32.ofInt 1)))[12]? = some (.ref q) := by rw [List.getElem?_set_ne (by decide)]; exact hq
      have g3 : (fs.set 15 (Value.int (A + Int32.ofInt 1)))[15]? = some (.int (A + Int32.ofInt 1)) := List.getElem?_set_self (by omega)
      have g4 : (σ'.set 251 (.inr 13, fs.set 15 (.int (A + Int32.ofInt 1))))[q]? = some (.inl 1, vs) := by rw [List.getElem?_set_ne (Ne.symm hqn)]; exact hσ2
      have hAB : A + Int32.ofInt 1 - Int32.ofInt 1 = A := by
        apply Int32.toInt_inj.mp
        have e1 : (A + Int32.ofInt 1).toInt = A.toInt + 1 := i32_add (y := 1) (by show i_m ≤ A.toInt + 1; unfold i_m; omega) (by show A.toInt + 1 ≤ i_M; unfold i_M; omega)
        have e2 : (A + Int32.ofInt 1 - Int32.ofInt 1).toInt = (A + Int32.ofInt 1).toInt - 1 := i32_sub (y := 1) (by show i_m ≤ (A + Int32.ofInt 1).toInt - 1; rw [e1]; unfold i_m; omega) (by show (A + Int32.ofInt 1).toInt - 1 ≤ i_M; rw [e1]; unfold i_M; omega)
        rw [e2, e1]; omega
      have hin : fi ≤ (if A < L ∧ A < T then x &&& 255 else -1) ∧ (if A < L ∧ A < T then x &&& 255 else -1) ≤ fi + mn - 1 := by
        by_cases z : fi ≤ (if A < L ∧ A < T then x &&& 255 else -1) ∧ (if A < L ∧ A < T then x &&& 255 else -1) ≤ fi + mn - Int32.ofInt 1
        · exact z
        · rw [if_neg z] at h2; exact absurd rfl h2
      have hlt : A < L ∧ A < T := by
        by_cases z : A < L ∧ A < T
        · exact z
        · have := hin.1
          rw [if_neg z] at this
          have h9 := Int32.le_iff_toInt_le.mp this
          have h8 : (-1 : Int32).toInt = -1 := by decide
          omega
      obtain ⟨x1, x2⟩ := hx hlt.1 hlt.2
      refine mW_aload_n hC (kd hk (pc := 45) rfl).1 rfl ?_
      refine mW_gf hC (kd hk (pc := 46) rfl) g1 g2 ?_
      refine mW_aload_n hC (kd hk (pc := 49) rfl).1 rfl ?_
      refine mW_gf hC (kd hk (pc := 50) rfl) g1 g3 ?_
      refine mW_iconst hC (kd hk (pc := 53) rfl).1 ?_
      refine mW_isub hC (kd hk (pc := 54) rfl).1 ?_
      refine mW_baload hC (kd hk (pc := 55) rfl).1 g4 (i := A + Int32.ofInt 1 - Int32.ofInt 1) (by rw [hAB]; exact x1) (by rw [hAB]; exact x2) ?_
      refine mW_iload_n hC (kd hk (pc := 56) rfl).1 rfl ?_
      refine mW_isub hC (kd hk (pc := 57) rfl).1 ?_
      exact mW_iret hC (kd hk (pc := 58) rfl).1 hrt rfl (Or.inr (Or.inr ⟨rfl, rfl, hin⟩)) (Nat.le_refl _) (Nat.le_refl _)
    · refine mW_aload_n hC (kd hk (pc := 25) rfl).1 rfl ?_
      refine mW_aload_n hC (kd hk (pc := 26) rfl).1 rfl ?_
      refine mW_gf hC (kd hk (pc := 27) rfl) hσ hA ?_
      refine mW_invV hY hC (as := [.int A]) (st := []) (kd hk (pc := 30) rfl) rfl rfl rfl (e_fault hY (d := d) hl hfl hσ hw _ rfl) hσ (by decide) rfl m_rm_ok (Nat.zero_le _) (Nat.zero_le _) (Nat.zero_le _) (Nat.le_refl _) (fun v hv => by cases hv) hls (fun r σ'' hQ => ?_)
      obtain ⟨rfl, rfl⟩ := hQ
      refine mW_iconst hC (kd hk (pc := 33) rfl).1 ?_
      refine mW_iret hC (kd hk (pc := 34) rfl).1 hrt rfl ?_ (Nat.le_refl _) (Nat.le_refl _)
      by_cases hw1 : w = -1
      · rw [if_pos hw1]; exact Or.inr (Or.inl ⟨rfl, rfl⟩)
      · rw [if_neg hw1]; exact Or.inl ⟨rfl, rfl⟩
  · refine mW_iconst hC (kd hk (pc := 7) rfl).1 ?_
    exact mW_iret hC (kd hk (pc := 8) rfl).1 hrt rfl (Or.inl ⟨rfl, rfl⟩) (Nat.le_refl _) (Nat.le_refl _)
end HO
end
section
theorem and255 : ∀ k : Nat, k < 256 → ((Int32.ofInt ((k : Int) - 128)) &&& 255).toInt = (if k < 128 then (k : Int) + 128 else (k : Int) - 128) := by decide +kernel
theorem and255_of {x : Int32} (h1 : -128 ≤ x.toInt) (h2 : x.toInt ≤ 127) (h3 : (x &&& 255).toInt ≤ 127) : (x &&& 255).toInt = x.toInt := by
  have h := and255 (x.toInt + 128).toNat (by omega)
  have e : Int32.ofInt (((x.toInt + 128).toNat : Int) - 128) = x := by
    rw [show ((x.toInt + 128).toNat : Int) - 128 = x.toInt by omega]
    exact Int32.ofInt_toInt x
  rw [e] at h
  rw [h] at h3 ⊢
  split at h3 <;> rename_i hc
  · omega
  · rw [if_neg hc]; omega
section HS
variable {l : Launch} {X : Nat → Option (List Int32)} {Y : (Nat → Prop) → State → Heap → Prop} {xa : Nat → Nat}
theorem v_var {ρ : List Int} {i : Nat} {c : Int} {v : Value} (h : v_ok ρ (1, i, c) v) : ∃ (x : Int32) (r : Int), v = .int x ∧ ρ[i]? = some r ∧ x.toInt = r + c := h
theorem one_sem (hY : m_Yok Y) {d n : Nat} {E0 : A_E} {mnA : A_V} {ov0 : A_O} {iL iA iW q : Nat} {mh : Int} {F3 : A_F} (hn : E0.length = n) (hq : q = 254 ∨ (q = 258 ∧ ((251, 14), (0, 0, 40)) ∈ ov0))
    (o1 : ((251, 12), (2, q, 0)) ∈ ov0) (o2 : ((251, 13), (1, iL, 0)) ∈ ov0) (o4 : ((251, 15), (1, iA, 0)) ∈ ov0) (o5 : ((251, 16), (1, iW, 0)) ∈ ov0) (e0 : E0[0]? = some (0, 100, false)) (eL : E0[iL]? = some (0, 80, false)) (eA : E0[iA]? = some (0, 200, false))
    (hmn : (∃ c : Int, mnA = (0, 0, c) ∧ 0 ≤ c ∧ c ≤ 27 ∧ mh = c - 1 ∧ F3 = [(iA, true, iL, -1)]) ∨ (mnA = (1, 1, 0) ∧ E0[1]? = some (0, 27, false) ∧ mh = 26 ∧ F3 = [(n, true, 1, -1), (iA, true, iL, -1)])) :
    c_sem l X Y xa d (167, E0, [(2, 251, 0), (1, 0, 0), mnA], ov0, [(251, 15, 16)], (0, []), (4, []), [(E0, [], some (0, 0, 0), [((251, 15), (1, iA, 0)), ((251, 16), (1, iW, 0))]), (E0 ++ [(0, 200, false)], [], some (0, 0, 0), [((251, 16), (1, n, 0)), ((251, 15), (1, iA, 0))]), (E0 ++ [(0, mh, false)], F3, some (1, n, 0), [((251, 15), (1, iA, 1)), ((251, 16), (1, iW, 0))])], [], (1, [])) := by
  intro qq hqq ρ0 M z dz σ vs he hM hh htau hz hMz hdep hdz ho ha hv
  have hzz : (0 : Int) + 0 = z := Option.some.inj htau
  obtain rfl : z = 0 := by omega
  clear hzz
  have hdz : (4 : Int) ≤ (d : Int) := by
    have hdd : (4 : Int) + 0 = dz := Option.some.inj hdep
    omega
  have hM0 : M + 0 = M := by omega
  cases vs with
  | nil => exact absurd ha id
  | cons v1 t1 =>
  obtain ⟨hv1, ha1⟩ := ha
  have hv1 : v1 = .ref 251 := hv1
  subst hv1
  cases t1 with
  | nil => exact absurd ha1 id
  | cons v2 t2 =>
  obtain ⟨hv2, ha2⟩ := ha1
  obtain ⟨fi, rf, rfl, hrf, hfi⟩ := v_var hv2
  cases t2 with
  | nil => exact absurd ha2 id
  | cons v3 t3 =>
  obtain ⟨hv3, ha3⟩ := ha2
  cases t3 with
  | cons v4 t4 => exact absurd ha3 id
  | nil =>
  have hmv : ∃ mn : Int32, v3 = .int mn ∧ 0 ≤ mn.toInt ∧ mn.toInt ≤ 27 ∧ mn.toInt - 1 ≤ mh ∧ (F3 = [(iA, true, iL, -1)] ∨ (ρ0[1]? = some mn.toInt ∧ F3 = [(n, true, 1, -1), (iA, true, iL, -1)])) := by
    rcases hmn with ⟨c, rfl, c1, c2, rfl, hF⟩ | ⟨rfl, e1, rfl, hF⟩
    · obtain ⟨x, hx, hx2⟩ : ∃ x : Int32, v3 = .int x ∧ x.toInt = c := hv3
      exact ⟨x, hx, by omega, by omega, by omega, Or.inl hF⟩
    · obtain ⟨x, r, hx, hr, hx2⟩ := v_var hv3
      have hb := he.2 1 _ _ e1 hr
      have b1 : 0 ≤ r := hb.1
      have b2 : r ≤ 27 := hb.2.1
      exact ⟨x, hx, by omega, by omega, by omega, Or.inr ⟨by rw [hr, hx2]; simp, hF⟩⟩
  obtain ⟨mn, rfl, m0, m1, m2, hF⟩ := hmv
  have hbf := he.2 0 _ _ e0 hrf
  have f0 : 0 ≤ rf := hbf.1
  have f1 : rf ≤ 100 := hbf.2.1
  obtain ⟨fs, hσ, hfl, hfs⟩ := h_cell hh (p := 251) (by decide)
  have hk251 : h_kd 251 = .inr 13 := by decide +kernel
  have hl251 : h_ln 251 = 56 := by decide +kernel
  rw [hk251] at hσ
  rw [hl251] at hfl hfs
  have gat : ∀ {k : Nat} {a : A_V}, ((251, k), a) ∈ ov0 → ∃ v, fs[k]? = some v ∧ v_ok ρ0 a v := fun {k a} hm => by
    obtain ⟨v, w1, w2⟩ := ho _ hm
    exact ⟨v, by rw [← w1]; exact (c_at_eq hσ).symm, w2⟩
  obtain ⟨vq, hq1, hq2⟩ := gat o1
  have hq2 : vq = .ref q := hq2
  subst hq2
  obtain ⟨vL, hL1, hL2⟩ := gat o2
  obtain ⟨L, rL, rfl, hrL, hLe⟩ := v_var hL2
  obtain ⟨vA, hA1, hA2⟩ := gat o4
  obtain ⟨A, rA, rfl, hrA, hAe⟩ := v_var hA2
  have hbL := he.2 _ _ _ eL hrL
  have hbA := he.2 _ _ _ eA hrA
  have L0 : 0 ≤ rL := hbL.1
  have L1 : rL ≤ 80 := hbL.2.1
  have A0 : 0 ≤ rA := hbA.1
  have A1 : rA ≤ 200 := hbA.2.1
  obtain ⟨vT, hT1, hT2, -⟩ := hfs 14 (by decide)
  obtain ⟨T, rfl, -, -⟩ : ∃ x : Int32, vT = .int x ∧ _ ∧ _ := by
    have : h_ty 251 14 = (0, -2147483648, 2147483647) := by decide +kernel
    rw [this] at hT2; exact hT2
  obtain ⟨vW, hW1, hW2, -⟩ := hfs 16 (by decide)
  obtain ⟨w, rfl, -, -⟩ : ∃ x : Int32, vW = .int x ∧ _ ∧ _ := by
    have : h_ty 251 16 = (0, -1, 200) := by decide +kernel
    rw [this] at hW2; exact hW2
  have hqN : q < h_N := by rcases hq with rfl | ⟨rfl, -⟩ <;> decide
  obtain ⟨bs, hb1, hbl, hbs⟩ := h_cell hh hqN
  have hkq : h_kd q = .inl 1 := by rcases hq with rfl | ⟨rfl, -⟩ <;> decide +kernel
  have htq : ∀ k, h_ty q k = (0, -128, 127) := by
    have e1 : (h_at 254).2.2 = [(0, -128, 127)] := by decide +kernel
    have e2 : (h_at 258).2.2 = [(0, -128, 127)] := by decide +kernel
    intro k
    unfold h_ty t_at
    rcases hq with rfl | ⟨rfl, -⟩
    · rw [e1]; simp [Nat.mod_one]
    · rw [e2]; simp [Nat.mod_one]
  rw [hkq] at hb1
  have hTq : A < L → A < T → A.toInt < h_ln q := by
    intro h1 h2
    have h1 := i32_lt.mp h1
    have h2 := i32_lt.mp h2
    rcases hq with rfl | ⟨rfl, o3⟩
    · have : h_ln 254 = 80 := by decide +kernel
      omega
    · obtain ⟨v, w1, w2⟩ := gat o3
      obtain ⟨x, rfl, hx⟩ : ∃ x : Int32, v = .int x ∧ x.toInt = 40 := w2
      have : T = x := by
        have := hT1.symm.trans w1
        injection this with this
        injection this
      subst this
      have : h_ln 258 = 40 := by decide +kernel
      omega
  obtain ⟨x, hx, x0, x1⟩ : ∃ x : Int32, (A < L → A < T → vp_in A bs.length ∧ bs[A.toNatClampNeg]? = some (.int x)) ∧ -128 ≤ x.toInt ∧ x.toInt ≤ 127 := by
    by_cases hlt : A < L ∧ A < T
    · have h1 := hTq hlt.1 hlt.2
      obtain ⟨v, w1, w2, -⟩ := hbs A.toInt.toNat (by omega)
      rw [htq] at w2
      obtain ⟨x, rfl, y1, y2⟩ : ∃ x : Int32, v = .int x ∧ -128 ≤ x.toInt ∧ x.toInt ≤ 127 := w2
      exact ⟨x, fun _ _ => ⟨vp_in_iff.mpr ⟨by omega, by rw [hbl]; omega⟩, w1⟩, y1, y2⟩
    · exact ⟨0, fun h1 h2 => absurd ⟨h1, h2⟩ hlt, by decide, by decide⟩
  have hσl : σ.length = h_N := hh.1
  obtain ⟨d', rfl⟩ : ∃ d', d = d' + 2 := ⟨d - 2, by omega⟩
  have hm := e_oneOf (l := l) (X := X) (xa := xa) hY (d := d') (fi := fi) (mn := mn) (by rw [hσl]; decide) (by omega) hσ hW1 hA1 hL1 hT1 hq1 (by rw [hσl]; exact hqN) (by rcases hq with rfl | ⟨rfl, -⟩ <;> decide) hb1 hx (by omega) (by omega) (by omega) qq hqq
  have hin15 : d_in [(251, 15, 16)] 251 15 := ⟨_, List.mem_cons_self, rfl, by decide, by decide⟩
  have hin16 : d_in [(251, 15, 16)] 251 16 := ⟨_, List.mem_cons_self, rfl, by decide, by decide⟩
  have hat : ∀ y : Int, (ρ0 ++ [y])[n]? = some y := fun y => by
    rw [List.getElem?_append_right (by rw [he.1, hn]; exact Nat.le_refl _), he.1, hn]
    simp
  refine m_K_post hm (fun r σ' hQ => ?_)
  rw [hM0]
  rcases hQ with ⟨rfl, rfl⟩ | ⟨rfl, rfl⟩ | ⟨rfl, rfl, h1, h2⟩
  · exact ⟨_, List.mem_cons_self, ρ0, r_ext.rf, he, (fun q hq => by cases hq), ⟨0, rfl, rfl⟩, hh, (fun u hu => by
      rcases List.mem_cons.mp hu with rfl | hu
      · exact ho _ o4
      · obtain rfl := List.mem_singleton.mp hu
        exact ho _ o5), fun p k _ => rfl⟩
  · refine ⟨_, List.mem_cons_of_mem _ List.mem_cons_self, ρ0 ++ [A.toInt], r_ext.push _, e_ok_push he ⟨by show 0 ≤ A.toInt; omega, by show A.toInt ≤ 200; omega, fun y => by cases y⟩, (fun q hq => by cases hq), ⟨0, rfl, rfl⟩, ?_, ?_, ?_⟩
    · rw [← hk251]
      refine h_set hh (by rw [hk251]; exact hσ) ?_ trivial
      have : h_ty 251 16 = (0, -1, 200) := by decide +kernel
      rw [this]
      exact ⟨A, rfl, (show (-1 : Int) ≤ A.toInt by omega), (show A.toInt ≤ 200 by omega)⟩
    · intro u hu
      rcases List.mem_cons.mp hu with rfl | hu
      case inr =>
        obtain rfl := List.mem_singleton.mp hu
        obtain ⟨v, w1, w2⟩ := ho _ o4
        exact ⟨v, by rw [c_at_set hσ, if_neg (fun z => absurd (show (15 : Nat) = 16 from z.2.1) (by decide))]; exact w1, v_ok_ext (r_ext.push _) w2⟩
      exact ⟨.int A, by rw [c_at_set hσ, if_pos ⟨rfl, rfl, by omega⟩], A, A.toInt, rfl, hat _, (show A.toInt = A.toInt + 0 by omega)⟩
    · exact h_fr_set (fun p k _ => rfl) hσ hin16
  · have hfin : (fi + mn - 1).toInt = rf + mn.toInt - 1 := by
      have g1 : (fi + mn).toInt = fi.toInt + mn.toInt := i32_add (by unfold i_m; omega) (by unfold i_M; omega)
      have g2 : (fi + mn - 1).toInt = (fi + mn).toInt - 1 := i32_sub (y := 1) (by show i_m ≤ (fi + mn).toInt - 1; rw [g1]; unfold i_m; omega) (by show (fi + mn).toInt - 1 ≤ i_M; rw [g1]; unfold i_M; omega)
      rw [g2, g1]; omega
    have h1 := Int32.le_iff_toInt_le.mp h1
    have h2 := Int32.le_iff_toInt_le.mp h2
    rw [hfin] at h2
    by_cases hlt : A < L ∧ A < T
    · rw [if_pos hlt] at h1 h2
      have hx9 := and255_of x0 x1 (by omega)
      have hAL := i32_lt.mp hlt.1
      have hr : (x - fi).toInt = x.toInt - fi.toInt := i32_sub (by unfold i_m; omega) (by unfold i_M; omega)
      have hA9 : (A + 1).toInt = A.toInt + 1 := i32_add (y := 1) (by show i_m ≤ A.toInt + 1; unfold i_m; omega) (by show A.toInt + 1 ≤ i_M; unfold i_M; omega)
      refine ⟨_, List.mem_cons_of_mem _ (List.mem_cons_of_mem _ List.mem_cons_self), ρ0 ++ [(x - fi).toInt], r_ext.push _, e_ok_push he ⟨by show 0 ≤ (x - fi).toInt; omega, by show (x - fi).toInt ≤ mh; omega, fun y => by cases y⟩, ?_, ⟨x - fi, _, rfl, hat _, (show (x - fi).toInt = (x - fi).toInt + 0 by omega)⟩, ?_, ?_, ?_⟩
      · have fact : ∃ x' y' : Int, (ρ0 ++ [(x - fi).toInt])[iA]? = some x' ∧ (ρ0 ++ [(x - fi).toInt])[iL]? = some y' ∧ (true = true → x' ≤ y' + -1) ∧ (true = false → x' + y' ≤ -1) := ⟨rA, rL, r_ext.push _ _ _ hrA, r_ext.push _ _ _ hrL, fun _ => by omega, fun y => by cases y⟩
        rcases hF with rfl | ⟨hr1, rfl⟩
        · intro u hu
          obtain rfl := List.mem_singleton.mp hu
          exact fact
        · intro u hu
          rcases List.mem_cons.mp hu with rfl | hu
          · exact ⟨_, _, hat _, r_ext.push _ _ _ hr1, fun _ => by show (x - fi).toInt ≤ mn.toInt + -1; omega, fun y => by cases y⟩
          · obtain rfl := List.mem_singleton.mp hu
            exact fact
      · rw [← hk251]
        refine h_set hh (by rw [hk251]; exact hσ) ?_ trivial
        have : h_ty 251 15 = (0, 0, 200) := by decide +kernel
        rw [this]
        exact ⟨A + 1, rfl, (show (0 : Int) ≤ (A + 1).toInt by omega), (show (A + 1).toInt ≤ 200 by omega)⟩
      · intro u hu
        rcases List.mem_cons.mp hu with rfl | hu
        case inr =>
          obtain rfl := List.mem_singleton.mp hu
          obtain ⟨v, w1, w2⟩ := ho _ o5
          exact ⟨v, by rw [c_at_set hσ, if_neg (fun z => absurd (show (16 : Nat) = 15 from z.2.1) (by decide))]; exact w1, v_ok_ext (r_ext.push _) w2⟩
        exact ⟨.int (A + 1), by rw [c_at_set hσ, if_pos ⟨rfl, rfl, by omega⟩], A + 1, rA, rfl, r_ext.push _ _ _ hrA, (show (A + 1).toInt = rA + 1 by omega)⟩
      · exact h_fr_set (fun p k _ => rfl) hσ hin15
    · rw [if_neg hlt] at h1
      have : (-1 : Int32).toInt = -1 := by decide
      omega
end HS
end
section
/-! one of some signs: the five contracts -/
section H5
variable {l : Launch} {X : Nat → Option (List Int32)} {Y : (Nat → Prop) → State → Heap → Prop} {xa : Nat → Nat}
theorem cn_396_sem (hY : m_Yok Y) (d : Nat) : c_sem l X Y xa d cn_396 := by
  unfold cn_396
  exact one_sem (iL := 1) (iA := 3) (iW := 4) (q := 254) (mh := 9) hY rfl (Or.inl rfl) (List.mem_of_getElem? (i := 0) rfl) (List.mem_of_getElem? (i := 1) rfl) (List.mem_of_getElem? (i := 3) rfl) (List.mem_of_getElem? (i := 4) rfl) rfl rfl rfl (Or.inl ⟨10, rfl, by decide, by decide, by decide, rfl⟩)
theorem cn_397_sem (hY : m_Yok Y) (d : Nat) : c_sem l X Y xa d cn_397 := by
  unfold cn_397
  exact one_sem (iL := 1) (iA := 2) (iW := 3) (q := 258) (mh := 9) hY rfl (Or.inr ⟨rfl, (List.mem_of_getElem? (i := 1) rfl)⟩) (List.mem_of_getElem? (i := 0) rfl) (List.mem_of_getElem? (i := 2) rfl) (List.mem_of_getElem? (i := 3) rfl) (List.mem_of_getElem? (i := 4) rfl) rfl rfl rfl (Or.inl ⟨10, rfl, by decide, by decide, by decide, rfl⟩)
theorem cn_398_sem (hY : m_Yok Y) (d : Nat) : c_sem l X Y xa d cn_398 := by
  unfold cn_398
  exact one_sem (iL := 1) (iA := 3) (iW := 4) (q := 254) (mh := 2) hY rfl (Or.inl rfl) (List.mem_of_getElem? (i := 0) rfl) (List.mem_of_getElem? (i := 1) rfl) (List.mem_of_getElem? (i := 3) rfl) (List.mem_of_getElem? (i := 4) rfl) rfl rfl rfl (Or.inl ⟨3, rfl, by decide, by decide, by decide, rfl⟩)
theorem cn_399_sem (hY : m_Yok Y) (d : Nat) : c_sem l X Y xa d cn_399 := by
  unfold cn_399
  exact one_sem (iL := 1) (iA := 3) (iW := 4) (q := 254) (mh := 8) hY rfl (Or.inl rfl) (List.mem_of_getElem? (i := 0) rfl) (List.mem_of_getElem? (i := 1) rfl) (List.mem_of_getElem? (i := 3) rfl) (List.mem_of_getElem? (i := 4) rfl) rfl rfl rfl (Or.inl ⟨9, rfl, by decide, by decide, by decide, rfl⟩)
theorem cn_400_sem (hY : m_Yok Y) (d : Nat) : c_sem l X Y xa d cn_400 := by
  unfold cn_400
  exact one_sem (iL := 2) (iA := 4) (iW := 5) (q := 254) (mh := 26) hY rfl (Or.inl rfl) (List.mem_of_getElem? (i := 0) rfl) (List.mem_of_getElem? (i := 1) rfl) (List.mem_of_getElem? (i := 3) rfl) (List.mem_of_getElem? (i := 4) rfl) rfl rfl rfl (Or.inr ⟨rfl, rfl, rfl, rfl⟩)
end H5
end
section
/-! WINTER of the model, in pieces: what its rows of acts hold, by hand -/
def c_md (C : A_C) : A_D := match C with
  | (_, _, _, _, mc, _, _, _, _, _) => mc
noncomputable def w_md : A_D := (c_md cn_w).filter fun q => !(Nat.beq q.1 263)
def w_dp : A_L := (190, [])
def w_alts (E : A_E) : List A_A := [(E ++ [(-201, 80, false)], [], some (1, E.length, 0), [((251, 8), (0, 0, 0))])]
def w_ov (a w : A_V) : A_O := [((251, 8), (0, 0, 0)), ((251, 12), (2, 254, 0)), ((251, 14), (0, 0, 60)), ((251, 15), a), ((251, 16), w)]
def w_rt : Option FieldType := some .int
/-- from the start to the first loop -/
def wA0 : A_S := (39, [(0, 80, false), (0, 1, false)], [], [(0, (2, 251, 0)), (1, (0, 0, 0)), (2, (1, 1, 0))], [], w_ov (0, 0, 0) (0, 0, -1), (8000, []), (0, []))
set_option maxRecDepth 100000 in
theorem w_k0 : a_go cs_at w_md w_dp 4 1 [] [wA0] w_rt kt_212 4000 1 (c_start cn_w) = true := by decide +kernel
/-- from the first loop's head: to the next act to read, or to the second loop, or back -/
def wE1 : A_E := [(0, 62, false), (-1, 200, false), (0, 200, false), (0, 1, false)]
def wA : A_S := (39, wE1, [], [(0, (2, 251, 0)), (1, (1, 0, 0)), (2, (1, 3, 0))], [], w_ov (1, 2, 0) (1, 1, 0), (8000, []), (1, []))
def wB : A_S := (50, [(0, 62, false), (-1, -1, false), (0, 200, false), (1, 1, false)], [], [(0, (2, 251, 0)), (1, (1, 0, 0))], [], w_ov (1, 2, 0) (0, 0, -1), (8000, []), (0, []))
def wL0 : A_S := (121, [(0, 62, false), (-1, -1, false), (0, 200, false), (0, 1, false)], [], [(0, (2, 251, 0)), (1, (1, 0, 0)), (3, (0, 0, 0))], [], [((251, 8), (0, 0, 0))], (8000, []), (0, []))
set_option maxRecDepth 100000 in
theorem w_k1 : a_go cs_at w_md w_dp 4 4 (w_alts wE1) [wB, wL0] w_rt kt_212 4000 1 wA = true := by decide +kernel
/-- behind an act read: to the head again -/
def wE2 (v : Int) : A_E := [(0, 61, false), (-1, 200, false), (0, v, false)]
def wD (v : Int) : A_S := (57, wE2 v, [], [(0, (2, 251, 0)), (1, (1, 0, 0))], [], w_ov (1, 2, 0) (1, 1, 0), (8000, []), (1, []))
def wD0 (v : Int) : A_S := (39, wE2 v ++ [(0, v, false)], [(2, true, 3, 0)], [(0, (2, 251, 0)), (1, (1, 0, 1)), (2, (0, 0, 0))], [], w_ov (1, 3, 0) (1, 1, 0), (8000, []), (0, []))
def wD1 (v : Int) : A_S := (39, wE2 v ++ [(0, 60, false)], [(2, true, 3, -1)], [(0, (2, 251, 0)), (1, (1, 0, 1)), (2, (0, 0, 1))], [], w_ov (1, 3, 0) (1, 1, 0), (8000, []), (0, []))
set_option maxRecDepth 100000 in
theorem w_k2 : a_go cs_at w_md w_dp 4 3 (w_alts (wE2 200)) [wD0 200, wD1 200] w_rt kt_212 4000 1 (wD 200) = true := by decide +kernel
set_option maxRecDepth 100000 in
theorem w_k3 : a_go cs_at w_md w_dp 4 3 (w_alts (wE2 64)) [wD0 64, wD1 64] w_rt kt_212 4000 1 (wD 64) = true := by decide +kernel
/-- the second loop's head: to an act, or back -/
def wE3 : A_E := [(0, 62, false), (0, 62, false)]
def wL : A_S := (121, wE3, [(1, true, 0, 0)], [(0, (2, 251, 0)), (1, (1, 0, 0)), (3, (1, 1, 0))], [], [((251, 8), (0, 0, 0))], (6500, [(-102, 1)]), (1, []))
def wP : A_S := (126, [(0, 62, false), (0, 61, false)], [(1, true, 0, -1)], [(0, (2, 251, 0)), (1, (1, 0, 0)), (3, (1, 1, 0))], [], [((251, 8), (0, 0, 0))], (6500, [(-102, 1)]), (0, []))
set_option maxRecDepth 100000 in
theorem w_k4 : a_go cs_at w_md w_dp 4 2 (w_alts wE3) [wP] w_rt kt_212 4000 1 wL = true := by decide +kernel
/-- behind an act done: to the head again, or back -/
def wE4 : A_E := [(0, 62, false), (0, 61, false), (0, 1, false)]
def wG : A_S := (158, wE4, [(1, true, 0, -1)], [(0, (2, 251, 0)), (1, (1, 0, 0)), (3, (1, 1, 0))], [(1, 2, 0)], [((251, 8), (0, 0, 0))], (6398, [(-102, 1)]), (1, []))
def wG1 : A_S := (121, wE4, [(1, true, 0, -1)], [(0, (2, 251, 0)), (1, (1, 0, 0)), (3, (1, 1, 1))], [], [((251, 8), (0, 0, 0))], (6398, [(-102, 1)]), (0, []))
set_option maxRecDepth 100000 in
theorem w_k5 : a_go cs_at w_md w_dp 4 3 (w_alts wE4) [wG1] w_rt kt_212 4000 1 wG = true := by decide +kernel
theorem w_no {k : Nat} : ¬ d_in w_md 263 k := by
  rintro ⟨q, hq, e1, -, -⟩
  have h := (List.mem_filter.mp hq).2
  rw [e1] at h
  exact absurd h (by decide)
theorem w_sub : d_sub w_md (c_md cn_w) = true := by decide +kernel
theorem w_subR : ∀ n, n < 61 → d_sub [(251, 15, 16), (263, 3 * n, 3 * n + 2)] (c_md cn_w) = true := by decide +kernel
theorem w_subA : d_sub (c_md cn_act9) w_md = true ∧ d_sub (c_md cn_actS) w_md = true := by decide +kernel
theorem w_8 : d_has (c_md cn_act9) 251 8 8 = false ∧ d_has (c_md cn_actS) 251 8 8 = false := by decide +kernel
/-- what the rows of acts hold: a number that may be a frost, or it is an act of the stove -/
def w_good (σ : m_H) (n : Int) : Prop := ∀ i : Nat, (i : Int) < n → ∃ x y : Int32, c_at σ 263 (3 * i) = some (.int x) ∧ c_at σ 263 (3 * i + 1) = some (.int y) ∧ ((0 ≤ y.toInt ∧ y.toInt ≤ 9) ∨ (x.toInt = 115 ∧ -1 ≤ y.toInt ∧ y.toInt ≤ 8))
theorem w_good_fr {σ σ' : m_H} {n : Int} {md : A_D} (h : w_good σ n) (hf : h_fr md σ σ') (hn : ∀ k, ¬ d_in md 263 k) : w_good σ' n := fun i hi => by
  obtain ⟨x, y, h1, h2, h3⟩ := h i hi
  exact ⟨x, y, by rw [hf _ _ (hn _)]; exact h1, by rw [hf _ _ (hn _)]; exact h2, h3⟩
theorem d_in_hasf {md : A_D} {p k : Nat} (h : d_has md p k k = false) : ¬ d_in md p k := fun z => by
  rw [d_in_has z] at h
  cases h
theorem h_int {B : Int} {σ : m_H} (hh : h_ok B σ) {p k : Nat} {lo hi : Int} (hp : p < h_N) (hk : k < h_ln p) (ht : h_ty p k = (0, lo, hi)) : ∃ x : Int32, c_at σ p k = some (.int x) ∧ lo ≤ x.toInt ∧ x.toInt ≤ hi := by
  obtain ⟨vs, h1, -, h3⟩ := h_cell hh hp
  obtain ⟨v, v1, v2, -⟩ := h3 k hk
  rw [ht] at v2
  obtain ⟨x, rfl, x1, x2⟩ : ∃ x : Int32, v = .int x ∧ lo ≤ x.toInt ∧ x.toInt ≤ hi := v2
  exact ⟨x, by rw [c_at_eq h1]; exact v1, x1, x2⟩
/-- what a piece gives back serves the whole -/
theorem w_lift {M T : Int} {ρ0 ρs : List Int} {σ σs σ' : m_H} {r : Option Value} {E : A_E} (he : e_ok M [(0, 80, false)] ρ0) (hMT : M ≤ T) (hl : ρs.length = E.length) (hf : h_fr (c_md cn_w) σ σs) (h : c_post (w_alts E) w_md T ρs σs r σ') : c_post (w_alts [(0, 80, false)]) (c_md cn_w) T ρ0 σ r σ' := by
  obtain ⟨q, hq, ρ', h1, h2, h3, h4, h5, h6, h7⟩ := h
  obtain rfl := List.mem_singleton.mp hq
  cases r with
  | none => exact absurd h4 id
  | some v =>
    obtain ⟨x, rr, rfl, hr, hx⟩ := v_var (show v_ok ρ' (1, E.length, 0) v from h4)
    have hb := h2.2 E.length (-201, 80, false) rr (by simp) hr
    have b1 : -201 ≤ rr := hb.1
    have b2 : rr ≤ 80 := hb.2.1
    refine ⟨_, List.mem_cons_self, ρ0 ++ [x.toInt], r_ext.push _, e_ok_push (e_ok_mono hMT he) ⟨by show -201 ≤ x.toInt; omega, by show x.toInt ≤ 80; omega, fun y => by cases y⟩, (fun q hq => by cases hq), ⟨x, x.toInt, rfl, ?_, (show x.toInt = x.toInt + 0 by omega)⟩, h5, ?_, h_fr_tr hf h7 w_sub⟩
    · have : ρ0.length = 1 := he.1
      rw [List.getElem?_append_right (by show ρ0.length ≤ 1; omega)]
      show [x.toInt][1 - ρ0.length]? = _
      rw [this]; rfl
    · intro u hu
      obtain rfl := List.mem_singleton.mp hu
      exact h6 _ List.mem_cons_self
end
section
/-! WINTER of the model keeps its contract -/
section WS
variable {l : Launch} {X : Nat → Option (List Int32)} {Y : (Nat → Prop) → State → Heap → Prop} {xa : Nat → Nat}
theorem ra_in {n : Nat} (h : n < 31) : ra_con (3 * n) ∈ cs_at 213 := by
  show ra_con (3 * n) ∈ ra_list
  exact List.mem_map.mpr ⟨n, List.mem_range.mpr h, rfl⟩
theorem act9_in : cn_act9 ∈ cs_at 215 := by
  have e : cs_at 215 = [cn_actS, cn_act9] := rfl
  rw [e]
  exact List.mem_cons_of_mem _ List.mem_cons_self
theorem actS_in : cn_actS ∈ cs_at 215 := by
  have e : cs_at 215 = [cn_actS, cn_act9] := rfl
  rw [e]
  exact List.mem_cons_self
theorem v_mk0 {ρ : List Int} {i : Nat} {x : Int32} {r : Int} (h : ρ[i]? = some r) (e : x.toInt = r) : v_ok ρ (1, i, 0) (.int x) := ⟨x, r, rfl, h, by show x.toInt = r + 0; omega⟩
theorem bool_rng {r : Int32} (h : r = 0 ∨ r = 1) : 0 ≤ r.toInt ∧ r.toInt ≤ 1 := by rcases h with rfl | rfl <;> decide
/-- an act done: what comes of it -/
theorem act_post {md : A_D} {T : Int} {ρ : List Int} {σ : m_H} {alts : List A_A} {r : Option Value} {σ' : m_H} (ha : ∀ q ∈ alts, q.2.2.1 = some (0, 0, 0) ∨ q.2.2.1 = some (0, 0, 1)) (h : c_post alts md T ρ σ r σ') : (∃ x : Int32, r = some (.int x) ∧ 0 ≤ x.toInt ∧ x.toInt ≤ 1) ∧ h_ok T σ' ∧ h_fr md σ σ' := by
  obtain ⟨q, hq, ρ', h1, h2, h3, h4, h5, h6, h7⟩ := h
  refine ⟨?_, h5, h7⟩
  cases r with
  | none => rcases ha q hq with e | e <;> (rw [e] at h4; exact absurd h4 id)
  | some v =>
    rcases ha q hq with e | e
    · rw [e] at h4
      obtain ⟨x, rfl, hx⟩ : ∃ x : Int32, v = .int x ∧ x.toInt = 0 := h4
      exact ⟨x, rfl, by omega, by omega⟩
    · rw [e] at h4
      obtain ⟨x, rfl, hx⟩ : ∃ x : Int32, v = .int x ∧ x.toInt = 1 := h4
      exact ⟨x, rfl, by omega, by omega⟩
theorem mul3 {x : Int32} {n : Int} (hx : x.toInt = n) (h0 : 0 ≤ n) (h1 : n ≤ 62) : (Int32.ofInt 3 * x).toInt = 3 * n := by
  have e3 : (Int32.ofInt 3).toInt = 3 := rfl
  have := i32_mul (x := Int32.ofInt 3) (y := x) (by rw [e3]; unfold i_m; omega) (by rw [e3]; unfold i_M; omega)
  rw [this, e3, hx]
theorem mul3k {x : Int32} {n : Int} {k : Int} (hx : x.toInt = n) (h0 : 0 ≤ n) (h1 : n ≤ 62) (k0 : 0 ≤ k) (k1 : k ≤ 2) : (Int32.ofInt 3 * x + Int32.ofInt k).toInt = 3 * n + k := by
  have e3 := mul3 hx h0 h1
  have ek : (Int32.ofInt k).toInt = k := by
    rcases (show k = 0 ∨ k = 1 ∨ k = 2 by omega) with rfl | rfl | rfl <;> rfl
  have := i32_add (x := Int32.ofInt 3 * x) (y := Int32.ofInt k) (by rw [e3, ek]; unfold i_m; omega) (by rw [e3, ek]; unfold i_M; omega)
  rw [this, e3, ek]
theorem w_row {B : Int} {σ : m_H} (hh : h_ok B σ) : ∃ vs, σ[263]? = some (.inl 0, vs) ∧ vs.length = 240 := by
  obtain ⟨vs, h1, h2, -⟩ := h_cell hh (p := 263) (by decide)
  rw [show h_kd 263 = .inl 0 by decide +kernel] at h1
  rw [show h_ln 263 = 240 by decide +kernel] at h2
  exact ⟨vs, h1, h2⟩
theorem w_obj {B : Int} {σ : m_H} (hh : h_ok B σ) : ∃ fs, σ[251]? = some (.inr 13, fs) ∧ fs.length = 56 ∧ fs[36]? = some (.ref 263) := by
  obtain ⟨fs, h1, h2, h3⟩ := h_cell hh (p := 251) (by decide)
  have hl : h_ln 251 = 56 := by decide +kernel
  rw [show h_kd 251 = .inr 13 by decide +kernel] at h1
  obtain ⟨v, v1, v2, -⟩ := h3 36 (by rw [hl]; decide)
  rw [show h_ty 251 36 = (1, 263, 0) by decide +kernel] at v2
  have v2 : v = .ref 263 := v2
  subst v2
  exact ⟨fs, h1, h2.trans hl, v1⟩
theorem w_ld {vs : List Value} {σ : m_H} {i : Int32} {k : Nat} {x : Int32} (h : σ[263]? = some (.inl 0, vs)) (hl : vs.length = 240) (hi : i.toInt = k) (hk : k < 240) (hx : c_at σ 263 k = some (.int x)) : vp_in i vs.length ∧ vs[i.toNatClampNeg]? = some (.int x) := by
  refine ⟨vp_in_iff.mpr ⟨by omega, by rw [hl]; omega⟩, ?_⟩
  have e : i.toNatClampNeg = k := by
    show i.toInt.toNat = k
    omega
  rw [e, ← c_at_eq h]
  exact hx
theorem w_subB : d_sub (c_md cn_act9) (c_md cn_w) = true ∧ d_sub (c_md cn_actS) (c_md cn_w) = true := by decide +kernel
theorem w_263 {md : A_D} (h : md.all (fun q => !(Nat.beq q.1 263)) = true) (k : Nat) : ¬ d_in md 263 k := by
  rintro ⟨q, hq, e1, -, -⟩
  have := List.all_eq_true.mp h q hq
  rw [e1] at this
  exact absurd this (by decide)
theorem w_actm : (c_md cn_act9).all (fun q => !(Nat.beq q.1 263)) = true ∧ (c_md cn_actS).all (fun q => !(Nat.beq q.1 263)) = true := by decide +kernel
theorem r_at {l : List Int} {i : Nat} {r : Int} (h : l[i]? = some r) : ∀ {x : Int}, l[i]? = some x → x = r := fun g => Option.some.inj (g.symm.trans h)
theorem cn_w_sem (hY : m_Yok Y) (hYS : ∀ A U H, Y A U H → y_str xa A U H) (hIx : ix_K l X Y xa) (hX : ∀ i, i < 2 → X i = some ((x_tab i).map Int32.ofInt)) {d : Nat} (hcy : ∀ y, ∀ C ∈ cs_at y, C.1 = y) (hcs : ∀ d', d = d' + 1 → ∀ y, ∀ C ∈ cs_at y, c_sem l X Y xa d' C) : c_sem l X Y xa d cn_w := by
  intro q hq ρ0 M z dz σ vs he hM hh htau hz hMz hdep hdz ho ha hv
  cases hq
  have hzz : (8000 : Int) + 0 = z := Option.some.inj htau
  obtain rfl : z = 8000 := by omega
  clear hzz
  have hdd : (190 : Int) + 0 = dz := Option.some.inj hdep
  obtain rfl : dz = 190 := by omega
  clear hdd
  have hz8 : (8000 : Int) + 0 = 8000 := rfl
  obtain ⟨d1, rfl⟩ : ∃ d1, d = d1 + 1 := ⟨d - 1, by omega⟩
  have hcs := hcs d1 rfl
  cases vs with
  | nil => exact absurd ha id
  | cons v1 t1 =>
  obtain ⟨hv1, ha1⟩ := ha
  have hv1 : v1 = .ref 251 := hv1
  subst hv1
  cases t1 with
  | cons v2 t2 => exact absurd ha1 id
  | nil =>
  have hT : M + 8000 ≤ 1073741824 := by omega
  have hσl : σ.length = h_N := hh.1
  refine m_K_of (K := kt_212) rfl (by decide +kernel) (Nat.le_of_ble_eq_true rfl) rfl (fun p e s m args below meth c dC dI aC ad sz hC hn hrt => ?_)
  have hk := k_all_ok (own := "LetByTheDegreeModel") rfl kt_212_ok
  have hdv : (190 : Int) ≤ ((d1 + 1 : Nat) : Int) := by omega
  obtain ⟨WW, hWW⟩ : ∃ WW : m_G → Prop, WW = fun g => mW kt_212 (z_Ev 212) p l e (m_rm (d1 + 1) 0 0) s m args below meth c (m_QZ below dC dI aC xa ad sz σ (c_post (w_alts [(0, 80, false)]) (c_md cn_w) (M + 8000) ρ0 σ) args s 0 0 (va_A (m_W ad aC σ) sz)) dC dI aC (va_A (m_W ad aC σ) sz) σ.length ad xa 4 g := ⟨_, rfl⟩
  have goal : WW (σ, 0, 0, 0, lv_args 0 [.ref 251], []) := ?_
  · rw [hWW] at goal
    exact goal
  have piece : ∀ (nr : Nat) (alts : List A_A) (S : A_S) (cuts : List A_S) (ρs : List Int) (σs : m_H) (B : Int) (g : m_G), a_go cs_at w_md w_dp 4 nr alts cuts w_rt kt_212 4000 1 S = true → ρs.length = nr → g_ok (M + 8000) 1 ρs σs w_md B ρs S g → (∀ r σ', c_post alts w_md (M + 8000) ρs σs r σ' → c_post (w_alts [(0, 80, false)]) (c_md cn_w) (M + 8000) ρ0 σ r σ') →
      (∀ U ∈ cuts, ∀ (fv' B : Int) (ρ : List Int) (g : m_G), fv' < 1 → 0 ≤ fv' → g_ok (M + 8000) fv' ρs σs w_md B ρ U g → WW g) → WW g := by
    intro nr alts S cuts ρs σs B g hchk hl hg hQ hcut
    rw [hWW] at hcut ⊢
    refine a_go_ok hC hY hYS hIx hX hT hl (by rw [hσl]; exact Nat.le_refl _) hk hcy (fun d' hd' => by
      obtain rfl : d' = d1 := by omega
      exact hcs) (show l_ev ρs w_dp = some 190 from rfl) hdv ⟨Nat.le_refl _, Nat.le_refl _⟩ (fun B ρ S g i n aux hg hd hr => a_rt_ok hT hQ hC hg hl hd hr) hcut 4000 1 S ?_ B ρs g hg
    rw [hrt]
    exact hchk
  -- the second loop
  have startL : ∀ (B nn dn : Int) (σ1 : m_H) (ls : List (Nat × Value)) (xn xd x8 : Int32), 0 ≤ B → B + (6500 - 102 * dn) ≤ M + 8000 → h_ok B σ1 → (∀ u ∈ ls, m_vOk h_N u.2) → m_ld 0 ls = some (.ref 251) → m_ld 1 ls = some (.int xn) → xn.toInt = nn → m_ld 3 ls = some (.int xd) → xd.toInt = dn → 0 ≤ dn → dn ≤ nn → nn ≤ 62 → c_at σ1 251 8 = some (.int x8) → x8.toInt = 0 → g_ok (M + 8000) 1 [nn, dn] σ1 w_md B [nn, dn] wL (σ1, 0, 0, 121, ls, []) := by
    intro B nn dn σ1 ls xn xd x8 hB0 hBT hh1 hls l0 l1 e1 l3 e3 b1 b2 b3 c8 e8
    refine ⟨r_ext.rf, ⟨rfl, ?_⟩, ?_, ⟨hB0, 6500 + -102 * dn, ?_, by omega, by omega⟩, rfl, hh1, rfl, rfl, rfl, ?_, hls, trivial, (fun v hv => by cases hv), ?_, fun p k _ => rfl⟩
    · intro i q r h1 h2
      match i, h1, h2 with
      | 0, h1, h2 => cases h1; cases h2; exact ⟨by show (0 : Int) ≤ nn; omega, b3, fun y => by cases y⟩
      | 1, h1, h2 => cases h1; cases h2; exact ⟨b1, by show dn ≤ 62; omega, fun y => by cases y⟩
    · intro u hu
      obtain rfl := List.mem_singleton.mp hu
      exact ⟨dn, nn, rfl, rfl, fun _ => by show dn ≤ nn + 0; omega, fun y => by cases y⟩
    · show (l_ev1 [nn, dn] [(-102, 1)]).map (fun s => (6500 : Int) + s) = _
      simp [l_ev1]
    · intro u hu
      rcases List.mem_cons.mp hu with rfl | hu
      · exact ⟨_, l0, rfl⟩
      rcases List.mem_cons.mp hu with rfl | hu
      · exact ⟨_, l1, v_mk0 (r := nn) rfl (by omega)⟩
      rcases List.mem_cons.mp hu with rfl | hu
      · exact ⟨_, l3, v_mk0 (r := dn) rfl (by omega)⟩
      · cases hu
    · intro u hu
      obtain rfl := List.mem_singleton.mp hu
      exact ⟨_, c8, x8, rfl, e8⟩
  have L2 : ∀ (k : Nat) (B nn dn : Int) (σ1 : m_H) (ls : List (Nat × Value)) (xn xd x8 : Int32), (nn - dn).toNat ≤ k → 0 ≤ B → B + (6500 - 102 * dn) ≤ M + 8000 → h_ok B σ1 → (∀ u ∈ ls, m_vOk h_N u.2) → m_ld 0 ls = some (.ref 251) → m_ld 1 ls = some (.int xn) → xn.toInt = nn → m_ld 3 ls = some (.int xd) → xd.toInt = dn → 0 ≤ dn → dn ≤ nn → nn ≤ 62 → c_at σ1 251 8 = some (.int x8) → x8.toInt = 0 → h_fr (c_md cn_w) σ σ1 → w_good σ1 nn → WW (σ1, 0, 0, 121, ls, []) := by
    intro k
    induction k with
    | zero =>
      intro B nn dn σ1 ls xn xd x8 hk0 hB0 hBT hh1 hls l0 l1 e1 l3 e3 b1 b2 b3 c8 e8 hfr hgood
      refine piece 2 (w_alts wE3) wL [wP] [nn, dn] σ1 B _ w_k4 rfl (startL B nn dn σ1 ls xn xd x8 hB0 hBT hh1 hls l0 l1 e1 l3 e3 b1 b2 b3 c8 e8) (fun r σ' => w_lift he (by omega) rfl hfr) ?_
      intro U hU fv' B' ρ g h1 h2 hg
      obtain rfl := List.mem_singleton.mp hU
      obtain ⟨x, y, hx, hy, hxy, -⟩ := hg.f _ List.mem_cons_self
      have ex : x = dn := r_at (hg.x0 1 dn rfl) hx
      have ey : y = nn := r_at (hg.x0 0 nn rfl) hy
      have : x ≤ y + -1 := hxy rfl
      omega
    | succ k ih =>
      intro B nn dn σ1 ls xn xd x8 hk0 hB0 hBT hh1 hls l0 l1 e1 l3 e3 b1 b2 b3 c8 e8 hfr hgood
      refine piece 2 (w_alts wE3) wL [wP] [nn, dn] σ1 B _ w_k4 rfl (startL B nn dn σ1 ls xn xd x8 hB0 hBT hh1 hls l0 l1 e1 l3 e3 b1 b2 b3 c8 e8) (fun r σ' => w_lift he (by omega) rfl hfr) ?_
      intro U hU fv' B' ρ g h1 h2 hg
      obtain rfl := List.mem_singleton.mp hU
      obtain ⟨x, y, hx, hy, hxy, -⟩ := hg.f _ List.mem_cons_self
      have r0 := hg.x0 0 nn rfl
      have r1 := hg.x0 1 dn rfl
      have ex : x = dn := r_at r1 hx
      have ey : y = nn := r_at r0 hy
      have hlt : x ≤ y + -1 := hxy rfl
      subst ex ey
      obtain ⟨σ2, ce, sl, pc, ls2, st2⟩ := g
      have hce : ce = 0 := hg.ce
      have hsl : sl = 0 := hg.sl
      have hpc : pc = 126 := hg.pc
      subst hce hsl hpc
      have hst : st2 = [] := by
        cases st2 with
        | nil => rfl
        | cons v t => exact absurd hg.s id
      subst hst
      obtain ⟨hB1, zz, z1, z2, z3⟩ := hg.bu
      have hz : zz = 6500 - 102 * x := by
        have z1 : (l_ev1 ρ [(-102, 1)]).map (fun s => 6500 + s) = some zz := z1
        simp [l_ev1, r1] at z1
        omega
      obtain ⟨v0, m0, w0⟩ := hg.l _ List.mem_cons_self
      have w0 : v0 = .ref 251 := w0
      subst w0
      obtain ⟨v1, m1, w1⟩ := hg.l _ (List.mem_cons_of_mem _ List.mem_cons_self)
      obtain ⟨xn2, rn, rfl, hrn, hxn⟩ := v_var w1
      have en : rn = y := r_at r0 hrn
      obtain ⟨v3, m3, w3⟩ := hg.l _ (List.mem_cons_of_mem _ (List.mem_cons_of_mem _ List.mem_cons_self))
      obtain ⟨xd2, rd, rfl, hrd, hxd⟩ := v_var w3
      have ed : rd = x := r_at r1 hrd
      obtain ⟨v8, c82, w8⟩ := hg.o _ List.mem_cons_self
      obtain ⟨x82, rfl, e82⟩ : ∃ z : Int32, v8 = .int z ∧ z.toInt = 0 := w8
      have hh2 : h_ok B' σ2 := hg.h
      have hls2 := hg.lv
      have hfr2 := h_fr_tr hfr hg.fr w_sub
      have hgood2 := w_good_fr hgood hg.fr (fun k => w_no)
      obtain ⟨fs, hσ2, hfl, hf36⟩ := w_obj hh2
      obtain ⟨vs, hrow, hvl⟩ := w_row hh2
      obtain ⟨xa1, xa2, g1, g2, g3⟩ := hgood2 x.toNat (by omega)
      obtain ⟨xa3, g4, -, -⟩ := h_int hh2 (p := 263) (k := 3 * x.toNat + 2) (by decide) (by rw [show h_ln 263 = 240 by decide +kernel]; omega) (show h_ty 263 (3 * x.toNat + 2) = (0, -2147483648, 2147483647) by
        unfold h_ty t_at
        rw [show (h_at 263).2.2 = [(0, -2147483648, 2147483647)] by decide +kernel]
        simp [Nat.mod_one])
      have hσl2 : σ2.length = h_N := hh2.1
      have hx62 : x ≤ 62 := by omega
      have i1 := w_ld hrow hvl (k := 3 * x.toNat) (by rw [mul3 (by omega : xd2.toInt = x) b1 hx62]; omega) (by omega) g1
      have i2 := w_ld hrow hvl (k := 3 * x.toNat + 1) (by rw [mul3k (k := 1) (by omega : xd2.toInt = x) b1 hx62 (by decide) (by decide)]; omega) (by omega) g2
      have i3 := w_ld hrow hvl (k := 3 * x.toNat + 2) (by rw [mul3k (k := 2) (by omega : xd2.toInt = x) b1 hx62 (by decide) (by decide)]; omega) (by omega) g4
      -- behind the call
      have after : ∀ (r : Int32) (B3 : Int) (σ3 : m_H) (md : A_D), 0 ≤ r.toInt → r.toInt ≤ 1 → B' ≤ B3 → B3 ≤ B' + 101 → h_ok B3 σ3 → h_fr md σ2 σ3 → d_sub md (c_md cn_w) = true → (∀ k, ¬ d_in md 263 k) → d_has md 251 8 8 = false → WW (σ3, 0, 0, 158, ls2, [.int r]) := by
        intro r B3 σ3 md q1 q2 q3 q4 hh3 hf3 hs3 hn3 h83
        refine piece 3 (w_alts wE4) wG [wG1] [y, x, r.toInt] σ3 B3 _ w_k5 rfl ?_ (fun r σ' => w_lift he (by omega) rfl (h_fr_tr hfr2 hf3 hs3)) ?_
        · refine ⟨r_ext.rf, ⟨rfl, ?_⟩, ?_, ⟨by omega, 6398 + -102 * x, ?_, by omega, by omega⟩, rfl, hh3, rfl, rfl, rfl, ?_, hls2, ⟨v_mk0 (r := r.toInt) rfl rfl, trivial⟩, (fun v hv => by obtain rfl := List.mem_singleton.mp hv; trivial), ?_, fun p k _ => rfl⟩
          · intro i q r h1 h2
            match i, h1, h2 with
            | 0, h1, h2 => cases h1; cases h2; exact ⟨by show (0 : Int) ≤ y; omega, b3, fun y => by cases y⟩
            | 1, h1, h2 => cases h1; cases h2; exact ⟨b1, by show x ≤ 61; omega, fun y => by cases y⟩
            | 2, h1, h2 => cases h1; cases h2; exact ⟨q1, q2, fun y => by cases y⟩
          · intro u hu
            obtain rfl := List.mem_singleton.mp hu
            exact ⟨x, y, rfl, rfl, fun _ => by show x ≤ y + -1; omega, fun y => by cases y⟩
          · show (l_ev1 [y, x, r.toInt] [(-102, 1)]).map (fun s => (6398 : Int) + s) = _
            simp [l_ev1]
          · intro u hu
            rcases List.mem_cons.mp hu with rfl | hu
            · exact ⟨_, m0, rfl⟩
            rcases List.mem_cons.mp hu with rfl | hu
            · exact ⟨_, m1, v_mk0 (r := y) rfl (by omega)⟩
            rcases List.mem_cons.mp hu with rfl | hu
            · exact ⟨_, m3, v_mk0 (r := x) rfl (by omega)⟩
            · cases hu
          · intro u hu
            obtain rfl := List.mem_singleton.mp hu
            exact ⟨_, by rw [hf3 _ _ (d_in_hasf h83)]; exact c82, x82, rfl, e82⟩
        · intro U hU fv2 B4 ρ4 g4 h41 h42 hg4
          obtain rfl := List.mem_singleton.mp hU
          have r0 := hg4.x0 0 y rfl
          have r1 := hg4.x0 1 x rfl
          obtain ⟨σ4, ce, sl, pc, ls4, st4⟩ := g4
          have hce : ce = 0 := hg4.ce
          have hsl : sl = 0 := hg4.sl
          have hpc : pc = 121 := hg4.pc
          subst hce hsl hpc
          have hst : st4 = [] := by
            cases st4 with
            | nil => rfl
            | cons v t => exact absurd hg4.s id
          subst hst
          obtain ⟨hB4, zz4, y1, y2, y3⟩ := hg4.bu
          have hz4 : zz4 = 6398 - 102 * x := by
            have y1 : (l_ev1 ρ4 [(-102, 1)]).map (fun s => 6398 + s) = some zz4 := y1
            simp [l_ev1, r1] at y1
            omega
          obtain ⟨v0, n0, w0⟩ := hg4.l _ List.mem_cons_self
          have w0 : v0 = .ref 251 := w0
          subst w0
          obtain ⟨v1, n1, w1⟩ := hg4.l _ (List.mem_cons_of_mem _ List.mem_cons_self)
          obtain ⟨xn4, rn4, rfl, hrn4, hxn4⟩ := v_var w1
          have en4 : rn4 = y := r_at r0 hrn4
          obtain ⟨v3, n3, w3⟩ := hg4.l _ (List.mem_cons_of_mem _ (List.mem_cons_of_mem _ List.mem_cons_self))
          obtain ⟨xd4, rd4, rfl, hrd4, hxd4⟩ := v_var w3
          have ed4 : rd4 = x := r_at r1 hrd4
          obtain ⟨v8, c84, w8⟩ := hg4.o _ List.mem_cons_self
          obtain ⟨x84, rfl, e84⟩ : ∃ z : Int32, v8 = .int z ∧ z.toInt = 0 := w8
          exact ih B4 y (x + 1) σ4 ls4 xn4 xd4 x84 (by omega) hB4 (by omega) hg4.h hg4.lv n0 n1 (by omega) n3 (by omega) (by omega) (by omega) b3 c84 e84 (h_fr_tr (h_fr_tr hfr2 hf3 hs3) hg4.fr w_sub) (w_good_fr (w_good_fr hgood2 hf3 hn3) hg4.fr (fun k => w_no))
      rw [hWW] at after ⊢
      refine mW_aload_n hC (kd hk (pc := 126) rfl).1 m0 ?_
      refine mW_aload_n hC (kd hk (pc := 127) rfl).1 m0 ?_
      refine mW_gf hC (kd hk (pc := 128) rfl) hσ2 hf36 ?_
      refine mW_iconst hC (kd hk (pc := 131) rfl).1 ?_
      refine mW_iload_n hC (kd hk (pc := 132) rfl).1 m3 ?_
      refine mW_imul hC (kd hk (pc := 133) rfl).1 ?_
      refine mW_iaload hC (kd hk (pc := 134) rfl).1 hrow i1.1 i1.2 ?_
      refine mW_aload_n hC (kd hk (pc := 135) rfl).1 m0 ?_
      refine mW_gf hC (kd hk (pc := 136) rfl) hσ2 hf36 ?_
      refine mW_iconst hC (kd hk (pc := 139) rfl).1 ?_
      refine mW_iload_n hC (kd hk (pc := 140) rfl).1 m3 ?_
      refine mW_imul hC (kd hk (pc := 141) rfl).1 ?_
      refine mW_iconst hC (kd hk (pc := 142) rfl).1 ?_
      refine mW_iadd hC (kd hk (pc := 143) rfl).1 ?_
      refine mW_iaload hC (kd hk (pc := 144) rfl).1 hrow i2.1 i2.2 ?_
      refine mW_aload_n hC (kd hk (pc := 145) rfl).1 m0 ?_
      refine mW_gf hC (kd hk (pc := 146) rfl) hσ2 hf36 ?_
      refine mW_iconst hC (kd hk (pc := 149) rfl).1 ?_
      refine mW_iload_n hC (kd hk (pc := 150) rfl).1 m3 ?_
      refine mW_imul hC (kd hk (pc := 151) rfl).1 ?_
      refine mW_iconst hC (kd hk (pc := 152) rfl).1 ?_
      refine mW_iadd hC (kd hk (pc := 153) rfl).1 ?_
      refine mW_iaload hC (kd hk (pc := 154) rfl).1 hrow i3.1 i3.2 ?_
      have hvv : ∀ v ∈ [Value.ref 251, .int xa1, .int xa2, .int xa3], m_vOk h_N v := fun v hv => by
        simp only [List.mem_cons, List.not_mem_nil, or_false] at hv
        rcases hv with rfl | rfl | rfl | rfl
        · exact vok_ref (by decide)
        · trivial
        · trivial
        · trivial
      rcases g3 with ⟨k1, k2⟩ | ⟨k1, k2, k3⟩
      · have b7 := i32_rng xa1
        have b8 := i32_rng xa3
        have hM9 := hcs 215 cn_act9 act9_in _ rfl [xa1.toInt, xa2.toInt, xa3.toInt] B' 101 175 σ2 [.ref 251, .int xa1, .int xa2, .int xa3] ⟨rfl, by
          intro i q r h1 h2
          match i, h1, h2 with
          | 0, h1, h2 => cases h1; cases h2; exact ⟨b7.1, b7.2, fun y => by cases y⟩
          | 1, h1, h2 => cases h1; cases h2; exact ⟨k1, k2, fun y => by cases y⟩
          | 2, h1, h2 => cases h1; cases h2; exact ⟨b8.1, b8.2, fun y => by cases y⟩⟩ hB1 hh2 rfl (by decide) (by omega) rfl (by omega) (fun q hq => by cases hq) ⟨rfl, v_mk0 (r := xa1.toInt) rfl rfl, v_mk0 (r := xa2.toInt) rfl rfl, v_mk0 (r := xa3.toInt) rfl rfl, trivial⟩ hvv
        refine mW_invV hY hC (as := [.int xa1, .int xa2, .int xa3]) (st := []) (kd hk (pc := 155) rfl) rfl rfl rfl hM9 hσ2 (by decide) rfl m_rm_ok (Nat.zero_le _) (Nat.zero_le _) (Nat.zero_le _) (by rw [hσl, hσl2]; exact Nat.le_refl _) (fun v hv => by cases hv) (by rw [hσl2]; exact hls2) (fun r σ3 hQ => ?_)
        obtain ⟨⟨rr, rfl, p1, p2⟩, p3, p4⟩ := act_post (by
          intro q hq
          rcases List.mem_cons.mp hq with rfl | hq
          · exact Or.inr rfl
          · obtain rfl := List.mem_singleton.mp hq
            exact Or.inl rfl) hQ
        exact after rr (B' + 101) σ3 _ p1 p2 (by omega) (by omega) p3 p4 w_subB.1 (w_263 w_actm.1) w_8.1
      · have b8 := i32_rng xa3
        have hMS := hcs 215 cn_actS actS_in _ rfl [xa2.toInt, xa3.toInt] B' 0 3 σ2 [.ref 251, .int xa1, .int xa2, .int xa3] ⟨rfl, by
          intro i q r h1 h2
          match i, h1, h2 with
          | 0, h1, h2 => cases h1; cases h2; exact ⟨k2, k3, fun y => by cases y⟩
          | 1, h1, h2 => cases h1; cases h2; exact ⟨b8.1, b8.2, fun y => by cases y⟩⟩ hB1 hh2 rfl (by decide) (by omega) rfl (by omega) (fun q hq => by cases hq) ⟨rfl, ⟨xa1, rfl, k1⟩, v_mk0 (r := xa2.toInt) rfl rfl, v_mk0 (r := xa3.toInt) rfl rfl, trivial⟩ hvv
        refine mW_invV hY hC (as := [.int xa1, .int xa2, .int xa3]) (st := []) (kd hk (pc := 155) rfl) rfl rfl rfl hMS hσ2 (by decide) rfl m_rm_ok (Nat.zero_le _) (Nat.zero_le _) (Nat.zero_le _) (by rw [hσl, hσl2]; exact Nat.le_refl _) (fun v hv => by cases hv) (by rw [hσl2]; exact hls2) (fun r σ3 hQ => ?_)
        obtain ⟨⟨rr, rfl, p1, p2⟩, p3, p4⟩ := act_post (by
          intro q hq
          rcases List.mem_cons.mp hq with rfl | hq
          · exact Or.inl rfl
          · obtain rfl := List.mem_singleton.mp hq
            exact Or.inr rfl) hQ
        exact after rr (B' + 0) σ3 _ p1 p2 (by omega) (by omega) p3 p4 w_subB.2 (w_263 w_actm.2) w_8.2
  -- the first loop
  have startA : ∀ (B nn a w mo : Int) (σ1 : m_H) (ls : List (Nat × Value)) (xn xm xo xw x8 x14 : Int32), 0 ≤ B → B ≤ M → h_ok B σ1 → (∀ u ∈ ls, m_vOk h_N u.2) → m_ld 0 ls = some (.ref 251) → m_ld 1 ls = some (.int xn) → xn.toInt = nn → m_ld 2 ls = some (.int xm) → xm.toInt = mo → 0 ≤ nn → nn ≤ 62 → 0 ≤ mo → mo ≤ 1 → 0 ≤ a → a ≤ 200 → -1 ≤ w → w ≤ 200 → c_at σ1 251 8 = some (.int x8) → x8.toInt = 0 → c_at σ1 251 12 = some (.ref 254) → c_at σ1 251 14 = some (.int x14) → x14.toInt = 60 → c_at σ1 251 15 = some (.int xo) → xo.toInt = a → c_at σ1 251 16 = some (.int xw) → xw.toInt = w → g_ok (M + 8000) 1 [nn, w, a, mo] σ1 w_md B [nn, w, a, mo] wA (σ1, 0, 0, 39, ls, []) := by
    intro B nn a w mo σ1 ls xn xm xo xw x8 x14 hB0 hBM hh1 hls l0 l1 e1 l2 e2 b1 b2 b3 b4 b5 b6 b7 b8 c8 e8 c12 c14 e14 c15 e15 c16 e16
    refine ⟨r_ext.rf, ⟨rfl, ?_⟩, (fun u hu => by cases hu), ⟨hB0, 8000, rfl, by omega, by omega⟩, rfl, hh1, rfl, rfl, rfl, ?_, hls, trivial, (fun v hv => by cases hv), ?_, fun p k _ => rfl⟩
    · intro i q r h1 h2
      match i, h1, h2 with
      | 0, h1, h2 => cases h1; cases h2; exact ⟨b1, b2, fun y => by cases y⟩
      | 1, h1, h2 => cases h1; cases h2; exact ⟨b7, b8, fun y => by cases y⟩
      | 2, h1, h2 => cases h1; cases h2; exact ⟨b5, b6, fun y => by cases y⟩
      | 3, h1, h2 => cases h1; cases h2; exact ⟨b3, b4, fun y => by cases y⟩
    · intro u hu
      rcases List.mem_cons.mp hu with rfl | hu
      · exact ⟨_, l0, rfl⟩
      rcases List.mem_cons.mp hu with rfl | hu
      · exact ⟨_, l1, v_mk0 (r := nn) rfl (by omega)⟩
      rcases List.mem_cons.mp hu with rfl | hu
      · exact ⟨_, l2, v_mk0 (r := mo) rfl (by omega)⟩
      · cases hu
    · intro u hu
      rcases List.mem_cons.mp hu with rfl | hu
      · exact ⟨_, c8, x8, rfl, e8⟩
      rcases List.mem_cons.mp hu with rfl | hu
      · exact ⟨_, c12, rfl⟩
      rcases List.mem_cons.mp hu with rfl | hu
      · exact ⟨_, c14, x14, rfl, e14⟩
      rcases List.mem_cons.mp hu with rfl | hu
      · exact ⟨_, c15, v_mk0 (r := a) rfl (by omega)⟩
      rcases List.mem_cons.mp hu with rfl | hu
      · exact ⟨_, c16, v_mk0 (r := w) rfl (by omega)⟩
      · cases hu
  have startD : ∀ (lim B nn a w : Int) (σ1 : m_H) (ls : List (Nat × Value)) (xn xo xw x8 x14 : Int32), 0 ≤ B → B ≤ M → h_ok B σ1 → (∀ u ∈ ls, m_vOk h_N u.2) → m_ld 0 ls = some (.ref 251) → m_ld 1 ls = some (.int xn) → xn.toInt = nn → 0 ≤ nn → nn ≤ 61 → 0 ≤ a → a ≤ lim → -1 ≤ w → w ≤ 200 → c_at σ1 251 8 = some (.int x8) → x8.toInt = 0 → c_at σ1 251 12 = some (.ref 254) → c_at σ1 251 14 = some (.int x14) → x14.toInt = 60 → c_at σ1 251 15 = some (.int xo) → xo.toInt = a → c_at σ1 251 16 = some (.int xw) → xw.toInt = w → g_ok (M + 8000) 1 [nn, w, a] σ1 w_md B [nn, w, a] (wD lim) (σ1, 0, 0, 57, ls, []) := by
    intro lim B nn a w σ1 ls xn xo xw x8 x14 hB0 hBM hh1 hls l0 l1 e1 b1 b2 b5 b6 b7 b8 c8 e8 c12 c14 e14 c15 e15 c16 e16
    refine ⟨r_ext.rf, ⟨rfl, ?_⟩, (fun u hu => by cases hu), ⟨hB0, 8000, rfl, by omega, by omega⟩, rfl, hh1, rfl, rfl, rfl, ?_, hls, trivial, (fun v hv => by cases hv), ?_, fun p k _ => rfl⟩
    · intro i q r h1 h2
      match i, h1, h2 with
      | 0, h1, h2 => cases h1; cases h2; exact ⟨b1, b2, fun y => by cases y⟩
      | 1, h1, h2 => cases h1; cases h2; exact ⟨b7, b8, fun y => by cases y⟩
      | 2, h1, h2 => cases h1; cases h2; exact ⟨b5, b6, fun y => by cases y⟩
    · intro u hu
      rcases List.mem_cons.mp hu with rfl | hu
      · exact ⟨_, l0, rfl⟩
      rcases List.mem_cons.mp hu with rfl | hu
      · exact ⟨_, l1, v_mk0 (r := nn) rfl (by omega)⟩
      · cases hu
    · intro u hu
      rcases List.mem_cons.mp hu with rfl | hu
      · exact ⟨_, c8, x8, rfl, e8⟩
      rcases List.mem_cons.mp hu with rfl | hu
      · exact ⟨_, c12, rfl⟩
      rcases List.mem_cons.mp hu with rfl | hu
      · exact ⟨_, c14, x14, rfl, e14⟩
      rcases List.mem_cons.mp hu with rfl | hu
      · exact ⟨_, c15, v_mk0 (r := a) rfl (by omega)⟩
      rcases List.mem_cons.mp hu with rfl | hu
      · exact ⟨_, c16, v_mk0 (r := w) rfl (by omega)⟩
      · cases hu
  have L1 : ∀ (k : Nat) (B nn a w mo : Int) (σ1 : m_H) (ls : List (Nat × Value)) (xn xm xo xw x8 x14 : Int32), (62 - nn).toNat ≤ k → 0 ≤ B → B ≤ M → h_ok B σ1 → (∀ u ∈ ls, m_vOk h_N u.2) → m_ld 0 ls = some (.ref 251) → m_ld 1 ls = some (.int xn) → xn.toInt = nn → m_ld 2 ls = some (.int xm) → xm.toInt = mo → 0 ≤ nn → nn ≤ 62 → 0 ≤ mo → mo ≤ 1 → 0 ≤ a → a ≤ 200 → -1 ≤ w → w ≤ 200 → c_at σ1 251 8 = some (.int x8) → x8.toInt = 0 → c_at σ1 251 12 = some (.ref 254) → c_at σ1 251 14 = some (.int x14) → x14.toInt = 60 → c_at σ1 251 15 = some (.int xo) → xo.toInt = a → c_at σ1 251 16 = some (.int xw) → xw.toInt = w → (w = -1 → nn ≤ a ∧ (mo = 1 → 2 * nn ≤ a ∧ a ≤ 60) ∧ w_good σ1 nn) → h_fr (c_md cn_w) σ σ1 → WW (σ1, 0, 0, 39, ls, []) := by
    intro k
    induction k using Nat.strongRecOn with
    | _ k ih =>
      intro B nn a w mo σ1 ls xn xm xo xw x8 x14 hk0 hB0 hBM hh1 hls l0 l1 e1 l2 e2 b1 b2 b3 b4 b5 b6 b7 b8 c8 e8 c12 c14 e14 c15 e15 c16 e16 hJ hfr
      refine piece 4 (w_alts wE1) wA [wB, wL0] [nn, w, a, mo] σ1 B _ w_k1 rfl (startA B nn a w mo σ1 ls xn xm xo xw x8 x14 hB0 hBM hh1 hls l0 l1 e1 l2 e2 b1 b2 b3 b4 b5 b6 b7 b8 c8 e8 c12 c14 e14 c15 e15 c16 e16) (fun r σ' => w_lift he (by omega) rfl hfr) ?_
      intro U hU fv' B' ρ g h1 h2 hg
      rcases List.mem_cons.mp hU with rfl | hU
      · -- one more act to read
        obtain ⟨σ2, ce, sl, pc, ls2, st2⟩ := g
        have hce : ce = 0 := hg.ce
        have hsl : sl = 0 := hg.sl
        have hpc : pc = 50 := hg.pc
        subst hce hsl hpc
        have hst : st2 = [] := by
          cases st2 with
          | nil => rfl
          | cons v t => exact absurd hg.s id
        subst hst
        obtain ⟨hB1, zz, z1, z2, z3⟩ := hg.bu
        have hz : zz = 8000 := by
          have z1 : some ((8000 : Int) + 0) = some zz := z1
          have := Option.some.inj z1
          omega
        have r0 := hg.x0 0 nn rfl
        have r1 := hg.x0 1 w rfl
        have r2 := hg.x0 2 a rfl
        have r3 := hg.x0 3 mo rfl
        have hw1 := hg.e.2 1 (-1, -1, false) w rfl r1
        have hw2 : (-1 : Int) ≤ w := hw1.1
        have hw3 : w ≤ -1 := hw1.2.1
        have hm1 := hg.e.2 3 (1, 1, false) mo rfl r3
        have hm2 : (1 : Int) ≤ mo := hm1.1
        obtain ⟨j1, j2, j3⟩ := hJ (by omega)
        obtain ⟨j0, j2⟩ := j2 (by omega)
        have hh2 : h_ok B' σ2 := hg.h
        have hls2 := hg.lv
        have hfr2 := h_fr_tr hfr hg.fr w_sub
        have hgood2 := w_good_fr j3 hg.fr (fun k => w_no)
        obtain ⟨v0, m0, w0⟩ := hg.l _ List.mem_cons_self
        have w0 : v0 = .ref 251 := w0
        subst w0
        obtain ⟨v1, m1, w1⟩ := hg.l _ (List.mem_cons_of_mem _ List.mem_cons_self)
        obtain ⟨xn2, rn, rfl, hrn, hxn⟩ := v_var w1
        have en : rn = nn := r_at r0 hrn
        obtain ⟨v8, c82, w8⟩ := hg.o _ List.mem_cons_self
        obtain ⟨x82, rfl, e82⟩ : ∃ z : Int32, v8 = .int z ∧ z.toInt = 0 := w8
        obtain ⟨v12, c122, w12⟩ := hg.o _ (List.mem_cons_of_mem _ List.mem_cons_self)
        have w12 : v12 = .ref 254 := w12
        subst w12
        obtain ⟨v14, c142, w14⟩ := hg.o _ (List.mem_cons_of_mem _ (List.mem_cons_of_mem _ List.mem_cons_self))
        obtain ⟨x142, rfl, e142⟩ : ∃ z : Int32, v14 = .int z ∧ z.toInt = 60 := w14
        obtain ⟨v15, c152, w15⟩ := hg.o _ (List.mem_cons_of_mem _ (List.mem_cons_of_mem _ (List.mem_cons_of_mem _ List.mem_cons_self)))
        obtain ⟨xo2, ro2, rfl, hro2, hxo2⟩ := v_var w15
        have eo2 : ro2 = a := r_at r2 hro2
        obtain ⟨v16, c162, w16⟩ := hg.o _ (List.mem_cons_of_mem _ (List.mem_cons_of_mem _ (List.mem_cons_of_mem _ (List.mem_cons_of_mem _ List.mem_cons_self))))
        obtain ⟨xw2, rfl, ew2⟩ : ∃ z : Int32, v16 = .int z ∧ z.toInt = -1 := w16
        obtain ⟨fs, hσ2, hfl, hf36⟩ := w_obj hh2
        have hσl2 : σ2.length = h_N := hh2.1
        have hsR := w_subR nn.toNat (by omega)
        have after : ∀ (lim B3 a3 w3 : Int) (σ3 : m_H) (xo3 xw3 : Int32), a_go cs_at w_md w_dp 4 3 (w_alts (wE2 lim)) [wD0 lim, wD1 lim] w_rt kt_212 4000 1 (wD lim) = true → 0 ≤ B3 → B3 ≤ M → h_ok B3 σ3 → h_fr [(251, 15, 16), (263, 3 * nn.toNat, 3 * nn.toNat + 2)] σ2 σ3 → 0 ≤ a3 → a3 ≤ lim → lim ≤ 200 → -1 ≤ w3 → w3 ≤ 200 → c_at σ3 251 15 = some (.int xo3) → xo3.toInt = a3 → c_at σ3 251 16 = some (.int xw3) → xw3.toInt = w3 → (w3 = -1 → 2 * nn + 1 ≤ a3 ∧ w_good σ3 (nn + 1)) → WW (σ3, 0, 0, 57, ls2, []) := by
          intro lim B3 a3 w3 σ3 xo3 xw3 hck q1 q2 hh3 hf3 q3 q4 q5 q6 q7 c153 e153 c163 e163 hj
          have nin : ∀ k, k < 15 → ¬ d_in [(251, 15, 16), (263, 3 * nn.toNat, 3 * nn.toNat + 2)] 251 k := by
            rintro k hk15 ⟨q, hq, f1, f2, f3⟩
            rcases List.mem_cons.mp hq with rfl | hq
            · have f2 : 15 ≤ k := f2
              omega
            · obtain rfl := List.mem_singleton.mp hq
              exact absurd (show (263 : Nat) = 251 from f1) (by decide)
          refine piece 3 (w_alts (wE2 lim)) (wD lim) [wD0 lim, wD1 lim] [nn, w3, a3] σ3 B3 _ hck rfl (startD lim B3 nn a3 w3 σ3 ls2 xn2 xo3 xw3 x82 x142 q1 q2 hh3 hls2 m0 m1 (by omega) b1 (by omega) q3 q4 q6 q7 (by rw [hf3 _ _ (nin 8 (by decide))]; exact c82) e82 (by rw [hf3 _ _ (nin 12 (by decide))]; exact c122) (by rw [hf3 _ _ (nin 14 (by decide))]; exact c142) e142 c153 e153 c163 e163) (fun r σ' => w_lift he (by omega) rfl (h_fr_tr hfr2 hf3 hsR)) ?_
          intro U hU fv2 B4 ρ4 g4 h41 h42 hg4
          rcases List.mem_cons.mp hU with rfl | hU
          · have hone : True := trivial
            obtain ⟨σ4, ce, sl, pc, ls4, st4⟩ := g4
            have hce : ce = 0 := hg4.ce
            have hsl : sl = 0 := hg4.sl
            have hpc : pc = 39 := hg4.pc
            subst hce hsl hpc
            have hst : st4 = [] := by
              cases st4 with
              | nil => rfl
              | cons v t => exact absurd hg4.s id
            subst hst
            obtain ⟨hB4, zz4, y1, y2, y3⟩ := hg4.bu
            have hz4 : zz4 = 8000 := by
              have y1 : some ((8000 : Int) + 0) = some zz4 := y1
              have := Option.some.inj y1
              omega
            have r0 := hg4.x0 0 nn rfl
            have r1 := hg4.x0 1 w3 rfl
            have r2 := hg4.x0 2 a3 rfl
            obtain ⟨x, y, hx, hy, hxy, -⟩ := hg4.f _ List.mem_cons_self
            have ex : x = a3 := r_at r2 hx
            have hxy : x ≤ y + 0 := hxy rfl
            have hy1 := hg4.e.2 3 (0, lim, false) y rfl hy
            have hy2 : (0 : Int) ≤ y := hy1.1
            have hy3 : y ≤ lim := hy1.2.1
            subst ex
            obtain ⟨v0, n0, w0⟩ := hg4.l _ List.mem_cons_self
            have w0 : v0 = .ref 251 := w0
            subst w0
            obtain ⟨v1, n1, w1⟩ := hg4.l _ (List.mem_cons_of_mem _ List.mem_cons_self)
            obtain ⟨xn4, rn4, rfl, hrn4, hxn4⟩ := v_var w1
            have en4 : rn4 = nn := r_at r0 hrn4
            obtain ⟨v2, n2, w2⟩ := hg4.l _ (List.mem_cons_of_mem _ (List.mem_cons_of_mem _ List.mem_cons_self))
            obtain ⟨xm4, rfl, em4⟩ : ∃ z : Int32, v2 = .int z ∧ z.toInt = 0 := w2
            obtain ⟨v8, c84, w8⟩ := hg4.o _ List.mem_cons_self
            obtain ⟨x84, rfl, e84⟩ : ∃ z : Int32, v8 = .int z ∧ z.toInt = 0 := w8
            obtain ⟨v12, c124, w12⟩ := hg4.o _ (List.mem_cons_of_mem _ List.mem_cons_self)
            have w12 : v12 = .ref 254 := w12
            subst w12
            obtain ⟨v14, c144, w14⟩ := hg4.o _ (List.mem_cons_of_mem _ (List.mem_cons_of_mem _ List.mem_cons_self))
            obtain ⟨x144, rfl, e144⟩ : ∃ z : Int32, v14 = .int z ∧ z.toInt = 60 := w14
            obtain ⟨v15, c154, w15⟩ := hg4.o _ (List.mem_cons_of_mem _ (List.mem_cons_of_mem _ (List.mem_cons_of_mem _ List.mem_cons_self)))
            obtain ⟨xo4, ro4, rfl, hro4, hxo4⟩ := v_var w15
            have eo4 : ro4 = y := r_at hy hro4
            obtain ⟨v16, c164, w16⟩ := hg4.o _ (List.mem_cons_of_mem _ (List.mem_cons_of_mem _ (List.mem_cons_of_mem _ (List.mem_cons_of_mem _ List.mem_cons_self))))
            obtain ⟨xw4, rw4, rfl, hrw4, hxw4⟩ := v_var w16
            have ew4 : rw4 = w3 := r_at r1 hrw4
            exact ih (62 - (nn + 1)).toNat (by omega) B4 (nn + 1) y w3 0 σ4 ls4 xn4 xm4 xo4 xw4 x84 x144 (Nat.le_refl _) hB4 (by omega) hg4.h hg4.lv n0 n1 (by omega) n2 em4 (by omega) (by omega) (by decide) (by decide) hy2 (by omega) q6 q7 c84 e84 c124 c144 e144 c154 (by omega) c164 (by omega) (fun hw => by
              obtain ⟨k1, k2⟩ := hj hw
              exact ⟨by omega, fun k3 => by omega, w_good_fr k2 hg4.fr (fun k => w_no)⟩) (h_fr_tr (h_fr_tr hfr2 hf3 hsR) hg4.fr w_sub)
          · obtain rfl := List.mem_singleton.mp hU
            obtain ⟨σ4, ce, sl, pc, ls4, st4⟩ := g4
            have hce : ce = 0 := hg4.ce
            have hsl : sl = 0 := hg4.sl
            have hpc : pc = 39 := hg4.pc
            subst hce hsl hpc
            have hst : st4 = [] := by
              cases st4 with
              | nil => rfl
              | cons v t => exact absurd hg4.s id
            subst hst
            obtain ⟨hB4, zz4, y1, y2, y3⟩ := hg4.bu
            have hz4 : zz4 = 8000 := by
              have y1 : some ((8000 : Int) + 0) = some zz4 := y1
              have := Option.some.inj y1
              omega
            have r0 := hg4.x0 0 nn rfl
            have r1 := hg4.x0 1 w3 rfl
            have r2 := hg4.x0 2 a3 rfl
            obtain ⟨x, y, hx, hy, hxy, -⟩ := hg4.f _ List.mem_cons_self
            have ex : x = a3 := r_at r2 hx
            have hxy : x ≤ y + -1 := hxy rfl
            have hy1 := hg4.e.2 3 (0, 60, false) y rfl hy
            have hy2 : (0 : Int) ≤ y := hy1.1
            have hy3 : y ≤ 60 := hy1.2.1
            subst ex
            obtain ⟨v0, n0, w0⟩ := hg4.l _ List.mem_cons_self
            have w0 : v0 = .ref 251 := w0
            subst w0
            obtain ⟨v1, n1, w1⟩ := hg4.l _ (List.mem_cons_of_mem _ List.mem_cons_self)
            obtain ⟨xn4, rn4, rfl, hrn4, hxn4⟩ := v_var w1
            have en4 : rn4 = nn := r_at r0 hrn4
            obtain ⟨v2, n2, w2⟩ := hg4.l _ (List.mem_cons_of_mem _ (List.mem_cons_of_mem _ List.mem_cons_self))
            obtain ⟨xm4, rfl, em4⟩ : ∃ z : Int32, v2 = .int z ∧ z.toInt = 1 := w2
            obtain ⟨v8, c84, w8⟩ := hg4.o _ List.mem_cons_self
            obtain ⟨x84, rfl, e84⟩ : ∃ z : Int32, v8 = .int z ∧ z.toInt = 0 := w8
            obtain ⟨v12, c124, w12⟩ := hg4.o _ (List.mem_cons_of_mem _ List.mem_cons_self)
            have w12 : v12 = .ref 254 := w12
            subst w12
            obtain ⟨v14, c144, w14⟩ := hg4.o _ (List.mem_cons_of_mem _ (List.mem_cons_of_mem _ List.mem_cons_self))
            obtain ⟨x144, rfl, e144⟩ : ∃ z : Int32, v14 = .int z ∧ z.toInt = 60 := w14
            obtain ⟨v15, c154, w15⟩ := hg4.o _ (List.mem_cons_of_mem _ (List.mem_cons_of_mem _ (List.mem_cons_of_mem _ List.mem_cons_self)))
            obtain ⟨xo4, ro4, rfl, hro4, hxo4⟩ := v_var w15
            have eo4 : ro4 = y := r_at hy hro4
            obtain ⟨v16, c164, w16⟩ := hg4.o _ (List.mem_cons_of_mem _ (List.mem_cons_of_mem _ (List.mem_cons_of_mem _ (List.mem_cons_of_mem _ List.mem_cons_self))))
            obtain ⟨xw4, rw4, rfl, hrw4, hxw4⟩ := v_var w16
            have ew4 : rw4 = w3 := r_at r1 hrw4
            exact ih (62 - (nn + 1)).toNat (by omega) B4 (nn + 1) y w3 1 σ4 ls4 xn4 xm4 xo4 xw4 x84 x144 (Nat.le_refl _) hB4 (by omega) hg4.h hg4.lv n0 n1 (by omega) n2 em4 (by omega) (by omega) (by decide) (by decide) hy2 (by omega) q6 q7 c84 e84 c124 c144 e144 c154 (by omega) c164 (by omega) (fun hw => by
              obtain ⟨k1, k2⟩ := hj hw
              exact ⟨by omega, fun k3 => by omega, w_good_fr k2 hg4.fr (fun k => w_no)⟩) (h_fr_tr (h_fr_tr hfr2 hf3 hsR) hg4.fr w_sub)
        have e3n := mul3 (x := xn2) (n := nn) (by omega) b1 b2
        have h56 : h_ln 251 = 56 := by decide +kernel
        obtain ⟨xl, c132, l1, l2⟩ := h_int hh2 (p := 251) (k := 13) (lo := 0) (hi := 80) (by decide) (by rw [h56]; decide) (by decide +kernel)
        have hvv : ∀ v ∈ [Value.ref 251, .int (Int32.ofInt 3 * xn2)], m_vOk h_N v := fun v hv => by
          simp only [List.mem_cons, List.not_mem_nil, or_false] at hv
          rcases hv with rfl | rfl
          · exact vok_ref (by decide)
          · trivial
        have hMr := hcs 213 (ra_con (3 * nn.toNat)) (ra_in (by omega)) _ rfl [xl.toInt, 60, a, -1] B' 0 12 σ2 [.ref 251, .int (Int32.ofInt 3 * xn2)] ⟨rfl, by
          intro i q r h1 h2
          match i, h1, h2 with
          | 0, h1, h2 => cases h1; cases h2; exact ⟨l1, l2, fun y => by cases y⟩
          | 1, h1, h2 => cases h1; cases h2; exact ⟨by decide, by decide, fun y => by cases y⟩
          | 2, h1, h2 => cases h1; cases h2; exact ⟨b5, j2, fun y => by cases y⟩
          | 3, h1, h2 => cases h1; cases h2; exact ⟨by decide, by decide, fun y => by cases y⟩⟩ hB1 hh2 rfl (by decide) (by omega) rfl (by omega) (by
          intro u hu
          rcases List.mem_cons.mp hu with rfl | hu
          · exact ⟨_, c122, rfl⟩
          rcases List.mem_cons.mp hu with rfl | hu
          · exact ⟨_, c132, v_mk0 (r := xl.toInt) rfl rfl⟩
          rcases List.mem_cons.mp hu with rfl | hu
          · exact ⟨_, c142, v_mk0 (r := 60) rfl (by omega)⟩
          rcases List.mem_cons.mp hu with rfl | hu
          · exact ⟨_, c152, v_mk0 (r := a) rfl (by omega)⟩
          rcases List.mem_cons.mp hu with rfl | hu
          · exact ⟨_, c162, v_mk0 (r := -1) rfl (by omega)⟩
          · cases hu) ⟨rfl, ⟨_, rfl, by show (Int32.ofInt 3 * xn2).toInt = ((3 * nn.toNat : Nat) : Int); omega⟩, trivial⟩ hvv
        rw [hWW] at after ⊢
        refine mW_aload_n hC (kd hk (pc := 50) rfl).1 m0 ?_
        refine mW_iconst hC (kd hk (pc := 51) rfl).1 ?_
        refine mW_iload_n hC (kd hk (pc := 52) rfl).1 m1 ?_
        refine mW_imul hC (kd hk (pc := 53) rfl).1 ?_
        refine mW_invV hY hC (as := [.int (Int32.ofInt 3 * xn2)]) (st := []) (kd hk (pc := 54) rfl) rfl rfl rfl hMr hσ2 (by decide) rfl m_rm_ok (Nat.zero_le _) (Nat.zero_le _) (Nat.zero_le _) (by rw [hσl, hσl2]; exact Nat.le_refl _) (fun v hv => by cases hv) (by rw [hσl2]; exact hls2) (fun r σ3 hQ => ?_)
        obtain ⟨q, hq, ρ', p1, p2, p3, p4, p5, p6, p7⟩ := hQ
        have low : ∀ i : Nat, (i : Int) < nn → ∃ x y : Int32, c_at σ3 263 (3 * i) = some (.int x) ∧ c_at σ3 263 (3 * i + 1) = some (.int y) ∧ ((0 ≤ y.toInt ∧ y.toInt ≤ 9) ∨ (x.toInt = 115 ∧ -1 ≤ y.toInt ∧ y.toInt ≤ 8)) := by
          intro i hi
          have nin : ∀ k, k < 3 * nn.toNat → ¬ d_in [(251, 15, 16), (263, 3 * nn.toNat, 3 * nn.toNat + 2)] 263 k := by
            rintro k hk15 ⟨q, hq, f1, f2, f3⟩
            rcases List.mem_cons.mp hq with rfl | hq
            · exact absurd f1 (by decide)
            · obtain rfl := List.mem_singleton.mp hq
              have f2 : 3 * nn.toNat ≤ k := f2
              omega
          obtain ⟨x, y, g1, g2, g3⟩ := hgood2 i hi
          exact ⟨x, y, by rw [p7 _ _ (nin _ (by omega))]; exact g1, by rw [p7 _ _ (nin _ (by omega))]; exact g2, g3⟩
        have s2 : ρ'[2]? = some a := p1 2 a rfl
        obtain ⟨xo3, c153, o1, o2⟩ := h_int p5 (p := 251) (k := 15) (lo := 0) (hi := 200) (by decide) (by rw [h56]; decide) (by decide +kernel)
        obtain ⟨xw3, c163, o3, o4⟩ := h_int p5 (p := 251) (k := 16) (lo := -1) (hi := 200) (by decide) (by rw [h56]; decide) (by decide +kernel)
        rcases List.mem_cons.mp hq with rfl | hq
        · -- wrong
          cases r with
          | some v => exact absurd p4 id
          | none =>
            obtain ⟨v, cv, wv⟩ := p6 _ List.mem_cons_self
            obtain ⟨xw4, rw4, rfl, hrw, hxw⟩ := v_var wv
            have hb := p2.2 4 (0, 200, false) rw4 rfl hrw
            have hb1 : (0 : Int) ≤ rw4 := hb.1
            have hb2 : rw4 ≤ 200 := hb.2.1
            exact after 200 (B' + 0) xo3.toInt rw4 σ3 xo3 xw4 w_k2 (by omega) (by omega) p5 p7 o1 o2 (Int.le_refl _) (by omega) hb2 c153 rfl cv (by omega) (fun hw => by omega)
        rcases List.mem_cons.mp hq with rfl | hq
        · -- an act
          cases r with
          | some v => exact absurd p4 id
          | none =>
            obtain ⟨x, y, hx, hy, hxy, -⟩ := p3 _ List.mem_cons_self
            have ex : x = a := r_at s2 hx
            have hxy : x ≤ y + -1 := hxy rfl
            have hb := p2.2 4 (1, 64, false) y rfl hy
            have hb2 : y ≤ 64 := hb.2.1
            obtain ⟨v, cv, wv⟩ := p6 _ List.mem_cons_self
            obtain ⟨xo4, ro4, rfl, hro, hxo⟩ := v_var wv
            have eo : ro4 = y := r_at hy hro
            obtain ⟨v, cw, ww⟩ := p6 _ (List.mem_cons_of_mem _ List.mem_cons_self)
            obtain ⟨xb, rb, rfl, hrb, hxb⟩ := v_var ww
            have hc := p2.2 5 (0, 9, false) rb rfl hrb
            have hc1 : (0 : Int) ≤ rb := hc.1
            have hc2 : rb ≤ 9 := hc.2.1
            obtain ⟨xt, ct, -, -⟩ := h_int p5 (p := 263) (k := 3 * nn.toNat) (by decide) (by rw [show h_ln 263 = 240 by decide +kernel]; omega) (show h_ty 263 (3 * nn.toNat) = (0, -2147483648, 2147483647) by
              unfold h_ty t_at
              rw [show (h_at 263).2.2 = [(0, -2147483648, 2147483647)] by decide +kernel]
              simp [Nat.mod_one])
            exact after 64 (B' + 0) y xw3.toInt σ3 xo4 xw3 w_k3 (by omega) (by omega) p5 p7 (by omega) hb2 (by decide) o3 o4 cv (by omega) c163 rfl (fun hw => ⟨by omega, fun i hi => by
              by_cases h : (i : Int) < nn
              · exact low i h
              · obtain rfl : i = nn.toNat := by omega
                exact ⟨xt, xb, ct, cw, Or.inl ⟨by omega, by omega⟩⟩⟩)
        · -- an act of the stove
          obtain rfl := List.mem_singleton.mp hq
          cases r with
          | some v => exact absurd p4 id
          | none =>
            obtain ⟨x, y, hx, hy, hxy, -⟩ := p3 _ List.mem_cons_self
            have ex : x = a := r_at s2 hx
            have hxy : x ≤ y + -1 := hxy rfl
            have hb := p2.2 4 (1, 64, false) y rfl hy
            have hb2 : y ≤ 64 := hb.2.1
            obtain ⟨v, cv, wv⟩ := p6 _ List.mem_cons_self
            obtain ⟨xo4, ro4, rfl, hro, hxo⟩ := v_var wv
            have eo : ro4 = y := r_at hy hro
            obtain ⟨v, ct, wt⟩ := p6 _ (List.mem_cons_of_mem _ List.mem_cons_self)
            obtain ⟨xt, rfl, et⟩ : ∃ z : Int32, v = .int z ∧ z.toInt = 115 := wt
            obtain ⟨v, cw, ww⟩ := p6 _ (List.mem_cons_of_mem _ (List.mem_cons_of_mem _ List.mem_cons_self))
            obtain ⟨xb, rb, rfl, hrb, hxb⟩ := v_var ww
            have hc := p2.2 5 (-1, 8, false) rb rfl hrb
            have hc1 : (-1 : Int) ≤ rb := hc.1
            have hc2 : rb ≤ 8 := hc.2.1
            exact after 64 (B' + 0) y xw3.toInt σ3 xo4 xw3 w_k3 (by omega) (by omega) p5 p7 (by omega) hb2 (by decide) o3 o4 cv (by omega) c163 rfl (fun hw => ⟨by omega, fun i hi => by
              by_cases h : (i : Int) < nn
              · exact low i h
              · obtain rfl : i = nn.toNat := by omega
                exact ⟨xt, xb, ct, cw, Or.inr ⟨et, by omega, by omega⟩⟩⟩)
      · -- the second loop
        obtain rfl := List.mem_singleton.mp hU
        obtain ⟨σ2, ce, sl, pc, ls2, st2⟩ := g
        have hce : ce = 0 := hg.ce
        have hsl : sl = 0 := hg.sl
        have hpc : pc = 121 := hg.pc
        subst hce hsl hpc
        have hst : st2 = [] := by
          cases st2 with
          | nil => rfl
          | cons v t => exact absurd hg.s id
        subst hst
        obtain ⟨hB1, zz, z1, z2, z3⟩ := hg.bu
        have hz : zz = 8000 := by
          have z1 : some ((8000 : Int) + 0) = some zz := z1
          have := Option.some.inj z1
          omega
        have r0 := hg.x0 0 nn rfl
        have r1 := hg.x0 1 w rfl
        have hw1 := hg.e.2 1 (-1, -1, false) w rfl r1
        have hw2 : (-1 : Int) ≤ w := hw1.1
        have hw3 : w ≤ -1 := hw1.2.1
        obtain ⟨j1, j2, j3⟩ := hJ (by omega)
        obtain ⟨v0, m0, w0⟩ := hg.l _ List.mem_cons_self
        have w0 : v0 = .ref 251 := w0
        subst w0
        obtain ⟨v1, m1, w1⟩ := hg.l _ (List.mem_cons_of_mem _ List.mem_cons_self)
        obtain ⟨xn2, rn, rfl, hrn, hxn⟩ := v_var w1
        have en : rn = nn := r_at r0 hrn
        obtain ⟨v3, m3, w3⟩ := hg.l _ (List.mem_cons_of_mem _ (List.mem_cons_of_mem _ List.mem_cons_self))
        obtain ⟨x3, rfl, e3⟩ : ∃ z : Int32, v3 = .int z ∧ z.toInt = 0 := w3
        obtain ⟨v8, c82, w8⟩ := hg.o _ List.mem_cons_self
        obtain ⟨x82, rfl, e82⟩ : ∃ z : Int32, v8 = .int z ∧ z.toInt = 0 := w8
        exact L2 _ B' nn 0 σ2 ls2 xn2 x3 x82 (Nat.le_refl _) hB1 (by omega) hg.h hg.lv m0 m1 (by omega) m3 e3 (Int.le_refl 0) b1 b2 c82 e82 (h_fr_tr hfr hg.fr w_sub) (w_good_fr j3 hg.fr (fun k => w_no))
  -- the start
  refine piece 1 [] (c_start cn_w) [wA0] ρ0 σ M _ w_k0 he.1 ⟨r_ext.rf, he, (fun u hu => by cases hu), ⟨hM, 8000, rfl, by decide, by omega⟩, rfl, hh, rfl, rfl, rfl, ?_, ?_, trivial, (fun v hv => by cases hv), ho, fun p k _ => rfl⟩ (fun r σ' h => by
    obtain ⟨q, hq, -⟩ := h
    cases hq) ?_
  · intro u hu
    obtain rfl := List.mem_singleton.mp hu
    exact ⟨.ref 251, rfl, rfl⟩
  · intro u hu
    have hu : u ∈ [((0 : Nat), Value.ref 251)] := hu
    obtain rfl := List.mem_singleton.mp hu
    exact vok_ref (by decide)
  · intro U hU fv' B' ρ g h1 h2 hg
    obtain rfl := List.mem_singleton.mp hU
    obtain ⟨σ2, ce, sl, pc, ls2, st2⟩ := g
    have hce : ce = 0 := hg.ce
    have hsl : sl = 0 := hg.sl
    have hpc : pc = 39 := hg.pc
    subst hce hsl hpc
    have hst : st2 = [] := by
      cases st2 with
      | nil => rfl
      | cons v t => exact absurd hg.s id
    subst hst
    obtain ⟨hB1, zz, z1, z2, z3⟩ := hg.bu
    have hz : zz = 8000 := by
      have z1 : some ((8000 : Int) + 0) = some zz := z1
      have := Option.some.inj z1
      omega
    obtain ⟨v0, m0, w0⟩ := hg.l _ List.mem_cons_self
    have w0 : v0 = .ref 251 := w0
    subst w0
    obtain ⟨v1, m1, w1⟩ := hg.l _ (List.mem_cons_of_mem _ List.mem_cons_self)
    obtain ⟨x1, rfl, e1⟩ : ∃ z : Int32, v1 = .int z ∧ z.toInt = 0 := w1
    obtain ⟨v2, m2, w2⟩ := hg.l _ (List.mem_cons_of_mem _ (List.mem_cons_of_mem _ List.mem_cons_self))
    obtain ⟨xm, rm, rfl, hrm, hxm⟩ := v_var w2
    have hb := hg.e.2 1 (0, 1, false) rm rfl hrm
    have hb1 : (0 : Int) ≤ rm := hb.1
    have hb2 : rm ≤ 1 := hb.2.1
    obtain ⟨v8, c82, w8⟩ := hg.o _ List.mem_cons_self
    obtain ⟨x82, rfl, e82⟩ : ∃ z : Int32, v8 = .int z ∧ z.toInt = 0 := w8
    obtain ⟨v12, c122, w12⟩ := hg.o _ (List.mem_cons_of_mem _ List.mem_cons_self)
    have w12 : v12 = .ref 254 := w12
    subst w12
    obtain ⟨v14, c142, w14⟩ := hg.o _ (List.mem_cons_of_mem _ (List.mem_cons_of_mem _ List.mem_cons_self))
    obtain ⟨x142, rfl, e142⟩ : ∃ z : Int32, v14 = .int z ∧ z.toInt = 60 := w14
    obtain ⟨v15, c152, w15⟩ := hg.o _ (List.mem_cons_of_mem _ (List.mem_cons_of_mem _ (List.mem_cons_of_mem _ List.mem_cons_self)))
    obtain ⟨xo2, rfl, eo2⟩ : ∃ z : Int32, v15 = .int z ∧ z.toInt = 0 := w15
    obtain ⟨v16, c162, w16⟩ := hg.o _ (List.mem_cons_of_mem _ (List.mem_cons_of_mem _ (List.mem_cons_of_mem _ (List.mem_cons_of_mem _ List.mem_cons_self))))
    obtain ⟨xw2, rfl, ew2⟩ : ∃ z : Int32, v16 = .int z ∧ z.toInt = -1 := w16
    exact L1 _ B' 0 0 (-1) rm σ2 ls2 x1 xm xo2 xw2 x82 x142 (Nat.le_refl _) hB1 (by omega) hg.h hg.lv m0 m1 e1 m2 (by omega) (by decide) (by decide) hb1 hb2 (by decide) (by decide) (by decide) (by decide) c82 e82 c122 c142 e142 c152 eo2 c162 ew2 (fun _ => ⟨Int.le_refl 0, fun _ => by decide, fun i hi => by omega⟩) (h_fr_tr (fun p k _ => rfl) hg.fr w_sub)
end WS
end
section
/-! A STRING'S indexOf(int), of the short string outside -/
def sy_ix2 : MethodName := ⟨"java/lang/String", "indexOf", "(II)I"⟩
def sy_lat : MethodName := ⟨"java/lang/String", "isLatin1", "()Z"⟩
def sy_len : MethodName := ⟨"java/lang/String", "length", "()I"⟩
def sy_cod : MethodName := ⟨"java/lang/String", "coder", "()B"⟩
def sy_lix : MethodName := ⟨"java/lang/StringLatin1", "indexOf", "([BIII)I"⟩
def sy_can : MethodName := ⟨"java/lang/StringLatin1", "canEncode", "(I)Z"⟩
def sy_ioc : MethodName := ⟨"java/lang/StringLatin1", "indexOfChar", "([BIII)I"⟩
theorem py_can : (parseMethodDescriptor sy_can.desc).map (fun d => d.parameters.length) = some 1 := by decide +kernel
theorem py_ioc : (parseMethodDescriptor sy_ioc.desc).map (fun d => d.parameters.length) = some 4 := by decide +kernel
theorem py_lix : (parseMethodDescriptor sy_lix.desc).map (fun d => d.parameters.length) = some 4 := by decide +kernel
theorem sw (k i : Nat) {w : Cond} (h : (a_part k)[i]? = some w) (hg : goodWord w = true) : w ∈ a_tb := a_in h hg
theorem sw_ini : Cond.initialized "java/lang/String" ∈ a_tb := a_in (k := 1) (i := 16) rfl rfl
theorem sw_iniL : Cond.initialized "java/lang/StringLatin1" ∈ a_tb := a_in (k := 1) (i := 17) rfl rfl
theorem js_ix1_0 : decode prog_25_method_79_code 0 = .ok (.aload_n 0, 1) := by decide +kernel
theorem js_ix1_1 : decode prog_25_method_79_code 1 = .ok (.iload_n 1, 1) := by decide +kernel
theorem js_ix1_2 : decode prog_25_method_79_code 2 = .ok (.iconst (0), 1) := by decide +kernel
theorem js_ix1_3 : decode prog_25_method_79_code 3 = .ok (.invokevirtual 633, 3) := by decide +kernel
theorem js_ix1_6 : decode prog_25_method_79_code 6 = .ok (.ireturn, 1) := by decide +kernel
theorem js_ix2_0 : decode prog_25_method_80_code 0 = .ok (.aload_n 0, 1) := by decide +kernel
theorem js_ix2_1 : decode prog_25_method_80_code 1 = .ok (.invokevirtual 492, 3) := by decide +kernel
theorem js_ix2_4 : decode prog_25_method_80_code 4 = .ok (.ifCond .eq (19), 3) := by decide +kernel
theorem js_ix2_7 : decode prog_25_method_80_code 7 = .ok (.aload_n 0, 1) := by decide +kernel
theorem js_ix2_8 : decode prog_25_method_80_code 8 = .ok (.getfield 9, 3) := by decide +kernel
theorem js_ix2_11 : decode prog_25_method_80_code 11 = .ok (.iload_n 1, 1) := by decide +kernel
theorem js_ix2_12 : decode prog_25_method_80_code 12 = .ok (.iload_n 2, 1) := by decide +kernel
theorem js_ix2_13 : decode prog_25_method_80_code 13 = .ok (.aload_n 0, 1) := by decide +kernel
theorem js_ix2_14 : decode prog_25_method_80_code 14 = .ok (.invokevirtual 505, 3) := by decide +kernel
theorem js_ix2_17 : decode prog_25_method_80_code 17 = .ok (.invokestatic 637, 3) := by decide +kernel
theorem js_ix2_20 : decode prog_25_method_80_code 20 = .ok (.goto (16), 3) := by decide +kernel
theorem js_ix2_23 : decode prog_25_method_80_code 23 = .ok (.aload_n 0, 1) := by decide +kernel
theorem js_ix2_24 : decode prog_25_method_80_code 24 = .ok (.getfield 9, 3) := by decide +kernel
theorem js_ix2_27 : decode prog_25_method_80_code 27 = .ok (.iload_n 1, 1) := by decide +kernel
theorem js_ix2_28 : decode prog_25_method_80_code 28 = .ok (.iload_n 2, 1) := by decide +kernel
theorem js_ix2_29 : decode prog_25_method_80_code 29 = .ok (.aload_n 0, 1) := by decide +kernel
theorem js_ix2_30 : decode prog_25_method_80_code 30 = .ok (.invokevirtual 505, 3) := by decide +kernel
theorem js_ix2_33 : decode prog_25_method_80_code 33 = .ok (.invokestatic 640, 3) := by decide +kernel
theorem js_ix2_36 : decode prog_25_method_80_code 36 = .ok (.ireturn, 1) := by decide +kernel
theorem js_lat_0 : decode prog_25_method_154_code 0 = .ok (.getstatic 38, 3) := by decide +kernel
theorem js_lat_3 : decode prog_25_method_154_code 3 = .ok (.ifCond .eq (14), 3) := by decide +kernel
theorem js_lat_6 : decode prog_25_method_154_code 6 = .ok (.aload_n 0, 1) := by decide +kernel
theorem js_lat_7 : decode prog_25_method_154_code 7 = .ok (.getfield 15, 3) := by decide +kernel
theorem js_lat_10 : decode prog_25_method_154_code 10 = .ok (.ifCond .ne (7), 3) := by decide +kernel
theorem js_lat_13 : decode prog_25_method_154_code 13 = .ok (.iconst (1), 1) := by decide +kernel
theorem js_lat_14 : decode prog_25_method_154_code 14 = .ok (.goto (4), 3) := by decide +kernel
theorem js_lat_17 : decode prog_25_method_154_code 17 = .ok (.iconst (0), 1) := by decide +kernel
theorem js_lat_18 : decode prog_25_method_154_code 18 = .ok (.ireturn, 1) := by decide +kernel
theorem js_len_0 : decode prog_25_method_54_code 0 = .ok (.aload_n 0, 1) := by decide +kernel
theorem js_len_1 : decode prog_25_method_54_code 1 = .ok (.getfield 9, 3) := by decide +kernel
theorem js_len_4 : decode prog_25_method_54_code 4 = .ok (.arraylength, 1) := by decide +kernel
theorem js_len_5 : decode prog_25_method_54_code 5 = .ok (.aload_n 0, 1) := by decide +kernel
theorem js_len_6 : decode prog_25_method_54_code 6 = .ok (.invokevirtual 335, 3) := by decide +kernel
theorem js_len_9 : decode prog_25_method_54_code 9 = .ok (.ishr, 1) := by decide +kernel
theorem js_len_10 : decode prog_25_method_54_code 10 = .ok (.ireturn, 1) := by decide +kernel
theorem js_cod_0 : decode prog_25_method_152_code 0 = .ok (.getstatic 38, 3) := by decide +kernel
theorem js_cod_3 : decode prog_25_method_152_code 3 = .ok (.ifCond .eq (10), 3) := by decide +kernel
theorem js_cod_6 : decode prog_25_method_152_code 6 = .ok (.aload_n 0, 1) := by decide +kernel
theorem js_cod_7 : decode prog_25_method_152_code 7 = .ok (.getfield 15, 3) := by decide +kernel
theorem js_cod_10 : decode prog_25_method_152_code 10 = .ok (.goto (4), 3) := by decide +kernel
theorem js_cod_13 : decode prog_25_method_152_code 13 = .ok (.iconst (1), 1) := by decide +kernel
theorem js_cod_14 : decode prog_25_method_152_code 14 = .ok (.ireturn, 1) := by decide +kernel
theorem js_lix_0 : decode prog_26_method_22_code 0 = .ok (.iload_n 1, 1) := by decide +kernel
theorem js_lix_1 : decode prog_26_method_22_code 1 = .ok (.invokestatic 88, 3) := by decide +kernel
theorem js_lix_4 : decode prog_26_method_22_code 4 = .ok (.ifCond .ne (5), 3) := by decide +kernel
theorem js_lix_7 : decode prog_26_method_22_code 7 = .ok (.iconst (-1), 1) := by decide +kernel
theorem js_lix_8 : decode prog_26_method_22_code 8 = .ok (.ireturn, 1) := by decide +kernel
theorem js_lix_9 : decode prog_26_method_22_code 9 = .ok (.iload_n 2, 1) := by decide +kernel
theorem js_lix_10 : decode prog_26_method_22_code 10 = .ok (.iconst (0), 1) := by decide +kernel
theorem js_lix_11 : decode prog_26_method_22_code 11 = .ok (.invokestatic 92, 3) := by decide +kernel
theorem js_lix_14 : decode prog_26_method_22_code 14 = .ok (.istore_n 2, 1) := by decide +kernel
theorem js_lix_15 : decode prog_26_method_22_code 15 = .ok (.iload_n 3, 1) := by decide +kernel
theorem js_lix_16 : decode prog_26_method_22_code 16 = .ok (.aload_n 0, 1) := by decide +kernel
theorem js_lix_17 : decode prog_26_method_22_code 17 = .ok (.arraylength, 1) := by decide +kernel
theorem js_lix_18 : decode prog_26_method_22_code 18 = .ok (.invokestatic 38, 3) := by decide +kernel
theorem js_lix_21 : decode prog_26_method_22_code 21 = .ok (.istore_n 3, 1) := by decide +kernel
theorem js_lix_22 : decode prog_26_method_22_code 22 = .ok (.iload_n 2, 1) := by decide +kernel
theorem js_lix_23 : decode prog_26_method_22_code 23 = .ok (.iload_n 3, 1) := by decide +kernel
theorem js_lix_24 : decode prog_26_method_22_code 24 = .ok (.if_icmp .lt (5), 3) := by decide +kernel
theorem js_lix_27 : decode prog_26_method_22_code 27 = .ok (.iconst (-1), 1) := by decide +kernel
theorem js_lix_28 : decode prog_26_method_22_code 28 = .ok (.ireturn, 1) := by decide +kernel
theorem js_lix_29 : decode prog_26_method_22_code 29 = .ok (.aload_n 0, 1) := by decide +kernel
theorem js_lix_30 : decode prog_26_method_22_code 30 = .ok (.iload_n 1, 1) := by decide +kernel
theorem js_lix_31 : decode prog_26_method_22_code 31 = .ok (.iload_n 2, 1) := by decide +kernel
theorem js_lix_32 : decode prog_26_method_22_code 32 = .ok (.iload_n 3, 1) := by decide +kernel
theorem js_lix_33 : decode prog_26_method_22_code 33 = .ok (.invokestatic 95, 3) := by decide +kernel
theorem js_lix_36 : decode prog_26_method_22_code 36 = .ok (.ireturn, 1) := by decide +kernel
theorem js_can_0 : decode prog_26_method_4_code 0 = .ok (.iload_n 0, 1) := by decide +kernel
theorem js_can_1 : decode prog_26_method_4_code 1 = .ok (.ifCond .lt (14), 3) := by decide +kernel
theorem js_can_4 : decode prog_26_method_4_code 4 = .ok (.iload_n 0, 1) := by decide +kernel
theorem js_can_5 : decode prog_26_method_4_code 5 = .ok (.sipush (255), 3) := by decide +kernel
theorem js_can_8 : decode prog_26_method_4_code 8 = .ok (.if_icmp .gt (7), 3) := by decide +kernel
theorem js_can_11 : decode prog_26_method_4_code 11 = .ok (.iconst (1), 1) := by decide +kernel
theorem js_can_12 : decode prog_26_method_4_code 12 = .ok (.goto (4), 3) := by decide +kernel
theorem js_can_15 : decode prog_26_method_4_code 15 = .ok (.iconst (0), 1) := by decide +kernel
theorem js_can_16 : decode prog_26_method_4_code 16 = .ok (.ireturn, 1) := by decide +kernel
theorem js_ioc_0 : decode prog_26_method_23_code 0 = .ok (.iload_n 1, 1) := by decide +kernel
theorem js_ioc_1 : decode prog_26_method_23_code 1 = .ok (.i2b, 1) := by decide +kernel
theorem js_ioc_2 : decode prog_26_method_23_code 2 = .ok (.istore 4, 2) := by decide +kernel
theorem js_ioc_4 : decode prog_26_method_23_code 4 = .ok (.iload_n 2, 1) := by decide +kernel
theorem js_ioc_5 : decode prog_26_method_23_code 5 = .ok (.istore 5, 2) := by decide +kernel
theorem js_ioc_7 : decode prog_26_method_23_code 7 = .ok (.iload 5, 2) := by decide +kernel
theorem js_ioc_9 : decode prog_26_method_23_code 9 = .ok (.iload_n 3, 1) := by decide +kernel
theorem js_ioc_10 : decode prog_26_method_23_code 10 = .ok (.if_icmp .ge (21), 3) := by decide +kernel
theorem js_ioc_13 : decode prog_26_method_23_code 13 = .ok (.aload_n 0, 1) := by decide +kernel
theorem js_ioc_14 : decode prog_26_method_23_code 14 = .ok (.iload 5, 2) := by decide +kernel
theorem js_ioc_16 : decode prog_26_method_23_code 16 = .ok (.baload, 1) := by decide +kernel
theorem js_ioc_17 : decode prog_26_method_23_code 17 = .ok (.iload 4, 2) := by decide +kernel
theorem js_ioc_19 : decode prog_26_method_23_code 19 = .ok (.if_icmp .ne (6), 3) := by decide +kernel
theorem js_ioc_22 : decode prog_26_method_23_code 22 = .ok (.iload 5, 2) := by decide +kernel
theorem js_ioc_24 : decode prog_26_method_23_code 24 = .ok (.ireturn, 1) := by decide +kernel
theorem js_ioc_25 : decode prog_26_method_23_code 25 = .ok (.iinc 5 (1), 3) := by decide +kernel
theorem js_ioc_28 : decode prog_26_method_23_code 28 = .ok (.goto (-21), 3) := by decide +kernel
theorem js_ioc_31 : decode prog_26_method_23_code 31 = .ok (.iconst (-1), 1) := by decide +kernel
theorem js_ioc_32 : decode prog_26_method_23_code 32 = .ok (.ireturn, 1) := by decide +kernel
section SS
variable {p : Program} {l : Launch} {e : Env} {R : Room} {s : State} {m : MethodId} {args : Array Value} {below : List Frame} {meth : Method} {c : Code} {QQ : State → Prop} {dC : Nat → ClassId} {dI : Nat → Nat → Nat} {aC : Nat → ClassId} {A : Nat → Prop} {n0 : Nat} {ad0 xa : Nat → Nat} {nL : Nat} {cc : ByteArray} {own : String} {X : Nat → Option (List Int32)} {Y : (Nat → Prop) → State → Heap → Prop}
variable {σ : m_H} {ce sl pc mc ms : Nat} {ls : List (Nat × Value)} {st : List Value}
theorem mV_sgs (hC : m_Ctx p s m args meth c cc nL own dC dI aC A xa X Y) {idx : Nat} (hZ : va_Z "java/lang/String" "COMPACT_STRINGS" "Z" (.int 1) A s s.heap) (hd : decode cc pc = .ok (.getstatic idx, 3)) (hw : Cond.fieldLink own idx "java/lang/String" "COMPACT_STRINGS" "Z" ∈ a_tb) (k : mV p l e R s m args below meth c QQ dC dI aC A n0 ad0 xa nL (σ, ce, sl, pc + 3, ls, .int 1 :: st)) : mV p l e R s m args below meth c QQ dC dI aC A n0 ad0 xa nL (σ, ce, sl, pc, ls, st) := by
  intro ad H locs lsC h1 h2 h3 h4 h5 h6
  exact va_gets hC.1 hC.2.1 hZ h5 hC.2.2.2.1 (m_ctb hC hw) (fun _ z => z) hd (k ad H locs lsC h1 h2 h3 h4 h5 h6)
theorem mV_sgf (hC : m_Ctx p s m args meth c cc nL own dC dI aC A xa X Y) {idx : Nat} {n ds : String} {v v' : Value} (hE : va_OF "java/lang/String" n ds v' (xa 2) A s s.heap) (hv : ∀ ad : Nat → Nat, (∀ k, ad (m_X0 + k) = xa k) → m_re ad v = v') (hd : decode cc pc = .ok (.getfield idx, 3)) (hw : Cond.fieldLink own idx "java/lang/String" n ds ∈ a_tb) (k : mV p l e R s m args below meth c QQ dC dI aC A n0 ad0 xa nL (σ, ce, sl, pc + 3, ls, v :: st)) : mV p l e R s m args below meth c QQ dC dI aC A n0 ad0 xa nL (σ, ce, sl, pc, ls, .ref (m_X0 + 2) :: st) := by
  intro ad H locs lsC h1 h2 h3 h4 h5 h6
  rw [← h2 2, ← hv ad h2] at hE
  exact vk_getf hC.1 hC.2.1 hE h5 hC.2.2.2.1 (m_ctb hC hw) (fun _ z => z) hd (k ad H locs lsC h1 h2 h3 h4 h5 h6)
theorem mV_slen (hC : m_Ctx p s m args meth c cc nL own dC dI aC A xa X Y) {N : Nat} {f : Nat → Value} {x : Int32} (hT : va_T .byte (xa 4) N f A s s.heap) (hx : Int32.ofNat N = x) (hd : decode cc pc = .ok (.arraylength, 1)) (k : mV p l e R s m args below meth c QQ dC dI aC A n0 ad0 xa nL (σ, ce, sl, pc + 1, ls, .int x :: st)) : mV p l e R s m args below meth c QQ dC dI aC A n0 ad0 xa nL (σ, ce, sl, pc, ls, .ref (m_X0 + 4) :: st) := by
  intro ad H locs lsC h1 h2 h3 h4 h5 h6
  rw [← h2 4] at hT
  exact va_tlen hC.1 hC.2.1 hT h5 hx hd (k ad H locs lsC h1 h2 h3 h4 h5 h6)
theorem mV_sbl (hC : m_Ctx p s m args meth c cc nL own dC dI aC A xa X Y) {N : Nat} {f : Nat → Int32} {i : Int32} (hT : va_T .byte (xa 4) N (fun j => .int (f j)) A s s.heap) (hi : vp_in i N) (hd : decode cc pc = .ok (.baload, 1)) (k : mV p l e R s m args below meth c QQ dC dI aC A n0 ad0 xa nL (σ, ce, sl, pc + 1, ls, .int (f i.toNatClampNeg) :: st)) : mV p l e R s m args below meth c QQ dC dI aC A n0 ad0 xa nL (σ, ce, sl, pc, ls, .int i :: .ref (m_X0 + 4) :: st) := by
  intro ad H locs lsC h1 h2 h3 h4 h5 h6
  rw [← h2 4] at hT
  exact va_tb hC.1 hC.2.1 hT h5 hi rfl hd (k ad H locs lsC h1 h2 h3 h4 h5 h6)
theorem mV_sV0 (hY : m_Yok Y) (hC : m_Ctx p s m args meth c cc nL own dC dI aC A xa X Y) {idx d n : Nat} {y : MethodName} {b : ByteArray} {rt : Option FieldType} {Q : Option Value → m_H → Prop} (hyc : y.cls = "java/lang/String") (hE : va_O "java/lang/String" (xa 2) A s s.heap) (hd : decode cc pc = .ok (.invokevirtual idx, 3)) (hM : v_K l X Y xa d y b n rt σ [.ref (m_X0 + 2)] Q 0 0) (w1 : Cond.methodLink own idx y ∈ a_tb) (w2 : Cond.instanceMethod y ∈ a_tb) (w3 : Cond.selects "java/lang/String" y y ∈ a_tb) (w4 : Cond.code y b n rt ∈ a_tb) (hlen : (parseMethodDescriptor y.desc).map (fun d => d.parameters.length) = some 0) (h20 : n ≤ 20)
    (hR : d + 1 ≤ R.frames ∧ 40 * d + 40 ≤ R.locals) (hce : ce ≤ R.cells) (hsl : sl ≤ R.slots) (h8 : (st.map fun v => v.category).sum ≤ 8) (hn0 : n0 ≤ σ.length) (ho : ∀ v ∈ st, m_vOk σ.length v) (hol : ∀ q ∈ ls, m_vOk σ.length q.2)
    (kk : ∀ (r : Option Value) (σ' : m_H), Q r σ' → mV p l e R s m args below meth c QQ dC dI aC A n0 ad0 xa nL (σ', ce, sl, pc + 3, ls, r.toList ++ st)) : mV p l e R s m args below meth c QQ dC dI aC A n0 ad0 xa nL (σ, ce, sl, pc, ls, .ref (m_X0 + 2) :: st) := by
  intro ad H locs lsC h1 h2 h3 h4 h5 h6
  have hG : GoodIn a_tb (wsV own idx "java/lang/String" y (m_ws y b n rt)) := a_good fun w hw => by
    rcases List.mem_append.mp hw with h | h
    · simp only [List.mem_cons, List.not_mem_nil, or_false] at h
      rcases h with rfl | rfl | rfl | rfl
      · exact w1
      · exact w2
      · exact w3
      · exact sw_ini
    · exact m_wsIn w4 w h
  have hrc : ∃ cell : Cell, H[ad (m_X0 + 2)]? = some cell ∧ cell.vm.isStatics = false ∧ s.vm.findClass "java/lang/String" = some cell.cls := by
    obtain ⟨cell, g1, g2, g3, -⟩ := hE.kept h5.2.1
    rw [h2]
    exact ⟨cell, g1, g2, g3⟩
  refine m_goOn (mc := 0) (ms := 0) (st := st) hC (ad := ad) (σ := σ) (H := H) (locs := locs) (va_runV (As := []) (rest := st.map (m_re ad)) (g := F0 m pc lsC ((Value.ref (m_X0 + 2) :: st).map (m_re ad))) hC.fix (hM dC dI aC ad H.size h2)
    (cwV 0 hC.2.2.2.2.1 hG rfl rfl rfl ⟨hyc, by rw [hyc]; decide, by rw [hyc]; decide, hlen⟩ (m_room hR h20)) ⟨m_blind hY, hrc, m_pre (as := [.ref (m_X0 + 2)]) hY hC h3 h4 h5⟩ rfl rfl h6.1 rfl (m_cats8 h8 _) hd ⟨hce, hsl⟩) h1 h2 hn0 h4 h5 h6 ho hol kk
theorem mV_sV2 (hY : m_Yok Y) (hC : m_Ctx p s m args meth c cc nL own dC dI aC A xa X Y) {idx d n : Nat} {x x2 : Int32} {y : MethodName} {b : ByteArray} {rt : Option FieldType} {Q : Option Value → m_H → Prop} (hyc : y.cls = "java/lang/String") (hE : va_O "java/lang/String" (xa 2) A s s.heap) (hd : decode cc pc = .ok (.invokevirtual idx, 3)) (hM : v_K l X Y xa d y b n rt σ [.ref (m_X0 + 2), .int x, .int x2] Q 0 0) (w1 : Cond.methodLink own idx y ∈ a_tb) (w2 : Cond.instanceMethod y ∈ a_tb) (w3 : Cond.selects "java/lang/String" y y ∈ a_tb) (w4 : Cond.code y b n rt ∈ a_tb) (hlen : (parseMethodDescriptor y.desc).map (fun d => d.parameters.length) = some 2) (h20 : n ≤ 20)
    (hR : d + 1 ≤ R.frames ∧ 40 * d + 40 ≤ R.locals) (hce : ce ≤ R.cells) (hsl : sl ≤ R.slots) (h8 : (st.map fun v => v.category).sum ≤ 8) (hn0 : n0 ≤ σ.length) (ho : ∀ v ∈ st, m_vOk σ.length v) (hol : ∀ q ∈ ls, m_vOk σ.length q.2)
    (kk : ∀ (r : Option Value) (σ' : m_H), Q r σ' → mV p l e R s m args below meth c QQ dC dI aC A n0 ad0 xa nL (σ', ce, sl, pc + 3, ls, r.toList ++ st)) : mV p l e R s m args below meth c QQ dC dI aC A n0 ad0 xa nL (σ, ce, sl, pc, ls, .int x2 :: .int x :: .ref (m_X0 + 2) :: st) := by
  intro ad H locs lsC h1 h2 h3 h4 h5 h6
  have hG : GoodIn a_tb (wsV own idx "java/lang/String" y (m_ws y b n rt)) := a_good fun w hw => by
    rcases List.mem_append.mp hw with h | h
    · simp only [List.mem_cons, List.not_mem_nil, or_false] at h
      rcases h with rfl | rfl | rfl | rfl
      · exact w1
      · exact w2
      · exact w3
      · exact sw_ini
    · exact m_wsIn w4 w h
  have hrc : ∃ cell : Cell, H[ad (m_X0 + 2)]? = some cell ∧ cell.vm.isStatics = false ∧ s.vm.findClass "java/lang/String" = some cell.cls := by
    obtain ⟨cell, g1, g2, g3, -⟩ := hE.kept h5.2.1
    rw [h2]
    exact ⟨cell, g1, g2, g3⟩
  refine m_goOn (mc := 0) (ms := 0) (st := st) hC (ad := ad) (σ := σ) (H := H) (locs := locs) (va_runV (As := [Value.int x, .int x2]) (rest := st.map (m_re ad)) (g := F0 m pc lsC ((Value.int x2 :: .int x :: .ref (m_X0 + 2) :: st).map (m_re ad))) hC.fix (hM dC dI aC ad H.size h2)
    (cwV 2 hC.2.2.2.2.1 hG rfl rfl rfl ⟨hyc, by rw [hyc]; decide, by rw [hyc]; decide, hlen⟩ (m_room hR h20)) ⟨m_blind hY, hrc, m_pre (as := [.ref (m_X0 + 2), .int x, .int x2]) hY hC h3 h4 h5⟩ rfl rfl h6.1 rfl (m_cats8 h8 _) hd ⟨hce, hsl⟩) h1 h2 hn0 h4 h5 h6 ho hol kk
end SS
section SK
variable {l : Launch} {X : Nat → Option (List Int32)} {Y : (Nat → Prop) → State → Heap → Prop} {xa : Nat → Nat}
theorem vx2 (n : Nat) : m_vOk n (.ref (m_X0 + 2)) := Or.inr (Nat.le_add_right _ _)
theorem vx4 (n : Nat) : m_vOk n (.ref (m_X0 + 4)) := Or.inr (Nat.le_add_right _ _)
theorem k_lat (hYS : ∀ A U H, Y A U H → y_str xa A U H) {d : Nat} {σ : m_H} : v_K l X Y xa d sy_lat prog_25_method_154_code 1 (some .boolean) σ [.ref (m_X0 + 2)] (fun r σ' => r = some (.int 1) ∧ σ' = σ) 0 0 := by
  refine v_K_of (by decide +kernel) (Nat.le_of_ble_eq_true rfl) (fun p e s m args below meth c dC dI aC ad sz hC hn hrt => ?_)
  have hS := hYS _ _ _ hC.2.2.2.2.2.2.2.1.2.2.2.2
  refine mV_sgs hC hS.2.2.2.2.2 js_lat_0 (a_in (k := 3) (i := 220) rfl rfl) ?_
  refine mV_if_eq hC js_lat_3 (tgt := 17) rfl (fun h => absurd h (by decide)) (fun _ => ?_)
  refine mV_aload_n hC js_lat_6 rfl ?_
  refine mV_sgf hC hS.2.2.1 (v := .int 0) (fun _ _ => rfl) js_lat_7 (a_in (k := 9) (i := 18) rfl rfl) ?_
  refine mV_if_ne hC js_lat_10 (tgt := 17) rfl (fun h => absurd rfl h) (fun _ => ?_)
  refine mV_iconst hC js_lat_13 ?_
  refine mV_goto hC js_lat_14 (tgt := 18) rfl ?_
  exact mV_iret hC js_lat_18 hrt rfl ⟨rfl, rfl⟩ (Nat.le_refl _) (Nat.le_refl _)
theorem k_cod (hYS : ∀ A U H, Y A U H → y_str xa A U H) {d : Nat} {σ : m_H} : v_K l X Y xa d sy_cod prog_25_method_152_code 1 (some .byte) σ [.ref (m_X0 + 2)] (fun r σ' => r = some (.int 0) ∧ σ' = σ) 0 0 := by
  refine v_K_of (by decide +kernel) (Nat.le_of_ble_eq_true rfl) (fun p e s m args below meth c dC dI aC ad sz hC hn hrt => ?_)
  have hS := hYS _ _ _ hC.2.2.2.2.2.2.2.1.2.2.2.2
  refine mV_sgs hC hS.2.2.2.2.2 js_cod_0 (a_in (k := 3) (i := 220) rfl rfl) ?_
  refine mV_if_eq hC js_cod_3 (tgt := 13) rfl (fun h => absurd h (by decide)) (fun _ => ?_)
  refine mV_aload_n hC js_cod_6 rfl ?_
  refine mV_sgf hC hS.2.2.1 (v := .int 0) (fun _ _ => rfl) js_cod_7 (a_in (k := 9) (i := 18) rfl rfl) ?_
  refine mV_goto hC js_cod_10 (tgt := 14) rfl ?_
  exact mV_iret hC js_cod_14 hrt rfl ⟨rfl, rfl⟩ (Nat.le_refl _) (Nat.le_refl _)
theorem k_len (hY : m_Yok Y) (hYS : ∀ A U H, Y A U H → y_str xa A U H) {d : Nat} {σ : m_H} : v_K l X Y xa (d + 1) sy_len prog_25_method_54_code 1 (some .int) σ [.ref (m_X0 + 2)] (fun r σ' => r = some (.int 7) ∧ σ' = σ) 0 0 := by
  refine v_K_of (by decide +kernel) (Nat.le_of_ble_eq_true rfl) (fun p e s m args below meth c dC dI aC ad sz hC hn hrt => ?_)
  have hS := hYS _ _ _ hC.2.2.2.2.2.2.2.1.2.2.2.2
  refine mV_aload_n hC js_len_0 rfl ?_
  refine mV_sgf hC hS.2.2.2.1 (v := .ref (m_X0 + 4)) (fun ad h => congrArg Value.ref (h 4)) js_len_1 (a_in (k := 9) (i := 19) rfl rfl) ?_
  refine mV_slen hC hS.2.2.2.2.1 (x := 7) rfl js_len_4 ?_
  refine mV_aload_n hC js_len_5 rfl ?_
  refine mV_sV0 hY hC (y := sy_cod) rfl hS.2.1 js_len_6 (k_cod hYS (d := d)) (a_in (k := 3) (i := 226) rfl rfl) (a_in (k := 3) (i := 227) rfl rfl) (a_in (k := 3) (i := 228) rfl rfl) (a_in (k := 3) (i := 229) rfl rfl) (by decide) (by decide) m_rm_ok (Nat.zero_le _) (Nat.zero_le _) (Nat.le_of_ble_eq_true rfl) (Nat.le_refl _) (fun v hv => by obtain rfl := List.mem_singleton.mp hv; trivial) (fun u hu => by obtain rfl := List.mem_singleton.mp hu; exact vx2 _) (fun r σ' hQ => ?_)
  obtain ⟨rfl, rfl⟩ := hQ
  refine mV_ishr hC js_len_9 ?_
  exact mV_iret hC js_len_10 hrt rfl ⟨rfl, rfl⟩ (Nat.le_refl _) (Nat.le_refl _)
theorem k_can {d : Nat} {σ : m_H} {x : Int32} : v_K l X Y xa d sy_can prog_26_method_4_code 1 (some .boolean) σ [.int x] (fun r σ' => r = some (.int (if 0 ≤ x ∧ x ≤ 255 then 1 else 0)) ∧ σ' = σ) 0 0 := by
  refine v_K_of (by decide +kernel) (Nat.le_of_ble_eq_true rfl) (fun p e s m args below meth c dC dI aC ad sz hC hn hrt => ?_)
  refine mV_iload_n hC js_can_0 rfl ?_
  refine mV_if_lt hC js_can_1 (tgt := 15) rfl (fun h => ?_) (fun h => ?_)
  · refine mV_iconst hC js_can_15 ?_
    refine mV_iret hC js_can_16 hrt rfl ⟨?_, rfl⟩ (Nat.le_refl _) (Nat.le_refl _)
    rw [if_neg (fun z => absurd h (Int32.not_lt.mpr z.1))]; rfl
  · refine mV_iload_n hC js_can_4 rfl ?_
    refine mV_sipush hC js_can_5 ?_
    refine mV_icmp_gt hC js_can_8 (tgt := 15) rfl (fun h2 => ?_) (fun h2 => ?_)
    · refine mV_iconst hC js_can_15 ?_
      refine mV_iret hC js_can_16 hrt rfl ⟨?_, rfl⟩ (Nat.le_refl _) (Nat.le_refl _)
      rw [if_neg (fun z => absurd h2 (Int32.not_lt.mpr z.2))]; rfl
    · refine mV_iconst hC js_can_11 ?_
      refine mV_goto hC js_can_12 (tgt := 16) rfl ?_
      refine mV_iret hC js_can_16 hrt rfl ⟨?_, rfl⟩ (Nat.le_refl _) (Nat.le_refl _)
      rw [if_pos ⟨Int32.not_lt.mp h, Int32.not_lt.mp h2⟩]; rfl
/-- where a letter stands first, from i on (7: nowhere) -/
def ix_f (x : Int32) : Nat → Nat → Int32
  | 0, _ => -1
  | n + 1, i => if ix_b.getD i 0 = x then Int32.ofNat i else ix_f x n (i + 1)
def ix_at (x : Int32) : Int32 := if 0 ≤ x ∧ x ≤ 255 then ix_f x.toInt8.toInt32 7 0 else -1
theorem i7_a : ∀ i, i < 7 → ¬ ((7 : Int32) ≤ Int32.ofNat i) := by decide
theorem i7_b : ∀ i, i < 7 → (Int32.ofNat i).toNatClampNeg = i := by decide
theorem i7_e : ∀ i, i < 7 → -1 ≤ (Int32.ofNat i).toInt ∧ (Int32.ofNat i).toInt ≤ 6 := by decide
theorem i7_c (i : Nat) (h : i < 7) : vp_in (Int32.ofNat i) 7 := by
  have h1 : ∀ i, i < 7 → 0 ≤ (Int32.ofNat i).toInt ∧ (Int32.ofNat i).toInt < 7 := by decide
  exact vp_in_iff.mpr ⟨(h1 i h).1, (h1 i h).2⟩
theorem i7_d : ∀ i, i < 7 → Int32.ofNat i + Int32.ofInt 1 = Int32.ofNat (i + 1) := by decide
theorem k_ioc (hYS : ∀ A U H, Y A U H → y_str xa A U H) {d : Nat} {σ : m_H} {x : Int32} : v_K l X Y xa d sy_ioc prog_26_method_23_code 6 (some .int) σ [.ref (m_X0 + 4), .int x, .int 0, .int 7] (fun r σ' => r = some (.int (ix_f x.toInt8.toInt32 7 0)) ∧ σ' = σ) 0 0 := by
  refine v_K_of (by decide +kernel) (Nat.le_of_ble_eq_true rfl) (fun p e s m args below meth c dC dI aC ad sz hC hn hrt => ?_)
  have hS := hYS _ _ _ hC.2.2.2.2.2.2.2.1.2.2.2.2
  refine mV_iload_n hC js_ioc_0 rfl ?_
  refine mV_i2b hC js_ioc_1 ?_
  refine mV_istore hC js_ioc_2 (by decide) ?_
  refine mV_iload_n hC js_ioc_4 rfl ?_
  refine mV_istore hC js_ioc_5 (by decide) ?_
  have loop : ∀ (n i : Nat), n + i = 7 → ix_f x.toInt8.toInt32 7 0 = ix_f x.toInt8.toInt32 n i → mV p l e (m_rm d 0 0) s m args below meth c (MQ below (m_Qc dC dI aC xa ad sz σ (fun r σ' => r = some (.int (ix_f x.toInt8.toInt32 7 0)) ∧ σ' = σ)) args s 0 0 (va_A (m_W ad aC σ) sz)) dC dI aC (va_A (m_W ad aC σ) sz) σ.length ad xa 6 (σ, 0, 0, 7, [(5, .int (Int32.ofNat i)), (4, .int x.toInt8.toInt32), (0, .ref (m_X0 + 4)), (1, .int x), (2, .int 0), (3, .int 7)], []) := by
    intro n
    induction n with
    | zero =>
      intro i hi he
      obtain rfl : i = 7 := by omega
      refine mV_iload hC js_ioc_7 rfl ?_
      refine mV_iload_n hC js_ioc_9 rfl ?_
      refine mV_icmp_ge hC js_ioc_10 (tgt := 31) rfl (fun h => ?_) (fun h => absurd (by decide) h)
      refine mV_iconst hC js_ioc_31 ?_
      exact mV_iret hC js_ioc_32 hrt rfl ⟨by rw [he]; rfl, rfl⟩ (Nat.le_refl _) (Nat.le_refl _)
    | succ n ih =>
      intro i hi he
      have hi7 : i < 7 := by omega
      refine mV_iload hC js_ioc_7 rfl ?_
      refine mV_iload_n hC js_ioc_9 rfl ?_
      refine mV_icmp_ge hC js_ioc_10 (tgt := 31) rfl (fun h => absurd h (i7_a i hi7)) (fun h => ?_)
      refine mV_aload_n hC js_ioc_13 rfl ?_
      refine mV_iload hC js_ioc_14 rfl ?_
      refine mV_sbl hC hS.2.2.2.2.1 (i7_c i hi7) js_ioc_16 ?_
      rw [i7_b i hi7]
      refine mV_iload hC js_ioc_17 rfl ?_
      refine mV_icmp_ne hC js_ioc_19 (tgt := 25) rfl (fun h => ?_) (fun h => ?_)
      · refine mV_iinc hC js_ioc_25 rfl (by decide) ?_
        refine mV_goto hC js_ioc_28 (tgt := 7) rfl ?_
        rw [i7_d i hi7]
        refine ih (i + 1) (by omega) ?_
        rw [he]
        show (if ix_b.getD i 0 = x.toInt8.toInt32 then Int32.ofNat i else ix_f x.toInt8.toInt32 n (i + 1)) = _
        rw [if_neg h]
      · refine mV_iload hC js_ioc_22 rfl ?_
        refine mV_iret hC js_ioc_24 hrt rfl ⟨?_, rfl⟩ (Nat.le_refl _) (Nat.le_refl _)
        rw [he]
        show _ = some (Value.int (if ix_b.getD i 0 = x.toInt8.toInt32 then Int32.ofNat i else ix_f x.toInt8.toInt32 n (i + 1)))
        rw [if_pos h]
  exact loop 7 0 rfl rfl
theorem k_lix (hY : m_Yok Y) (hYS : ∀ A U H, Y A U H → y_str xa A U H) {d : Nat} {σ : m_H} {x : Int32} : v_K l X Y xa (d + 1) sy_lix prog_26_method_22_code 4 (some .int) σ [.ref (m_X0 + 4), .int x, .int 0, .int 7] (fun r σ' => r = some (.int (ix_at x)) ∧ σ' = σ) 0 0 := by
  refine v_K_of (by decide +kernel) (Nat.le_of_ble_eq_true rfl) (fun p e s m args below meth c dC dI aC ad sz hC hn hrt => ?_)
  have hS := hYS _ _ _ hC.2.2.2.2.2.2.2.1.2.2.2.2
  have hls : ∀ (a b : Int32), ∀ u ∈ ([(0, .ref (m_X0 + 4)), (1, .int x), (2, .int a), (3, .int b)] : List (Nat × Value)), m_vOk σ.length u.2 := fun a b u hu => by
    simp only [List.mem_cons, List.not_mem_nil, or_false] at hu
    rcases hu with rfl | rfl | rfl | rfl
    · exact vx4 _
    · trivial
    · trivial
    · trivial
  refine mV_iload_n hC js_lix_0 rfl ?_
  refine mV_callS hY hC (as := [.int x]) (st := []) js_lix_1 (k_can (d := d)) (a_in (k := 3) (i := 233) rfl rfl) (a_in (k := 3) (i := 234) rfl rfl) sw_iniL (a_in (k := 3) (i := 235) rfl rfl) (by decide) py_can m_rm_ok (by decide) (Nat.zero_le _) (Nat.zero_le _) (Nat.zero_le _) (Nat.le_refl _) (fun v hv => by cases hv) (hls 0 7) (fun r σ' hQ => ?_)
  obtain ⟨rfl, rfl⟩ := hQ
  refine mV_if_ne hC js_lix_4 (tgt := 9) rfl (fun h => ?_) (fun h => ?_)
  · have hx : 0 ≤ x ∧ x ≤ 255 := by
      by_cases z : 0 ≤ x ∧ x ≤ 255
      · exact z
      · rw [if_neg z] at h; exact absurd rfl h
    have hfr : 1 ≤ (m_rm (d + 1) 0 0).frames ∧ 40 ≤ (m_rm (d + 1) 0 0).locals := ⟨Nat.le_add_left _ _, by show 40 ≤ 40 * (d + 1); omega⟩
    refine mV_iload_n hC js_lix_9 rfl ?_
    refine mV_iconst hC js_lix_10 ?_
    refine mV_mmax hC js_lix_11 (a_in (k := 3) (i := 236) rfl rfl) hfr (Nat.zero_le _) (Nat.zero_le _) (Nat.zero_le _) ?_
    refine mV_istore_n hC js_lix_14 (by decide) ?_
    refine mV_iload_n hC js_lix_15 rfl ?_
    refine mV_aload_n hC js_lix_16 rfl ?_
    refine mV_slen hC hS.2.2.2.2.1 (x := 7) rfl js_lix_17 ?_
    refine mV_mmin hC js_lix_18 (a_in (k := 3) (i := 239) rfl rfl) hfr (Nat.zero_le _) (Nat.zero_le _) (Nat.zero_le _) ?_
    refine mV_istore_n hC js_lix_21 (by decide) ?_
    refine mV_iload_n hC js_lix_22 rfl ?_
    refine mV_iload_n hC js_lix_23 rfl ?_
    refine mV_icmp_lt hC js_lix_24 (tgt := 29) rfl (fun h2 => ?_) (fun h2 => absurd (by decide) h2)
    refine mV_aload_n hC js_lix_29 rfl ?_
    refine mV_iload_n hC js_lix_30 rfl ?_
    refine mV_iload_n hC js_lix_31 rfl ?_
    refine mV_iload_n hC js_lix_32 rfl ?_
    refine mV_callS hY hC (as := [.ref (m_X0 + 4), .int x, .int 0, .int 7]) (st := []) js_lix_33 (k_ioc hYS (d := d)) (a_in (k := 4) (i := 2) rfl rfl) (a_in (k := 4) (i := 3) rfl rfl) sw_iniL (a_in (k := 4) (i := 4) rfl rfl) (by decide) py_ioc m_rm_ok (by decide) (Nat.zero_le _) (Nat.zero_le _) (Nat.zero_le _) (Nat.le_refl _) (fun v hv => by cases hv) (fun u hu => by
      have hu : u ∈ ([(3, .int 7), (2, .int 0), (0, .ref (m_X0 + 4)), (1, .int x)] : List (Nat × Value)) := hu
      simp only [List.mem_cons, List.not_mem_nil, or_false] at hu
      rcases hu with rfl | rfl | rfl | rfl
      · trivial
      · trivial
      · exact vx4 _
      · trivial) (fun r σ' hQ => ?_)
    obtain ⟨rfl, rfl⟩ := hQ
    refine mV_iret hC js_lix_36 hrt rfl ⟨?_, rfl⟩ (Nat.le_refl _) (Nat.le_refl _)
    unfold ix_at
    rw [if_pos hx]
  · have hx : ¬ (0 ≤ x ∧ x ≤ 255) := fun z => by rw [if_pos z] at h; exact absurd h (by decide)
    refine mV_iconst hC js_lix_7 ?_
    refine mV_iret hC js_lix_8 hrt rfl ⟨?_, rfl⟩ (Nat.le_refl _) (Nat.le_refl _)
    unfold ix_at
    rw [if_neg hx]; rfl
theorem k_ix2 (hY : m_Yok Y) (hYS : ∀ A U H, Y A U H → y_str xa A U H) {d : Nat} {σ : m_H} {x : Int32} : v_K l X Y xa (d + 2) sy_ix2 prog_25_method_80_code 3 (some .int) σ [.ref (m_X0 + 2), .int x, .int 0] (fun r σ' => r = some (.int (ix_at x)) ∧ σ' = σ) 0 0 := by
  refine v_K_of (by decide +kernel) (Nat.le_of_ble_eq_true rfl) (fun p e s m args below meth c dC dI aC ad sz hC hn hrt => ?_)
  have hS := hYS _ _ _ hC.2.2.2.2.2.2.2.1.2.2.2.2
  have hls : ∀ u ∈ ([(0, .ref (m_X0 + 2)), (1, .int x), (2, .int 0)] : List (Nat × Value)), m_vOk σ.length u.2 := fun u hu => by
    simp only [List.mem_cons, List.not_mem_nil, or_false] at hu
    rcases hu with rfl | rfl | rfl
    · exact vx2 _
    · trivial
    · trivial
  refine mV_aload_n hC js_ix2_0 rfl ?_
  refine mV_sV0 hY hC (y := sy_lat) rfl hS.2.1 js_ix2_1 (k_lat hYS (d := d + 1)) (a_in (k := 3) (i := 216) rfl rfl) (a_in (k := 3) (i := 217) rfl rfl) (a_in (k := 3) (i := 218) rfl rfl) (a_in (k := 3) (i := 219) rfl rfl) (by decide) (by decide) m_rm_ok (Nat.zero_le _) (Nat.zero_le _) (Nat.zero_le _) (Nat.le_refl _) (fun v hv => by cases hv) hls (fun r σ' hQ => ?_)
  obtain ⟨rfl, rfl⟩ := hQ
  refine mV_if_eq hC js_ix2_4 (tgt := 23) rfl (fun h => absurd h (by decide)) (fun _ => ?_)
  refine mV_aload_n hC js_ix2_7 rfl ?_
  refine mV_sgf hC hS.2.2.2.1 (v := .ref (m_X0 + 4)) (fun ad h => congrArg Value.ref (h 4)) js_ix2_8 (a_in (k := 9) (i := 19) rfl rfl) ?_
  refine mV_iload_n hC js_ix2_11 rfl ?_
  refine mV_iload_n hC js_ix2_12 rfl ?_
  refine mV_aload_n hC js_ix2_13 rfl ?_
  refine mV_sV0 hY hC (y := sy_len) rfl hS.2.1 js_ix2_14 (k_len hY hYS (d := d)) (a_in (k := 3) (i := 222) rfl rfl) (a_in (k := 3) (i := 223) rfl rfl) (a_in (k := 3) (i := 224) rfl rfl) (a_in (k := 3) (i := 225) rfl rfl) (by decide) (by decide) m_rm_ok (Nat.zero_le _) (Nat.zero_le _) (Nat.le_of_ble_eq_true rfl) (Nat.le_refl _) (fun v hv => by
      have hv : v ∈ ([.int 0, .int x, .ref (m_X0 + 4)] : List Value) := hv
      simp only [List.mem_cons, List.not_mem_nil, or_false] at hv
      rcases hv with rfl | rfl | rfl
      · trivial
      · trivial
      · exact vx4 _) hls (fun r σ' hQ => ?_)
  obtain ⟨rfl, rfl⟩ := hQ
  refine mV_callS hY hC (as := [.ref (m_X0 + 4), .int x, .int 0, .int 7]) (st := []) js_ix2_17 (k_lix hY hYS (d := d)) (a_in (k := 3) (i := 230) rfl rfl) (a_in (k := 3) (i := 231) rfl rfl) sw_iniL (a_in (k := 3) (i := 232) rfl rfl) (by decide) py_lix m_rm_ok (by decide) (Nat.zero_le _) (Nat.zero_le _) (Nat.zero_le _) (Nat.le_refl _) (fun v hv => by cases hv) hls (fun r σ' hQ => ?_)
  obtain ⟨rfl, rfl⟩ := hQ
  refine mV_goto hC js_ix2_20 (tgt := 36) rfl ?_
  exact mV_iret hC js_ix2_36 hrt rfl ⟨rfl, rfl⟩ (Nat.le_refl _) (Nat.le_refl _)
theorem ix_f_rng (x : Int32) : ∀ (n i : Nat), n + i = 7 → -1 ≤ (ix_f x n i).toInt ∧ (ix_f x n i).toInt ≤ 6
  | 0, i, h => by
    show -1 ≤ (-1 : Int32).toInt ∧ (-1 : Int32).toInt ≤ 6
    decide
  | n + 1, i, h => by
    show -1 ≤ (if ix_b.getD i 0 = x then Int32.ofNat i else ix_f x n (i + 1)).toInt ∧ (if ix_b.getD i 0 = x then Int32.ofNat i else ix_f x n (i + 1)).toInt ≤ 6
    by_cases hc : ix_b.getD i 0 = x
    · rw [if_pos hc]
      exact i7_e i (by omega)
    · rw [if_neg hc]
      exact ix_f_rng x n (i + 1) (by omega)
theorem ix_at_rng (x : Int32) : -1 ≤ (ix_at x).toInt ∧ (ix_at x).toInt ≤ 6 := by
  unfold ix_at
  by_cases hc : 0 ≤ x ∧ x ≤ 255
  · rw [if_pos hc]; exact ix_f_rng _ 7 0 rfl
  · rw [if_neg hc]; decide
theorem ix_all : ∀ k : Nat, k < 256 → (ix_f (Int32.ofNat k).toInt8.toInt32 7 0).toInt = z_idx (k : Int) := by decide +kernel
theorem ix_at_z (x : Int32) : (ix_at x).toInt = z_idx x.toInt := by
  unfold ix_at z_idx
  by_cases hc : 0 ≤ x ∧ x ≤ 255
  · rw [if_pos hc]
    have h0 := Int32.le_iff_toInt_le.mp hc.1
    have h1 := Int32.le_iff_toInt_le.mp hc.2
    have e0 : (0 : Int32).toInt = 0 := rfl
    have e1 : (255 : Int32).toInt = 255 := rfl
    have hk : x.toInt.toNat < 256 := by omega
    have hx : Int32.ofNat x.toInt.toNat = x := Int32.toInt_inj.mp (by rw [Int32.toInt_ofNat_of_lt (by omega)]; omega)
    have h := ix_all x.toInt.toNat hk
    rw [hx] at h
    rw [h]
    have hz : ((x.toInt.toNat : Nat) : Int) = x.toInt := by omega
    rw [hz]; rfl
  · rw [if_neg hc]
    have h0 := Int32.le_iff_toInt_le (x := 0) (y := x)
    have h1 := Int32.le_iff_toInt_le (x := x) (y := 255)
    have e0 : (0 : Int32).toInt = 0 := rfl
    have e1 : (255 : Int32).toInt = 255 := rfl
    have hn : ¬ (0 ≤ x.toInt ∧ x.toInt ≤ 255) := fun z => hc ⟨h0.mpr (by omega), h1.mpr (by omega)⟩
    rw [if_neg (by omega), if_neg (by omega), if_neg (by omega), if_neg (by omega), if_neg (by omega), if_neg (by omega), if_neg (by omega)]; rfl
theorem k_ix1 (hY : m_Yok Y) (hYS : ∀ A U H, Y A U H → y_str xa A U H) {d : Nat} {σ : m_H} {x : Int32} : v_K l X Y xa (d + 3) ix_y prog_25_method_79_code 2 (some .int) σ [.ref (m_X0 + 2), .int x] (fun r σ' => r = some (.int (ix_at x)) ∧ σ' = σ) 0 0 := by
  refine v_K_of (by decide +kernel) (Nat.le_of_ble_eq_true rfl) (fun p e s m args below meth c dC dI aC ad sz hC hn hrt => ?_)
  have hS := hYS _ _ _ hC.2.2.2.2.2.2.2.1.2.2.2.2
  refine mV_aload_n hC js_ix1_0 rfl ?_
  refine mV_iload_n hC js_ix1_1 rfl ?_
  refine mV_iconst hC js_ix1_2 ?_
  refine mV_sV2 hY hC (y := sy_ix2) (x := x) (x2 := 0) (st := []) rfl hS.2.1 js_ix1_3 (k_ix2 hY hYS (d := d)) (a_in (k := 3) (i := 212) rfl rfl) (a_in (k := 3) (i := 213) rfl rfl) (a_in (k := 3) (i := 214) rfl rfl) (a_in (k := 3) (i := 215) rfl rfl) (by decide) (by decide) m_rm_ok (Nat.zero_le _) (Nat.zero_le _) (Nat.zero_le _) (Nat.le_refl _) (fun v hv => by cases hv) (fun u hu => by
    simp only [lv_args, List.mem_cons, List.not_mem_nil, or_false] at hu
    rcases hu with rfl | rfl
    · exact vx2 _
    · trivial) (fun r σ' hQ => ?_)
  obtain ⟨rfl, rfl⟩ := hQ
  exact mV_iret hC js_ix1_6 hrt rfl ⟨rfl, rfl⟩ (Nat.le_refl _) (Nat.le_refl _)
theorem ix_K_ok (hY : m_Yok Y) (hYS : ∀ A U H, Y A U H → y_str xa A U H) : ix_K l X Y xa := by
  intro d σ x hd
  obtain ⟨d', rfl⟩ : ∃ d', d = d' + 3 := ⟨d - 3, by omega⟩
  exact (k_ix1 hY hYS).mono (fun r σ' hQ => ⟨hQ.2, _, hQ.1, ix_at_z x⟩)
end SK
end
section
/-! ===== BEGIN words of one list among another's, by their places ===== -/
theorem goodIn_r {big : List Cond} (ws : List Cond) (ps : List Nat) (hp : ws = ps.filterMap (fun i => big[i]?)) (h : ws.all goodWord = true) : GoodIn big ws := by
  intro w hw
  have h1 := List.all_eq_true.mp h w hw
  rw [hp] at hw
  obtain ⟨i, -, hi⟩ := List.mem_filterMap.mp hw
  have hm : w ∈ big := by first | exact List.mem_of_getElem? hi | exact List.getElem?_mem hi
  exact ⟨hm, good_of_word h1⟩
theorem goodIn_app {big a b : List Cond} (ha : GoodIn big a) (hb : GoodIn big b) : GoodIn big (a ++ b) := fun w h => (List.mem_append.mp h).elim (ha w) (hb w)
theorem goodIn_ca {big a b : List Cond} {c : Cond} (ha : GoodIn big (c :: a)) (hb : GoodIn big b) : GoodIn big (c :: (a ++ b)) := fun w h => (List.mem_cons.mp h).elim (fun e => ha w (List.mem_cons.mpr (Or.inl e))) (fun h => (List.mem_append.mp h).elim (fun h => ha w (List.mem_cons.mpr (Or.inr h))) (hb w))
theorem goodIn_sub {big ws : List Cond} (hm : ∀ w ∈ ws, w ∈ big) (h : ws.all goodWord = true) : GoodIn big ws := fun w hw => ⟨hm w hw, good_of_word (List.all_eq_true.mp h w hw)⟩
/-! ===== END ===== -/
/-! ===== BEGIN exceptions that leave a method, and their catching by the caller (launches without stack traces) ===== -/
section VXA
/-! The laws vx_back, vx_callV, vx_callS, vx_callSW, vx_throw0, vx_throwS follow proofs of the library, with one case more: JvmDerived/Free/Laws.lean (Back.of_free), Shelf42/LK1.lean (callV, callS), Shelf/KitTraced.lean (throwNew0V, throwNewS). -/
/-- where a method has thrown q: the class by its name, the cell, what was written, the world -/
def vx_T (XC : String → State → State → Prop) (st : State) (q : Addr) (t : State) (mc ms : Nat) (free : Addr → Prop) : Prop :=
  ∃ (E : String) (ce : Cell) (L : List Loc), XC E st t ∧ t.heap[q]? = some ce ∧ ce.vm = .none ∧ st.vm.findClass E = some ce.cls ∧ st.WarmedH t.vm ∧ st.sameButNew ({ t with vm := st.vm } : State) L mc ms ∧ ∀ z ∈ L, free z.base
def vx_Q (Qc : Array Value → State → Outcome → State → Prop) (XC : String → State → State → Prop) (mc ms : Nat) (free : Addr → Prop) : Array Value → State → Outcome → State → Prop := fun a st o t =>
  (Qc a st o t ∧ ∃ L, FrameEnd st o t L mc ms ∧ ∀ q ∈ L, free q.base) ∨ ∃ q, o = .threw q ∧ vx_T XC st q t mc ms free
/-- a callee that returns or throws -/
def vx_Met (l : Launch) (y : MethodName) (ws : List Cond) (rm : Room) (Pc : Array Value → State → Prop) (Qc : Array Value → State → Outcome → State → Prop) (XC : String → State → State → Prop) (mc ms : Nat) (free : Addr → Prop) : Prop :=
  MetFree l y (headSpec ws rm) Pc (fun _ _ _ _ _ => True) (vx_Q Qc XC mc ms free)
def vx_Post (XC : String → State → State → Prop) (mc ms : Nat) (free : Addr → Prop) : Pt → Array Value → Addr → Pt → Prop := fun A a q B =>
  ∃ (g : JFrame) (mk : MethodId) (t : State) (L : List Loc) (E : String) (ce : Cell), B.U.heap = t.heap ∧ B.U.vm = t.vm ∧ XC E (A.U.calling g mk a) t ∧ t.heap[q]? = some ce ∧ ce.vm = .none ∧ A.U.vm.findClass E = some ce.cls ∧ B.locs = A.locs ++ L ∧ (∀ z ∈ L, free z.base) ∧ B.cells = A.cells + mc ∧ B.slots = A.slots + ms
def vx_Back (l : Launch) (R : Room) (p : Program) (e : Env) (below : List Frame) (s : State) (sargs : Array Value) (y : MethodName) (len W9 : Nat)
    (Pre : Pt → Array Value → Prop) (Post : Pt → Array Value → Option Value → Pt → Prop) (PostX : Pt → Array Value → Addr → Pt → Prop) : Prop :=
  ∀ (m : MethodId) (meth : Method) (c : Code) (A : Pt) (g : JFrame) (ig : Instr) (mk : MethodId) (a : Array Value),
    Stand p l e R s m sargs below meth c A.U A.locs A.cells A.slots → g.method = m → g.locals.size = c.maxLocals → decode c.code g.pc = .ok (ig, len) →
    2 * g.monitorRoom + (g.stack.map fun v => v.category).sum ≤ W9 → A.U.methodNamed? y = some mk → Pre A a →
    (∃ (v : Option Value) (B : Pt), Stand p l e R s m sargs below meth c B.U B.locs B.cells B.slots ∧ Post A a v B ∧
      Steps p.tables e below (doInvoke e (A.U.setTop g) [] mk a).1 (B.U.setTop { g with pc := g.pc + len, stack := v.toList ++ g.stack })) ∨
    (∃ (q : Addr) (B : Pt), Stand p l e R s m sargs below meth c B.U B.locs B.cells B.slots ∧ PostX A a q B ∧
      Steps p.tables e below (doInvoke e (A.U.setTop g) [] mk a).1 ((B.U.setTop g).pushFrame (.throwing q)))
section Payer
variable {l : Launch} {R : Room} {p : Program} {e : Env} {below : List Frame} {s : State} {sargs : Array Value} {y : MethodName} {len W9 : Nat}
theorem vx_back {ws : List Cond} {rm : Room} {Pc : Array Value → State → Prop} {Qc : Array Value → State → Outcome → State → Prop} {XC : String → State → State → Prop} {mc ms : Nat} {free : Addr → Prop} {bytes : ByteArray} {maxL : Nat} {ret : Option FieldType}
    (hM : vx_Met l y ws rm Pc Qc XC mc ms free) (hblind : FrameBlind Pc) (hrc : rm.cells = mc) (hrs : rm.slots = ms)
    (hframes : rm.frames + 1 ≤ R.frames) (hlocals : W9 + (maxL + 11) + rm.locals ≤ R.locals)
    (hws : ∀ w ∈ ws, ∀ a' U, s.WarmedH U.vm → w.before a' U = true) (hcode : Cond.code y bytes maxL ret ∈ ws) (hinit : ∀ a' U, s.WarmedH U.vm → (Cond.initialized y.cls).before a' U = true) :
    vx_Back l R p e below s sargs y len W9 (PreOf R mc ms Pc) (PostOf Qc mc ms free) (vx_Post XC mc ms free) := by
  intro m meth c A g ig mk a X hg hsize hdg hW hn hp
  have h1 : (headSpec ws rm).pre.before a A.U = true := atoms_intro fun w hw => hws w hw _ _ X.warmed
  have h2 : (Cond.code y bytes maxL ret).before a A.U = true := hws _ hcode _ _ X.warmed
  have h3 : (Cond.initialized y.cls).before a A.U = true := hinit _ _ X.warmed
  have h4 : A.cells + (headSpec ws rm).room.cells ≤ R.cells := by rw [show (headSpec ws rm).room.cells = mc from hrc]; exact hp.1
  have h5 : A.slots + (headSpec ws rm).room.slots ≤ R.slots := by rw [show (headSpec ws rm).room.slots = ms from hrs]; exact hp.2.1
  have hPc : Pc a (A.U.calling g mk a) := hblind _ _ _ _ hp.2.2
  obtain ⟨U, Ls, c0, s0⟩ := A
  dsimp only [Pt.U, Pt.locs, Pt.cells, Pt.slots] at h1 h2 h3 h4 h5 X hn hPc ⊢
  obtain ⟨methY, cY, hmY, hcY, -, hlY, -, -, -, -⟩ := Cond.code_spec hn h2
  obtain ⟨kY, hkY, -⟩ := className_of_methodNamed hn
  have hinitY : kY.init = .initialized := Cond.initialized_spec (findClass_of_methodNamed hn) hkY h3
  have h : At U g.method c below := by rw [hg]; exact X.here
  have hlocals9 : W9 + (maxL + 11) + (headSpec ws rm).room.locals ≤ R.locals := hlocals
  have happ : (headSpec ws rm).appliesLoose y e.platform (U.calling g mk a) = true :=
    Spec.appliesLoose_calling (g := g) h hdg hn hkY hinitY
      (X.room_calling (g := g) (R' := (headSpec ws rm).room) hsize hmY hcY hframes (by rw [hlY]; omega) h4 h5) h1
  obtain ⟨mid, hmid⟩ := h.above
  have hfr : (U.setTop g).frames = (.java g :: mid) ++ below := by rw [State.frames_setTop' g h.top, hmid]; rfl
  obtain ⟨o, s₂, hsteps, -, hend, hq⟩ := Steps.callFree hM p X.admits X.cas X.clock (acts := []) hfr happ hPc trivial
  have hq' : vx_Q Qc XC mc ms free a (U.calling g mk a) o s₂ := hq
  rw [State.frames_setTop' g h.top] at hend
  obtain ⟨g₀, hg0⟩ := Option.isSome_iff_exists.mp h.top
  obtain ⟨r, hr⟩ := State.topJava?_eq_some.mp hg0
  have hr' : (({ U with heap := s₂.heap, slotsUsed := s₂.slotsUsed } : State).setVm s₂.vm).frames = .java g₀ :: r := hr
  rcases hq' with ⟨hqc, L, hfe, hL⟩ | ⟨q, rfl, E, ce, L, hx, hce, hcv, hcl, hW₂, hsm, hL⟩
  · obtain ⟨⟨v, rfl⟩, hW₂, e2, q2, q3, q4, q5, q6⟩ := id hfe
    have e3 : s₂ = ({ (U.calling g mk a).setFrames s₂.frames with heap := s₂.heap, slotsUsed := s₂.slotsUsed } : State).setVm s₂.vm := by
      have : s₂ = ({ s₂ with vm := (U.calling g mk a).vm } : State).setVm s₂.vm := rfl
      rw [e2] at this
      exact this
    obtain ⟨c₂, i₂, len₂, hc₂, hd₂, hf₂⟩ := hend
    have hW' : U.WarmedH s₂.vm := hW₂
    have hcc : c₂ = c := by
      have h1 : s₂.code? g.method = U.code? g.method := by
        rw [State.code?_eq, State.code?_eq, hW'.alike.method?]
      exact Option.some.inj (hc₂.symm.trans (h1.trans h.code))
    subst hcc
    have hlen : len₂ = len := by rw [hdg] at hd₂; cases hd₂; rfl
    subst hlen
    have hs₂ : s₂ = (({ U with heap := s₂.heap, slotsUsed := s₂.slotsUsed } : State).setVm s₂.vm).setTop { g with pc := g.pc + len₂, stack := v.toList ++ g.stack } := by
      refine e3.trans ?_
      rw [hf₂, State.calling_eq h.top, State.setFrames_setFrames, State.setTop_of_frames _ hr', hr]
      rfl
    have hsame : U.sameButNew ({ U with heap := s₂.heap, slotsUsed := s₂.slotsUsed } : State) L mc ms := by
      refine ⟨?_, q2, q3, q4, q5, q6⟩
      obtain ⟨t, ht, -⟩ := State.frames_cons hr
      show ({ U with heap := s₂.heap, slotsUsed := s₂.slotsUsed } : State) = { U.setFrames U.frames with heap := s₂.heap, slotsUsed := s₂.slotsUsed }
      rw [State.setFrames_self ht]
    subst hg
    refine Or.inl ⟨v, ⟨(({ U with heap := s₂.heap, slotsUsed := s₂.slotsUsed } : State).setVm s₂.vm), Ls ++ L, c0 + mc, s0 + ms⟩,
      ⟨X.admits, X.cas, X.clock, X.frames, X.room, X.hears, X.method, X.code, (X.here.setHeapUsed s₂.heap s₂.slotsUsed).setVm hW'.alike, X.tail, State.WarmedH.trans X.warmed hW', X.limits, X.bytes, X.same.trans (hsame.setVm s.vm)⟩,
      ⟨g, mk, s₂, L, rfl, rfl, hqc, rfl, hL, rfl, rfl⟩, ?_⟩
    show Steps p.tables e below _ ((({ U with heap := s₂.heap, slotsUsed := s₂.slotsUsed } : State).setVm s₂.vm).setTop { g with pc := g.pc + len₂, stack := v.toList ++ g.stack })
    rw [← hs₂]
    exact hsteps
  · obtain ⟨e2, q2, q3, q4, q5, q6⟩ := id hsm
    have e3 : s₂ = ({ (U.calling g mk a).setFrames s₂.frames with heap := s₂.heap, slotsUsed := s₂.slotsUsed } : State).setVm s₂.vm := by
      have : s₂ = ({ s₂ with vm := (U.calling g mk a).vm } : State).setVm s₂.vm := rfl
      rw [e2] at this
      exact this
    have hf₂ : s₂.frames = .throwing q :: .java g :: U.frames.tail := hend
    have hW' : U.WarmedH s₂.vm := hW₂
    have hs₂ : s₂ = ((({ U with heap := s₂.heap, slotsUsed := s₂.slotsUsed } : State).setVm s₂.vm).setTop g).pushFrame (.throwing q) := by
      refine e3.trans ?_
      rw [hf₂, State.calling_eq h.top, State.setFrames_setFrames, State.pushFrame, State.frames_setTop _ hr', State.setTop_of_frames _ hr', State.setFrames_setFrames, hr]
      rfl
    have hsame : U.sameButNew ({ U with heap := s₂.heap, slotsUsed := s₂.slotsUsed } : State) L mc ms := by
      refine ⟨?_, q2, q3, q4, q5, q6⟩
      obtain ⟨t, ht, -⟩ := State.frames_cons hr
      show ({ U with heap := s₂.heap, slotsUsed := s₂.slotsUsed } : State) = { U.setFrames U.frames with heap := s₂.heap, slotsUsed := s₂.slotsUsed }
      rw [State.setFrames_self ht]
    subst hg
    refine Or.inr ⟨q, ⟨(({ U with heap := s₂.heap, slotsUsed := s₂.slotsUsed } : State).setVm s₂.vm), Ls ++ L, c0 + mc, s0 + ms⟩,
      ⟨X.admits, X.cas, X.clock, X.frames, X.room, X.hears, X.method, X.code, (X.here.setHeapUsed s₂.heap s₂.slotsUsed).setVm hW'.alike, X.tail, State.WarmedH.trans X.warmed hW', X.limits, X.bytes, X.same.trans (hsame.setVm s.vm)⟩,
      ⟨g, mk, s₂, L, E, ce, rfl, rfl, hx, hce, hcv, hcl, rfl, hL, rfl, rfl⟩, ?_⟩
    show Steps p.tables e below _ (((({ U with heap := s₂.heap, slotsUsed := s₂.slotsUsed } : State).setVm s₂.vm).setTop g).pushFrame (.throwing q))
    rw [← hs₂]
    exact hsteps
end Payer
section Calls
variable {p : Program} {l : Launch} {e : Env} {R : Room} {s : State} {m : MethodId} {args : Array Value} {below : List Frame} {meth : Method} {c : Code} {T : State} {locs : List Loc} {cells slots : Nat}
theorem vx_callV (X : Stand p l e R s m args below meth c T locs cells slots) (hexec : p.tables.exec = Jvm.exec) {own C : String} {index : Nat} {y : MethodName} {bytes : ByteArray} {maxL : Nat} {ret : Option FieldType}
    (hown : s.vm.findClass own = some m.cls) (hlink : (Cond.methodLink own index y).before args s = true) (hinst : (Cond.instanceMethod y).before args s = true) (hsel : (Cond.selects C y y).before args s = true)
    (hcode : (Cond.code y bytes maxL ret).before args s = true) (hy : y.cls ≠ "java/lang/invoke/MethodHandle" ∧ y.cls ≠ "java/lang/invoke/VarHandle")
    {W9 : Nat} {Pre : Pt → Array Value → Prop} {Post : Pt → Array Value → Option Value → Pt → Prop} {PostX : Pt → Array Value → Addr → Pt → Prop} (hK : vx_Back l R p e below s args y 3 W9 Pre Post PostX)
    {b : Addr} {cellB : Cell} (hcell : T.heap[b]? = some cellB) (hobj : cellB.vm.isStatics = false) (hcls : s.vm.findClass C = some cellB.cls)
    {g : JFrame} (hg : g.method = m) (hsize : g.locals.size = c.maxLocals) {argsL rest : List Value} (hlen : ∀ sig, parseMethodDescriptor y.desc = some sig → argsL.length = sig.parameters.length)
    (hstack : g.stack = argsL.reverse ++ .ref b :: rest) (hW : 2 * g.monitorRoom + (rest.map fun v => v.category).sum ≤ W9) (hdg : decode c.code g.pc = .ok (.invokevirtual index, 3))
    (hpre : ∀ vm₁, s.WarmedH vm₁ → Pre ⟨T.setVm vm₁, locs, cells, slots⟩ (Value.ref b :: argsL).toArray) :
    (∃ (v : Option Value) (vm₁ : Vm) (B : Pt), s.WarmedH vm₁ ∧ Stand p l e R s m args below meth c B.U B.locs B.cells B.slots ∧ Post ⟨T.setVm vm₁, locs, cells, slots⟩ (Value.ref b :: argsL).toArray v B ∧
      ∀ target, Steps p.tables e below (B.U.setTop { g with pc := g.pc + 3, stack := v.toList ++ rest }) target → Steps p.tables e below (T.setTop g) target) ∨
    (∃ (q : Addr) (vm₁ : Vm) (B : Pt), s.WarmedH vm₁ ∧ Stand p l e R s m args below meth c B.U B.locs B.cells B.slots ∧ PostX ⟨T.setVm vm₁, locs, cells, slots⟩ (Value.ref b :: argsL).toArray q B ∧
      Steps p.tables e below (T.setTop g) ((B.U.setTop { g with stack := rest }).pushFrame (.throwing q))) := by
  obtain ⟨mk, methM, hnamed, hmethM, hstM, habM⟩ := Cond.instanceMethod_spec hinst
  obtain ⟨methM', cM, hmethM', -, -, -, -, -, -, hsigM⟩ := Cond.code_spec hnamed hcode
  cases hmethM.symm.trans hmethM'
  obtain ⟨c2, r2, m2, q1, q2, q3, q4, kP, hkP, hkPi⟩ := Cond.selects_spec hsel
  cases hcls.symm.trans q1
  cases (State.methodFound?_of_named hnamed hy).symm.trans q2
  cases hnamed.symm.trans q3
  have hselP : selectMethod e.platform s.vm cellB.cls mk = .method mk := by rw [Launch.admits_selectMethod X.admits]; exact q4
  obtain ⟨vm₁, X₁, hstep₁⟩ := X.invokevirtual hexec hown hlink hnamed hmethM hstM hkP hkPi hy (a := b) (cell := cellB) hcell
    (fun z h => by rw [h] at hobj; cases hobj) hselP hmethM habM hkP hkPi (g := g) hg (argsL := argsL) (rest := rest) (hlen _ hsigM) hstack hdg
  rcases hK m meth c ⟨T.setVm vm₁, locs, cells, slots⟩ { g with stack := rest } (.invokevirtual index) mk (Value.ref b :: argsL).toArray X₁ hg hsize hdg hW (X₁.named hnamed) (hpre vm₁ X₁.warmed) with ⟨v, B, X', hpost, hsteps⟩ | ⟨q, B, X', hpost, hsteps⟩
  · exact Or.inl ⟨v, vm₁, B, X₁.warmed, X', hpost, fun target h => hstep₁ _ fun acts => by rw [doInvoke_state]; exact hsteps.trans h⟩
  · exact Or.inr ⟨q, vm₁, B, X₁.warmed, X', hpost, hstep₁ _ fun acts => by rw [doInvoke_state]; exact hsteps⟩
theorem vx_callS (X : Stand p l e R s m args below meth c T locs cells slots) (hexec : p.tables.exec = Jvm.exec) {own : String} {index : Nat} {y : MethodName} {bytes : ByteArray} {maxL : Nat} {ret : Option FieldType}
    (hown : s.vm.findClass own = some m.cls) (hlink : (Cond.methodLink own index y).before args s = true) (hstat : (Cond.static y).before args s = true) (hinit : (Cond.initialized y.cls).before args s = true)
    (hcode : (Cond.code y bytes maxL ret).before args s = true) (hy : y.cls ≠ "java/lang/invoke/MethodHandle" ∧ y.cls ≠ "java/lang/invoke/VarHandle")
    {W9 : Nat} {Pre : Pt → Array Value → Prop} {Post : Pt → Array Value → Option Value → Pt → Prop} {PostX : Pt → Array Value → Addr → Pt → Prop} (hK : vx_Back l R p e below s args y 3 W9 Pre Post PostX)
    {g : JFrame} (hg : g.method = m) (hsize : g.locals.size = c.maxLocals) {argsL rest : List Value} (hlen : ∀ sig, parseMethodDescriptor y.desc = some sig → argsL.length = sig.parameters.length)
    (hstack : g.stack = argsL.reverse ++ rest) (hW : 2 * g.monitorRoom + (rest.map fun v => v.category).sum ≤ W9) (hdg : decode c.code g.pc = .ok (.invokestatic index, 3))
    (hpre : ∀ vm₁, s.WarmedH vm₁ → Pre ⟨T.setVm vm₁, locs, cells, slots⟩ argsL.toArray) :
    (∃ (v : Option Value) (vm₁ : Vm) (B : Pt), s.WarmedH vm₁ ∧ Stand p l e R s m args below meth c B.U B.locs B.cells B.slots ∧ Post ⟨T.setVm vm₁, locs, cells, slots⟩ argsL.toArray v B ∧
      ∀ target, Steps p.tables e below (B.U.setTop { g with pc := g.pc + 3, stack := v.toList ++ rest }) target → Steps p.tables e below (T.setTop g) target) ∨
    (∃ (q : Addr) (vm₁ : Vm) (B : Pt), s.WarmedH vm₁ ∧ Stand p l e R s m args below meth c B.U B.locs B.cells B.slots ∧ PostX ⟨T.setVm vm₁, locs, cells, slots⟩ argsL.toArray q B ∧
      Steps p.tables e below (T.setTop g) ((B.U.setTop { g with stack := rest }).pushFrame (.throwing q))) := by
  obtain ⟨mk, hnamed⟩ := Cond.code_named hcode
  obtain ⟨methM, cM, hmethM, -, -, -, -, -, -, hsigM⟩ := Cond.code_spec hnamed hcode
  have hstatic : methM.isStatic = true := Cond.static_spec hnamed hmethM hstat
  obtain ⟨kP, hkP, -⟩ := className_of_methodNamed hnamed
  have hinitP : kP.init = .initialized := Cond.initialized_spec (findClass_of_methodNamed hnamed) hkP hinit
  obtain ⟨vm₁, X₁, hstep₁⟩ := X.invokestatic hexec hown hlink hnamed hmethM hstatic hkP hinitP hy (g := g) hg (argsL := argsL) (rest := rest) (hlen _ hsigM) hstack hdg
  rcases hK m meth c ⟨T.setVm vm₁, locs, cells, slots⟩ { g with stack := rest } (.invokestatic index) mk argsL.toArray X₁ hg hsize hdg hW (X₁.named hnamed) (hpre vm₁ X₁.warmed) with ⟨v, B, X', hpost, hsteps⟩ | ⟨q, B, X', hpost, hsteps⟩
  · exact Or.inl ⟨v, vm₁, B, X₁.warmed, X', hpost, fun target h => hstep₁ _ fun acts => by rw [doInvoke_state]; exact hsteps.trans h⟩
  · exact Or.inr ⟨q, vm₁, B, X₁.warmed, X', hpost, hstep₁ _ fun acts => by rw [doInvoke_state]; exact hsteps⟩
end Calls
theorem vx_cls {s : State} {T : State} {vm₁ : Vm} {E : String} {k : ClassId} (hW : s.WarmedH vm₁) (h : (T.setVm vm₁).vm.findClass E = some k) : s.vm.findClass E = some k := by
  have h1 : vm₁.findClass E = some k := h
  rw [hW.alike.findClass] at h1
  exact h1
/-- the method's frame g, with q thrown over it -/
def vx_W (p : Program) (l : Launch) (e : Env) (R : Room) (s : State) (m : MethodId) (args : Array Value) (below : List Frame) (meth : Method) (c : Code) (H : Heap) (locs : List Loc) (cells slots : Nat) (Q : State → Prop) (g : JFrame) (q : Addr) : Prop :=
  ∀ T : State, T.heap = H → Stand p l e R s m args below meth c T locs cells slots → ∃ t, Steps p.tables e below ((T.setTop g).pushFrame (.throwing q)) t ∧ Q t
def vx_Run (p : Program) (l : Launch) (e : Env) (R : Room) (s : State) (m : MethodId) (args : Array Value) (below : List Frame) (meth : Method) (c : Code) (H : Heap) (locs : List Loc) (cells slots mc ms : Nat) (g : JFrame) (rest : List Value) (Qa : State → Outcome → State → Prop) (XC : String → State → State → Prop) (free : Addr → Prop) : Prop :=
  ∀ T : State, T.heap = H → Stand p l e R s m args below meth c T locs cells slots →
    (∃ (v : Option Value) (st₀ t T' : State) (L : List Loc), st₀.heap = H ∧ Stand p l e R s m args below meth c T' (locs ++ L) (cells + mc) (slots + ms) ∧ (∀ q ∈ L, free q.base) ∧ T'.heap = t.heap ∧ T'.vm = t.vm ∧ Qa st₀ (.returned v) t ∧
      Goes p e below T g T' { g with pc := g.pc + 3, stack := v.toList ++ rest }) ∨
    (∃ (q : Addr) (st₀ t T' : State) (L : List Loc) (E : String) (ce : Cell), st₀.heap = H ∧ Stand p l e R s m args below meth c T' (locs ++ L) (cells + mc) (slots + ms) ∧ (∀ z ∈ L, free z.base) ∧ T'.heap = t.heap ∧ T'.vm = t.vm ∧ XC E st₀ t ∧ t.heap[q]? = some ce ∧ ce.vm = .none ∧ s.vm.findClass E = some ce.cls ∧
      Steps p.tables e below (T.setTop g) ((T'.setTop { g with stack := rest }).pushFrame (.throwing q)))
def vx_X {S : Type} (px : S → Prop) (B : String → S → State → Prop) (A : Nat → Prop) : String → State → State → Prop := fun E st t => ∃ u : S, px u ∧ B E u t ∧ va_F A st t
section Runs
variable {p : Program} {l : Launch} {e : Env} {R : Room} {s : State} {m : MethodId} {args : Array Value} {below : List Frame} {meth : Method} {c : Code} {H : Heap} {locs : List Loc} {cells slots : Nat}
variable {y : MethodName} {bytes cc : ByteArray} {maxL nL mc ms n index : Nat} {ret : Option FieldType} {ws : List Cond} {rm : Room} {Pc : Array Value → State → Prop} {Qc : Array Value → State → Outcome → State → Prop} {XC : String → State → State → Prop} {free : Addr → Prop} {Ts : List Cond} {own C : String} {b : Addr} {As rest : List Value} {g : JFrame}
theorem vx_callBack (cb : CallB R s args own index y bytes maxL ret ws rm mc ms n) (hM : vx_Met l y ws rm Pc Qc XC mc ms free) (hbl : FrameBlind Pc) : vx_Back l R p e below s args y 3 8 (PreOf R mc ms Pc) (PostOf Qc mc ms free) (vx_Post XC mc ms free) := by
  obtain ⟨hrc, hrs, hfr, hlo, hws, hcw, -, hini, -⟩ := cb
  exact vx_back (bytes := bytes) (maxL := maxL) (ret := ret) hM hbl hrc hrs hfr hlo hws hcw (fun a' U hW => word_at hW (Or.inl (by first | rfl | simp [Cond.onTables, Cond.keeps, Cond.steady])) hini)
theorem vx_runV (S : CallFix p m c cc nL s args Ts own) (hM : vx_Met l y ws rm Pc Qc XC mc ms free) (cw : CallW R s args own C index y bytes maxL ret ws rm mc ms n) (hp : PreV s H C b Pc As)
    (hg : g.method = m) (hn : As.length = n) (hsize : g.locals.size = nL) (hstack : g.stack = As.reverse ++ .ref b :: rest) (hW : 2 * g.monitorRoom + (rest.map fun v => v.category).sum ≤ 8) (hdg : decode cc g.pc = .ok (.invokevirtual index, 3)) (hf : cells + mc ≤ R.cells ∧ slots + ms ≤ R.slots) :
    vx_Run p l e R s m args below meth c H locs cells slots mc ms g rest (Qc (Value.ref b :: As).toArray) XC free := by
  have hK : vx_Back l R p e below s args y 3 8 (PreOf R mc ms Pc) (PostOf Qc mc ms free) (vx_Post XC mc ms free) := vx_callBack cw.1 hM hp.1
  obtain ⟨⟨-, -, -, -, -, -, hcode, -, hy, hlen, hl⟩, hin, hse⟩ := cw
  obtain ⟨hx, hb, hml, ho, -⟩ := S
  obtain ⟨-, ⟨cellB, hcB, hoB, hclB⟩, hPc⟩ := hp
  intro T hT X
  rcases vx_callV X hx (C := C) (bytes := bytes) (maxL := maxL) (ret := ret) ho hl hin hse hcode hy hK (by rw [hT]; exact hcB) hoB hclB hg (hsize.trans hml.symm) (argsL := As) (rest := rest) (fun sig h => hn.trans (hlen sig h)) hstack hW (by rw [hb]; exact hdg)
    (fun vm₁ hW₁ => ⟨hf.1, hf.2, hPc (T.setVm vm₁) hT hW₁⟩) with ⟨v, vm₁, ⟨U', l2, c2, s2⟩, hW₁, X', ⟨g', mk, t, L, e1, e2, hq, h1, hL, h2, h3⟩, st⟩ | ⟨q, vm₁, ⟨U', l2, c2, s2⟩, hW₁, X', ⟨g', mk, t, L, E, ce, e1, e2, hq, hce, hcv, hcl, h1, hL, h2, h3⟩, st⟩
  · dsimp only [Pt.U, Pt.locs, Pt.cells, Pt.slots] at X' e1 e2 h1 h2 h3 st
    subst h1; subst h2; subst h3
    exact Or.inl ⟨v, (T.setVm vm₁).calling g' mk (Value.ref b :: As).toArray, t, U', L, hT, X', hL, e1, e2, hq, st⟩
  · dsimp only [Pt.U, Pt.locs, Pt.cells, Pt.slots] at X' e1 e2 h1 h2 h3 st hcl
    subst h1; subst h2; subst h3
    exact Or.inr ⟨q, (T.setVm vm₁).calling g' mk (Value.ref b :: As).toArray, t, U', L, E, ce, hT, X', hL, e1, e2, hq, hce, hcv, vx_cls hW₁ hcl, st⟩
theorem vx_runS (S : CallFix p m c cc nL s args Ts own) (hM : vx_Met l y ws rm Pc Qc XC mc ms free) (cw : CallB R s args own index y bytes maxL ret ws rm mc ms n ∧ (Cond.static y).before args s = true) (hp : PreS s H Pc As)
    (hg : g.method = m) (hn : As.length = n) (hsize : g.locals.size = nL) (hstack : g.stack = As.reverse ++ rest) (hW : 2 * g.monitorRoom + (rest.map fun v => v.category).sum ≤ 8) (hdg : decode cc g.pc = .ok (.invokestatic index, 3)) (hf : cells + mc ≤ R.cells ∧ slots + ms ≤ R.slots) :
    vx_Run p l e R s m args below meth c H locs cells slots mc ms g rest (Qc As.toArray) XC free := by
  have hK : vx_Back l R p e below s args y 3 8 (PreOf R mc ms Pc) (PostOf Qc mc ms free) (vx_Post XC mc ms free) := vx_callBack cw.1 hM hp.1
  obtain ⟨⟨-, -, -, -, -, -, hcode, hini, hy, hlen, hl⟩, hstt⟩ := cw
  obtain ⟨hx, hb, hml, ho, -⟩ := S
  intro T hT X
  rcases vx_callS X hx (bytes := bytes) (maxL := maxL) (ret := ret) ho hl hstt hini hcode hy hK hg (hsize.trans hml.symm) (argsL := As) (rest := rest) (fun sig h => hn.trans (hlen sig h)) hstack hW (by rw [hb]; exact hdg)
    (fun vm₁ hW₁ => ⟨hf.1, hf.2, hp.2 (T.setVm vm₁) hT hW₁⟩) with ⟨v, vm₁, ⟨U', l2, c2, s2⟩, hW₁, X', ⟨g', mk, t, L, e1, e2, hq, h1, hL, h2, h3⟩, st⟩ | ⟨q, vm₁, ⟨U', l2, c2, s2⟩, hW₁, X', ⟨g', mk, t, L, E, ce, e1, e2, hq, hce, hcv, hcl, h1, hL, h2, h3⟩, st⟩
  · dsimp only [Pt.U, Pt.locs, Pt.cells, Pt.slots] at X' e1 e2 h1 h2 h3 st
    subst h1; subst h2; subst h3
    exact Or.inl ⟨v, (T.setVm vm₁).calling g' mk As.toArray, t, U', L, hT, X', hL, e1, e2, hq, st⟩
  · dsimp only [Pt.U, Pt.locs, Pt.cells, Pt.slots] at X' e1 e2 h1 h2 h3 st hcl
    subst h1; subst h2; subst h3
    exact Or.inr ⟨q, (T.setVm vm₁).calling g' mk As.toArray, t, U', L, E, ce, hT, X', hL, e1, e2, hq, hce, hcv, vx_cls hW₁ hcl, st⟩
end Runs
section Rows
variable {p : Program} {l : Launch} {e : Env} {R : Room} {s : State} {m : MethodId} {args : Array Value} {below : List Frame} {meth : Method} {c : Code} {H : Heap} {locs : List Loc} {cells slots : Nat} {Q : State → Prop}
variable {mc ms : Nat} {free : Addr → Prop} {A0 A1 : Nat → Prop} {H0 : Heap} {a : Array Value} {pc : Nat} {ls : Array Slot} {st0 rest : List Value}
theorem vx_keep {st₀ t T' : State} {L : List Loc} (h0 : st₀.heap = H) (e1 : T'.heap = t.heap) (hS : va_S A0 H0 H locs) (hA : ∀ q, q < H.size → A1 q → A0 q) (hf : ∀ q, free q → A0 q) (hL : ∀ q ∈ L, free q.base) (hF : va_F A1 st₀ t) :
    H.size ≤ T'.heap.size ∧ (∀ q : Nat, q < H.size → ¬ A1 q → T'.heap[q]? = H[q]?) ∧ va_S A0 H0 T'.heap (locs ++ L) := by
  obtain ⟨hz, hk⟩ := hF
  rw [h0] at hz hk
  exact ⟨by rw [e1]; exact hz, fun q h1 h2 => by rw [e1]; exact hk q h1 h2,
    ⟨Nat.le_trans hS.1 (by rw [e1]; exact hz), fun q h1 h2 => by rw [e1, hk q (Nat.lt_of_lt_of_le h1 hS.1) (fun z => h2 (hA q (Nat.lt_of_lt_of_le h1 hS.1) z))]; exact hS.2.1 q h1 h2, fun q hq => by
      rcases List.mem_append.mp hq with h | h
      · exact hS.2.2 q h
      · exact hf _ (hL q h)⟩⟩
theorem vx_calli {S SX : Type} {post : Int32 → S → Prop} {px : SX → Prop} {B : S → State → Prop} {BX : String → SX → State → Prop} {AX : Nat → Prop} (hr : vx_Run p l e R s m args below meth c H locs cells slots mc ms (F0 m pc ls st0) rest (va_Qi post B A1 a) (vx_X px BX AX) free) (hS : va_S A0 H0 H locs) (hA : ∀ q, q < H.size → A1 q → A0 q) (hf : ∀ q, free q → A0 q) (hAX : ∀ q, q < H.size → AX q → A0 q)
    (kx : ∀ (E : String) (ce : Cell) (q9 : Addr) (u : SX) (t : State) (H1 : Heap) (locs1 : List Loc), t.heap = H1 → s.vm.Alike t.vm → px u → BX E u t → H.size ≤ H1.size → (∀ q : Nat, q < H.size → ¬ AX q → H1[q]? = H[q]?) → va_S A0 H0 H1 locs1 → H1[q9]? = some ce → ce.vm = .none → s.vm.findClass E = some ce.cls → vx_W p l e R s m args below meth c H1 locs1 (cells + mc) (slots + ms) Q (F0 m pc ls rest) q9)
    (kk : ∀ (r : Int32) (u : S) (t : State) (H1 : Heap) (locs1 : List Loc), t.heap = H1 → s.vm.Alike t.vm → post r u → B u t → H.size ≤ H1.size → (∀ q : Nat, q < H.size → ¬ A1 q → H1[q]? = H[q]?) → va_S A0 H0 H1 locs1 → W p l e R s m args below meth c H1 locs1 (cells + mc) (slots + ms) Q (F0 m (pc + 3) ls (.int r :: rest))) : W p l e R s m args below meth c H locs cells slots Q (F0 m pc ls st0) := by
  intro T hT X
  rcases hr T hT X with ⟨v, st₀, t, T', L, h0, X', hL, e1, e2, ⟨⟨r, u, hv, hp, hb⟩, hF⟩, st⟩ | ⟨q, st₀, t, T', L, E, ce, h0, X', hL, e1, e2, ⟨u, hp, hb, hF⟩, hce, hcv, hcl, st⟩
  · cases hv
    obtain ⟨k1, k2, k3⟩ := vx_keep h0 e1 hS hA hf hL hF
    obtain ⟨t2, a1, b1⟩ := kk r u t T'.heap (locs ++ L) e1.symm (by rw [← e2]; exact X'.warmed.alike) hp hb k1 k2 k3 T' rfl X'
    exact ⟨t2, st t2 a1, b1⟩
  · obtain ⟨k1, k2, k3⟩ := vx_keep h0 e1 hS hAX hf hL hF
    obtain ⟨t2, a1, b1⟩ := kx E ce q u t T'.heap (locs ++ L) e1.symm (by rw [← e2]; exact X'.warmed.alike) hp hb k1 k2 k3 (by rw [e1]; exact hce) hcv hcl T' rfl X'
    exact ⟨t2, st.trans a1, b1⟩
theorem vx_calll {S SX : Type} {post : Int64 → S → Prop} {px : SX → Prop} {B : S → State → Prop} {BX : String → SX → State → Prop} {AX : Nat → Prop} (hr : vx_Run p l e R s m args below meth c H locs cells slots mc ms (F0 m pc ls st0) rest (va_Ql post B A1 a) (vx_X px BX AX) free) (hS : va_S A0 H0 H locs) (hA : ∀ q, q < H.size → A1 q → A0 q) (hf : ∀ q, free q → A0 q) (hAX : ∀ q, q < H.size → AX q → A0 q)
    (kx : ∀ (E : String) (ce : Cell) (q9 : Addr) (u : SX) (t : State) (H1 : Heap) (locs1 : List Loc), t.heap = H1 → s.vm.Alike t.vm → px u → BX E u t → H.size ≤ H1.size → (∀ q : Nat, q < H.size → ¬ AX q → H1[q]? = H[q]?) → va_S A0 H0 H1 locs1 → H1[q9]? = some ce → ce.vm = .none → s.vm.findClass E = some ce.cls → vx_W p l e R s m args below meth c H1 locs1 (cells + mc) (slots + ms) Q (F0 m pc ls rest) q9)
    (kk : ∀ (r : Int64) (u : S) (t : State) (H1 : Heap) (locs1 : List Loc), t.heap = H1 → s.vm.Alike t.vm → post r u → B u t → H.size ≤ H1.size → (∀ q : Nat, q < H.size → ¬ A1 q → H1[q]? = H[q]?) → va_S A0 H0 H1 locs1 → W p l e R s m args below meth c H1 locs1 (cells + mc) (slots + ms) Q (F0 m (pc + 3) ls (.long r :: rest))) : W p l e R s m args below meth c H locs cells slots Q (F0 m pc ls st0) := by
  intro T hT X
  rcases hr T hT X with ⟨v, st₀, t, T', L, h0, X', hL, e1, e2, ⟨⟨r, u, hv, hp, hb⟩, hF⟩, st⟩ | ⟨q, st₀, t, T', L, E, ce, h0, X', hL, e1, e2, ⟨u, hp, hb, hF⟩, hce, hcv, hcl, st⟩
  · cases hv
    obtain ⟨k1, k2, k3⟩ := vx_keep h0 e1 hS hA hf hL hF
    obtain ⟨t2, a1, b1⟩ := kk r u t T'.heap (locs ++ L) e1.symm (by rw [← e2]; exact X'.warmed.alike) hp hb k1 k2 k3 T' rfl X'
    exact ⟨t2, st t2 a1, b1⟩
  · obtain ⟨k1, k2, k3⟩ := vx_keep h0 e1 hS hAX hf hL hF
    obtain ⟨t2, a1, b1⟩ := kx E ce q u t T'.heap (locs ++ L) e1.symm (by rw [← e2]; exact X'.warmed.alike) hp hb k1 k2 k3 (by rw [e1]; exact hce) hcv hcl T' rfl X'
    exact ⟨t2, st.trans a1, b1⟩
theorem vx_callf {S SX : Type} {post : UInt32 → S → Prop} {px : SX → Prop} {B : S → State → Prop} {BX : String → SX → State → Prop} {AX : Nat → Prop} (hr : vx_Run p l e R s m args below meth c H locs cells slots mc ms (F0 m pc ls st0) rest (va_Qf post B A1 a) (vx_X px BX AX) free) (hS : va_S A0 H0 H locs) (hA : ∀ q, q < H.size → A1 q → A0 q) (hf : ∀ q, free q → A0 q) (hAX : ∀ q, q < H.size → AX q → A0 q)
    (kx : ∀ (E : String) (ce : Cell) (q9 : Addr) (u : SX) (t : State) (H1 : Heap) (locs1 : List Loc), t.heap = H1 → s.vm.Alike t.vm → px u → BX E u t → H.size ≤ H1.size → (∀ q : Nat, q < H.size → ¬ AX q → H1[q]? = H[q]?) → va_S A0 H0 H1 locs1 → H1[q9]? = some ce → ce.vm = .none → s.vm.findClass E = some ce.cls → vx_W p l e R s m args below meth c H1 locs1 (cells + mc) (slots + ms) Q (F0 m pc ls rest) q9)
    (kk : ∀ (r : UInt32) (u : S) (t : State) (H1 : Heap) (locs1 : List Loc), t.heap = H1 → s.vm.Alike t.vm → post r u → B u t → H.size ≤ H1.size → (∀ q : Nat, q < H.size → ¬ A1 q → H1[q]? = H[q]?) → va_S A0 H0 H1 locs1 → W p l e R s m args below meth c H1 locs1 (cells + mc) (slots + ms) Q (F0 m (pc + 3) ls (.float r :: rest))) : W p l e R s m args below meth c H locs cells slots Q (F0 m pc ls st0) := by
  intro T hT X
  rcases hr T hT X with ⟨v, st₀, t, T', L, h0, X', hL, e1, e2, ⟨⟨r, u, hv, hp, hb⟩, hF⟩, st⟩ | ⟨q, st₀, t, T', L, E, ce, h0, X', hL, e1, e2, ⟨u, hp, hb, hF⟩, hce, hcv, hcl, st⟩
  · cases hv
    obtain ⟨k1, k2, k3⟩ := vx_keep h0 e1 hS hA hf hL hF
    obtain ⟨t2, a1, b1⟩ := kk r u t T'.heap (locs ++ L) e1.symm (by rw [← e2]; exact X'.warmed.alike) hp hb k1 k2 k3 T' rfl X'
    exact ⟨t2, st t2 a1, b1⟩
  · obtain ⟨k1, k2, k3⟩ := vx_keep h0 e1 hS hAX hf hL hF
    obtain ⟨t2, a1, b1⟩ := kx E ce q u t T'.heap (locs ++ L) e1.symm (by rw [← e2]; exact X'.warmed.alike) hp hb k1 k2 k3 (by rw [e1]; exact hce) hcv hcl T' rfl X'
    exact ⟨t2, st.trans a1, b1⟩
theorem vx_calld {S SX : Type} {post : UInt64 → S → Prop} {px : SX → Prop} {B : S → State → Prop} {BX : String → SX → State → Prop} {AX : Nat → Prop} (hr : vx_Run p l e R s m args below meth c H locs cells slots mc ms (F0 m pc ls st0) rest (va_Qd post B A1 a) (vx_X px BX AX) free) (hS : va_S A0 H0 H locs) (hA : ∀ q, q < H.size → A1 q → A0 q) (hf : ∀ q, free q → A0 q) (hAX : ∀ q, q < H.size → AX q → A0 q)
    (kx : ∀ (E : String) (ce : Cell) (q9 : Addr) (u : SX) (t : State) (H1 : Heap) (locs1 : List Loc), t.heap = H1 → s.vm.Alike t.vm → px u → BX E u t → H.size ≤ H1.size → (∀ q : Nat, q < H.size → ¬ AX q → H1[q]? = H[q]?) → va_S A0 H0 H1 locs1 → H1[q9]? = some ce → ce.vm = .none → s.vm.findClass E = some ce.cls → vx_W p l e R s m args below meth c H1 locs1 (cells + mc) (slots + ms) Q (F0 m pc ls rest) q9)
    (kk : ∀ (r : UInt64) (u : S) (t : State) (H1 : Heap) (locs1 : List Loc), t.heap = H1 → s.vm.Alike t.vm → post r u → B u t → H.size ≤ H1.size → (∀ q : Nat, q < H.size → ¬ A1 q → H1[q]? = H[q]?) → va_S A0 H0 H1 locs1 → W p l e R s m args below meth c H1 locs1 (cells + mc) (slots + ms) Q (F0 m (pc + 3) ls (.double r :: rest))) : W p l e R s m args below meth c H locs cells slots Q (F0 m pc ls st0) := by
  intro T hT X
  rcases hr T hT X with ⟨v, st₀, t, T', L, h0, X', hL, e1, e2, ⟨⟨r, u, hv, hp, hb⟩, hF⟩, st⟩ | ⟨q, st₀, t, T', L, E, ce, h0, X', hL, e1, e2, ⟨u, hp, hb, hF⟩, hce, hcv, hcl, st⟩
  · cases hv
    obtain ⟨k1, k2, k3⟩ := vx_keep h0 e1 hS hA hf hL hF
    obtain ⟨t2, a1, b1⟩ := kk r u t T'.heap (locs ++ L) e1.symm (by rw [← e2]; exact X'.warmed.alike) hp hb k1 k2 k3 T' rfl X'
    exact ⟨t2, st t2 a1, b1⟩
  · obtain ⟨k1, k2, k3⟩ := vx_keep h0 e1 hS hAX hf hL hF
    obtain ⟨t2, a1, b1⟩ := kx E ce q u t T'.heap (locs ++ L) e1.symm (by rw [← e2]; exact X'.warmed.alike) hp hb k1 k2 k3 (by rw [e1]; exact hce) hcv hcl T' rfl X'
    exact ⟨t2, st.trans a1, b1⟩
theorem vx_callv {S SX : Type} {post : S → Prop} {px : SX → Prop} {B : S → State → Prop} {BX : String → SX → State → Prop} {AX : Nat → Prop} (hr : vx_Run p l e R s m args below meth c H locs cells slots mc ms (F0 m pc ls st0) rest (va_Qv post B A1 a) (vx_X px BX AX) free) (hS : va_S A0 H0 H locs) (hA : ∀ q, q < H.size → A1 q → A0 q) (hf : ∀ q, free q → A0 q) (hAX : ∀ q, q < H.size → AX q → A0 q)
    (kx : ∀ (E : String) (ce : Cell) (q9 : Addr) (u : SX) (t : State) (H1 : Heap) (locs1 : List Loc), t.heap = H1 → s.vm.Alike t.vm → px u → BX E u t → H.size ≤ H1.size → (∀ q : Nat, q < H.size → ¬ AX q → H1[q]? = H[q]?) → va_S A0 H0 H1 locs1 → H1[q9]? = some ce → ce.vm = .none → s.vm.findClass E = some ce.cls → vx_W p l e R s m args below meth c H1 locs1 (cells + mc) (slots + ms) Q (F0 m pc ls rest) q9)
    (kk : ∀ (u : S) (t : State) (H1 : Heap) (locs1 : List Loc), t.heap = H1 → s.vm.Alike t.vm → post u → B u t → H.size ≤ H1.size → (∀ q : Nat, q < H.size → ¬ A1 q → H1[q]? = H[q]?) → va_S A0 H0 H1 locs1 → W p l e R s m args below meth c H1 locs1 (cells + mc) (slots + ms) Q (F0 m (pc + 3) ls (rest))) : W p l e R s m args below meth c H locs cells slots Q (F0 m pc ls st0) := by
  intro T hT X
  rcases hr T hT X with ⟨v, st₀, t, T', L, h0, X', hL, e1, e2, ⟨⟨u, hv, hp, hb⟩, hF⟩, st⟩ | ⟨q, st₀, t, T', L, E, ce, h0, X', hL, e1, e2, ⟨u, hp, hb, hF⟩, hce, hcv, hcl, st⟩
  · cases hv
    obtain ⟨k1, k2, k3⟩ := vx_keep h0 e1 hS hA hf hL hF
    obtain ⟨t2, a1, b1⟩ := kk u t T'.heap (locs ++ L) e1.symm (by rw [← e2]; exact X'.warmed.alike) hp hb k1 k2 k3 T' rfl X'
    exact ⟨t2, st t2 a1, b1⟩
  · obtain ⟨k1, k2, k3⟩ := vx_keep h0 e1 hS hAX hf hL hF
    obtain ⟨t2, a1, b1⟩ := kx E ce q u t T'.heap (locs ++ L) e1.symm (by rw [← e2]; exact X'.warmed.alike) hp hb k1 k2 k3 (by rw [e1]; exact hce) hcv hcl T' rfl X'
    exact ⟨t2, st.trans a1, b1⟩
/-- caught by the row x of this method's table; the rows ahead don't take it -/
theorem vx_catch {own name : String} {E : String} {ce : Cell} {q : Addr} (hown : s.vm.findClass own = some m.cls) (pre : List ExceptionTableEntry) (x : ExceptionTableEntry) (suf : List ExceptionTableEntry) (hsplit : c.exceptionTable.toList = pre ++ x :: suf)
    (hpass : ∀ z ∈ pre, covers z pc = false ∨ (z.catchType ≠ 0 ∧ ∃ nm : String, (Cond.classLink own z.catchType nm).before args s = true ∧ va_Nc E nm s)) (hx : covers x pc = true) (h0 : x.catchType ≠ 0)
    (hlink : (Cond.classLink own x.catchType name).before args s = true) (hcast : (Cond.castable E name).before args s = true) (hcell : H[q]? = some ce) (hv : ce.vm = .none) (hcl : s.vm.findClass E = some ce.cls)
    (kk : W p l e R s m args below meth c H locs cells slots Q (F0 m x.handlerPc ls [.ref q])) : vx_W p l e R s m args below meth c H locs cells slots Q (F0 m pc ls rest) q := by
  intro T hT X
  have hpl : e.platform.magicAccessors = ({} : Platform).magicAccessors := by rw [X.admits.platform]
  obtain ⟨c3, c4, hc3, hc4, hasg⟩ := Cond.castable_spec hcast
  cases Option.some.inj (hc3.symm.trans hcl)
  obtain ⟨c5, hc5, hcl5⟩ := Cond.classLink_spec hown hlink e.platform hpl
  cases Option.some.inj (hc4.symm.trans hc5)
  obtain ⟨vm', X', st⟩ := X.thenCaughtThrough q (g := F0 m pc ls rest) rfl (Steps.refl _) (by rw [hT]; exact hcell) (by rw [hv]; rfl) (by obtain ⟨k9, h9, -⟩ := Vm.findClass_spec hcl; exact ⟨k9, h9⟩) pre x suf hsplit
    (fun z hz => by
      rcases hpass z hz with h | ⟨hz0, nm, hl1, hn1⟩
      · exact Or.inl h
      · obtain ⟨c6, hc6, hcl6⟩ := Cond.classLink_spec hown hl1 e.platform hpl
        obtain ⟨a8, b8, h1, h2, h3⟩ := hn1
        cases Option.some.inj (h1.symm.trans hcl)
        cases Option.some.inj (h2.symm.trans hc6)
        exact Or.inr ⟨hz0, _, hcl6, h3⟩) hx (Or.inr ⟨h0, c4, hcl5, hasg⟩)
  obtain ⟨t, a1, b1⟩ := kk (T.setVm vm') hT X'
  exact ⟨t, st.trans a1, b1⟩
end Rows
section Ends
variable {p : Program} {l : Launch} {e : Env} {R : Room} {s : State} {m : MethodId} {args : Array Value} {below : List Frame} {meth : Method} {c : Code} {H : Heap} {locs : List Loc} {cells slots : Nat} {Q : State → Prop}
variable {mc ms : Nat} {free : Addr → Prop} {A0 A1 : Nat → Prop} {H0 : Heap} {a : Array Value} {ls : Array Slot} {st0 rest : List Value}
variable {Qc : Array Value → State → Outcome → State → Prop} {XC : String → State → State → Prop}
/-- what a body that may throw owes at its end -/
def vx_MQ (below : List Frame) (Qc : Array Value → State → Outcome → State → Prop) (XC : String → State → State → Prop) (a : Array Value) (s : State) (mc ms : Nat) (free : Addr → Prop) : State → Prop := fun t =>
  ∃ o, t.status = .running ∧ Ended t below o ∧ vx_Q Qc XC mc ms free a s o t
theorem vx_ret {g : JFrame} {mc ms : Nat} (k : W p l e R s m args below meth c H locs cells slots (MQ below Qc args s mc ms free) g) : W p l e R s m args below meth c H locs cells slots (vx_MQ below Qc XC args s mc ms free) g := by
  intro T hT X
  obtain ⟨t, a1, o, b1, b2, b3, b4⟩ := k T hT X
  exact ⟨t, a1, o, b1, b2, Or.inl ⟨b3, b4⟩⟩
/-- not caught here: it goes on to the caller -/
theorem vx_widen {g : JFrame} {q : Addr} {k n : Nat} (h1 : cells ≤ k) (h2 : slots ≤ n) (kk : vx_W p l e R s m args below meth c H locs k n Q g q) : vx_W p l e R s m args below meth c H locs cells slots Q g q := fun T hT X => kk T hT (stand_widen X h1 h2)
theorem vx_out {pc : Nat} {E : String} {ce : Cell} {q : Addr} {mc ms : Nat} (hout : ∀ x ∈ c.exceptionTable.toList, covers x pc = false) (hlocks : meth.locks = false) (hcell : H[q]? = some ce) (hv : ce.vm = .none) (hcl : s.vm.findClass E = some ce.cls)
    (hx : ∀ t : State, t.heap = H → s.vm.Alike t.vm → XC E s t) (hf : ∀ z ∈ locs, free z.base) (hc : cells ≤ mc) (hs : slots ≤ ms) :
    vx_W p l e R s m args below meth c H locs cells slots (vx_MQ below Qc XC args s mc ms free) (F0 m pc ls rest) q := by
  intro T hT X
  obtain ⟨st1, hrun, hend, hW, hsm⟩ := X.leaveThrown q (g := F0 m pc ls rest) rfl rfl rfl hout hlocks
  have hcell9 : (T.setFrames (.throwing q :: below)).heap[q]? = some ce := by
    show T.heap[q]? = some ce
    rw [hT]; exact hcell
  exact ⟨_, st1, .threw q, hrun, hend, Or.inr ⟨q, rfl, E, ce, locs, hx _ hT hW.alike, hcell9, hv, hcl, hW, hsm.mono hc hs, hf⟩⟩
theorem vx_frame {U : State} {k n : Nat} (h : s.sameButNew ({ U with vm := s.vm } : State) locs k n) : s.heap.size ≤ U.heap.size ∧ ∀ q : Nat, q < s.heap.size → (∀ z ∈ locs, z.base ≠ q) → U.heap[q]? = s.heap[q]? := by
  obtain ⟨-, h2, -, -, -, h6⟩ := h
  refine ⟨h2, fun q hq hz => ?_⟩
  obtain ⟨c9, e1, e2, e3, e4⟩ := h6 q _ (Array.getElem?_eq_getElem hq)
  have hs : c9.slots = (s.heap[q]).slots := Array.ext_getElem? fun i => e4 i fun hm => hz _ hm rfl
  have h9 : c9 = s.heap[q] := by
    rw [hs] at e2
    exact e2
  have e5 : U.heap[q]? = some c9 := e1
  rw [e5, h9, Array.getElem?_eq_getElem hq]
/-- the words of a throw but the four that speak of the heap -/
def vx_no (w : Cond) : Bool := decide (w ≠ .isRef (.static Bundle.tN "UNASSIGNED_STACK" Bundle.steD)) && decide (w ≠ .isRef (.static Bundle.tN "SUPPRESSED_SENTINEL" Bundle.listD)) && decide (w ≠ .laysStatic Bundle.tN "UNASSIGNED_STACK" Bundle.steD) && decide (w ≠ .laysStatic Bundle.tN "SUPPRESSED_SENTINEL" Bundle.listD)
def vx_at0 (own : String) (ic : Nat) (X : String) (names : List String) : List Cond := (Bundle.ownAtoms0 own ic X names).filter vx_no
def vx_atS (own : String) (ic : Nat) (X : String) (names : List String) : List Cond := (Bundle.ownAtoms own ic X names).filter vx_no
/-- a word that the tables alone decide, or a good one -/
def vx_ot (w : Cond) : Bool := w.onTables || goodWord w
theorem vx_ot_at {args a' : Array Value} {s U : State} {w : Cond} (hW : s.WarmedH U.vm) (hvm : s.vm = U.vm) (hg : vx_ot w = true) (h : w.before args s = true) : w.before a' U = true := by
  simp only [vx_ot, Bool.or_eq_true] at hg
  rcases hg with hg | hg
  · exact va_tabs hg hvm h
  · exact word_at hW (good_of_word hg) h
/-- a list's words: the good ones out of the method's own list, the others by premises of their own -/
theorem vx_hat {args : Array Value} {s : State} {L B : List Cond} (h1 : ∀ w ∈ L.filter goodWord, w.before args s = true) (h2 : ∀ w ∈ L.filter (fun w => !goodWord w), w ∈ B) (h3 : ∀ w ∈ B, w.before args s = true) : ∀ w ∈ L, w.before args s = true := by
  intro w hw
  by_cases g : goodWord w = true
  · exact h1 w (List.mem_filter.mpr ⟨hw, g⟩)
  · refine h3 w (h2 w (List.mem_filter.mpr ⟨hw, ?_⟩))
    show (!goodWord w) = true
    cases hgw : goodWord w
    · rfl
    · exact absurd hgw g
theorem vx_c {args : Array Value} {s : State} {w : Cond} {B : List Cond} (h : w.before args s = true) (t : ∀ w ∈ B, w.before args s = true) : ∀ w' ∈ w :: B, w'.before args s = true := fun w' h' => (List.mem_cons.mp h').elim (fun e => by rw [e]; exact h) (t w')
theorem vx_n {args : Array Value} {s : State} : ∀ w ∈ ([] : List Cond), w.before args s = true := fun _ h => nomatch h
theorem vx_own {args : Array Value} {s : State} {L : List Cond} (h1 : ∀ w ∈ L.filter vx_no, w.before args s = true)
    (hU : (Cond.isRef (.static Bundle.tN "UNASSIGNED_STACK" Bundle.steD)).before args s = true) (hN : (Cond.isRef (.static Bundle.tN "SUPPRESSED_SENTINEL" Bundle.listD)).before args s = true)
    (lU : (Cond.laysStatic Bundle.tN "UNASSIGNED_STACK" Bundle.steD).before args s = true) (lN : (Cond.laysStatic Bundle.tN "SUPPRESSED_SENTINEL" Bundle.listD).before args s = true) : ∀ w ∈ L, w.before args s = true := by
  intro w hw
  by_cases e1 : w = .isRef (.static Bundle.tN "UNASSIGNED_STACK" Bundle.steD)
  · rw [e1]; exact hU
  · by_cases e2 : w = .isRef (.static Bundle.tN "SUPPRESSED_SENTINEL" Bundle.listD)
    · rw [e2]; exact hN
    · by_cases e3 : w = .laysStatic Bundle.tN "UNASSIGNED_STACK" Bundle.steD
      · rw [e3]; exact lU
      · by_cases e4 : w = .laysStatic Bundle.tN "SUPPRESSED_SENTINEL" Bundle.listD
        · rw [e4]; exact lN
        · exact h1 w (List.mem_filter.mpr ⟨hw, by unfold vx_no; rw [decide_eq_true e1, decide_eq_true e2, decide_eq_true e3, decide_eq_true e4]; rfl⟩)
/-- where a static field lies, its class's statics cell in H -/
def vx_L (C n d : String) (A : Nat → Prop) (U : State) (H : Heap) : Prop := ∃ (c : ClassId) (k : Class) (i : Nat) (f : Field) (a : Nat) (cell : Cell), U.vm.findClass C = some c ∧ U.fieldFound? C n d = some (c, k, i, f) ∧ f.isStatic = true ∧ k.statics = some a ∧ H[a]? = some cell ∧ cell.vm.isStatics = true ∧ cell.cls = c ∧ f.slot < cell.slots.size ∧ k.staticTypes[f.slot]? = some f.type ∧ ¬ A a
theorem vx_L.moved {C n d : String} {A : Nat → Prop} {u U : State} {H : Heap} (hvm : u.vm.Alike U.vm) (h : vx_L C n d A u H) : vx_L C n d A U H := by
  obtain ⟨c, k, i, f, a, cell, h1, h2, h3, h4, h5, h6, h7, h8, h9, h10⟩ := h
  obtain ⟨k', hi', he⟩ := State.fieldFound?_setVm hvm h2
  exact ⟨c, k', i, f, a, cell, by rw [hvm.findClass]; exact h1, hi', h3, by rw [he]; exact h4, h5, h6, h7, h8, by rw [he]; exact h9, h10⟩
theorem vx_L.kept {C n d : String} {A : Nat → Prop} {U : State} {H H1 : Heap} (h : vx_L C n d A U H) (hq : ∀ a : Nat, a < H.size → ¬ A a → H1[a]? = H[a]?) : vx_L C n d A U H1 := by
  obtain ⟨c, k, i, f, a, cell, h1, h2, h3, h4, h5, h6, h7, h8, h9, h10⟩ := h
  exact ⟨c, k, i, f, a, cell, h1, h2, h3, h4, by rw [hq a (Array.getElem?_eq_some_iff.mp h5).1 h10]; exact h5, h6, h7, h8, h9, h10⟩
theorem vx_L.narrow {C n d : String} {A B : Nat → Prop} {U : State} {H : Heap} (h : vx_L C n d A U H) (hAB : ∀ q, B q → A q) : vx_L C n d B U H := by
  obtain ⟨c, k, i, f, a, cell, h1, h2, h3, h4, h5, h6, h7, h8, h9, h10⟩ := h
  exact ⟨c, k, i, f, a, cell, h1, h2, h3, h4, h5, h6, h7, h8, h9, fun z => h10 (hAB _ z)⟩
theorem vx_L.word {C n d : String} {A : Nat → Prop} {s : State} {args : Array Value} (h : vx_L C n d A s s.heap) : (Cond.laysStatic C n d).before args s = true := by
  obtain ⟨c, k, i, f, a, cell, h1, h2, h3, h4, h5, h6, h7, h8, h9, -⟩ := h
  show (Cond.laysStatic C n d).holds args s none s [] = true
  exact Cond.laysStatic_of h1 h2 h3 h4 h5 h6 h7 h8 h9
/-- .. and what it holds: null or some reference -/
def vx_Zq (C n d : String) (A : Nat → Prop) (U : State) (H : Heap) : Prop := va_Zq C n d A U H ∧ vx_L C n d A U H
theorem vx_Zq.moved {C n d : String} {A : Nat → Prop} {u U : State} {H : Heap} (hvm : u.vm.Alike U.vm) (h : vx_Zq C n d A u H) : vx_Zq C n d A U H := ⟨va_Zq.moved hvm h.1, vx_L.moved hvm h.2⟩
theorem vx_Zq.kept {C n d : String} {A : Nat → Prop} {U : State} {H H1 : Heap} (h : vx_Zq C n d A U H) (hq : ∀ a : Nat, a < H.size → ¬ A a → H1[a]? = H[a]?) : vx_Zq C n d A U H1 := ⟨va_Zq.kept h.1 hq, vx_L.kept h.2 hq⟩
theorem vx_Zq.narrow {C n d : String} {A B : Nat → Prop} {U : State} {H : Heap} (h : vx_Zq C n d A U H) (hAB : ∀ q, B q → A q) : vx_Zq C n d B U H := ⟨va_Zq.narrow h.1 hAB, vx_L.narrow h.2 hAB⟩
theorem vx_Zqof {args : Array Value} {s : State} {C n d : String} {A : Nat → Prop} (hl : (Cond.laysStatic C n d).before args s = true) (hini : (Cond.initialized C).before args s = true) (h : (Cond.isRef (.static C n d)).before args s = true) (hA : ∀ a : Nat, a < s.heap.size → ¬ A a) : vx_Zq C n d A s s.heap := by
  refine ⟨va_Zqof hl hini h hA, ?_⟩
  obtain ⟨c, k, i, f, a, cell, h1, h2, h3, h4, h5, h6, h7, h8, h9⟩ := Cond.laysStatic_spec hl
  exact ⟨c, k, i, f, a, cell, h1, h2, h3, h4, h5, h6, h7, h8, h9, hA a (Array.getElem?_eq_some_iff.mp h5).1⟩
theorem vx_isRef {C n d : String} {v : Value} {A : Nat → Prop} {s : State} {args : Array Value} (h : va_Z C n d v A s s.heap) (hv : v.isRef = true) : (Cond.isRef (.static C n d)).before args s = true := by
  obtain ⟨cf, kf, fi, f, a, cell, h1, h2, h3, h4, h5, h6, h7, -⟩ := h
  have he : (Term.static C n d).eval args s none [] s = some v := by
    simp [Term.eval, State.fieldNamed?, h1, h2, h4, h5, h6, h7]
  simp only [Cond.before, Cond.holds, Cond.value, he]
  cases v <;> simp_all [Value.isRef]
theorem vx_isRefq {C n d : String} {A : Nat → Prop} {s : State} {args : Array Value} (h : va_Zq C n d A s s.heap) : (Cond.isRef (.static C n d)).before args s = true := by
  rcases h with h | ⟨t, h⟩
  · exact vx_isRef h rfl
  · exact vx_isRef h rfl
/-- the same frame, seen from here: as if the method were called anew in this heap -/
theorem vx_rebase {T : State} (X : Stand p l e R s m args below meth c T locs cells slots) {R' : Room} (hf : R'.frames ≤ R.frames) (hl : R'.locals ≤ R.locals) (hc : cells + R'.cells ≤ R.cells) (hs : slots + R'.slots ≤ R.slots) :
    Stand p l e R' ((T.setVm s.vm).setFrames (.invoking m args :: below)) m args below meth c T [] 0 0 := by
  have htop : (T.setVm s.vm).topJava?.isSome := X.here.top
  have hF : ((T.setVm s.vm).setFrames (.invoking m args :: below)).frames = .invoking m args :: below := State.frames_setFrames _ (State.cur_lt_of_top htop)
  obtain ⟨g₀, hg0⟩ := Option.isSome_iff_exists.mp htop
  obtain ⟨r, hr⟩ := State.topJava?_eq_some.mp hg0
  have hl9 : e.platform.stackLimits (T.setVm s.vm).me = e.platform.stackLimits s.me := X.limits
  have hb9 : (T.setVm s.vm).me.stackBytes = s.me.stackBytes := X.bytes
  refine ⟨X.admits, X.cas, X.clock, hF, ?_, X.hears, X.method, X.code, X.here, X.tail, X.warmed, ?_, ?_, ?_⟩
  · have h := X.room
    have hU : ((T.setVm s.vm).setFrames (.invoking m args :: below)).localsInUse = s.localsInUse := by
      rw [State.localsInUse_invoking hF (meth := meth) (c := c) X.method X.code, State.localsInUse_invoking X.frames X.method X.code]
    simp only [State.hasRoom, Bool.and_eq_true, decide_eq_true_eq] at h ⊢
    obtain ⟨⟨⟨⟨h1, h2, h3, h4, h5, h6⟩, h7⟩, h8⟩, h9⟩ := h
    rw [X.frames, List.length_cons] at h2 h3
    have q1 := X.heapSize
    have q2 := X.used
    simp only [hF, hU, List.length_cons, State.stackLimits_setFrames, State.stackBytes_setFrames, hl9, hb9]
    refine ⟨⟨⟨⟨by omega, by omega, by omega, by omega, by omega, h6⟩, ?_⟩, ?_⟩, X.book⟩
    · show T.heap.size + R'.cells ≤ e.platform.maxCells
      omega
    · show T.slotsUsed + R'.slots ≤ e.platform.maxSlots
      omega
  · rw [State.stackLimits_setFrames]; rfl
  · rw [State.stackBytes_setFrames]; rfl
  · refine ⟨?_, Nat.le_refl _, Nat.le_refl _, ?_, ?_, fun a c9 h9 => ⟨c9, h9, rfl, rfl, fun _ _ => rfl⟩⟩
    · obtain ⟨t, ht, -⟩ := State.frames_cons hr
      show T.setVm s.vm = { ((T.setVm s.vm).setFrames (.invoking m args :: below)).setFrames (T.setVm s.vm).frames with heap := T.heap, slotsUsed := T.slotsUsed }
      rw [State.setFrames_setFrames, State.setFrames_self ht]
      rfl
    · show T.slotsUsed = T.slotsUsed + ((T.heap.toList.drop T.heap.size).map (·.slots.size)).sum
      rw [List.drop_eq_nil_of_le (Nat.le_of_eq Array.length_toList)]
      rfl
    · show ((T.heap.toList.drop T.heap.size).map (·.slots.size)).sum ≤ 0
      rw [List.drop_eq_nil_of_le (Nat.le_of_eq Array.length_toList)]
      exact Nat.le_refl _
/-- 'throw new E()': new; dup; invokespecial; athrow -/
theorem vx_throw0 {cc : ByteArray} {pc : Nat} (hexec : p.tables.exec = Jvm.exec) (hb : c.code = cc) (hl : l.stackTraces = false) {own cls : String} {names : List String} {ik ic mc ms : Nat} {A : Nat → Prop}
    (hown : s.vm.findClass own = some m.cls) (hcls : Bundle.fit cls = true) (hnames : ∀ n ∈ names, Bundle.fit n = true)
    (hk : (Cond.classLink own ik cls).before args s = true) (hini : (Cond.initialized cls).before args s = true) (hat : ∀ w ∈ vx_at0 own ic cls names, w.before args s = true)
    (hgood : ∀ w ∈ Cond.classLink own ik cls :: Cond.initialized cls :: vx_at0 own ic cls names, vx_ot w = true)
    (hU : vx_Zq Bundle.tN "UNASSIGNED_STACK" Bundle.steD A s s.heap) (hN : vx_Zq Bundle.tN "SUPPRESSED_SENTINEL" Bundle.listD A s s.heap) (hS : va_S A s.heap H locs) (hsize : ls.size = c.maxLocals)
    (d0 : decode cc pc = .ok (.new ik, 3)) (d3 : decode cc (pc + 3) = .ok (.dup, 1)) (d4 : decode cc (pc + 4) = .ok (.invokespecial ic, 3)) (d7 : decode cc (pc + 7) = .ok (.athrow, 1))
    (hout : ∀ x ∈ c.exceptionTable.toList, covers x (pc + 7) = false)
    (hRframes : names.length + 3 < R.frames) (hRlocals : (rest.map fun v => v.category).sum + (13 * (names.length + 1) + 42) ≤ R.locals) (hRcells : cells + 1 ≤ R.cells) (hRslots : slots + 6 ≤ R.slots) (hlocks : meth.locks = false)
    (hx : ∀ t : State, s.vm.Alike t.vm → H.size ≤ t.heap.size → (∀ q : Nat, q < H.size → t.heap[q]? = H[q]?) → XC cls s t)
    (hf : ∀ z ∈ locs, free z.base) (hc : cells + 1 ≤ mc) (hs : slots + 6 ≤ ms) :
    W p l e R s m args below meth c H locs cells slots (vx_MQ below Qc XC args s mc ms free) (F0 m pc ls rest) := by
  intro T hT X
  have htr : e.platform.stackTraces = false := (show e.platform.stackTraces = l.stackTraces by rw [X.admits.platform]).trans hl
  have Y := vx_rebase X (R' := { frames := R.frames, locals := R.locals, cells := 1, slots := 6 }) (Nat.le_refl _) (Nat.le_refl _) hRcells hRslots
  obtain ⟨s', hA⟩ : ∃ z, z = (T.setVm s.vm).setFrames (.invoking m args :: below) := ⟨_, rfl⟩
  rw [← hA] at Y
  have hvm : s'.vm = s.vm := by rw [hA]; rfl
  have hhp : s'.heap = H := by rw [hA]; exact hT
  have hW0 : s.WarmedH s'.vm := by rw [hvm]; exact State.WarmedH.refl s
  have hat' : ∀ w ∈ vx_at0 own ic cls names, w.before args s' = true := fun w hw => vx_ot_at hW0 hvm.symm (hgood w (List.mem_cons_of_mem _ (List.mem_cons_of_mem _ hw))) (hat w hw)
  have hk' : (Cond.classLink own ik cls).before args s' = true := vx_ot_at hW0 hvm.symm (hgood _ List.mem_cons_self) hk
  have hini' : (Cond.initialized cls).before args s' = true := vx_ot_at hW0 hvm.symm (hgood _ (List.mem_cons_of_mem _ List.mem_cons_self)) hini
  have hU' : vx_Zq Bundle.tN "UNASSIGNED_STACK" Bundle.steD A s' s'.heap := by rw [hhp]; exact vx_Zq.moved hW0.alike (hU.kept hS.2.1)
  have hN' : vx_Zq Bundle.tN "SUPPRESSED_SENTINEL" Bundle.listD A s' s'.heap := by rw [hhp]; exact vx_Zq.moved hW0.alike (hN.kept hS.2.1)
  have h : ∀ w ∈ Bundle.ownAtoms0 own ic cls names, w.before args s' = true := vx_own hat' (vx_isRefq hU'.1) (vx_isRefq hN'.1) hU'.2.word hN'.2.word
  have hown' : s'.vm.findClass own = some m.cls := by rw [hvm]; exact hown
  have hins : (Cond.instantiable cls 6).before args s' = true := h _ (by simp [Bundle.ownAtoms0])
  obtain ⟨vm₁, cX, kX, hfX, hkX, -, -, X₁, st1⟩ := Y.newCold hexec (own := own) (C := cls) (index := ik) (n := 6) hown' hk' hins hini'
    (g := F0 m pc ls rest) rfl (by rw [hb]; exact d0) (Nat.le_refl _) (Nat.le_refl _)
  generalize hT1 : (T.setVm vm₁).pushCell { cls := cX, slots := kX.instanceTypes.map defaultValue, vm := .none } = T1 at X₁ st1
  have hcat : (Value.ref T.heap.size).category = 1 := rfl
  have hcellA : T1.heap[T.heap.size]? = some (freshCell cX kX) := by rw [← hT1]; exact State.heap_pushCell_size _ _
  have d3' : decode c.code (pc + 3) = .ok (.dup, 1) := by rw [hb]; exact d3
  obtain ⟨U, hsteps, hrun, hend, hW, hsame, ce, hce, hO⟩ := X₁.ctorThrow0 hexec htr (own := own) (cls := cls) (names := names) (ic := ic) hown' hcls hnames h (fun x hx => nomatch hx) hfX hkX hcellA (by rw [hhp, hT]; exact Nat.le_refl _)
    (g := { method := m, pc := pc + 4, locals := ls, stack := .ref T.heap.size :: .ref T.heap.size :: rest, locked := none }) rfl hsize rfl rfl (rest := rest) rfl
    (by rw [hb]; exact d4) (by rw [hb]; exact d7) hout hRframes (by simp only [List.map_cons, List.sum_cons, hcat]; omega) hlocks
  obtain ⟨f1, f2⟩ := vx_frame hsame
  rw [hhp] at f1 f2
  have hWs : s.WarmedH U.vm := State.WarmedH.trans hW0 hW
  have hcl : s.vm.findClass cls = some ce.cls := by
    have h9 := hO.cls
    rw [hvm] at h9
    exact h9
  have hall : s.sameButNew ({ U with vm := s.vm } : State) locs mc ms := by
    subst hA
    obtain ⟨e1, e2⟩ := hsame
    rw [State.setFrames_setFrames] at e1
    have h2 : (T.setVm s.vm).sameButNew ({ U with vm := s.vm } : State) [] (0 + 1) (0 + 6) := ⟨e1, e2⟩
    have h3 := X.same.trans h2
    rw [List.append_nil] at h3
    exact h3.mono hc hs
  refine ⟨U, ?_, .threw T.heap.size, hrun, hend, Or.inr ⟨T.heap.size, rfl, cls, ce, locs, hx U hWs.alike f1 (fun q hq => f2 q hq (fun z hz => nomatch hz)), hce, hO.vm, hcl, hWs, hall, hf⟩⟩
  refine st1 _ ?_
  show Steps p.tables e below (T1.setTop { method := m, pc := pc + 3, locals := ls, stack := .ref T.heap.size :: rest, locked := none }) _
  jvm_step X₁.here [X₁.here.top, hexec, d3', Value.category]
  exact hsteps
/-- 'throw new E("text")': new; dup; ldc; invokespecial; athrow -/
theorem vx_throwS {cc : ByteArray} {pc : Nat} (hexec : p.tables.exec = Jvm.exec) (hb : c.code = cc) (hl : l.stackTraces = false) {own cls text : String} {names : List String} {ik is ic mc ms sa : Nat} {A : Nat → Prop}
    (hown : s.vm.findClass own = some m.cls) (hcls : Bundle.fit cls = true) (hnames : ∀ n ∈ names, Bundle.fit n = true)
    (hk : (Cond.classLink own ik cls).before args s = true) (hini : (Cond.initialized cls).before args s = true) (hstr : vk_R own is text sa s) (hat : ∀ w ∈ vx_atS own ic cls names, w.before args s = true)
    (hgood : ∀ w ∈ Cond.classLink own ik cls :: Cond.initialized cls :: vx_atS own ic cls names, vx_ot w = true)
    (hU : vx_Zq Bundle.tN "UNASSIGNED_STACK" Bundle.steD A s s.heap) (hN : vx_Zq Bundle.tN "SUPPRESSED_SENTINEL" Bundle.listD A s s.heap) (hS : va_S A s.heap H locs) (hsize : ls.size = c.maxLocals)
    (d0 : decode cc pc = .ok (.new ik, 3)) (d3 : decode cc (pc + 3) = .ok (.dup, 1)) (d4 : decode cc (pc + 4) = .ok (.ldc is, 2)) (d6 : decode cc (pc + 6) = .ok (.invokespecial ic, 3)) (d9 : decode cc (pc + 9) = .ok (.athrow, 1))
    (hout : ∀ x ∈ c.exceptionTable.toList, covers x (pc + 9) = false)
    (hRframes : names.length + 3 < R.frames) (hRlocals : (rest.map fun v => v.category).sum + (13 * (names.length + 1) + 43) ≤ R.locals) (hRcells : cells + 1 ≤ R.cells) (hRslots : slots + 6 ≤ R.slots) (hlocks : meth.locks = false)
    (hx : ∀ t : State, s.vm.Alike t.vm → H.size ≤ t.heap.size → (∀ q : Nat, q < H.size → t.heap[q]? = H[q]?) → XC cls s t)
    (hf : ∀ z ∈ locs, free z.base) (hc : cells + 1 ≤ mc) (hs : slots + 6 ≤ ms) :
    W p l e R s m args below meth c H locs cells slots (vx_MQ below Qc XC args s mc ms free) (F0 m pc ls rest) := by
  intro T hT X
  have htr : e.platform.stackTraces = false := (show e.platform.stackTraces = l.stackTraces by rw [X.admits.platform]).trans hl
  have Y := vx_rebase X (R' := { frames := R.frames, locals := R.locals, cells := 1, slots := 6 }) (Nat.le_refl _) (Nat.le_refl _) hRcells hRslots
  obtain ⟨s', hA⟩ : ∃ z, z = (T.setVm s.vm).setFrames (.invoking m args :: below) := ⟨_, rfl⟩
  rw [← hA] at Y
  have hvm : s'.vm = s.vm := by rw [hA]; rfl
  have hhp : s'.heap = H := by rw [hA]; exact hT
  have hW0 : s.WarmedH s'.vm := by rw [hvm]; exact State.WarmedH.refl s
  have hat' : ∀ w ∈ vx_atS own ic cls names, w.before args s' = true := fun w hw => vx_ot_at hW0 hvm.symm (hgood w (List.mem_cons_of_mem _ (List.mem_cons_of_mem _ hw))) (hat w hw)
  have hk' : (Cond.classLink own ik cls).before args s' = true := vx_ot_at hW0 hvm.symm (hgood _ List.mem_cons_self) hk
  have hini' : (Cond.initialized cls).before args s' = true := vx_ot_at hW0 hvm.symm (hgood _ (List.mem_cons_of_mem _ List.mem_cons_self)) hini
  have hU' : vx_Zq Bundle.tN "UNASSIGNED_STACK" Bundle.steD A s' s'.heap := by rw [hhp]; exact vx_Zq.moved hW0.alike (hU.kept hS.2.1)
  have hN' : vx_Zq Bundle.tN "SUPPRESSED_SENTINEL" Bundle.listD A s' s'.heap := by rw [hhp]; exact vx_Zq.moved hW0.alike (hN.kept hS.2.1)
  have h : ∀ w ∈ Bundle.ownAtoms own ic cls names, w.before args s' = true := vx_own hat' (vx_isRefq hU'.1) (vx_isRefq hN'.1) hU'.2.word hN'.2.word
  have hown' : s'.vm.findClass own = some m.cls := by rw [hvm]; exact hown
  have hins : (Cond.instantiable cls 6).before args s' = true := h _ (by simp [Bundle.ownAtoms])
  obtain ⟨vm₁, cX, kX, hfX, hkX, -, -, X₁, st1⟩ := Y.newCold hexec (own := own) (C := cls) (index := ik) (n := 6) hown' hk' hins hini'
    (g := F0 m pc ls rest) rfl (by rw [hb]; exact d0) (Nat.le_refl _) (Nat.le_refl _)
  generalize hT1 : (T.setVm vm₁).pushCell { cls := cX, slots := kX.instanceTypes.map defaultValue, vm := .none } = T1 at X₁ st1
  have hcat : (Value.ref T.heap.size).category = 1 := rfl
  have hcellA : T1.heap[T.heap.size]? = some (freshCell cX kX) := by rw [← hT1]; exact State.heap_pushCell_size _ _
  have d3' : decode c.code (pc + 3) = .ok (.dup, 1) := by rw [hb]; exact d3
  have d4' : decode c.code (pc + 4) = .ok (.ldc is, 2) := by rw [hb]; exact d4
  have hstr' : vk_R own is text sa s' := vk_R.warm hW0 hstr
  obtain ⟨U, hsteps, hrun, hend, hW, hsame, ce, hce, hO⟩ := X₁.ctorThrowS hexec htr (own := own) (cls := cls) (names := names) (ic := ic) hown' hcls hnames h (fun x hx => nomatch hx) hfX hkX hcellA (by rw [hhp, hT]; exact Nat.le_refl _) (msg := .ref sa) rfl
    (g := { method := m, pc := pc + 6, locals := ls, stack := .ref sa :: .ref T.heap.size :: .ref T.heap.size :: rest, locked := none }) rfl hsize rfl rfl (rest := rest) rfl
    (by rw [hb]; exact d6) (by rw [hb]; exact d9) hout hRframes (by simp only [List.map_cons, List.sum_cons, hcat]; omega) hlocks
  obtain ⟨f1, f2⟩ := vx_frame hsame
  rw [hhp] at f1 f2
  have hWs : s.WarmedH U.vm := State.WarmedH.trans hW0 hW
  have hcl : s.vm.findClass cls = some ce.cls := by
    have h9 := hO.cls
    rw [hvm] at h9
    exact h9
  have hall : s.sameButNew ({ U with vm := s.vm } : State) locs mc ms := by
    subst hA
    obtain ⟨e1, e2⟩ := hsame
    rw [State.setFrames_setFrames] at e1
    have h2 : (T.setVm s.vm).sameButNew ({ U with vm := s.vm } : State) [] (0 + 1) (0 + 6) := ⟨e1, e2⟩
    have h3 := X.same.trans h2
    rw [List.append_nil] at h3
    exact h3.mono hc hs
  refine ⟨U, ?_, .threw T.heap.size, hrun, hend, Or.inr ⟨T.heap.size, rfl, cls, ce, locs, hx U hWs.alike f1 (fun q hq => f2 q hq (fun z hz => nomatch hz)), hce, hO.vm, hcl, hWs, hall, hf⟩⟩
  refine st1 _ ?_
  show Steps p.tables e below (T1.setTop { method := m, pc := pc + 3, locals := ls, stack := .ref T.heap.size :: rest, locked := none }) _
  jvm_step X₁.here [X₁.here.top, hexec, d3', Value.category]
  exact X₁.ldcString hexec (own := own) (text := text) (index := is) (a := sa) hown' hstr'.1 hstr'.2
    (g := { method := m, pc := pc + 4, locals := ls, stack := .ref T.heap.size :: .ref T.heap.size :: rest, locked := none }) rfl d4' _ hsteps
/-- 'throw new E("text")', the text by a wide index -/
theorem vx_throwSW {cc : ByteArray} {pc : Nat} (hexec : p.tables.exec = Jvm.exec) (hb : c.code = cc) (hl : l.stackTraces = false) {own cls text : String} {names : List String} {ik is ic mc ms sa : Nat} {A : Nat → Prop}
    (hown : s.vm.findClass own = some m.cls) (hcls : Bundle.fit cls = true) (hnames : ∀ n ∈ names, Bundle.fit n = true)
    (hk : (Cond.classLink own ik cls).before args s = true) (hini : (Cond.initialized cls).before args s = true) (hstr : vk_R own is text sa s) (hat : ∀ w ∈ vx_atS own ic cls names, w.before args s = true)
    (hgood : ∀ w ∈ Cond.classLink own ik cls :: Cond.initialized cls :: vx_atS own ic cls names, vx_ot w = true)
    (hU : vx_Zq Bundle.tN "UNASSIGNED_STACK" Bundle.steD A s s.heap) (hN : vx_Zq Bundle.tN "SUPPRESSED_SENTINEL" Bundle.listD A s s.heap) (hS : va_S A s.heap H locs) (hsize : ls.size = c.maxLocals)
    (d0 : decode cc pc = .ok (.new ik, 3)) (d3 : decode cc (pc + 3) = .ok (.dup, 1)) (d4 : decode cc (pc + 4) = .ok (.ldc_w is, 3)) (d7 : decode cc (pc + 7) = .ok (.invokespecial ic, 3)) (d10 : decode cc (pc + 10) = .ok (.athrow, 1))
    (hout : ∀ x ∈ c.exceptionTable.toList, covers x (pc + 10) = false)
    (hRframes : names.length + 3 < R.frames) (hRlocals : (rest.map fun v => v.category).sum + (13 * (names.length + 1) + 43) ≤ R.locals) (hRcells : cells + 1 ≤ R.cells) (hRslots : slots + 6 ≤ R.slots) (hlocks : meth.locks = false)
    (hx : ∀ t : State, s.vm.Alike t.vm → H.size ≤ t.heap.size → (∀ q : Nat, q < H.size → t.heap[q]? = H[q]?) → XC cls s t)
    (hf : ∀ z ∈ locs, free z.base) (hc : cells + 1 ≤ mc) (hs : slots + 6 ≤ ms) :
    W p l e R s m args below meth c H locs cells slots (vx_MQ below Qc XC args s mc ms free) (F0 m pc ls rest) := by
  intro T hT X
  have htr : e.platform.stackTraces = false := (show e.platform.stackTraces = l.stackTraces by rw [X.admits.platform]).trans hl
  have Y := vx_rebase X (R' := { frames := R.frames, locals := R.locals, cells := 1, slots := 6 }) (Nat.le_refl _) (Nat.le_refl _) hRcells hRslots
  obtain ⟨s', hA⟩ : ∃ z, z = (T.setVm s.vm).setFrames (.invoking m args :: below) := ⟨_, rfl⟩
  rw [← hA] at Y
  have hvm : s'.vm = s.vm := by rw [hA]; rfl
  have hhp : s'.heap = H := by rw [hA]; exact hT
  have hW0 : s.WarmedH s'.vm := by rw [hvm]; exact State.WarmedH.refl s
  have hat' : ∀ w ∈ vx_atS own ic cls names, w.before args s' = true := fun w hw => vx_ot_at hW0 hvm.symm (hgood w (List.mem_cons_of_mem _ (List.mem_cons_of_mem _ hw))) (hat w hw)
  have hk' : (Cond.classLink own ik cls).before args s' = true := vx_ot_at hW0 hvm.symm (hgood _ List.mem_cons_self) hk
  have hini' : (Cond.initialized cls).before args s' = true := vx_ot_at hW0 hvm.symm (hgood _ (List.mem_cons_of_mem _ List.mem_cons_self)) hini
  have hU' : vx_Zq Bundle.tN "UNASSIGNED_STACK" Bundle.steD A s' s'.heap := by rw [hhp]; exact vx_Zq.moved hW0.alike (hU.kept hS.2.1)
  have hN' : vx_Zq Bundle.tN "SUPPRESSED_SENTINEL" Bundle.listD A s' s'.heap := by rw [hhp]; exact vx_Zq.moved hW0.alike (hN.kept hS.2.1)
  have h : ∀ w ∈ Bundle.ownAtoms own ic cls names, w.before args s' = true := vx_own hat' (vx_isRefq hU'.1) (vx_isRefq hN'.1) hU'.2.word hN'.2.word
  have hown' : s'.vm.findClass own = some m.cls := by rw [hvm]; exact hown
  have hins : (Cond.instantiable cls 6).before args s' = true := h _ (by simp [Bundle.ownAtoms])
  obtain ⟨vm₁, cX, kX, hfX, hkX, -, -, X₁, st1⟩ := Y.newCold hexec (own := own) (C := cls) (index := ik) (n := 6) hown' hk' hins hini'
    (g := F0 m pc ls rest) rfl (by rw [hb]; exact d0) (Nat.le_refl _) (Nat.le_refl _)
  generalize hT1 : (T.setVm vm₁).pushCell { cls := cX, slots := kX.instanceTypes.map defaultValue, vm := .none } = T1 at X₁ st1
  have hcat : (Value.ref T.heap.size).category = 1 := rfl
  have hcellA : T1.heap[T.heap.size]? = some (freshCell cX kX) := by rw [← hT1]; exact State.heap_pushCell_size _ _
  have d3' : decode c.code (pc + 3) = .ok (.dup, 1) := by rw [hb]; exact d3
  have d4' : decode c.code (pc + 4) = .ok (.ldc_w is, 3) := by rw [hb]; exact d4
  have hstr' : vk_R own is text sa s' := vk_R.warm hW0 hstr
  obtain ⟨U, hsteps, hrun, hend, hW, hsame, ce, hce, hO⟩ := X₁.ctorThrowS hexec htr (own := own) (cls := cls) (names := names) (ic := ic) hown' hcls hnames h (fun x hx => nomatch hx) hfX hkX hcellA (by rw [hhp, hT]; exact Nat.le_refl _) (msg := .ref sa) rfl
    (g := { method := m, pc := pc + 7, locals := ls, stack := .ref sa :: .ref T.heap.size :: .ref T.heap.size :: rest, locked := none }) rfl hsize rfl rfl (rest := rest) rfl
    (by rw [hb]; exact d7) (by rw [hb]; exact d10) hout hRframes (by simp only [List.map_cons, List.sum_cons, hcat]; omega) hlocks
  obtain ⟨f1, f2⟩ := vx_frame hsame
  rw [hhp] at f1 f2
  have hWs : s.WarmedH U.vm := State.WarmedH.trans hW0 hW
  have hcl : s.vm.findClass cls = some ce.cls := by
    have h9 := hO.cls
    rw [hvm] at h9
    exact h9
  have hall : s.sameButNew ({ U with vm := s.vm } : State) locs mc ms := by
    subst hA
    obtain ⟨e1, e2⟩ := hsame
    rw [State.setFrames_setFrames] at e1
    have h2 : (T.setVm s.vm).sameButNew ({ U with vm := s.vm } : State) [] (0 + 1) (0 + 6) := ⟨e1, e2⟩
    have h3 := X.same.trans h2
    rw [List.append_nil] at h3
    exact h3.mono hc hs
  refine ⟨U, ?_, .threw T.heap.size, hrun, hend, Or.inr ⟨T.heap.size, rfl, cls, ce, locs, hx U hWs.alike f1 (fun q hq => f2 q hq (fun z hz => nomatch hz)), hce, hO.vm, hcl, hWs, hall, hf⟩⟩
  refine st1 _ ?_
  show Steps p.tables e below (T1.setTop { method := m, pc := pc + 3, locals := ls, stack := .ref T.heap.size :: rest, locked := none }) _
  jvm_step X₁.here [X₁.here.top, hexec, d3', Value.category]
  exact X₁.ldcStringW hexec (own := own) (text := text) (index := is) (a := sa) hown' hstr'.1 hstr'.2
    (g := { method := m, pc := pc + 4, locals := ls, stack := .ref T.heap.size :: .ref T.heap.size :: rest, locked := none }) rfl d4' _ hsteps
end Ends
section Bodies
variable {l : Launch}
theorem vx_ofW {y : MethodName} {ws ws' : List Cond} {rm : Room} {Pc : Array Value → State → Prop} {Qc : Array Value → State → Outcome → State → Prop} {XC : String → State → State → Prop} {mc ms : Nat} {free : Addr → Prop} {cc : ByteArray} {maxL : Nat} {ret : Option FieldType}
    (hy : plainName y.cls = true) (hw : ws = Cond.code y cc maxL ret :: ws')
    (body : ∀ p e s m args below meth c s₁, BodyLoose p l y (headSpec ws rm) cc maxL ret e s m args below meth c s₁ → c.maxLocals = maxL → (∀ x ∈ c.exceptionTable.toList, False) → Pc args s →
      W p l e (headSpec ws rm).room s m args below meth c s.heap [] 0 0 (vx_MQ below Qc XC args s mc ms free) (entryFrame m args maxL)) : vx_Met l y ws rm Pc Qc XC mc ms free := by
  refine MetFree.of_bodyS (code := cc) (maxLocals := maxL) (ret := ret) hy ?_ ?_
  · intro args s m h hn
    obtain ⟨meth, c, h1, h2, h3, h4, h5, h6, -, -⟩ := Cond.code_spec hn (atoms_spec (ws := ws) h _ (by rw [hw]; exact List.mem_cons_self))
    exact ⟨meth, c, h1, h2, h3, h4, h5, h6⟩
  · intro p e s m args below meth c s₁ B hml hP _
    have hh0 : s₁.heap = s.heap := by rw [B.state]; rfl
    have ht : ∀ x ∈ c.exceptionTable.toList, False := by
      obtain ⟨meth9, c9, h1, h2, -, -, -, -, h7, -⟩ := Cond.code_spec B.named (atoms_spec (ws := ws) B.pre _ (by rw [hw]; exact List.mem_cons_self))
      cases Option.some.inj (h1.symm.trans B.method)
      cases Option.some.inj (h2.symm.trans (Stand.of_body B).code)
      intro x hx
      rw [Array.isEmpty_iff.mp h7] at hx
      cases hx
    obtain ⟨t, a1, o, b1, b2, b3⟩ := body p e s m args below meth c s₁ B hml ht hP s₁ hh0 (Stand.of_body B)
    exact ⟨t, o, a1, b1, b2, b3⟩
/-- the table of a body with handlers -/
theorem vx_table {p : Program} {x y : MethodName} {S : Spec} {cc bytes : ByteArray} {maxL maxL' : Nat} {ret ret' : Option FieldType} {e : Env} {s s₁ : State} {m : MethodId} {args : Array Value} {below : List Frame} {meth : Method} {c : Code} {hh : List (Nat × Nat × Nat × Nat)}
    (B : BodyLoose p l y S cc maxL ret e s m args below meth c s₁) (h : (Cond.codeWith y bytes maxL' ret' hh).before args s = true) : c.exceptionTable.toList = tableOf hh := by
  obtain ⟨m9, meth9, c9, hn9, h1, h2, -, -, h6, -⟩ := Cond.codeWith_spec h
  cases Option.some.inj (hn9.symm.trans B.named)
  cases Option.some.inj (h1.symm.trans B.method)
  cases Option.some.inj (h2.symm.trans (Stand.of_body B).code)
  rw [← h6, table_eq]
end Bodies
end VXA
/-! ===== END ===== -/
/-! ===== BEGIN a static call of a method with an exception table ===== -/
section VXS
variable {p : Program} {l : Launch} {e : Env} {R : Room} {s : State} {m : MethodId} {args : Array Value} {below : List Frame} {meth : Method} {c : Code} {T : State} {H : Heap} {locs : List Loc} {cells slots : Nat}
abbrev vx_CSW (R : Room) (s : State) (args : Array Value) (own : String) (index : Nat) (y : MethodName) (bytes : ByteArray) (maxL : Nat) (ret : Option FieldType) (hh : List (Nat × Nat × Nat × Nat)) (ws : List Cond) (rm : Room) (mc ms n : Nat) : Prop :=
  (rm.cells = mc ∧ rm.slots = ms ∧ rm.frames + 1 ≤ R.frames ∧ 8 + (maxL + 11) + rm.locals ≤ R.locals ∧ (∀ w ∈ ws, ∀ (a' : Array Value) (U : State), s.WarmedH U.vm → w.before a' U = true) ∧ Cond.codeWith y bytes maxL ret hh ∈ ws) ∧
  (Cond.codeWith y bytes maxL ret hh).before args s = true ∧ (Cond.initialized y.cls).before args s = true ∧ (y.cls ≠ "java/lang/invoke/MethodHandle" ∧ y.cls ≠ "java/lang/invoke/VarHandle") ∧
  (∀ sig, parseMethodDescriptor y.desc = some sig → n = sig.parameters.length) ∧ (Cond.methodLink own index y).before args s = true ∧ (Cond.static y).before args s = true
theorem vx_cwSW {own : String} {index maxL mc ms : Nat} {y : MethodName} {bytes : ByteArray} {ret : Option FieldType} {hh : List (Nat × Nat × Nat × Nat)} {Ts ws ws' : List Cond} {rm : Room} (n : Nat) (ht : ∀ w ∈ Ts, w.before args s = true) (hT : GoodIn Ts (va_wsS own index y ws)) (hw : ws = Cond.codeWith y bytes maxL ret hh :: ws') (hrc : rm.cells = mc) (hrs : rm.slots = ms)
    (hd : y.cls ≠ "java/lang/invoke/MethodHandle" ∧ y.cls ≠ "java/lang/invoke/VarHandle" ∧ (parseMethodDescriptor y.desc).map (fun d => d.parameters.length) = some n) (hR : rm.frames + 1 ≤ R.frames ∧ 8 + (maxL + 11) + rm.locals ≤ R.locals) :
    vx_CSW R s args own index y bytes maxL ret hh ws rm mc ms n := by
  have ok : ∀ w ∈ va_wsS own index y ws, w.before args s = true := fun w h => ht w (hT w h).1
  have hG : GoodIn Ts ws := fun w h => hT w (by unfold va_wsS; exact List.mem_append_right _ h)
  have hc : Cond.codeWith y bytes maxL ret hh ∈ ws := by rw [hw]; exact List.mem_cons_self
  refine ⟨⟨hrc, hrs, hR.1, hR.2, pay_in ht hG, hc⟩, ht _ (hG _ hc).1, ok _ (by simp [va_wsS]), ⟨hd.1, hd.2.1⟩, fun sig h => ?_, ok _ (by simp [va_wsS]), ok _ (by simp [va_wsS])⟩
  have h2 := hd.2.2
  rw [h] at h2
  exact (Option.some.inj h2).symm
theorem vx_callSW (X : Stand p l e R s m args below meth c T locs cells slots) (hexec : p.tables.exec = Jvm.exec) {own : String} {index : Nat} {y : MethodName} {bytes : ByteArray} {maxL : Nat} {ret : Option FieldType} {hh : List (Nat × Nat × Nat × Nat)}
    (hown : s.vm.findClass own = some m.cls) (hlink : (Cond.methodLink own index y).before args s = true) (hstat : (Cond.static y).before args s = true) (hinit : (Cond.initialized y.cls).before args s = true)
    (hcode : (Cond.codeWith y bytes maxL ret hh).before args s = true) (hy : y.cls ≠ "java/lang/invoke/MethodHandle" ∧ y.cls ≠ "java/lang/invoke/VarHandle")
    {W9 : Nat} {Pre : Pt → Array Value → Prop} {Post : Pt → Array Value → Option Value → Pt → Prop} (hK : Back l R p e below s args y 3 W9 Pre Post)
    {g : JFrame} (hg : g.method = m) (hsize : g.locals.size = c.maxLocals) {argsL rest : List Value} (hlen : ∀ sig, parseMethodDescriptor y.desc = some sig → argsL.length = sig.parameters.length)
    (hstack : g.stack = argsL.reverse ++ rest) (hW : 2 * g.monitorRoom + (rest.map fun v => v.category).sum ≤ W9) (hdg : decode c.code g.pc = .ok (.invokestatic index, 3))
    (hpre : ∀ vm₁, s.WarmedH vm₁ → Pre ⟨T.setVm vm₁, locs, cells, slots⟩ argsL.toArray) :
    ∃ (v : Option Value) (vm₁ : Vm) (B : Pt), s.WarmedH vm₁ ∧ Stand p l e R s m args below meth c B.U B.locs B.cells B.slots ∧ Post ⟨T.setVm vm₁, locs, cells, slots⟩ argsL.toArray v B ∧
      ∀ target, Steps p.tables e below (B.U.setTop { g with pc := g.pc + 3, stack := v.toList ++ rest }) target → Steps p.tables e below (T.setTop g) target := by
  obtain ⟨mk, methM, cM, hnamed, hmethM, -, -, -, -, -, -, hsigM⟩ := Cond.codeWith_spec hcode
  have hstatic : methM.isStatic = true := Cond.static_spec hnamed hmethM hstat
  obtain ⟨kP, hkP, -⟩ := className_of_methodNamed hnamed
  have hinitP : kP.init = .initialized := Cond.initialized_spec (findClass_of_methodNamed hnamed) hkP hinit
  obtain ⟨vm₁, X₁, hstep₁⟩ := X.invokestatic hexec hown hlink hnamed hmethM hstatic hkP hinitP hy (g := g) hg (argsL := argsL) (rest := rest) (hlen _ hsigM) hstack hdg
  obtain ⟨v, B, X', hpost, hsteps⟩ := hK m meth c ⟨T.setVm vm₁, locs, cells, slots⟩ { g with stack := rest } (.invokestatic index) mk argsL.toArray X₁ hg hsize hdg hW (X₁.named hnamed) (hpre vm₁ X₁.warmed)
  exact ⟨v, vm₁, B, X₁.warmed, X', hpost, fun target h => hstep₁ _ fun acts => by rw [doInvoke_state]; exact hsteps.trans h⟩
theorem vx_runSW {y : MethodName} {bytes cc : ByteArray} {maxL nL mc ms n index : Nat} {ret : Option FieldType} {hh : List (Nat × Nat × Nat × Nat)} {ws : List Cond} {rm : Room} {Pc : Array Value → State → Prop} {Qc : Array Value → State → Outcome → State → Prop} {free : Addr → Prop} {Ts : List Cond} {own : String} {As rest : List Value} {g : JFrame}
    (S : CallFix p m c cc nL s args Ts own) (hM : Met l y ws rm Pc Qc mc ms free) (cw : vx_CSW R s args own index y bytes maxL ret hh ws rm mc ms n) (hp : PreS s H Pc As)
    (hg : g.method = m) (hn : As.length = n) (hsize : g.locals.size = nL) (hstack : g.stack = As.reverse ++ rest) (hW : 2 * g.monitorRoom + (rest.map fun v => v.category).sum ≤ 8) (hdg : decode cc g.pc = .ok (.invokestatic index, 3)) (hf : cells + mc ≤ R.cells ∧ slots + ms ≤ R.slots) :
    va_Run p l e R s m args below meth c H locs cells slots mc ms g rest (Qc As.toArray) (free) := by
  obtain ⟨⟨hrc, hrs, hfr, hlo, hws, hcw⟩, hcode, hini, hy, hlen, hl, hstt⟩ := cw
  have hK : Back l R p e below s args y 3 8 (PreOf R mc ms Pc) (PostOf Qc mc ms free) := va_backW (hh := hh) (bytes := bytes) (maxL := maxL) (ret := ret) hM hp.1 hrc hrs hfr hlo hws hcw (fun a' U hW => word_at hW (Or.inl (by first | rfl | simp [Cond.onTables, Cond.keeps, Cond.steady])) hini)
  obtain ⟨hx, hb, hml, ho, -⟩ := S
  intro T hT X
  obtain ⟨v, vm₁, ⟨U', l2, c2, s2⟩, hW₁, X', ⟨g', mk, t, L, e1, e2, hq, h1, hL, h2, h3⟩, st⟩ := vx_callSW X hx (hh := hh) (bytes := bytes) (maxL := maxL) (ret := ret) ho hl hstt hini hcode hy hK hg (hsize.trans hml.symm) (argsL := As) (rest := rest) (fun sig h => hn.trans (hlen sig h)) hstack hW (by rw [hb]; exact hdg)
    (fun vm₁ hW₁ => ⟨hf.1, hf.2, hp.2 (T.setVm vm₁) hT hW₁⟩)
  dsimp only [Pt.U, Pt.locs, Pt.cells, Pt.slots] at X' e1 e2 h1 h2 h3 st
  subst h1; subst h2; subst h3
  exact ⟨v, (T.setVm vm₁).calling g' mk As.toArray, t, U', L, hT, X', hL, e1, e2, hq, st⟩
/-- not caught here, past rows that name other classes: it goes on to the caller -/
theorem vx_outP {p : Program} {l : Launch} {e : Env} {R : Room} {s : State} {m : MethodId} {args : Array Value} {below : List Frame} {meth : Method} {c : Code} {H : Heap} {locs : List Loc} {cells slots : Nat} {free : Addr → Prop} {ls : Array Slot} {rest : List Value} {Qc : Array Value → State → Outcome → State → Prop} {XC : String → State → State → Prop}
    {pc : Nat} {own E : String} {ce : Cell} {q : Addr} {mc ms : Nat} (hown : s.vm.findClass own = some m.cls) (hlocks : meth.locks = false)
    (hpass : ∀ z ∈ c.exceptionTable.toList, covers z pc = false ∨ (z.catchType ≠ 0 ∧ ∃ nm : String, (Cond.classLink own z.catchType nm).before args s = true ∧ va_Nc E nm s)) (hcell : H[q]? = some ce) (hv : ce.vm = .none) (hcl : s.vm.findClass E = some ce.cls)
    (hx : ∀ t : State, t.heap = H → s.vm.Alike t.vm → XC E s t) (hf : ∀ z ∈ locs, free z.base) (hc : cells ≤ mc) (hs : slots ≤ ms) :
    vx_W p l e R s m args below meth c H locs cells slots (vx_MQ below Qc XC args s mc ms free) (F0 m pc ls rest) q := by
  intro T hT X
  have hpl : e.platform.magicAccessors = ({} : Platform).magicAccessors := by rw [X.admits.platform]
  obtain ⟨vm', hW', X', st⟩ := X.outThrough hlocks q (g := F0 m pc ls rest) rfl rfl rfl (cell := ce) (by rw [hT]; exact hcell) (by rw [hv]; rfl)
    (by obtain ⟨k9, h9, -⟩ := Vm.findClass_spec hcl; exact ⟨k9, h9⟩) (fun z hz => by
      rcases hpass z hz with h | ⟨hz0, nm, hl1, hn1⟩
      · exact Or.inl h
      · obtain ⟨c6, hc6, hcl6⟩ := Cond.classLink_spec hown hl1 e.platform hpl
        obtain ⟨a8, b8, h1, h2, h3⟩ := hn1
        cases Option.some.inj (h1.symm.trans hcl)
        cases Option.some.inj (h2.symm.trans hc6)
        exact Or.inr ⟨hz0, _, hcl6, h3⟩)
  obtain ⟨g₀, hfr⟩ := X'.frames_eq
  have hcell9 : ((T.setVm vm').setFrames (.throwing q :: below)).heap[q]? = some ce := by
    show T.heap[q]? = some ce
    rw [hT]; exact hcell
  have hend : Ended ((T.setVm vm').setFrames (.throwing q :: below)) below (.threw q) := State.frames_setFrames _ (State.cur_lt_of_frames hfr)
  refine ⟨(T.setVm vm').setFrames (.throwing q :: below), ?_, .threw q, X'.here.running, hend, Or.inr ⟨q, rfl, E, ce, locs, hx _ hT (X'.ends _).1.alike, hcell9, hv, hcl, (X'.ends _).1, (X'.ends _).2.mono hc hs, hf⟩⟩
  rw [X.pushThrowing_eq]
  exact st
/-- a thing of a world lies in the heap -/
theorem vx_lt {D : va_G} {cl : List vw_C} {ws : va_W} {H1 : Heap} (h : va_P D cl ws H1) {k : Nat} {q : Nat × va_E} (hk : ws[k]? = some q) : q.1 < H1.size := (h k q hk).lt
end VXS
/-! ===== END ===== -/
/-! ===== BEGIN methods with a table of their own: called by a name, returning or throwing ===== -/
end
section
/-! A THROW of NoSuchElementException, whose constructor has another entry for the one above *(the laws follow the library's ctorThrowS and the kit's vx_throwS, vx_throwSW)* -/
def xN : String := "java/util/NoSuchElementException"
def y_own (own : String) (ic : Nat) : List Cond :=
  Bundle.throwableAtoms ++ (Bundle.throwableSAtoms ++ (Bundle.passSAtoms xN "java/lang/RuntimeException" 13 prog_32_method_4_code ++ (Bundle.chainSAtoms "java/lang/RuntimeException" ["java/lang/Exception"] ++
  [.methodLink own ic (Bundle.initS xN), .instantiable xN 6, .castable xN xN, .selects xN Bundle.tFill0 Bundle.tFill0, .selects xN Bundle.tFill Bundle.tFill,
   .lays xN Bundle.tN "cause" "Ljava/lang/Throwable;", .lays xN Bundle.tN "stackTrace" Bundle.steD, .lays xN Bundle.tN "suppressedExceptions" Bundle.listD, .lays xN Bundle.tN "detailMessage" "Ljava/lang/String;",
   .isRef (.static Bundle.tN "UNASSIGNED_STACK" Bundle.steD), .isRef (.static Bundle.tN "SUPPRESSED_SENTINEL" Bundle.listD),
   .fieldLink Bundle.tN 198 Bundle.tN "backtrace" "Ljava/lang/Object;", .lays Bundle.tN Bundle.tN "backtrace" "Ljava/lang/Object;", .lays xN Bundle.tN "backtrace" "Ljava/lang/Object;"])))
theorem y_chain {args : Array Value} {s : State} {pl : Platform} (hpl : pl.magicAccessors = ({} : Platform).magicAccessors) {top : MethodId} (htop : s.methodNamed? (Bundle.initS Bundle.tN) = some top)
    (h : ∀ c ∈ Bundle.passSAtoms xN "java/lang/RuntimeException" 13 prog_32_method_4_code ++ Bundle.chainSAtoms "java/lang/RuntimeException" ["java/lang/Exception"], c.before args s = true) :
    ∃ (P1 : PassC) (Ps : List PassC), Ps.length = 2 ∧ P1.LinksS pl s ∧ (∀ P, P ∈ Ps → P.LinksS pl s) ∧ s.methodNamed? (Bundle.initS xN) = some P1.m ∧
      P1.sup = firstOf top (Ps.map (·.toPassT)) ∧ PassesOn top (Ps.map (·.toPassT)) := by
  obtain ⟨P, L, hm, hs⟩ := PassC.ofS_atoms (args := args) (s := s) hpl (X := xN) (Y := "java/lang/RuntimeException") (index := 13) (bytes := prog_32_method_4_code) (by decide +kernel) (by decide) (by decide +kernel) (by decide +kernel) (by decide +kernel) (by decide +kernel) (fun c hc => h c (List.mem_append_left _ hc))
  obtain ⟨P', Ps, hlen, L', hL, hm', hsup, hpass⟩ := Bundle.chainS (args := args) hpl htop ["java/lang/Exception"] "java/lang/RuntimeException" (by decide +kernel) (by decide +kernel) (fun c hc => h c (List.mem_append_right _ hc))
  refine ⟨P, P' :: Ps, by simp [hlen], L, ?_, hm, Option.some.inj (hs.symm.trans hm'), hsup, hpass⟩
  intro Q hQ
  rcases List.mem_cons.mp hQ with rfl | hQ
  · exact L'
  · exact hL Q hQ
set_option maxHeartbeats 2000000 in
theorem y_ctorThrow {p : Program} {l : Launch} {e : Env} {R : Room} {s : State} {m₀ : MethodId} {args : Array Value} {below : List Frame} {meth : Method} {c : Code} {W : State} {locs : List Loc} {cells slots : Nat} (X : Stand p l e R s m₀ args below meth c W locs cells slots) (hexec : p.tables.exec = Jvm.exec) (htr : e.platform.stackTraces = false) {own : String} {ic : Nat}
    (hown : s.vm.findClass own = some m₀.cls)
    (h : ∀ a ∈ y_own own ic, a.before args s = true)
    (hlocs : ∀ x ∈ locs, ∀ cell, s.heap[x.base]? = some cell → cell.vm.isStatics = false)
    {a : Addr} {cX : ClassId} {kX : Class} (hfoundX : s.vm.findClass xN = some cX) (hkX : s.vm.classes[cX]? = some kX) (hcell : W.heap[a]? = some (freshCell cX kX)) (hnew : s.heap.size ≤ a)
    {msg : Value} (hmsg : msg.isRef = true)
    {g : JFrame} (hg : g.method = m₀) (hsize : g.locals.size = c.maxLocals) (hlocked : g.locked = none) (hentered : g.entered = []) {rest : List Value} (hstack : g.stack = msg :: .ref a :: .ref a :: rest)
    (hd6 : decode c.code g.pc = .ok (.invokespecial ic, 3)) (hd9 : decode c.code (g.pc + 3) = .ok (.athrow, 1)) (hout : ∀ x ∈ c.exceptionTable.toList, covers x (g.pc + 3) = false)
    (hRframes : 2 + 3 < R.frames) (hRlocals : 2 * g.monitorRoom + ((Value.ref a :: rest).map fun v => v.category).sum + (13 * (2 + 1) + 42) ≤ R.locals) (hlocks : meth.locks = false := by first | assumption | exact BodyLoose.notSynchronized (by assumption) | exact Body.notSynchronized (by assumption)) :
    ∃ U : State, Steps p.tables e below (W.setTop g) U ∧ U.status = .running ∧ Ended U below (.threw a) ∧ s.WarmedH U.vm ∧ s.sameButNew ({ U with vm := s.vm } : State) locs cells slots ∧
      ∃ ce, U.heap[a]? = some ce ∧ s.vm.findClass xN = some ce.cls ∧ ce.vm = .none := by
  have howns : e.platform.frameOwnsMonitors = true := by rw [X.admits.platform]
  have hfin : e.platform.finalization = false := by rw [X.admits.platform]
  have hpl : e.platform.magicAccessors = ({} : Platform).magicAccessors := by rw [X.admits.platform]
  have a' : ∀ x, x ∈ y_own own ic → x.holds args s none s [] = true := fun x hx => h x hx
  obtain ⟨T, Z0, L, -, Y⟩ := ThrowableC.of_atoms (args := args) howns hfin hpl (fun x hx => h x (by simp [y_own, hx]))
  obtain ⟨Z, M, LZ, LM, hnZ⟩ := Init0T.ofS_atoms (args := args) hpl L Y (fun x hx => h x (by simp [y_own, hx]))
  obtain ⟨P1, Ps, hlen, L1, hL, hP1m, hlink1, hlink⟩ := y_chain (args := args) hpl hnZ (fun x hx => h x (by
    simp only [y_own, List.mem_append] at hx ⊢
    rcases hx with hx | hx
    · exact Or.inr (Or.inr (Or.inl hx))
    · exact Or.inr (Or.inr (Or.inr (Or.inl hx)))))
  have hfound : s.vm.findClass xN = some P1.m.cls := findClass_of_methodNamed hP1m
  cases Option.some.inj (hfoundX.symm.trans hfound)
  obtain ⟨c1, kX', hc1, hk, hord, -, -, hn6⟩ := Cond.instantiable_spec (a' (.instantiable xN 6) (by simp [y_own]))
  cases Option.some.inj (hc1.symm.trans hfound)
  cases Option.some.inj (hkX.symm.trans hk)
  have hsel0 : selectMethod e.platform s.vm P1.m.cls T.fill0 = .method T.fill0 := by
    obtain ⟨c2, r2, m2, q1, q2, q3, q4, -⟩ := Cond.selects_spec (a' (.selects xN Bundle.tFill0 Bundle.tFill0) (by simp [y_own]))
    cases Option.some.inj (q1.symm.trans hfound)
    cases Option.some.inj (q2.symm.trans (State.methodFound?_of_named Y.fill0 (by decide)))
    cases Option.some.inj (q3.symm.trans Y.fill0)
    rw [Launch.admits_selectMethod X.admits]; exact q4
  have hselF : selectMethod e.platform s.vm P1.m.cls T.fill = .method T.fill := by
    obtain ⟨c2, r2, m2, q1, q2, q3, q4, -⟩ := Cond.selects_spec (a' (.selects xN Bundle.tFill Bundle.tFill) (by simp [y_own]))
    cases Option.some.inj (q1.symm.trans hfound)
    cases Option.some.inj (q2.symm.trans (State.methodFound?_of_named Y.fill (by decide)))
    cases Option.some.inj (q3.symm.trans Y.fill)
    rw [Launch.admits_selectMethod X.admits]; exact q4
  obtain ⟨cellS0, hcS0, hiss⟩ := Y.statics
  obtain ⟨u0, hu0⟩ := Cond.staticRefV Y.unassigned L.unassignedStatic L.statics hcS0 hiss (a' (.isRef (.static Bundle.tN "UNASSIGNED_STACK" Bundle.steD)) (by simp [y_own]))
  obtain ⟨sen, hsen⟩ := Cond.staticRefV Y.sentinel L.sentinelStatic L.statics hcS0 hiss (a' (.isRef (.static Bundle.tN "SUPPRESSED_SENTINEL" Bundle.listD)) (by simp [y_own]))
  obtain ⟨ci198, i198, fB, hk198, hg198, ha198, hsB, -, hnB, htB, hffB⟩ := Cond.ownField (t := .object "java/lang/Object") Y.found L.cls (by decide +kernel) (a' (.fieldLink Bundle.tN 198 Bundle.tN "backtrace" "Ljava/lang/Object;") (by simp [y_own])) (a' (.lays Bundle.tN Bundle.tN "backtrace" "Ljava/lang/Object;") (by simp [y_own])) e.platform hpl
  obtain ⟨cellS, hcS', heS, -, hkeep⟩ := X.same.2.2.2.2.2 T.aS cellS0 hcS0
  have hcellS : W.heap[T.aS]? = some cellS := hcS'
  have hout' : ∀ i, (⟨T.aS, i⟩ : Loc) ∉ locs := fun i hmem => by
    have := hlocs _ hmem cellS0 hcS0
    rw [hiss] at this; cases this
  have hknownS : cellS.vm ≠ .unknown := by
    rw [heS]; intro hu
    rw [show cellS0.vm = .unknown from hu] at hiss
    cases hiss
  have hneS : T.aS ≠ a := Nat.ne_of_lt (Nat.lt_of_lt_of_le (Array.getElem?_eq_some_iff.mp hcS0).1 hnew)
  obtain ⟨iM, hffM⟩ := Y.msg
  obtain ⟨tyC, dC, hdC, hdnC⟩ := Cond.laysAt hfound hk Y.cause (a' (.lays xN Bundle.tN "cause" "Ljava/lang/Throwable;") (by simp [y_own]))
  obtain ⟨tyS, dS, hdS, hdnS⟩ := Cond.laysAt hfound hk Y.stack (a' (.lays xN Bundle.tN "stackTrace" Bundle.steD) (by simp [y_own]))
  obtain ⟨tyP, dP, hdP, hdnP⟩ := Cond.laysAt hfound hk Y.supp (a' (.lays xN Bundle.tN "suppressedExceptions" Bundle.listD) (by simp [y_own]))
  obtain ⟨tyM, dM, hdM, hdnM⟩ := Cond.laysAt hfound hk hffM (a' (.lays xN Bundle.tN "detailMessage" "Ljava/lang/String;") (by simp [y_own]))
  obtain ⟨tyB, dB, hdB, hdnB⟩ := Cond.laysAt hfound hk hffB (a' (.lays xN Bundle.tN "backtrace" "Ljava/lang/Object;") (by simp [y_own]))
  have bC := Cond.laysApart hdB hdC hdnB hdnC (by rw [hnB, Y.causeName]; decide)
  have bS := Cond.laysApart hdB hdS hdnB hdnS (by rw [hnB, Y.stackName]; decide)
  have bP := Cond.laysApart hdB hdP hdnB hdnP (by rw [hnB, Y.suppName]; decide)
  have hskip : SkipFacts T e.platform s (fun u => u) u0 ((preparedCellV T.toThrowableT (freshCell P1.m.cls kX) a u0 sen).withEntry W.cur) :=
    ⟨{ ci198 := ci198, i198 := i198, fBack := fB }, ⟨hk198, hg198, ha198, hsB⟩, by
      have := fresh_default (c := P1.m.cls) tyB
      rw [htB] at this
      simpa [preparedCellV, Cell.setSlot, Cell.withEntry, Array.getElem?_setIfInBounds, bC, bS, bP, bC.symm, bS.symm, bP.symm, defaultValue] using this, fun _ _ => rfl⟩
  obtain ⟨tm, methC, cdC, kC, vm₁, hnC, -, -, -, -, -, -, -, hW₁, st1⟩ := Steps.initColdS (tb := p.tables) (e := e) (below := below) (s := s) (U := W) X.here hexec X.warmed hpl hown (t := Bundle.initS xN) rfl rfl (Bundle.fit_spec (n := xN) (by decide +kernel)).2
    (a' (.methodLink own ic (Bundle.initS xN)) (by simp [y_own])) (h (.instanceMethod (Bundle.initS xN)) (by simp [y_own, Bundle.passSAtoms])) (bytes := prog_32_method_4_code) (maxL := 2) (h (.code (Bundle.initS xN) prog_32_method_4_code 2 none) (by simp [y_own, Bundle.passSAtoms]))
    (f := g) hg (a := a) (msg := msg) (rest := .ref a :: rest) hstack hd6
  cases Option.some.inj (hnC.symm.trans hP1m)
  have X₁ := X.noted hW₁
  obtain ⟨vm₂, X₂, st2⟩ := X₁.ctorMessageOffV hexec (g := { g with stack := .ref a :: rest }) hg hsize T L Z LZ M LM (P1 :: Ps)
    (fun P hP => by rcases List.mem_cons.mp hP with rfl | hP; exact L1; exact hL P hP) ⟨hlink1, hlink⟩ (u0 := u0) (sen := sen) (self := a) hmsg (cell := freshCell P1.m.cls kX) (cellS := cellS)
    hcell (fun _ => by simp) (by simp) rfl rfl hsel0 hselF hcellS hneS hknownS (by rw [hkeep _ (hout' _)]; exact hu0) (by rw [hkeep _ (hout' _)]; exact hsen)
    (Takes.of_laid hk hord tyC (by rw [Y.causeType]; rfl)) (Takes.of_laid hk hord tyS (by rw [Y.stackType]; exact fits_refV_array _ u0)) (Takes.of_laid hk hord tyP (by rw [Y.suppType]; exact fits_refV_object _ sen))
    (Takes.of_laid hk hord tyM (by rw [Y.msgType]; exact fits_refV_object _ ⟨msg, hmsg⟩)) Y.objLocals hskip htr [] hd6
    (by simp only [List.length_cons, hlen]; omega) (by simp only [List.length_cons, hlen]; exact hRlocals)
  obtain ⟨hwalk, hrun, hended, hWU, hsame⟩ := X₂.athrowLeaves hexec (g := { g with stack := .ref a :: rest, pc := g.pc + 3 }) hg hlocked hentered hout (a := a) (rest := rest) rfl hd9
  obtain ⟨c3, c4, hc3, hc4, hasg⟩ := Cond.castable_spec (a' (.castable xN xN) (by simp [y_own]))
  cases Option.some.inj (hc3.symm.trans hfound)
  cases Option.some.inj (hc4.symm.trans hfound)
  have hlt : a < ((W.setVm vm₁).setVm vm₂).heap.size := (Array.getElem?_eq_some_iff.mp hcell).1
  have hU := heapAt_setCell_self (s := (W.setVm vm₁).setVm vm₂) (plainBareV T.toThrowableT (freshCell P1.m.cls kX) a u0 sen msg) hlt
  have hnM : T.fMsg.name = "detailMessage" := (State.fieldFound?_type hffM (t := .object "java/lang/String") (by decide +kernel)).1
  refine ⟨_, st1 _ (fun acts => ?_), hrun, hended, hWU, hsame.weaken (fun y hy hlt' => ?_) (Nat.le_refl _) (Nat.le_refl _), _, hU, hfound, rfl⟩
  · rw [doInvoke_state]
    exact st2 _ hwalk
  · rcases List.mem_append.mp hy with h1 | h1
    · exact h1
    · exfalso
      have hb : y.base = a := by
        simp only [List.mem_cons, List.not_mem_nil, or_false] at h1
        rcases h1 with rfl | rfl | rfl | rfl | rfl <;> rfl
      rw [hb] at hlt'
      exact Nat.not_lt.mpr hnew hlt'
def y_at (own : String) (ic : Nat) : List Cond := (y_own own ic).filter vx_no
section YT
variable {p : Program} {l : Launch} {e : Env} {R : Room} {s : State} {m : MethodId} {args : Array Value} {below : List Frame} {meth : Method} {c : Code} {H : Heap} {locs : List Loc} {cells slots : Nat} {free : Addr → Prop} {ls : Array Slot} {rest : List Value} {Qc : Array Value → State → Outcome → State → Prop} {XC : String → State → State → Prop}
theorem y_throwS {cc : ByteArray} {pc : Nat} (hexec : p.tables.exec = Jvm.exec) (hb : c.code = cc) (hl : l.stackTraces = false) {own text : String} {ik is ic mc ms sa : Nat} {A : Nat → Prop}
    (hown : s.vm.findClass own = some m.cls) 
    (hk : (Cond.classLink own ik xN).before args s = true) (hini : (Cond.initialized xN).before args s = true) (hstr : vk_R own is text sa s) (hat : ∀ w ∈ y_at own ic, w.before args s = true)
    (hgood : ∀ w ∈ Cond.classLink own ik xN :: Cond.initialized xN :: y_at own ic, vx_ot w = true)
    (hU : vx_Zq Bundle.tN "UNASSIGNED_STACK" Bundle.steD A s s.heap) (hN : vx_Zq Bundle.tN "SUPPRESSED_SENTINEL" Bundle.listD A s s.heap) (hS : va_S A s.heap H locs) (hsize : ls.size = c.maxLocals)
    (d0 : decode cc pc = .ok (.new ik, 3)) (d3 : decode cc (pc + 3) = .ok (.dup, 1)) (d4 : decode cc (pc + 4) = .ok (.ldc is, 2)) (d6 : decode cc (pc + 6) = .ok (.invokespecial ic, 3)) (d9 : decode cc (pc + 9) = .ok (.athrow, 1))
    (hout : ∀ x ∈ c.exceptionTable.toList, covers x (pc + 9) = false)
    (hRframes : 2 + 3 < R.frames) (hRlocals : (rest.map fun v => v.category).sum + (13 * (2 + 1) + 43) ≤ R.locals) (hRcells : cells + 1 ≤ R.cells) (hRslots : slots + 6 ≤ R.slots) (hlocks : meth.locks = false)
    (hx : ∀ t : State, s.vm.Alike t.vm → H.size ≤ t.heap.size → (∀ q : Nat, q < H.size → t.heap[q]? = H[q]?) → XC xN s t)
    (hf : ∀ z ∈ locs, free z.base) (hc : cells + 1 ≤ mc) (hs : slots + 6 ≤ ms) :
    W p l e R s m args below meth c H locs cells slots (vx_MQ below Qc XC args s mc ms free) (F0 m pc ls rest) := by
  intro T hT X
  have htr : e.platform.stackTraces = false := (show e.platform.stackTraces = l.stackTraces by rw [X.admits.platform]).trans hl
  have Y := vx_rebase X (R' := { frames := R.frames, locals := R.locals, cells := 1, slots := 6 }) (Nat.le_refl _) (Nat.le_refl _) hRcells hRslots
  obtain ⟨s', hA⟩ : ∃ z, z = (T.setVm s.vm).setFrames (.invoking m args :: below) := ⟨_, rfl⟩
  rw [← hA] at Y
  have hvm : s'.vm = s.vm := by rw [hA]; rfl
  have hhp : s'.heap = H := by rw [hA]; exact hT
  have hW0 : s.WarmedH s'.vm := by rw [hvm]; exact State.WarmedH.refl s
  have hat' : ∀ w ∈ y_at own ic, w.before args s' = true := fun w hw => vx_ot_at hW0 hvm.symm (hgood w (List.mem_cons_of_mem _ (List.mem_cons_of_mem _ hw))) (hat w hw)
  have hk' : (Cond.classLink own ik xN).before args s' = true := vx_ot_at hW0 hvm.symm (hgood _ List.mem_cons_self) hk
  have hini' : (Cond.initialized xN).before args s' = true := vx_ot_at hW0 hvm.symm (hgood _ (List.mem_cons_of_mem _ List.mem_cons_self)) hini
  have hU' : vx_Zq Bundle.tN "UNASSIGNED_STACK" Bundle.steD A s' s'.heap := by rw [hhp]; exact vx_Zq.moved hW0.alike (hU.kept hS.2.1)
  have hN' : vx_Zq Bundle.tN "SUPPRESSED_SENTINEL" Bundle.listD A s' s'.heap := by rw [hhp]; exact vx_Zq.moved hW0.alike (hN.kept hS.2.1)
  have h : ∀ w ∈ y_own own ic, w.before args s' = true := vx_own hat' (vx_isRefq hU'.1) (vx_isRefq hN'.1) hU'.2.word hN'.2.word
  have hown' : s'.vm.findClass own = some m.cls := by rw [hvm]; exact hown
  have hins : (Cond.instantiable xN 6).before args s' = true := h _ (by simp [y_own])
  obtain ⟨vm₁, cX, kX, hfX, hkX, -, -, X₁, st1⟩ := Y.newCold hexec (own := own) (C := xN) (index := ik) (n := 6) hown' hk' hins hini'
    (g := F0 m pc ls rest) rfl (by rw [hb]; exact d0) (Nat.le_refl _) (Nat.le_refl _)
  generalize hT1 : (T.setVm vm₁).pushCell { cls := cX, slots := kX.instanceTypes.map defaultValue, vm := .none } = T1 at X₁ st1
  have hcat : (Value.ref T.heap.size).category = 1 := rfl
  have hcellA : T1.heap[T.heap.size]? = some (freshCell cX kX) := by rw [← hT1]; exact State.heap_pushCell_size _ _
  have d3' : decode c.code (pc + 3) = .ok (.dup, 1) := by rw [hb]; exact d3
  have d4' : decode c.code (pc + 4) = .ok (.ldc is, 2) := by rw [hb]; exact d4
  have hstr' : vk_R own is text sa s' := vk_R.warm hW0 hstr
  obtain ⟨U, hsteps, hrun, hend, hW, hsame, ce, hce, hO⟩ := y_ctorThrow X₁ hexec htr (own := own) (ic := ic) hown' h (fun x hx => nomatch hx) hfX hkX hcellA (by rw [hhp, hT]; exact Nat.le_refl _) (msg := .ref sa) rfl
    (g := { method := m, pc := pc + 6, locals := ls, stack := .ref sa :: .ref T.heap.size :: .ref T.heap.size :: rest, locked := none }) rfl hsize rfl rfl (rest := rest) rfl
    (by rw [hb]; exact d6) (by rw [hb]; exact d9) hout hRframes (by simp only [List.map_cons, List.sum_cons, hcat]; omega) hlocks
  obtain ⟨f1, f2⟩ := vx_frame hsame
  rw [hhp] at f1 f2
  have hWs : s.WarmedH U.vm := State.WarmedH.trans hW0 hW
  have hcl : s.vm.findClass xN = some ce.cls := by
    have h9 := hO.1
    rw [hvm] at h9
    exact h9
  have hall : s.sameButNew ({ U with vm := s.vm } : State) locs mc ms := by
    subst hA
    obtain ⟨e1, e2⟩ := hsame
    rw [State.setFrames_setFrames] at e1
    have h2 : (T.setVm s.vm).sameButNew ({ U with vm := s.vm } : State) [] (0 + 1) (0 + 6) := ⟨e1, e2⟩
    have h3 := X.same.trans h2
    rw [List.append_nil] at h3
    exact h3.mono hc hs
  refine ⟨U, ?_, .threw T.heap.size, hrun, hend, Or.inr ⟨T.heap.size, rfl, xN, ce, locs, hx U hWs.alike f1 (fun q hq => f2 q hq (fun z hz => nomatch hz)), hce, hO.2, hcl, hWs, hall, hf⟩⟩
  refine st1 _ ?_
  show Steps p.tables e below (T1.setTop { method := m, pc := pc + 3, locals := ls, stack := .ref T.heap.size :: rest, locked := none }) _
  jvm_step X₁.here [X₁.here.top, hexec, d3', Value.category]
  exact X₁.ldcString hexec (own := own) (text := text) (index := is) (a := sa) hown' hstr'.1 hstr'.2
    (g := { method := m, pc := pc + 4, locals := ls, stack := .ref T.heap.size :: .ref T.heap.size :: rest, locked := none }) rfl d4' _ hsteps
theorem y_throwSW {cc : ByteArray} {pc : Nat} (hexec : p.tables.exec = Jvm.exec) (hb : c.code = cc) (hl : l.stackTraces = false) {own text : String} {ik is ic mc ms sa : Nat} {A : Nat → Prop}
    (hown : s.vm.findClass own = some m.cls) 
    (hk : (Cond.classLink own ik xN).before args s = true) (hini : (Cond.initialized xN).before args s = true) (hstr : vk_R own is text sa s) (hat : ∀ w ∈ y_at own ic, w.before args s = true)
    (hgood : ∀ w ∈ Cond.classLink own ik xN :: Cond.initialized xN :: y_at own ic, vx_ot w = true)
    (hU : vx_Zq Bundle.tN "UNASSIGNED_STACK" Bundle.steD A s s.heap) (hN : vx_Zq Bundle.tN "SUPPRESSED_SENTINEL" Bundle.listD A s s.heap) (hS : va_S A s.heap H locs) (hsize : ls.size = c.maxLocals)
    (d0 : decode cc pc = .ok (.new ik, 3)) (d3 : decode cc (pc + 3) = .ok (.dup, 1)) (d4 : decode cc (pc + 4) = .ok (.ldc_w is, 3)) (d7 : decode cc (pc + 7) = .ok (.invokespecial ic, 3)) (d10 : decode cc (pc + 10) = .ok (.athrow, 1))
    (hout : ∀ x ∈ c.exceptionTable.toList, covers x (pc + 10) = false)
    (hRframes : 2 + 3 < R.frames) (hRlocals : (rest.map fun v => v.category).sum + (13 * (2 + 1) + 43) ≤ R.locals) (hRcells : cells + 1 ≤ R.cells) (hRslots : slots + 6 ≤ R.slots) (hlocks : meth.locks = false)
    (hx : ∀ t : State, s.vm.Alike t.vm → H.size ≤ t.heap.size → (∀ q : Nat, q < H.size → t.heap[q]? = H[q]?) → XC xN s t)
    (hf : ∀ z ∈ locs, free z.base) (hc : cells + 1 ≤ mc) (hs : slots + 6 ≤ ms) :
    W p l e R s m args below meth c H locs cells slots (vx_MQ below Qc XC args s mc ms free) (F0 m pc ls rest) := by
  intro T hT X
  have htr : e.platform.stackTraces = false := (show e.platform.stackTraces = l.stackTraces by rw [X.admits.platform]).trans hl
  have Y := vx_rebase X (R' := { frames := R.frames, locals := R.locals, cells := 1, slots := 6 }) (Nat.le_refl _) (Nat.le_refl _) hRcells hRslots
  obtain ⟨s', hA⟩ : ∃ z, z = (T.setVm s.vm).setFrames (.invoking m args :: below) := ⟨_, rfl⟩
  rw [← hA] at Y
  have hvm : s'.vm = s.vm := by rw [hA]; rfl
  have hhp : s'.heap = H := by rw [hA]; exact hT
  have hW0 : s.WarmedH s'.vm := by rw [hvm]; exact State.WarmedH.refl s
  have hat' : ∀ w ∈ y_at own ic, w.before args s' = true := fun w hw => vx_ot_at hW0 hvm.symm (hgood w (List.mem_cons_of_mem _ (List.mem_cons_of_mem _ hw))) (hat w hw)
  have hk' : (Cond.classLink own ik xN).before args s' = true := vx_ot_at hW0 hvm.symm (hgood _ List.mem_cons_self) hk
  have hini' : (Cond.initialized xN).before args s' = true := vx_ot_at hW0 hvm.symm (hgood _ (List.mem_cons_of_mem _ List.mem_cons_self)) hini
  have hU' : vx_Zq Bundle.tN "UNASSIGNED_STACK" Bundle.steD A s' s'.heap := by rw [hhp]; exact vx_Zq.moved hW0.alike (hU.kept hS.2.1)
  have hN' : vx_Zq Bundle.tN "SUPPRESSED_SENTINEL" Bundle.listD A s' s'.heap := by rw [hhp]; exact vx_Zq.moved hW0.alike (hN.kept hS.2.1)
  have h : ∀ w ∈ y_own own ic, w.before args s' = true := vx_own hat' (vx_isRefq hU'.1) (vx_isRefq hN'.1) hU'.2.word hN'.2.word
  have hown' : s'.vm.findClass own = some m.cls := by rw [hvm]; exact hown
  have hins : (Cond.instantiable xN 6).before args s' = true := h _ (by simp [y_own])
  obtain ⟨vm₁, cX, kX, hfX, hkX, -, -, X₁, st1⟩ := Y.newCold hexec (own := own) (C := xN) (index := ik) (n := 6) hown' hk' hins hini'
    (g := F0 m pc ls rest) rfl (by rw [hb]; exact d0) (Nat.le_refl _) (Nat.le_refl _)
  generalize hT1 : (T.setVm vm₁).pushCell { cls := cX, slots := kX.instanceTypes.map defaultValue, vm := .none } = T1 at X₁ st1
  have hcat : (Value.ref T.heap.size).category = 1 := rfl
  have hcellA : T1.heap[T.heap.size]? = some (freshCell cX kX) := by rw [← hT1]; exact State.heap_pushCell_size _ _
  have d3' : decode c.code (pc + 3) = .ok (.dup, 1) := by rw [hb]; exact d3
  have d4' : decode c.code (pc + 4) = .ok (.ldc_w is, 3) := by rw [hb]; exact d4
  have hstr' : vk_R own is text sa s' := vk_R.warm hW0 hstr
  obtain ⟨U, hsteps, hrun, hend, hW, hsame, ce, hce, hO⟩ := y_ctorThrow X₁ hexec htr (own := own) (ic := ic) hown' h (fun x hx => nomatch hx) hfX hkX hcellA (by rw [hhp, hT]; exact Nat.le_refl _) (msg := .ref sa) rfl
    (g := { method := m, pc := pc + 7, locals := ls, stack := .ref sa :: .ref T.heap.size :: .ref T.heap.size :: rest, locked := none }) rfl hsize rfl rfl (rest := rest) rfl
    (by rw [hb]; exact d7) (by rw [hb]; exact d10) hout hRframes (by simp only [List.map_cons, List.sum_cons, hcat]; omega) hlocks
  obtain ⟨f1, f2⟩ := vx_frame hsame
  rw [hhp] at f1 f2
  have hWs : s.WarmedH U.vm := State.WarmedH.trans hW0 hW
  have hcl : s.vm.findClass xN = some ce.cls := by
    have h9 := hO.1
    rw [hvm] at h9
    exact h9
  have hall : s.sameButNew ({ U with vm := s.vm } : State) locs mc ms := by
    subst hA
    obtain ⟨e1, e2⟩ := hsame
    rw [State.setFrames_setFrames] at e1
    have h2 : (T.setVm s.vm).sameButNew ({ U with vm := s.vm } : State) [] (0 + 1) (0 + 6) := ⟨e1, e2⟩
    have h3 := X.same.trans h2
    rw [List.append_nil] at h3
    exact h3.mono hc hs
  refine ⟨U, ?_, .threw T.heap.size, hrun, hend, Or.inr ⟨T.heap.size, rfl, xN, ce, locs, hx U hWs.alike f1 (fun q hq => f2 q hq (fun z hz => nomatch hz)), hce, hO.2, hcl, hWs, hall, hf⟩⟩
  refine st1 _ ?_
  show Steps p.tables e below (T1.setTop { method := m, pc := pc + 3, locals := ls, stack := .ref T.heap.size :: rest, locked := none }) _
  jvm_step X₁.here [X₁.here.top, hexec, d3', Value.category]
  exact X₁.ldcStringW hexec (own := own) (text := text) (index := is) (a := sa) hown' hstr'.1 hstr'.2
    (g := { method := m, pc := pc + 4, locals := ls, stack := .ref T.heap.size :: .ref T.heap.size :: rest, locked := none }) rfl d4' _ hsteps
end YT
end
