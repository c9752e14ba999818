/-! NEW CELLS over the small machine -/
theorem m_fR_congr {ad ad' : Nat → Nat} {n : Nat} (h : ∀ k, (k < n ∨ m_X0 ≤ k) → ad k = ad' k) {vs : List Value} (hv : ∀ v ∈ vs, m_vOk n v) : m_fR ad vs = m_fR ad' vs := by
  funext j
  unfold m_fR
  rw [List.getD_eq_getElem?_getD]
  cases hj : vs[j]? with
  | none => rfl
  | some v =>
    have hm := hv v (List.mem_of_getElem? hj)
    cases v <;> first | rfl | exact congrArg some (h _ hm)
theorem m_E_congr {ad ad' : Nat → Nat} {aC : Nat → ClassId} {n : Nat} (h : ∀ k, (k < n ∨ m_X0 ≤ k) → ad k = ad' k) {c : m_C} (hv : ∀ v ∈ c.2, m_vOk n v) : m_E ad aC c = m_E ad' aC c := by
  obtain ⟨kd, vs⟩ := c
  cases kd with
  | inl t =>
    show Sum.inl (aC t, m_arr ad t vs) = Sum.inl (aC t, m_arr ad' t vs)
    unfold m_arr
    rw [m_fR_congr h hv]
  | inr ci =>
    show Sum.inr (ci, vs.map (m_re ad)) = Sum.inr (ci, vs.map (m_re ad'))
    congr 2
    exact List.map_congr_left fun v hq => m_re_congr h (hv v hq)
theorem m_W_congr {ad ad' : Nat → Nat} {aC : Nat → ClassId} {n : Nat} {σ : m_H} (h : ∀ k, (k < n ∨ m_X0 ≤ k) → ad k = ad' k) (hl : σ.length ≤ n) (hh : m_hOk n σ) : m_W ad aC σ = m_W ad' aC σ := by
  apply List.ext_getElem?
  intro i
  simp only [m_W, List.getElem?_mapIdx]
  cases hi : σ[i]? with
  | none => rfl
  | some c =>
    have hlt := (List.getElem?_eq_some_iff.mp hi).1
    simp only [Option.map_some]
    rw [h i (Or.inl (by omega)), m_E_congr h (hh c (List.mem_of_getElem? hi))]
def m_up (ad : Nat → Nat) (n q : Nat) : Nat → Nat := fun k => if k = n then q else ad k
theorem m_up_agree {ad : Nat → Nat} {n q : Nat} (hX : n < m_X0) : ∀ k, (k < n ∨ m_X0 ≤ k) → ad k = m_up ad n q k := fun k hk => by
  unfold m_up
  rw [if_neg (by omega)]
section MN
variable {p : Program} {l : Launch} {e : Env} {R : Room} {s : State} {m : MethodId} {args : Array Value} {below : List Frame} {meth : Method} {c : Code} {QQ : State → Prop} {dC : Nat → ClassId} {dI : Nat → Nat → Nat} {aC : Nat → ClassId} {A : Nat → Prop} {n0 : Nat} {ad0 xa : Nat → Nat} {nL : Nat} {cc : ByteArray} {own : String} {X : Nat → Option (List Int32)} {Y : (Nat → Prop) → State → Heap → Prop}
variable {σ : m_H} {ce sl pc : Nat} {ls : List (Nat × Value)} {st : List Value}
theorem m_grow {ad : Nat → Nat} {H1 : Heap} {locs1 : List Loc} {lsC : Array Slot} {q ce' sl' pc' : Nat} {kc : m_C} (hn0 : n0 ≤ σ.length) (hX : σ.length < m_X0) (hh : m_hOk σ.length σ) (hol : ∀ q ∈ ls, m_vOk σ.length q.2) (ho : ∀ v ∈ st, m_vOk σ.length v) (hk : ∀ v ∈ kc.2, m_vOk σ.length v)
    (h1 : ∀ k, k < n0 → ad k = ad0 k) (h2 : ∀ k, ad (m_X0 + k) = xa k) (h3 : va_P (dC, dI) vwCl (m_W ad aC σ ++ [(q, m_E ad aC kc)]) H1) (h4 : va_D A (m_W ad aC σ ++ [(q, m_E ad aC kc)])) (h5 : va_S A s.heap H1 locs1) (h6 : lv_has lsC nL (m_lv ad ls))
    (k : mV p l e R s m args below meth c QQ dC dI aC A n0 ad0 xa nL (σ ++ [kc], ce', sl', pc', ls, .ref σ.length :: st)) : W p l e R s m args below meth c H1 locs1 ce' sl' QQ (F0 m pc' lsC (.ref q :: st.map (m_re ad))) := by
  have hag := m_up_agree (ad := ad) (q := q) hX
  have e1 : m_W ad aC σ ++ [(q, m_E ad aC kc)] = m_W (m_up ad σ.length q) aC (σ ++ [kc]) := by
    rw [m_W_push, m_W_congr hag (Nat.le_refl _) hh, m_E_congr hag hk]
    show _ = _ ++ [(m_up ad σ.length q σ.length, _)]
    rw [show m_up ad σ.length q σ.length = q from if_pos rfl]
  have e2 : m_lv ad ls = m_lv (m_up ad σ.length q) ls := List.map_congr_left fun z hz => by rw [m_re_congr hag (hol z hz)]
  have e3 : st.map (m_re ad) = st.map (m_re (m_up ad σ.length q)) := List.map_congr_left fun v hv => m_re_congr hag (ho v hv)
  have e4 : Value.ref q :: st.map (m_re ad) = (Value.ref σ.length :: st).map (m_re (m_up ad σ.length q)) := by
    rw [List.map_cons, ← e3]
    show _ = Value.ref (m_up ad σ.length q σ.length) :: _
    rw [show m_up ad σ.length q σ.length = q from if_pos rfl]
  rw [e1] at h3 h4
  rw [e2] at h6
  rw [e4]
  exact k (m_up ad σ.length q) H1 locs1 lsC (fun j hj => (hag j (Or.inl (by omega))).symm.trans (h1 j hj)) (fun j => (hag _ (Or.inr (Nat.le_add_right _ _))).symm.trans (h2 j)) h3 h4 h5 h6
theorem mV_new (hC : m_Ctx p s m args meth c cc nL own dC dI aC A xa X Y) {ci idx : Nat} {r : vw_C} {fs : List Value} (hd : decode cc pc = .ok (.new idx, 3)) (hc : vwCl[ci]? = some r) (w1 : Cond.classLink own idx r.1 ∈ a_tb) (w2 : Cond.instantiable r.1 r.2.2 ∈ a_tb) (w3 : Cond.initialized r.1 ∈ a_tb) (hfs : ∀ j, j < r.2.2 → defaultValue (a_ty ci j) = vp_V fs j) (hre : ∀ ad, fs.map (m_re ad) = fs) (hce : ce + 1 ≤ R.cells) (hsl : sl + r.2.2 ≤ R.slots)
    (hn0 : n0 ≤ σ.length) (hX : σ.length < m_X0) (hh : m_hOk σ.length σ) (hol : ∀ q ∈ ls, m_vOk σ.length q.2) (ho : ∀ v ∈ st, m_vOk σ.length v) (hk : ∀ v ∈ fs, m_vOk σ.length v) (k : mV p l e R s m args below meth c QQ dC dI aC A n0 ad0 xa nL (σ ++ [(.inr ci, fs)], ce + 1, sl + r.2.2, pc + 3, ls, .ref σ.length :: st)) : mV p l e R s m args below meth c QQ dC dI aC A n0 ad0 xa nL (σ, ce, sl, pc, ls, st) := by
  intro ad H locs lsC h1 h2 h3 h4 h5 h6
  refine va_new hC.1 hC.2.1 hC.2.2.2.2.1 (a_cls hc) (a_ty ci) (a_cls2 hc).1 hC.2.2.2.1 (m_ctb hC w1) (m_ctb hC w2) (m_ctb hC w3) hC.2.2.2.2.2.1 h3 h4 h5 hC.2.2.2.2.2.2.1 hc hfs hce hsl hd (fun q H1 g3 g4 g5 => ?_)
  have ee : (Sum.inr (ci, fs) : va_E) = m_E ad aC (.inr ci, fs) := by
    show _ = Sum.inr (ci, fs.map (m_re ad))
    rw [hre]
  rw [ee] at g3 g4
  exact m_grow hn0 hX hh hol ho hk h1 h2 g3 g4 g5 h6 k
theorem m_cls_eq {t : Nat} {cA : ClassId} (hK : va_K (dC, dI) vwCl (m_tys aC) s) (hK2 : va_K (dC, dI) vwCl (m_tys aC ++ [(cA, m_ty t)]) s) (ht : t ≤ 5) : cA = aC t := by
  have h1 := (hK.2 t _ (m_tys_at aC ht)).2
  have h2 := (hK2.2 6 (cA, m_ty t) rfl).2
  rcases (show t = 0 ∨ t = 1 ∨ t = 2 ∨ t = 3 ∨ t = 4 ∨ t = 5 by omega) with rfl | rfl | rfl | rfl | rfl | rfl
  · exact Option.some.inj (h2.symm.trans h1)
  · exact Option.some.inj (h2.symm.trans h1)
  · exact Option.some.inj (h2.symm.trans h1)
  · exact Option.some.inj (h2.symm.trans h1)
  · exact Option.some.inj (h2.symm.trans h1)
  · obtain ⟨_, _, _, _, _, g1⟩ := h1
    obtain ⟨_, _, _, _, _, g2⟩ := h2
    exact Option.some.inj (g2.symm.trans g1)
theorem m_arr_cell {ad : Nat → Nat} {t N : Nat} (ht : t ≤ 4) (cA : ClassId) : vp_cell cA (m_arr ad t (List.replicate N (defaultValue (m_ty t)))) = arrV cA N (fun _ => defaultValue (m_ty t)) := by
  have hI : m_fI (List.replicate N (.int 0)) = fun _ => 0 := by
    funext j
    unfold m_fI
    rw [List.getD_eq_getElem?_getD, List.getElem?_replicate]
    split <;> rfl
  have hL : m_fL (List.replicate N (.long 0)) = fun _ => 0 := by
    funext j
    unfold m_fL
    rw [List.getD_eq_getElem?_getD, List.getElem?_replicate]
    split <;> rfl
  rcases (show t = 0 ∨ t = 1 ∨ t = 2 ∨ t = 3 ∨ t = 4 by omega) with rfl | rfl | rfl | rfl | rfl
  · show vp_cell cA (_, Sum.inl (m_fI (List.replicate N (.int 0)))) = _
    rw [hI, List.length_replicate]; rfl
  · show vp_cell cA (_, Sum.inl (m_fI (List.replicate N (.int 0)))) = _
    rw [hI, List.length_replicate]; rfl
  · show vp_cell cA (_, Sum.inl (m_fI (List.replicate N (.int 0)))) = _
    rw [hI, List.length_replicate]; rfl
  · show vp_cell cA (_, Sum.inl (m_fI (List.replicate N (.int 0)))) = _
    rw [hI, List.length_replicate]; rfl
  · show vp_cell cA (_, Sum.inr (Sum.inl (m_fL (List.replicate N (.long 0))))) = _
    rw [hL, List.length_replicate]; rfl
theorem m_dv_ok {t n : Nat} (ht : t ≤ 5) : m_vOk n (defaultValue (m_ty t)) := by
  rcases (show t = 0 ∨ t = 1 ∨ t = 2 ∨ t = 3 ∨ t = 4 ∨ t = 5 by omega) with rfl | rfl | rfl | rfl | rfl | rfl <;> trivial
theorem mV_newa (hC : m_Ctx p s m args meth c cc nL own dC dI aC A xa X Y) {t : Nat} {atype : Jvm.ClassFile.ArrayType} {n : Int32} {N : Nat} (hd : decode cc pc = .ok (.newarray atype, 2)) (hw : Cond.arrayClass (newarray.typeOf atype) ∈ a_tb) (ht : t ≤ 4) (hty : newarray.typeOf atype = m_ty t) (hn : ¬ n < 0) (hN : n.toNatClampNeg = N) (hb : N * componentBytes (m_ty t) ≤ 536870912) (hce : ce + 1 ≤ R.cells) (hsl : sl + N ≤ R.slots)
    (hn0 : n0 ≤ σ.length) (hX : σ.length < m_X0) (hh : m_hOk σ.length σ) (hol : ∀ q ∈ ls, m_vOk σ.length q.2) (ho : ∀ v ∈ st, m_vOk σ.length v) (k : mV p l e R s m args below meth c QQ dC dI aC A n0 ad0 xa nL (σ ++ [(.inl t, List.replicate N (defaultValue (m_ty t)))], ce + 1, sl + N, pc + 2, ls, .ref σ.length :: st)) : mV p l e R s m args below meth c QQ dC dI aC A n0 ad0 xa nL (σ, ce, sl, pc, ls, .int n :: st) := by
  intro ad H locs lsC h1 h2 h3 h4 h5 h6
  refine va_newa hC.1 hC.2.1 (m_ctb hC hw) hty hC.2.2.2.2.2.1 h3 h4 h5 hC.2.2.2.2.2.2.1 (m_arr_cell (ad := ad) ht) hn hN hb hce hsl hd (fun q cA H1 gK g3 g4 g5 => ?_)
  have hcA := m_cls_eq hC.2.2.2.2.2.1 gK (by omega)
  subst hcA
  exact m_grow (kc := (.inl t, List.replicate N (defaultValue (m_ty t)))) hn0 hX hh hol ho (fun v hv => by rw [List.eq_of_mem_replicate hv]; exact m_dv_ok (by omega)) h1 h2 g3 g4 g5 h6 k
theorem mV_newq (hC : m_Ctx p s m args meth c cc nL own dC dI aC A xa X Y) {idx : Nat} {n : Int32} {N : Nat} (hAO : va_AO "LetByTheDegree$State" s) (hd : decode cc pc = .ok (.anewarray idx, 3)) (hw : Cond.classLink own idx "LetByTheDegree$State" ∈ a_tb) (hn : ¬ n < 0) (hN : n.toNatClampNeg = N) (hb : N * 4 ≤ 536870912) (hce : ce + 1 ≤ R.cells) (hsl : sl + N ≤ R.slots)
    (hn0 : n0 ≤ σ.length) (hX : σ.length < m_X0) (hh : m_hOk σ.length σ) (hol : ∀ q ∈ ls, m_vOk σ.length q.2) (ho : ∀ v ∈ st, m_vOk σ.length v) (k : mV p l e R s m args below meth c QQ dC dI aC A n0 ad0 xa nL (σ ++ [(.inl 5, List.replicate N .null)], ce + 1, sl + N, pc + 3, ls, .ref σ.length :: st)) : mV p l e R s m args below meth c QQ dC dI aC A n0 ad0 xa nL (σ, ce, sl, pc, ls, .int n :: st) := by
  intro ad H locs lsC h1 h2 h3 h4 h5 h6
  refine va_newq hC.1 hC.2.1 hC.2.2.2.1 (m_ctb hC hw) hAO hC.2.2.2.2.2.1 h3 h4 h5 hC.2.2.2.2.2.2.1 hn hN hb hce hsl hd (fun q cA H1 gK g3 g4 g5 => ?_)
  have hcA := m_cls_eq (t := 5) hC.2.2.2.2.2.1 gK (by omega)
  subst hcA
  have ee : (Sum.inl (aC 5, N, .inr (.inr (.inr (.inr (fun _ => none))))) : va_E) = m_E ad aC (.inl 5, List.replicate N .null) := by
    have hR : m_fR ad (List.replicate N Value.null) = fun _ => none := by
      funext j
      unfold m_fR
      rw [List.getD_eq_getElem?_getD, List.getElem?_replicate]
      split <;> rfl
    show _ = Sum.inl (aC 5, (List.replicate N Value.null).length, Sum.inr (Sum.inr (Sum.inr (Sum.inr (m_fR ad (List.replicate N Value.null))))))
    rw [hR, List.length_replicate]
  rw [ee] at g3 g4
  exact m_grow hn0 hX hh hol ho (fun v hv => by rw [List.eq_of_mem_replicate hv]; trivial) h1 h2 g3 g4 g5 h6 k
end MN
