/-! CALLS AND RETURNS over both -/
def m_QZ (below : List Frame) (dC : Nat → ClassId) (dI : Nat → Nat → Nat) (aC : Nat → ClassId) (xa ad : Nat → Nat) (sz : Nat) (σ : m_H) (Q : Option Value → m_H → Prop) (args : Array Value) (s : State) (mc ms : Nat) (A : Nat → Prop) : z_Q → State → Prop := fun rz => MQ below (m_Qc dC dI aC xa ad sz σ (fun r1 σ1 => Q r1 σ1 ∧ z_ok σ1 ∧ rz = (z_m σ1, r1.map z_v))) args s mc ms A
/-- from the cells σ and these arguments the method comes back, within d frames, mc cells and ms slots; what it gives and leaves is Q's, and is what its plain numbers come to -/
noncomputable def m_K (yi : Nat) (l : Launch) (X : Nat → Option (List Int32)) (Y : (Nat → Prop) → State → Heap → Prop) (xa : Nat → Nat) (d : Nat) (y : MethodName) (b : ByteArray) (n : Nat) (r : Option FieldType) (σ : m_H) (as : List Value) (Q : Option Value → m_H → Prop) (mc ms : Nat) : Prop :=
  z_ok σ → v_K l X Y xa d y b n r σ as (fun r1 σ1 => Q r1 σ1 ∧ z_ok σ1 ∧ z_Ev yi (z_m σ, 0, z_fr yi (z_s as), []) (z_m σ1, r1.map z_v)) mc ms
theorem m_K_of {yi : Nat} {K : List (List a_K)} (hK : kt_at yi = K) {l : Launch} {X : Nat → Option (List Int32)} {Y : (Nat → Prop) → State → Heap → Prop} {xa : Nat → Nat} {d : Nat} {y : MethodName} {b : ByteArray} {n : Nat} {r : Option FieldType} {σ : m_H} {as : List Value} {Q : Option Value → m_H → Prop} {mc ms : Nat} (hy : plainFor y = true) (hlen : (lg_sl as).length ≤ n) (hnl : Nat.ble n (z_nl yi) = true)
    (body : ∀ (p : Program) (e : Env) (s : State) (m : MethodId) (args : Array Value) (below : List Frame) (meth : Method) (c : Code) (dC : Nat → ClassId) (dI : Nat → Nat → Nat) (aC : Nat → ClassId) (ad : Nat → Nat) (sz : Nat), m_Ctx p s m args meth c b n y.cls dC dI aC (va_A (m_W ad aC σ) sz) xa X Y → meth.name = y.name → meth.sig.returnType = r →
      mW K (z_Ev yi) p l e (m_rm d mc ms) s m args below meth c (m_QZ below dC dI aC xa ad sz σ Q args s mc ms (va_A (m_W ad aC σ) sz)) dC dI aC (va_A (m_W ad aC σ) sz) σ.length ad xa n (σ, 0, 0, 0, lv_args 0 as, [])) : m_K yi l X Y xa d y b n r σ as Q mc ms := by
  intro hz
  subst hK
  refine v_K_of hy hlen (fun p e s m args below meth c dC dI aC ad sz hC hn hr => ?_)
  refine mV_mono (fun t ht => ?_) (body p e s m args below meth c dC dI aC ad sz hC hn hr (z_cl_Ev yi) hz (z_fr yi (z_s as)) (z_fr_ok (Nat.le_of_ble_eq_true hnl)))
  obtain ⟨rz, h1, o, a1, a2, a3, a4⟩ := ht
  refine ⟨o, a1, a2, ?_, a4⟩
  obtain ⟨⟨r1, σ1, ad1, b1, ⟨b2, b3, b4⟩, b5⟩, b6⟩ := a3
  refine ⟨⟨r1, σ1, ad1, b1, ⟨b2, b3, ?_⟩, b5⟩, b6⟩
  rw [← b4]
  exact h1
theorem m_K.v {yi : Nat} {l : Launch} {X : Nat → Option (List Int32)} {Y : (Nat → Prop) → State → Heap → Prop} {xa : Nat → Nat} {d : Nat} {y : MethodName} {b : ByteArray} {n : Nat} {r : Option FieldType} {σ : m_H} {as : List Value} {Q : Option Value → m_H → Prop} {mc ms : Nat} (h : m_K yi l X Y xa d y b n r σ as Q mc ms) (hz : z_ok σ) : v_K l X Y xa d y b n r σ as Q mc ms := (h hz).mono fun _ _ q => q.1
theorem m_K.E {yi : Nat} {l : Launch} {X : Nat → Option (List Int32)} {Y : (Nat → Prop) → State → Heap → Prop} {xa : Nat → Nat} {d : Nat} {y : MethodName} {b : ByteArray} {n : Nat} {r : Option FieldType} {σ : m_H} {as : List Value} {Q : Option Value → m_H → Prop} {mc ms : Nat} (h : m_K yi l X Y xa d y b n r σ as Q mc ms) : m_K yi l X Y xa d y b n r σ as (fun r1 σ1 => Q r1 σ1 ∧ z_ok σ1 ∧ z_Ev yi (z_m σ, 0, z_fr yi (z_s as), []) (z_m σ1, r1.map z_v)) mc ms := fun hz => (h hz).mono fun _ _ q => ⟨q, q.2⟩
theorem z_s_call {as st : List Value} {v : Value} : z_s (as.reverse ++ v :: st) = ((z_s as).reverse ++ [z_v v]) ++ z_s st := by
  simp [z_s, List.map_append, List.map_reverse]
theorem z_callV {pc idx j yi w ne fl q : Nat} {as st : List Value} (hnp : z_np yi = as.length) : z_call (pc, .invokevirtual idx, 3, fl, [j, yi, w, ne]) (z_s (as.reverse ++ .ref q :: st)) = some (yi, z_s (.ref q :: as), z_s st) := by
  have hl : ((z_s as).reverse ++ [z_v (.ref q)]).length = z_np yi + 1 := by simp [z_s, hnp]
  show (bif Nat.ble (z_np yi + 1) (z_s (as.reverse ++ .ref q :: st)).length then some (yi, ((z_s (as.reverse ++ .ref q :: st)).take (z_np yi + 1)).reverse, (z_s (as.reverse ++ .ref q :: st)).drop (z_np yi + 1)) else none) = _
  rw [z_s_call, List.take_left' hl, List.drop_left' hl, Nat.ble_eq_true_of_le (by rw [List.length_append, hl]; omega)]
  simp [z_s]
theorem z_callS {pc idx j yi w ne fl : Nat} {as st : List Value} (hnp : z_np yi = as.length) : z_call (pc, .invokestatic idx, 3, fl, [j, yi, w, ne]) (z_s (as.reverse ++ st)) = some (yi, z_s as, z_s st) := by
  have e : z_s (as.reverse ++ st) = (z_s as).reverse ++ z_s st := by simp [z_s, List.map_append, List.map_reverse]
  have hl : ((z_s as).reverse).length = z_np yi := by simp [z_s, hnp]
  show (bif Nat.ble (z_np yi) (z_s (as.reverse ++ st)).length then some (yi, ((z_s (as.reverse ++ st)).take (z_np yi)).reverse, (z_s (as.reverse ++ st)).drop (z_np yi)) else none) = _
  rw [e, List.take_left' hl, List.drop_left' hl, Nat.ble_eq_true_of_le (by rw [List.length_append, hl]; omega)]
  simp
theorem z_s_ret {r : Option Value} {st : List Value} : z_s (r.toList ++ st) = (r.map z_v).toList ++ z_s st := by cases r <;> rfl
section ZC
variable {p : Program} {l : Launch} {e : Env} {R : Room} {s : State} {m : MethodId} {args : Array Value} {below : List Frame} {meth : Method} {c : Code} {dC : Nat → ClassId} {dI : Nat → Nat → Nat} {aC : Nat → ClassId} {ad0 xa : Nat → Nat} {nL : Nat} {cc : ByteArray} {own : String} {X : Nat → Option (List Int32)} {Y : (Nat → Prop) → State → Heap → Prop}
variable {K : List (List a_K)} {Z : z_G → z_Q → Prop} {aux : List Nat}
variable {σ σ0 : m_H} {ce sl pc sz mc ms : Nat} {ls : List (Nat × Value)} {st : List Value} {Q : Option Value → m_H → Prop}
theorem mW_vret (hC : m_Ctx p s m args meth c cc nL own dC dI aC (va_A (m_W ad0 aC σ0) sz) xa X Y) (hd : z_dx K cc pc .return_ 1 aux) (hr : meth.sig.returnType = none) (hQ : Q none σ) (hce : ce ≤ mc) (hsl : sl ≤ ms) :
    mW K Z p l e R s m args below meth c (m_QZ below dC dI aC xa ad0 sz σ0 Q args s mc ms (va_A (m_W ad0 aC σ0) sz)) dC dI aC (va_A (m_W ad0 aC σ0) sz) σ0.length ad0 xa nL (σ, ce, sl, pc, ls, []) := fun hcl hz zl hl => by
  obtain ⟨fl, hq⟩ := hd.2
  have h1 : Z (z_m σ, pc, zl, []) (z_m σ, none) := hcl.2.1 _ _ _ hq rfl rfl
  exact mV_mono (fun t h => ⟨(z_m σ, none), h1, h⟩) (mV_vret hC hd.1 hr (Q := fun r1 σ1 => Q r1 σ1 ∧ z_ok σ1 ∧ ((z_m σ, none) : z_Q) = (z_m σ1, r1.map z_v)) ⟨hQ, hz, rfl⟩ hce hsl)
theorem mW_iret (hC : m_Ctx p s m args meth c cc nL own dC dI aC (va_A (m_W ad0 aC σ0) sz) xa X Y) {x : Int32} {ty : FieldType} (hd : z_dx K cc pc .ireturn 1 aux) (hr : meth.sig.returnType = some ty) (hn : narrow ty (.int x) = .int x) (hQ : Q (some (.int x)) σ) (hce : ce ≤ mc) (hsl : sl ≤ ms) :
    mW K Z p l e R s m args below meth c (m_QZ below dC dI aC xa ad0 sz σ0 Q args s mc ms (va_A (m_W ad0 aC σ0) sz)) dC dI aC (va_A (m_W ad0 aC σ0) sz) σ0.length ad0 xa nL (σ, ce, sl, pc, ls, [.int x]) := fun hcl hz zl hl => by
  obtain ⟨fl, hq⟩ := hd.2
  have h1 : Z (z_m σ, pc, zl, [z_v (.int x)]) (z_m σ, some (z_v (.int x))) := hcl.2.1 _ _ _ hq rfl rfl
  exact mV_mono (fun t h => ⟨(z_m σ, some (z_v (.int x))), h1, h⟩) (mV_iret hC hd.1 hr hn (Q := fun r1 σ1 => Q r1 σ1 ∧ z_ok σ1 ∧ ((z_m σ, some (z_v (.int x))) : z_Q) = (z_m σ1, r1.map z_v)) ⟨hQ, hz, rfl⟩ hce hsl)
theorem mW_lret (hC : m_Ctx p s m args meth c cc nL own dC dI aC (va_A (m_W ad0 aC σ0) sz) xa X Y) {x : Int64} (hd : z_dx K cc pc .lreturn 1 aux) (hr : meth.sig.returnType = some .long) (hQ : Q (some (.long x)) σ) (hce : ce ≤ mc) (hsl : sl ≤ ms) :
    mW K Z p l e R s m args below meth c (m_QZ below dC dI aC xa ad0 sz σ0 Q args s mc ms (va_A (m_W ad0 aC σ0) sz)) dC dI aC (va_A (m_W ad0 aC σ0) sz) σ0.length ad0 xa nL (σ, ce, sl, pc, ls, [.long x]) := fun hcl hz zl hl => by
  obtain ⟨fl, hq⟩ := hd.2
  have h1 : Z (z_m σ, pc, zl, [z_v (.long x)]) (z_m σ, some (z_v (.long x))) := hcl.2.1 _ _ _ hq rfl rfl
  exact mV_mono (fun t h => ⟨(z_m σ, some (z_v (.long x))), h1, h⟩) (mV_lret hC hd.1 hr (Q := fun r1 σ1 => Q r1 σ1 ∧ z_ok σ1 ∧ ((z_m σ, some (z_v (.long x))) : z_Q) = (z_m σ1, r1.map z_v)) ⟨hQ, hz, rfl⟩ hce hsl)
end ZC
section ZD
variable {p : Program} {l : Launch} {e : Env} {R : Room} {s : State} {m : MethodId} {args : Array Value} {below : List Frame} {meth : Method} {c : Code} {QQ : z_Q → State → Prop} {dC : Nat → ClassId} {dI : Nat → Nat → Nat} {aC : Nat → ClassId} {A : Nat → Prop} {n0 : Nat} {ad0 xa : Nat → Nat} {nL : Nat} {cc : ByteArray} {own : String} {X : Nat → Option (List Int32)} {Y : (Nat → Prop) → State → Heap → Prop}
variable {K : List (List a_K)} {Z : z_G → z_Q → Prop} {aux : List Nat}
variable {σ : m_H} {ce sl pc mc ms : Nat} {ls : List (Nat × Value)} {st as : List Value} {Q : Option Value → m_H → Prop}
theorem w_call {i : Jvm.ClassFile.Instr} {n yi : Nat} {vs : List Value} {zl : z_L} (hcl : z_cl K Z) (hd : z_dx K cc pc i n aux) (hk : z_kd i aux = 2) {stA : List Value} (hs : ∀ fl, z_call (pc, i, n, fl, aux) (z_s stA) = some (yi, z_s vs, z_s st)) {r : Option Value} {σ' : m_H} (hE : z_Ev yi (z_m σ, 0, z_fr yi (z_s vs), []) (z_m σ', r.map z_v)) {g' : m_G} (k : mV p l e R s m args below meth c (fun t => ∃ r2, Z (z_m σ', pc + 3, zl, z_s (r.toList ++ st)) r2 ∧ QQ r2 t) dC dI aC A n0 ad0 xa nL g') : mV p l e R s m args below meth c (fun t => ∃ r2, Z (z_m σ, pc, zl, z_s stA) r2 ∧ QQ r2 t) dC dI aC A n0 ad0 xa nL g' := by
  obtain ⟨fl, hq⟩ := hd.2
  refine mV_mono (fun t ⟨r2, r3, r4⟩ => ⟨r2, ?_, r4⟩) k
  rw [z_s_ret] at r3
  exact hcl.2.2 (pc, i, n, fl, aux) (z_m σ, pc, zl, z_s stA) yi (z_s vs) (z_s st) (z_m σ') (r.map z_v) hq hk (hs fl) hE r2 r3
theorem mW_callV (hY : m_Yok Y) (hC : m_Ctx p s m args meth c cc nL own dC dI aC A xa X Y) {q ci idx d n j yi w ne : Nat} {r0 : vw_C} {fs : List Value} {y : MethodName} {b : ByteArray} {rt : Option FieldType} (hd : z_dx K cc pc (.invokevirtual idx) 3 [j, yi, w, ne]) (hnp : z_np yi = as.length) (hM : m_K yi l X Y xa d y b n rt σ (.ref q :: as) Q mc ms) (hσ : σ[q]? = some (.inr ci, fs)) (hc : vwCl[ci]? = some r0) (hyc : y.cls = r0.1)
    (w1 : Cond.methodLink own idx y ∈ a_tb) (w2 : Cond.instanceMethod y ∈ a_tb) (w3 : Cond.selects r0.1 y y ∈ a_tb) (w4 : Cond.initialized r0.1 ∈ a_tb) (w5 : Cond.code y b n rt ∈ a_tb) (hy : y.cls ≠ "java/lang/invoke/MethodHandle" ∧ y.cls ≠ "java/lang/invoke/VarHandle") (hlen : (parseMethodDescriptor y.desc).map (fun d => d.parameters.length) = some as.length)
    (hR : d + 1 ≤ R.frames ∧ 40 * d + 40 ≤ R.locals) (h20 : n ≤ 20) (hce : ce + mc ≤ R.cells) (hsl : sl + ms ≤ R.slots) (h8 : (st.map fun v => v.category).sum ≤ 8) (hn0 : n0 ≤ σ.length) (ho : ∀ v ∈ st, m_vOk σ.length v) (hol : ∀ q ∈ ls, m_vOk σ.length q.2)
    (kk : ∀ (r : Option Value) (σ' : m_H), Q r σ' → mW K Z p l e R s m args below meth c QQ dC dI aC A n0 ad0 xa nL (σ', ce + mc, sl + ms, pc + 3, ls, r.toList ++ st)) : mW K Z p l e R s m args below meth c QQ dC dI aC A n0 ad0 xa nL (σ, ce, sl, pc, ls, as.reverse ++ .ref q :: st) := fun hcl hz zl hl =>
  mV_callV hY hC hd.1 (hM hz) hσ hc hyc w1 w2 w3 w4 w5 hy hlen hR h20 hce hsl h8 hn0 ho hol (fun r σ' hQ => w_call hcl hd rfl (fun _ => z_callV hnp) hQ.2.2 (kk r σ' hQ.1 hcl hQ.2.1 zl hl))
theorem mW_callS (hY : m_Yok Y) (hC : m_Ctx p s m args meth c cc nL own dC dI aC A xa X Y) {idx d n j yi w ne : Nat} {y : MethodName} {b : ByteArray} {rt : Option FieldType} (hd : z_dx K cc pc (.invokestatic idx) 3 [j, yi, w, ne]) (hnp : z_np yi = as.length) (hM : m_K yi l X Y xa d y b n rt σ as Q mc ms)
    (w1 : Cond.methodLink own idx y ∈ a_tb) (w2 : Cond.static y ∈ a_tb) (w4 : Cond.initialized y.cls ∈ a_tb) (w5 : Cond.code y b n rt ∈ a_tb) (hy : y.cls ≠ "java/lang/invoke/MethodHandle" ∧ y.cls ≠ "java/lang/invoke/VarHandle") (hlen : (parseMethodDescriptor y.desc).map (fun d => d.parameters.length) = some as.length)
    (hR : d + 1 ≤ R.frames ∧ 40 * d + 40 ≤ R.locals) (h20 : n ≤ 20) (hce : ce + mc ≤ R.cells) (hsl : sl + ms ≤ R.slots) (h8 : (st.map fun v => v.category).sum ≤ 8) (hn0 : n0 ≤ σ.length) (ho : ∀ v ∈ st, m_vOk σ.length v) (hol : ∀ q ∈ ls, m_vOk σ.length q.2)
    (kk : ∀ (r : Option Value) (σ' : m_H), Q r σ' → mW K Z p l e R s m args below meth c QQ dC dI aC A n0 ad0 xa nL (σ', ce + mc, sl + ms, pc + 3, ls, r.toList ++ st)) : mW K Z p l e R s m args below meth c QQ dC dI aC A n0 ad0 xa nL (σ, ce, sl, pc, ls, as.reverse ++ st) := fun hcl hz zl hl =>
  mV_callS hY hC hd.1 (hM hz) w1 w2 w4 w5 hy hlen hR h20 hce hsl h8 hn0 ho hol (fun r σ' hQ => w_call hcl hd rfl (fun _ => z_callS hnp) hQ.2.2 (kk r σ' hQ.1 hcl hQ.2.1 zl hl))
theorem mW_callSN (hY : m_Yok Y) (hC : m_Ctx p s m args meth c cc nL own dC dI aC A xa X Y) {idx d n j yi w ne : Nat} {host : String} {y : MethodName} {b : ByteArray} {rt : Option FieldType} (hd : z_dx K cc pc (.invokestatic idx) 3 [j, yi, w, ne]) (hnp : z_np yi = as.length) (hM : m_K yi l X Y xa d y b n rt σ as Q mc ms)
    (w1 : Cond.methodLinkNest own idx y host ∈ a_nb) (w2 : Cond.static y ∈ a_tb) (w4 : Cond.initialized y.cls ∈ a_tb) (w5 : Cond.code y b n rt ∈ a_tb) (hy : y.cls ≠ "java/lang/invoke/MethodHandle" ∧ y.cls ≠ "java/lang/invoke/VarHandle") (hlen : (parseMethodDescriptor y.desc).map (fun d => d.parameters.length) = some as.length)
    (hR : d + 1 ≤ R.frames ∧ 40 * d + 40 ≤ R.locals) (h20 : n ≤ 20) (hce : ce + mc ≤ R.cells) (hsl : sl + ms ≤ R.slots) (h8 : (st.map fun v => v.category).sum ≤ 8) (hn0 : n0 ≤ σ.length) (ho : ∀ v ∈ st, m_vOk σ.length v) (hol : ∀ q ∈ ls, m_vOk σ.length q.2)
    (kk : ∀ (r : Option Value) (σ' : m_H), Q r σ' → mW K Z p l e R s m args below meth c QQ dC dI aC A n0 ad0 xa nL (σ', ce + mc, sl + ms, pc + 3, ls, r.toList ++ st)) : mW K Z p l e R s m args below meth c QQ dC dI aC A n0 ad0 xa nL (σ, ce, sl, pc, ls, as.reverse ++ st) := fun hcl hz zl hl =>
  mV_callSN hY hC hd.1 (hM hz) w1 w2 w4 w5 hy hlen hR h20 hce hsl h8 hn0 ho hol (fun r σ' hQ => w_call hcl hd rfl (fun _ => z_callS hnp) hQ.2.2 (kk r σ' hQ.1 hcl hQ.2.1 zl hl))
theorem z_cpy_at {fs gs : List Value} {sp dp n : Nat} (h1 : sp + n ≤ fs.length) (h2 : dp + n ≤ gs.length) (k : Nat) : (gs.take dp ++ (fs.drop sp).take n ++ gs.drop (dp + n))[k]? = if dp ≤ k ∧ k < dp + n then fs[sp + (k - dp)]? else gs[k]? := by
  have e1 : (gs.take dp).length = dp := by simp; omega
  have e2 : ((fs.drop sp).take n).length = n := by simp; omega
  by_cases hk : dp ≤ k ∧ k < dp + n
  · rw [if_pos hk, List.getElem?_append_left (by simp; omega), List.getElem?_append_right (by omega), e1, List.getElem?_take, if_pos (by omega), List.getElem?_drop]
  · rw [if_neg hk]
    by_cases hk2 : k < dp
    · rw [List.getElem?_append_left (by simp; omega), List.getElem?_append_left (by omega), List.getElem?_take, if_pos hk2]
    · rw [List.getElem?_append_right (by simp; omega)]
      simp only [List.length_append, e1, e2, List.getElem?_drop]
      congr 1
      omega
theorem z_m_cpy {σ : m_H} {q0 q1 : Nat} {kd0 kd1 : Nat ⊕ Nat} {fs gs : List Value} {sp dp n : Nat} (h0 : σ[q0]? = some (kd0, fs)) (h1 : σ[q1]? = some (kd1, gs)) (g4 : sp + n ≤ fs.length) (g5 : dp + n ≤ gs.length) : z_m (σ.set q1 (kd1, gs.take dp ++ (fs.drop sp).take n ++ gs.drop (dp + n))) = z_cp (z_m σ) q0 sp q1 dp n := by
  have hl := (List.getElem?_eq_some_iff.mp h1).1
  funext p k
  unfold z_cp
  by_cases hp : p = q1
  · subst hp
    have e : c_at (σ.set p (kd1, gs.take dp ++ (fs.drop sp).take n ++ gs.drop (dp + n))) p k = if dp ≤ k ∧ k < dp + n then fs[sp + (k - dp)]? else gs[k]? := by
      rw [c_at_eq (List.getElem?_set_self hl)]
      exact z_cpy_at g4 g5 k
    by_cases hk : dp ≤ k ∧ k < dp + n
    · rw [if_pos ⟨rfl, hk⟩]
      unfold z_m
      rw [e, if_pos hk, c_at_eq h0]
    · rw [if_neg (fun z => hk z.2)]
      unfold z_m
      rw [e, if_neg hk, c_at_eq h1]
  · rw [if_neg (fun z => hp z.1)]
    unfold z_m c_at
    rw [List.getElem?_set_ne (Ne.symm hp)]
theorem z_ok_cpy {σ : m_H} (hz : z_ok σ) {q0 q1 : Nat} {fs gs : List Value} {sp dp n : Nat} (h0 : σ[q0]? = some (.inl 0, fs)) (h1 : σ[q1]? = some (.inl 0, gs)) (g4 : sp + n ≤ fs.length) (g5 : dp + n ≤ gs.length) : z_ok (σ.set q1 (.inl 0, gs.take dp ++ (fs.drop sp).take n ++ gs.drop (dp + n))) := by
  obtain ⟨a1, a2, a3, a4⟩ := z_in hz h0
  obtain ⟨b1, b2, b3, b4⟩ := z_in hz h1
  have hl := (List.getElem?_eq_some_iff.mp h1).1
  refine ⟨by rw [List.length_set]; exact hz.1, fun p hp => ?_⟩
  by_cases hq : p = q1
  · subst hq
    refine ⟨_, by rw [b2]; exact List.getElem?_set_self hl, by simp; omega, fun k v hv => ?_⟩
    rw [z_cpy_at g4 g5] at hv
    split at hv
    · obtain ⟨c1, c2⟩ := a4 _ _ hv
      refine ⟨?_, fun z => absurd z (z_cstA b1 b2 (by decide) k)⟩
      rw [c1]
      unfold z_tt
      rw [a2, b2]
    · exact b4 k v hv
  · obtain ⟨ws, w1, w2, w3⟩ := hz.2 p hp
    exact ⟨ws, by rw [List.getElem?_set_ne (Ne.symm hq)]; exact w1, w2, w3⟩
theorem mW_copyi (hC : m_Ctx p s m args meth c cc nL own dC dI aC A xa X Y) {q0 q1 idx xj xk : Nat} {fs gs : List Value} {sp dp n : Int32} (hd : z_dx K cc pc (.invokestatic idx) 3 [xj, xk]) (w1 : Cond.methodLink own idx arraycopyName ∈ a_tb) (w2 : Cond.native arraycopyName ∈ a_tb) (w3 : Cond.static arraycopyName ∈ a_tb) (w4 : Cond.initialized "java/lang/System" ∈ a_tb)
    (hσ0 : σ[q0]? = some (.inl 0, fs)) (hσ1 : σ[q1]? = some (.inl 0, gs)) (g1 : ¬ sp < 0) (g2 : ¬ dp < 0) (g3 : ¬ n < 0) (g4 : sp.toNatClampNeg + n.toNatClampNeg ≤ fs.length) (g5 : dp.toNatClampNeg + n.toNatClampNeg ≤ gs.length) (hR : 1 ≤ R.frames ∧ 40 ≤ R.locals) (h8 : (st.map fun v => v.category).sum ≤ 8)
    (k : mW K Z p l e R s m args below meth c QQ dC dI aC A n0 ad0 xa nL (σ.set q1 (.inl 0, gs.take dp.toNatClampNeg ++ (fs.drop sp.toNatClampNeg).take n.toNatClampNeg ++ gs.drop (dp.toNatClampNeg + n.toNatClampNeg)), ce, sl, pc + 3, ls, st)) : mW K Z p l e R s m args below meth c QQ dC dI aC A n0 ad0 xa nL (σ, ce, sl, pc, ls, .int n :: .int dp :: .ref q1 :: .int sp :: .ref q0 :: st) := fun hcl hz zl hl => mV_copyi hC hd.1 w1 w2 w3 w4 hσ0 hσ1 g1 g2 g3 g4 g5 hR h8 (w_st hcl hd rfl (fun _ => by
  obtain ⟨a1, a2, a3, a4⟩ := z_in hz hσ0
  obtain ⟨b1, b2, b3, b4⟩ := z_in hz hσ1
  have e1 : sp.toNatClampNeg = sp.toInt.toNat := rfl
  have e2 : dp.toNatClampNeg = dp.toInt.toNat := rfl
  have e3 : n.toNatClampNeg = n.toInt.toNat := rfl
  have f1 : ¬ sp.toInt < 0 := fun z => g1 (Int32.lt_iff_toInt_lt.mpr z)
  have f2 : ¬ dp.toInt < 0 := fun z => g2 (Int32.lt_iff_toInt_lt.mpr z)
  have f3 : ¬ n.toInt < 0 := fun z => g3 (Int32.lt_iff_toInt_lt.mpr z)
  have e := z_m_cpy hσ0 hσ1 g4 g5
  show (bif decide (0 ≤ n.toInt) && (decide (0 ≤ dp.toInt) && (decide (0 ≤ sp.toInt) && (decide (sp.toInt + n.toInt ≤ (h_ln ((q0 : Int)).toNat : Int)) && decide (dp.toInt + n.toInt ≤ (h_ln ((q1 : Int)).toNat : Int))))) then some (z_cp (z_m σ) ((q0 : Int)).toNat sp.toInt.toNat ((q1 : Int)).toNat dp.toInt.toNat n.toInt.toNat, pc + 3, zl, z_s st) else none) = some (z_m _, pc + 3, zl, z_s st)
  rw [e, z_rf, z_rf, ← a3, ← b3, decide_eq_true (show (0 : Int) ≤ n.toInt by omega), decide_eq_true (show (0 : Int) ≤ dp.toInt by omega), decide_eq_true (show (0 : Int) ≤ sp.toInt by omega), decide_eq_true (show sp.toInt + n.toInt ≤ (fs.length : Int) by omega), decide_eq_true (show dp.toInt + n.toInt ≤ (gs.length : Int) by omega)]
  rfl) (k hcl (z_ok_cpy hz hσ0 hσ1 g4 g5) zl hl))
end ZD
/-- what a type says of the plain number -/
def z_tg (y : Nat × Int × Int) (w : Nat) : Bool := match y.1 with
  | 0 => Nat.beq w 0
  | 1 => Nat.beq w 2
  | 2 => Nat.beq w 1
  | 3 => Nat.beq w 0
  | 4 => Nat.beq w 2
  | _ => false
theorem z_tg_ok {B : Int} {y : Nat × Int × Int} {v : Value} {w : Nat} (h : t_ok B y v) (g : z_tg y w = true) : z_vt v = w ∧ (y.1 = 1 → v = .ref y.2.1.toNat) := by
  obtain ⟨a, b, c⟩ := y
  match a, h, g with
  | 0, h, g =>
    obtain ⟨x, rfl, -⟩ := h
    exact ⟨(Nat.eq_of_beq_eq_true g).symm, fun z => by cases z⟩
  | 1, h, g =>
    have h : v = .ref b.toNat := h
    subst h
    exact ⟨(Nat.eq_of_beq_eq_true g).symm, fun _ => rfl⟩
  | 2, h, g =>
    obtain ⟨x, rfl⟩ := h
    exact ⟨(Nat.eq_of_beq_eq_true g).symm, fun z => by cases z⟩
  | 3, h, g =>
    obtain ⟨x, rfl, -⟩ := h
    exact ⟨(Nat.eq_of_beq_eq_true g).symm, fun z => by cases z⟩
  | 4, h, g =>
    have h : v = .null ∨ ∃ k, v = .ref k := h
    refine ⟨?_, fun z => by cases z⟩
    rcases h with rfl | ⟨k, rfl⟩ <;> exact (Nat.eq_of_beq_eq_true g).symm
  | n + 5, h, g => cases g
def z_tyc : Bool := (List.range h_N).all fun p => match h_at p with
  | (.inl t, _, ts) => Nat.blt 0 ts.length && ts.all fun y => z_tg y (if t = 4 then 1 else if t = 5 then 2 else 0)
  | (.inr ci, n, ts) => Nat.beq ts.length n && (List.range n).all fun k => match ts[k]? with
    | some y => z_tg y (z_ft (a_ty ci k))
    | none => false
set_option maxRecDepth 100000 in
theorem z_ty : z_tyc = true := by decide +kernel
theorem z_ty_at {p k : Nat} (hp : p < h_N) (hk : k < h_ln p) : z_tg (h_ty p k) (z_tt p k) = true := by
  have hc := List.all_eq_true.mp z_ty p (List.mem_range.mpr hp)
  unfold h_ln at hk
  unfold h_ty t_at z_tt h_kd
  generalize h_at p = c at hc hk ⊢
  obtain ⟨kd, n, ts⟩ := c
  simp only at hk
  cases kd with
  | inl t =>
    simp only at hc ⊢
    obtain ⟨c1, c2⟩ := Bool.and_eq_true _ _ |>.mp hc
    have c1 : 0 < ts.length := Nat.le_of_ble_eq_true c1
    have hm := Nat.mod_lt k c1
    rw [List.getElem?_eq_getElem hm]
    exact List.all_eq_true.mp c2 _ (List.getElem_mem hm)
  | inr ci =>
    simp only at hc ⊢
    obtain ⟨c1, c2⟩ := Bool.and_eq_true _ _ |>.mp hc
    have c1 := Nat.eq_of_beq_eq_true c1
    have hkl : k < ts.length := by omega
    have e := List.all_eq_true.mp c2 k (List.mem_range.mpr hk)
    rw [Nat.mod_eq_of_lt hkl, List.getElem?_eq_getElem hkl]
    rw [List.getElem?_eq_getElem hkl] at e
    exact e
theorem z_of_h {B : Int} {σ : m_H} (h : h_ok B σ) : z_ok σ := ⟨h.1, fun p hp => by
  obtain ⟨vs, h1, h2, h3⟩ := h.2 p hp
  refine ⟨vs, h1, h2, fun k v hv => z_tg_ok (h3 k v hv).1 (z_ty_at hp ?_)⟩
  have := (List.getElem?_eq_some_iff.mp hv).1
  omega⟩
