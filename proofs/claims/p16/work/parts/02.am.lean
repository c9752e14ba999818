/-! THE SMALL MACHINE: cells by places, the frame's rows by place-values; one theorem an instruction over the kit's rows -/
abbrev m_C : Type := (Nat ⊕ Nat) × List Value
abbrev m_H : Type := List m_C
/-- from here on places are those of what nobody writes -/
def m_X0 : Nat := 1000000
def m_re (ad : Nat → Nat) : Value → Value
  | .ref k => .ref (ad k)
  | v => v
def m_int : Value → Int32
  | .int x => x
  | _ => 0
def m_long : Value → Int64
  | .long x => x
  | _ => 0
def m_rf : Value → Option Nat
  | .ref k => some k
  | _ => none
def m_ty : Nat → FieldType
  | 0 => .int
  | 1 => .byte
  | 2 => .char
  | 3 => .boolean
  | 4 => .long
  | _ => .object RX8
def m_tys (aC : Nat → ClassId) : List (ClassId × FieldType) := [(aC 0, .int), (aC 1, .byte), (aC 2, .char), (aC 3, .boolean), (aC 4, .long), (aC 5, .object RX8)]
theorem m_tys_at (aC : Nat → ClassId) {t : Nat} (h : t ≤ 5) : (m_tys aC)[t]? = some (aC t, m_ty t) := by
  rcases (show t = 0 ∨ t = 1 ∨ t = 2 ∨ t = 3 ∨ t = 4 ∨ t = 5 by omega) with rfl | rfl | rfl | rfl | rfl | rfl <;> rfl
def m_fI (vs : List Value) : Nat → Int32 := fun j => m_int (vs.getD j .null)
def m_fL (vs : List Value) : Nat → Int64 := fun j => m_long (vs.getD j .null)
def m_fR (ad : Nat → Nat) (vs : List Value) : Nat → Option Nat := fun j => (m_rf (vs.getD j .null)).map ad
def m_arr (ad : Nat → Nat) (t : Nat) (vs : List Value) : vp_A := (vs.length, if t < 4 then .inl (m_fI vs) else if t = 4 then .inr (.inl (m_fL vs)) else .inr (.inr (.inr (.inr (m_fR ad vs)))))
def m_E (ad : Nat → Nat) (aC : Nat → ClassId) (c : m_C) : va_E := match c.1 with
  | .inl t => .inl (aC t, m_arr ad t c.2)
  | .inr ci => .inr (ci, c.2.map (m_re ad))
def m_W (ad : Nat → Nat) (aC : Nat → ClassId) (σ : m_H) : va_W := σ.mapIdx (fun k c => (ad k, m_E ad aC c))
theorem m_W_at {ad : Nat → Nat} {aC : Nat → ClassId} {σ : m_H} {k : Nat} {c : m_C} (h : σ[k]? = some c) : (m_W ad aC σ)[k]? = some (ad k, m_E ad aC c) := by
  simp [m_W, h]
theorem m_W_len (ad : Nat → Nat) (aC : Nat → ClassId) (σ : m_H) : (m_W ad aC σ).length = σ.length := by simp [m_W]
theorem m_W_set {ad : Nat → Nat} {aC : Nat → ClassId} {σ : m_H} {k : Nat} {c : m_C} : (m_W ad aC σ).set k (ad k, m_E ad aC c) = m_W ad aC (σ.set k c) := by
  apply List.ext_getElem?
  intro i
  simp only [m_W, List.getElem?_set, List.getElem?_mapIdx, List.length_mapIdx]
  by_cases hi : k = i
  · subst hi
    by_cases hl : k < σ.length
    · simp [hl]
    · simp [hl]
  · simp [hi]
theorem m_W_push {ad : Nat → Nat} {aC : Nat → ClassId} {σ : m_H} {c : m_C} : m_W ad aC (σ ++ [c]) = m_W ad aC σ ++ [(ad σ.length, m_E ad aC c)] := by
  simp [m_W, List.mapIdx_append]
/-- the values that a place in a cell speaks of are below n, or outside -/
def m_vOk (n : Nat) : Value → Prop
  | .ref k => k < n ∨ m_X0 ≤ k
  | _ => True
def m_hOk (n : Nat) (σ : m_H) : Prop := ∀ c ∈ σ, ∀ v ∈ c.2, m_vOk n v
theorem m_re_congr {ad ad' : Nat → Nat} {n : Nat} (h : ∀ k, (k < n ∨ m_X0 ≤ k) → ad k = ad' k) {v : Value} (hv : m_vOk n v) : m_re ad v = m_re ad' v := by
  cases v <;> first | rfl | (exact congrArg Value.ref (h _ hv))
theorem m_re_cat (ad : Nat → Nat) (v : Value) : (m_re ad v).category = v.category := by cases v <;> rfl
theorem m_cats (ad : Nat → Nat) (st : List Value) : ((st.map (m_re ad)).map fun v => v.category).sum = (st.map fun v => v.category).sum := by
  rw [List.map_map]
  congr 1
  apply List.map_congr_left
  intro v _
  exact m_re_cat ad v
def m_lv (ad : Nat → Nat) (ls : List (Nat × Value)) : List (Nat × Value) := ls.map (fun q => (q.1, m_re ad q.2))
def m_ld (i : Nat) (ls : List (Nat × Value)) : Option Value := (ls.find? (fun q => q.1 == i)).map (fun q => q.2)
theorem m_ld_in {ad : Nat → Nat} {i : Nat} {ls : List (Nat × Value)} {v : Value} (h : m_ld i ls = some v) {lsC : Array Slot} {nL : Nat} (hl : lv_has lsC nL (m_lv ad ls)) : lsC[i]? = some (.val (m_re ad v)) := by
  unfold m_ld at h
  cases hf : ls.find? (fun q => q.1 == i) with
  | none => rw [hf] at h; cases h
  | some q =>
    rw [hf] at h
    have hv : q.2 = v := Option.some.inj h
    have hi : q.1 = i := by have := List.find?_some hf; simpa using this
    have hm := List.mem_of_find?_eq_some hf
    have := hl.2.2 (q.1, m_re ad q.2) (List.mem_map.mpr ⟨q, hm, rfl⟩)
    rw [hi, hv] at this
    exact this
def m_st1 (i : Nat) (v : Value) (ls : List (Nat × Value)) : List (Nat × Value) := (i, v) :: ls.filter (fun q => !(q.1 == i) && !(q.1 + 1 == i && q.2.category == 2))
def m_st2 (i : Nat) (v : Value) (ls : List (Nat × Value)) : List (Nat × Value) := (i, v) :: ls.filter (fun q => !(q.1 == i) && (!(q.1 == i + 1) && !(q.1 + 1 == i && q.2.category == 2)))
theorem m_lv_st1 (ad : Nat → Nat) (i : Nat) (v : Value) (ls : List (Nat × Value)) : (i, m_re ad v) :: (m_lv ad ls).filter (fun q => !(q.1 == i) && !(q.1 + 1 == i && q.2.category == 2)) = m_lv ad (m_st1 i v ls) := by
  simp only [m_lv, m_st1, List.map_cons, List.filter_map]
  congr 2
  apply List.filter_congr
  intro q _
  simp [m_re_cat]
theorem m_lv_st2 (ad : Nat → Nat) (i : Nat) (v : Value) (ls : List (Nat × Value)) : (i, m_re ad v) :: (m_lv ad ls).filter (fun q => !(q.1 == i) && (!(q.1 == i + 1) && !(q.1 + 1 == i && q.2.category == 2))) = m_lv ad (m_st2 i v ls) := by
  simp only [m_lv, m_st2, List.map_cons, List.filter_map]
  congr 2
  apply List.filter_congr
  intro q _
  simp [m_re_cat]
theorem m_lv_args (ad : Nat → Nat) (vs : List Value) : ∀ n, lv_args n (vs.map (m_re ad)) = m_lv ad (lv_args n vs) := by
  induction vs with
  | nil => intro n; rfl
  | cons v l ih =>
    intro n
    simp only [List.map_cons, lv_args, m_lv]
    rw [m_re_cat, ih]
    rfl
/-- cells, made cells, their slots, the place in the code, the frame's values, the stack -/
abbrev m_G : Type := m_H × Nat × Nat × Nat × List (Nat × Value) × List Value
/-- what lies outside: int rows that nobody writes, two statics that hold two of them, what Y says more -/
def m_Ext (X : Nat → Option (List Int32)) (Y : (Nat → Prop) → State → Heap → Prop) (xa : Nat → Nat) (A : Nat → Prop) (U : State) (H : Heap) : Prop :=
  (∀ (i : Nat) (L : List Int32), X i = some L → va_T .int (xa i) L.length (fun j => .int (L.getD j 0)) A U H) ∧ va_Z "LetByTheDegree$Lodging" "PLACES" "[I" (.ref (xa 0)) A U H ∧ va_Z "LetByTheDegree$StoveWay" "STEPS" "[I" (.ref (xa 1)) A U H ∧ (∀ w ∈ a_nb, va_Nw w U) ∧ Y A U H
def m_Yok (Y : (Nat → Prop) → State → Heap → Prop) : Prop :=
  (∀ A u U H, U.vm = u.vm → Y A u H → Y A U H) ∧ (∀ (A : Nat → Prop) (u U : State) (H : Heap), u.WarmedH U.vm → Y A u H → Y A U H) ∧ (∀ (A : Nat → Prop) (U : State) (H H1 : Heap), (∀ a : Nat, a < H.size → ¬ A a → H1[a]? = H[a]?) → Y A U H → Y A U H1) ∧ ∀ (A B : Nat → Prop) (U : State) (H : Heap), (∀ q, B q → A q) → Y A U H → Y B U H
theorem m_nwW {w : Cond} {s U : State} (hw : a_isN w = true) (hW : s.WarmedH U.vm) (h : va_Nw w s) : va_Nw w U := by
  cases w <;> first | exact va_Nw.warmF hW h | exact va_Nw.warmM hW h | (simp [a_isN] at hw; done)
theorem m_nwS {w : Cond} {s U : State} (hw : a_isN w = true) (hv : s.vm = U.vm) (h : va_Nw w s) : va_Nw w U := by
  cases w <;> first | exact va_Nw.same rfl hv h | (simp [a_isN] at hw; done)
theorem m_nwU {w : Cond} {s : State} {args : Array Value} (hw : a_isN w = true) (h : va_Nw w s) : w.before args s = true := by
  cases w <;> first | exact va_Nw.use rfl h | (simp [a_isN] at hw; done)
theorem m_Ext.warm {X : Nat → Option (List Int32)} {Y : (Nat → Prop) → State → Heap → Prop} {xa : Nat → Nat} {A : Nat → Prop} {u U : State} {H : Heap} (hY : m_Yok Y) (hW : u.WarmedH U.vm) (h : m_Ext X Y xa A u H) : m_Ext X Y xa A U H :=
  ⟨fun i L hL => va_T.moved hW.alike (h.1 i L hL), va_Z.moved hW.alike h.2.1, va_Z.moved hW.alike h.2.2.1, fun w hw => m_nwW (List.mem_filter.mp hw).2 hW (h.2.2.2.1 w hw), hY.2.1 _ _ _ _ hW h.2.2.2.2⟩
theorem m_Ext.same {X : Nat → Option (List Int32)} {Y : (Nat → Prop) → State → Heap → Prop} {xa : Nat → Nat} {A : Nat → Prop} {u U : State} {H : Heap} (hY : m_Yok Y) (hv : U.vm = u.vm) (h : m_Ext X Y xa A u H) : m_Ext X Y xa A U H :=
  have ha : u.vm.Alike U.vm := by rw [hv]; exact Vm.Alike.refl _
  ⟨fun i L hL => va_T.moved ha (h.1 i L hL), va_Z.moved ha h.2.1, va_Z.moved ha h.2.2.1, fun w hw => m_nwS (List.mem_filter.mp hw).2 hv.symm (h.2.2.2.1 w hw), hY.1 _ _ _ _ hv h.2.2.2.2⟩
theorem m_Ext.kept {X : Nat → Option (List Int32)} {Y : (Nat → Prop) → State → Heap → Prop} {xa : Nat → Nat} {A : Nat → Prop} {U : State} {H H1 : Heap} (hY : m_Yok Y) (hq : ∀ a : Nat, a < H.size → ¬ A a → H1[a]? = H[a]?) (h : m_Ext X Y xa A U H) : m_Ext X Y xa A U H1 :=
  ⟨fun i L hL => (h.1 i L hL).kept hq, h.2.1.kept hq, h.2.2.1.kept hq, h.2.2.2.1, hY.2.2.1 _ _ _ _ hq h.2.2.2.2⟩
theorem m_Ext.narrow {X : Nat → Option (List Int32)} {Y : (Nat → Prop) → State → Heap → Prop} {xa : Nat → Nat} {A B : Nat → Prop} {U : State} {H : Heap} (hY : m_Yok Y) (hAB : ∀ q, B q → A q) (h : m_Ext X Y xa A U H) : m_Ext X Y xa B U H :=
  ⟨fun i L hL => (h.1 i L hL).narrow hAB, h.2.1.narrow hAB, h.2.2.1.narrow hAB, h.2.2.2.1, hY.2.2.2 _ _ _ _ hAB h.2.2.2.2⟩
/-- the machine comes to QQ from every frame that this small frame is a picture of -/
def mV (p : Program) (l : Launch) (e : Env) (R : Room) (s : State) (m : MethodId) (args : Array Value) (below : List Frame) (meth : Method) (c : Code) (QQ : State → Prop) (dC : Nat → ClassId) (dI : Nat → Nat → Nat) (aC : Nat → ClassId) (A : Nat → Prop) (n0 : Nat) (ad0 xa : Nat → Nat) (nL : Nat) (g : m_G) : Prop :=
  ∀ (ad : Nat → Nat) (H : Heap) (locs : List Loc) (lsC : Array Slot), (∀ k, k < n0 → ad k = ad0 k) → (∀ k, ad (m_X0 + k) = xa k) → va_P (dC, dI) vwCl (m_W ad aC g.1) H → va_D A (m_W ad aC g.1) → va_S A s.heap H locs → lv_has lsC nL (m_lv ad g.2.2.2.2.1) →
    W p l e R s m args below meth c H locs g.2.1 g.2.2.1 QQ (F0 m g.2.2.2.1 lsC (g.2.2.2.2.2.map (m_re ad)))
/-- what every row asks of the method's start -/
def m_Ctx (p : Program) (s : State) (m : MethodId) (args : Array Value) (meth : Method) (c : Code) (cc : ByteArray) (nL : Nat) (own : String) (dC : Nat → ClassId) (dI : Nat → Nat → Nat) (aC : Nat → ClassId) (A : Nat → Prop) (xa : Nat → Nat) (X : Nat → Option (List Int32)) (Y : (Nat → Prop) → State → Heap → Prop) : Prop :=
  p.tables.exec = Jvm.exec ∧ c.code = cc ∧ c.maxLocals = nL ∧ s.vm.findClass own = some m.cls ∧ (∀ w ∈ a_tb, w.before args s = true) ∧ va_K (dC, dI) vwCl (m_tys aC) s ∧ (∀ q, s.heap.size ≤ q → A q) ∧ m_Ext X Y xa A s s.heap ∧ meth.locks = false
noncomputable def a_layk (q : vw_C) (L : List (Nat × Nat)) (k : Nat) : Bool := match L[k]? with
  | some ab => decide (g_nth (a_part ab.1) ab.2 = some (u_lay q.1 q.2.1 k)) && goodWord (u_lay q.1 q.2.1 k)
  | none => false
noncomputable def a_layok (ci : Nat) : Bool := match vwCl[ci]? with
  | some q => (match a_lay[ci]? with
    | some L => (List.range q.2.2).all (a_layk q L)
    | none => false)
  | none => false
set_option maxRecDepth 100000 in
theorem a_lay_ok : (List.range 14).all a_layok = true := by decide +kernel
theorem a_cls {ci : Nat} {q : vw_C} (h : vwCl[ci]? = some q) : ∀ w ∈ u_ws q.1 q.2.1 q.2.2, w ∈ a_tb := by
  intro w hw
  obtain ⟨k, hk, rfl⟩ := List.mem_map.mp hw
  have hci : ci < 14 := (List.getElem?_eq_some_iff.mp h).1
  have g := List.all_eq_true.mp a_lay_ok ci (List.mem_range.mpr hci)
  unfold a_layok at g
  rw [h] at g
  have g : (match a_lay[ci]? with
    | some L => (List.range q.2.2).all (a_layk q L)
    | none => false) = true := g
  cases hL : a_lay[ci]? with
  | none =>
    rw [hL] at g
    cases g
  | some L =>
    rw [hL] at g
    have g := List.all_eq_true.mp g k hk
    unfold a_layk at g
    cases hb : L[k]? with
    | none =>
      rw [hb] at g
      cases g
    | some ab =>
      rw [hb] at g
      obtain ⟨g1, g2⟩ := Bool.and_eq_true _ _ |>.mp g
      exact a_inG (of_decide_eq_true g1) g2
def a_ty : Nat → Nat → FieldType := fun ci => match ci with
  | 0 => tyX0
  | 1 => tyX1
  | 2 => tyX2
  | 3 => tyX3
  | 4 => tyX4
  | 5 => tyX5
  | 6 => tyX6
  | 7 => tyX7
  | 8 => tyX8
  | 9 => tyX9
  | 10 => tyX10
  | 11 => tyX11
  | 12 => tyX12
  | _ => tyX13
theorem a_cls2 {ci : Nat} {q : vw_C} (h : vwCl[ci]? = some q) : (∀ k, k < q.2.2 → parseFieldDescriptor (q.2.1 k).2.2.1 = some (a_ty ci k)) ∧ (∀ a, a < q.2.2 → ∀ b, b < q.2.2 → a ≠ b → (q.2.1 a).2.1 ≠ (q.2.1 b).2.1) := by
  have hl : ci < 14 := (List.getElem?_eq_some_iff.mp h).1
  rcases (show ci = 0 ∨ ci = 1 ∨ ci = 2 ∨ ci = 3 ∨ ci = 4 ∨ ci = 5 ∨ ci = 6 ∨ ci = 7 ∨ ci = 8 ∨ ci = 9 ∨ ci = 10 ∨ ci = 11 ∨ ci = 12 ∨ ci = 13 by omega) with rfl | rfl | rfl | rfl | rfl | rfl | rfl | rfl | rfl | rfl | rfl | rfl | rfl | rfl
  · cases h; exact ⟨tyX0_ok, nmX0⟩
  · cases h; exact ⟨tyX1_ok, nmX1⟩
  · cases h; exact ⟨tyX2_ok, nmX2⟩
  · cases h; exact ⟨tyX3_ok, nmX3⟩
  · cases h; exact ⟨tyX4_ok, nmX4⟩
  · cases h; exact ⟨tyX5_ok, nmX5⟩
  · cases h; exact ⟨tyX6_ok, nmX6⟩
  · cases h; exact ⟨tyX7_ok, nmX7⟩
  · cases h; exact ⟨tyX8_ok, nmX8⟩
  · cases h; exact ⟨tyX9_ok, nmX9⟩
  · cases h; exact ⟨tyX10_ok, nmX10⟩
  · cases h; exact ⟨tyX11_ok, nmX11⟩
  · cases h; exact ⟨tyX12_ok, nmX12⟩
  · cases h; exact ⟨tyX13_ok, nmX13⟩
section MW
variable {p : Program} {l : Launch} {e : Env} {R : Room} {s : State} {m : MethodId} {args : Array Value} {below : List Frame} {meth : Method} {c : Code} {QQ : State → Prop} {dC : Nat → ClassId} {dI : Nat → Nat → Nat} {aC : Nat → ClassId} {A : Nat → Prop} {n0 : Nat} {ad0 xa : Nat → Nat} {nL : Nat} {cc : ByteArray} {own : String} {X : Nat → Option (List Int32)} {Y : (Nat → Prop) → State → Heap → Prop}
variable {σ : m_H} {ce sl pc : Nat} {ls : List (Nat × Value)} {st : List Value}
theorem mV_iconst (hC : m_Ctx p s m args meth c cc nL own dC dI aC A xa X Y) {n : Int} (hd : decode cc pc = .ok (.iconst n, 1))  (k : mV p l e R s m args below meth c QQ dC dI aC A n0 ad0 xa nL (σ, ce, sl, pc + 1, ls, .int (Int32.ofInt n) :: st)) : mV p l e R s m args below meth c QQ dC dI aC A n0 ad0 xa nL (σ, ce, sl, pc, ls, st) := by
  intro ad H locs lsC h1 h2 h3 h4 h5 h6
  exact lv_iconst hC.1 hC.2.1 hd rfl (k ad H locs lsC h1 h2 h3 h4 h5 h6)
theorem mV_bipush (hC : m_Ctx p s m args meth c cc nL own dC dI aC A xa X Y) {n : Int} (hd : decode cc pc = .ok (.bipush n, 2))  (k : mV p l e R s m args below meth c QQ dC dI aC A n0 ad0 xa nL (σ, ce, sl, pc + 2, ls, .int (Int8.ofInt n).toInt32 :: st)) : mV p l e R s m args below meth c QQ dC dI aC A n0 ad0 xa nL (σ, ce, sl, pc, ls, st) := by
  intro ad H locs lsC h1 h2 h3 h4 h5 h6
  exact lv_bipush hC.1 hC.2.1 hd rfl (k ad H locs lsC h1 h2 h3 h4 h5 h6)
theorem mV_sipush (hC : m_Ctx p s m args meth c cc nL own dC dI aC A xa X Y) {n : Int} (hd : decode cc pc = .ok (.sipush n, 3))  (k : mV p l e R s m args below meth c QQ dC dI aC A n0 ad0 xa nL (σ, ce, sl, pc + 3, ls, .int (Int16.ofInt n).toInt32 :: st)) : mV p l e R s m args below meth c QQ dC dI aC A n0 ad0 xa nL (σ, ce, sl, pc, ls, st) := by
  intro ad H locs lsC h1 h2 h3 h4 h5 h6
  exact lv_sipush hC.1 hC.2.1 hd rfl (k ad H locs lsC h1 h2 h3 h4 h5 h6)
theorem mV_lconst (hC : m_Ctx p s m args meth c cc nL own dC dI aC A xa X Y) {n : Fin 2} (hd : decode cc pc = .ok (.lconst n, 1))  (k : mV p l e R s m args below meth c QQ dC dI aC A n0 ad0 xa nL (σ, ce, sl, pc + 1, ls, .long (Int64.ofNat (n : Nat)) :: st)) : mV p l e R s m args below meth c QQ dC dI aC A n0 ad0 xa nL (σ, ce, sl, pc, ls, st) := by
  intro ad H locs lsC h1 h2 h3 h4 h5 h6
  exact lv_lconst hC.1 hC.2.1 hd rfl (k ad H locs lsC h1 h2 h3 h4 h5 h6)
theorem mV_ldc (hC : m_Ctx p s m args meth c cc nL own dC dI aC A xa X Y) {i : Nat} {v : Int32} (hd : decode cc pc = .ok (.ldc i, 2)) (hw : Cond.constant own i v ∈ a_tb) (k : mV p l e R s m args below meth c QQ dC dI aC A n0 ad0 xa nL (σ, ce, sl, pc + 2, ls, .int v :: st)) : mV p l e R s m args below meth c QQ dC dI aC A n0 ad0 xa nL (σ, ce, sl, pc, ls, st) := by
  intro ad H locs lsC h1 h2 h3 h4 h5 h6
  exact lv_ldc hC.1 hC.2.1 hC.2.2.2.1 (hC.2.2.2.2.1 _ hw) hd (k ad H locs lsC h1 h2 h3 h4 h5 h6)
theorem mV_ldcw (hC : m_Ctx p s m args meth c cc nL own dC dI aC A xa X Y) {i : Nat} {v : Int32} (hd : decode cc pc = .ok (.ldc_w i, 3)) (hw : Cond.constant own i v ∈ a_tb) (k : mV p l e R s m args below meth c QQ dC dI aC A n0 ad0 xa nL (σ, ce, sl, pc + 3, ls, .int v :: st)) : mV p l e R s m args below meth c QQ dC dI aC A n0 ad0 xa nL (σ, ce, sl, pc, ls, st) := by
  intro ad H locs lsC h1 h2 h3 h4 h5 h6
  exact lv_ldcw hC.1 hC.2.1 hC.2.2.2.1 (hC.2.2.2.2.1 _ hw) hd (k ad H locs lsC h1 h2 h3 h4 h5 h6)
theorem mV_ldc2 (hC : m_Ctx p s m args meth c cc nL own dC dI aC A xa X Y) {i : Nat} {v : Int64} (hd : decode cc pc = .ok (.ldc2_w i, 3)) (hw : Cond.constantLong own i v ∈ a_tb) (k : mV p l e R s m args below meth c QQ dC dI aC A n0 ad0 xa nL (σ, ce, sl, pc + 3, ls, .long v :: st)) : mV p l e R s m args below meth c QQ dC dI aC A n0 ad0 xa nL (σ, ce, sl, pc, ls, st) := by
  intro ad H locs lsC h1 h2 h3 h4 h5 h6
  exact lv_ldc2 hC.1 hC.2.1 hC.2.2.2.1 (hC.2.2.2.2.1 _ hw) hd (k ad H locs lsC h1 h2 h3 h4 h5 h6)

theorem mV_iadd (hC : m_Ctx p s m args meth c cc nL own dC dI aC A xa X Y) {x y : Int32} (hd : decode cc pc = .ok (.iadd, 1))  (k : mV p l e R s m args below meth c QQ dC dI aC A n0 ad0 xa nL (σ, ce, sl, pc + 1, ls, .int (x + y) :: st)) : mV p l e R s m args below meth c QQ dC dI aC A n0 ad0 xa nL (σ, ce, sl, pc, ls, .int y :: .int x :: st) := by
  intro ad H locs lsC h1 h2 h3 h4 h5 h6
  exact lv_iadd hC.1 hC.2.1 hd (k ad H locs lsC h1 h2 h3 h4 h5 h6)
theorem mV_isub (hC : m_Ctx p s m args meth c cc nL own dC dI aC A xa X Y) {x y : Int32} (hd : decode cc pc = .ok (.isub, 1))  (k : mV p l e R s m args below meth c QQ dC dI aC A n0 ad0 xa nL (σ, ce, sl, pc + 1, ls, .int (x - y) :: st)) : mV p l e R s m args below meth c QQ dC dI aC A n0 ad0 xa nL (σ, ce, sl, pc, ls, .int y :: .int x :: st) := by
  intro ad H locs lsC h1 h2 h3 h4 h5 h6
  exact lv_isub hC.1 hC.2.1 hd (k ad H locs lsC h1 h2 h3 h4 h5 h6)
theorem mV_imul (hC : m_Ctx p s m args meth c cc nL own dC dI aC A xa X Y) {x y : Int32} (hd : decode cc pc = .ok (.imul, 1))  (k : mV p l e R s m args below meth c QQ dC dI aC A n0 ad0 xa nL (σ, ce, sl, pc + 1, ls, .int (x * y) :: st)) : mV p l e R s m args below meth c QQ dC dI aC A n0 ad0 xa nL (σ, ce, sl, pc, ls, .int y :: .int x :: st) := by
  intro ad H locs lsC h1 h2 h3 h4 h5 h6
  exact lv_imul hC.1 hC.2.1 hd (k ad H locs lsC h1 h2 h3 h4 h5 h6)
theorem mV_iand (hC : m_Ctx p s m args meth c cc nL own dC dI aC A xa X Y) {x y : Int32} (hd : decode cc pc = .ok (.iand, 1))  (k : mV p l e R s m args below meth c QQ dC dI aC A n0 ad0 xa nL (σ, ce, sl, pc + 1, ls, .int (x &&& y) :: st)) : mV p l e R s m args below meth c QQ dC dI aC A n0 ad0 xa nL (σ, ce, sl, pc, ls, .int y :: .int x :: st) := by
  intro ad H locs lsC h1 h2 h3 h4 h5 h6
  exact lv_iand hC.1 hC.2.1 hd (k ad H locs lsC h1 h2 h3 h4 h5 h6)
theorem mV_ior (hC : m_Ctx p s m args meth c cc nL own dC dI aC A xa X Y) {x y : Int32} (hd : decode cc pc = .ok (.ior, 1))  (k : mV p l e R s m args below meth c QQ dC dI aC A n0 ad0 xa nL (σ, ce, sl, pc + 1, ls, .int (x ||| y) :: st)) : mV p l e R s m args below meth c QQ dC dI aC A n0 ad0 xa nL (σ, ce, sl, pc, ls, .int y :: .int x :: st) := by
  intro ad H locs lsC h1 h2 h3 h4 h5 h6
  exact lv_ior hC.1 hC.2.1 hd (k ad H locs lsC h1 h2 h3 h4 h5 h6)
theorem mV_ixor (hC : m_Ctx p s m args meth c cc nL own dC dI aC A xa X Y) {x y : Int32} (hd : decode cc pc = .ok (.ixor, 1))  (k : mV p l e R s m args below meth c QQ dC dI aC A n0 ad0 xa nL (σ, ce, sl, pc + 1, ls, .int (x ^^^ y) :: st)) : mV p l e R s m args below meth c QQ dC dI aC A n0 ad0 xa nL (σ, ce, sl, pc, ls, .int y :: .int x :: st) := by
  intro ad H locs lsC h1 h2 h3 h4 h5 h6
  exact lv_ixor hC.1 hC.2.1 hd (k ad H locs lsC h1 h2 h3 h4 h5 h6)
theorem mV_ishl (hC : m_Ctx p s m args meth c cc nL own dC dI aC A xa X Y) {x y : Int32} (hd : decode cc pc = .ok (.ishl, 1))  (k : mV p l e R s m args below meth c QQ dC dI aC A n0 ad0 xa nL (σ, ce, sl, pc + 1, ls, .int (x <<< (y &&& 31)) :: st)) : mV p l e R s m args below meth c QQ dC dI aC A n0 ad0 xa nL (σ, ce, sl, pc, ls, .int y :: .int x :: st) := by
  intro ad H locs lsC h1 h2 h3 h4 h5 h6
  exact lv_ishl hC.1 hC.2.1 hd (k ad H locs lsC h1 h2 h3 h4 h5 h6)
theorem mV_ishr (hC : m_Ctx p s m args meth c cc nL own dC dI aC A xa X Y) {x y : Int32} (hd : decode cc pc = .ok (.ishr, 1))  (k : mV p l e R s m args below meth c QQ dC dI aC A n0 ad0 xa nL (σ, ce, sl, pc + 1, ls, .int (x >>> (y &&& 31)) :: st)) : mV p l e R s m args below meth c QQ dC dI aC A n0 ad0 xa nL (σ, ce, sl, pc, ls, .int y :: .int x :: st) := by
  intro ad H locs lsC h1 h2 h3 h4 h5 h6
  exact lv_ishr hC.1 hC.2.1 hd (k ad H locs lsC h1 h2 h3 h4 h5 h6)
theorem mV_idiv (hC : m_Ctx p s m args meth c cc nL own dC dI aC A xa X Y) {x y : Int32} (hd : decode cc pc = .ok (.idiv, 1)) (hne : ¬ y = 0) (k : mV p l e R s m args below meth c QQ dC dI aC A n0 ad0 xa nL (σ, ce, sl, pc + 1, ls, .int (x / y) :: st)) : mV p l e R s m args below meth c QQ dC dI aC A n0 ad0 xa nL (σ, ce, sl, pc, ls, .int y :: .int x :: st) := by
  intro ad H locs lsC h1 h2 h3 h4 h5 h6
  exact lv_idiv hC.1 hC.2.1 hd hne (k ad H locs lsC h1 h2 h3 h4 h5 h6)
theorem mV_irem (hC : m_Ctx p s m args meth c cc nL own dC dI aC A xa X Y) {x y : Int32} (hd : decode cc pc = .ok (.irem, 1)) (hne : ¬ y = 0) (k : mV p l e R s m args below meth c QQ dC dI aC A n0 ad0 xa nL (σ, ce, sl, pc + 1, ls, .int (x - x / y * y) :: st)) : mV p l e R s m args below meth c QQ dC dI aC A n0 ad0 xa nL (σ, ce, sl, pc, ls, .int y :: .int x :: st) := by
  intro ad H locs lsC h1 h2 h3 h4 h5 h6
  exact lv_irem hC.1 hC.2.1 hd hne (k ad H locs lsC h1 h2 h3 h4 h5 h6)
theorem mV_ineg (hC : m_Ctx p s m args meth c cc nL own dC dI aC A xa X Y) {x : Int32} (hd : decode cc pc = .ok (.ineg, 1))  (k : mV p l e R s m args below meth c QQ dC dI aC A n0 ad0 xa nL (σ, ce, sl, pc + 1, ls, .int (-x) :: st)) : mV p l e R s m args below meth c QQ dC dI aC A n0 ad0 xa nL (σ, ce, sl, pc, ls, .int x :: st) := by
  intro ad H locs lsC h1 h2 h3 h4 h5 h6
  exact lv_ineg hC.1 hC.2.1 hd (k ad H locs lsC h1 h2 h3 h4 h5 h6)
theorem mV_i2b (hC : m_Ctx p s m args meth c cc nL own dC dI aC A xa X Y) {x : Int32} (hd : decode cc pc = .ok (.i2b, 1))  (k : mV p l e R s m args below meth c QQ dC dI aC A n0 ad0 xa nL (σ, ce, sl, pc + 1, ls, .int x.toInt8.toInt32 :: st)) : mV p l e R s m args below meth c QQ dC dI aC A n0 ad0 xa nL (σ, ce, sl, pc, ls, .int x :: st) := by
  intro ad H locs lsC h1 h2 h3 h4 h5 h6
  exact lv_i2b hC.1 hC.2.1 hd rfl (k ad H locs lsC h1 h2 h3 h4 h5 h6)
theorem mV_i2s (hC : m_Ctx p s m args meth c cc nL own dC dI aC A xa X Y) {x : Int32} (hd : decode cc pc = .ok (.i2s, 1))  (k : mV p l e R s m args below meth c QQ dC dI aC A n0 ad0 xa nL (σ, ce, sl, pc + 1, ls, .int x.toInt16.toInt32 :: st)) : mV p l e R s m args below meth c QQ dC dI aC A n0 ad0 xa nL (σ, ce, sl, pc, ls, .int x :: st) := by
  intro ad H locs lsC h1 h2 h3 h4 h5 h6
  exact lv_i2s hC.1 hC.2.1 hd rfl (k ad H locs lsC h1 h2 h3 h4 h5 h6)
theorem mV_i2c (hC : m_Ctx p s m args meth c cc nL own dC dI aC A xa X Y) {x : Int32} (hd : decode cc pc = .ok (.i2c, 1))  (k : mV p l e R s m args below meth c QQ dC dI aC A n0 ad0 xa nL (σ, ce, sl, pc + 1, ls, .int (x.toUInt32 % 65536).toInt32 :: st)) : mV p l e R s m args below meth c QQ dC dI aC A n0 ad0 xa nL (σ, ce, sl, pc, ls, .int x :: st) := by
  intro ad H locs lsC h1 h2 h3 h4 h5 h6
  exact lv_i2c hC.1 hC.2.1 hd rfl (k ad H locs lsC h1 h2 h3 h4 h5 h6)
theorem mV_i2l (hC : m_Ctx p s m args meth c cc nL own dC dI aC A xa X Y) {x : Int32} (hd : decode cc pc = .ok (.i2l, 1))  (k : mV p l e R s m args below meth c QQ dC dI aC A n0 ad0 xa nL (σ, ce, sl, pc + 1, ls, .long x.toInt64 :: st)) : mV p l e R s m args below meth c QQ dC dI aC A n0 ad0 xa nL (σ, ce, sl, pc, ls, .int x :: st) := by
  intro ad H locs lsC h1 h2 h3 h4 h5 h6
  exact lv_i2l hC.1 hC.2.1 hd rfl (k ad H locs lsC h1 h2 h3 h4 h5 h6)
theorem mV_iushr (hC : m_Ctx p s m args meth c cc nL own dC dI aC A xa X Y) {x y : Int32} (hd : decode cc pc = .ok (.iushr, 1))  (k : mV p l e R s m args below meth c QQ dC dI aC A n0 ad0 xa nL (σ, ce, sl, pc + 1, ls, .int (x.toUInt32 >>> (y.toUInt32 &&& Int32.toUInt32 31)).toInt32 :: st)) : mV p l e R s m args below meth c QQ dC dI aC A n0 ad0 xa nL (σ, ce, sl, pc, ls, .int y :: .int x :: st) := by
  intro ad H locs lsC h1 h2 h3 h4 h5 h6
  exact lv_iushr hC.1 hC.2.1 hd rfl (k ad H locs lsC h1 h2 h3 h4 h5 h6)

theorem mV_ladd (hC : m_Ctx p s m args meth c cc nL own dC dI aC A xa X Y) {x y : Int64} (hd : decode cc pc = .ok (.ladd, 1))  (k : mV p l e R s m args below meth c QQ dC dI aC A n0 ad0 xa nL (σ, ce, sl, pc + 1, ls, .long (x + y) :: st)) : mV p l e R s m args below meth c QQ dC dI aC A n0 ad0 xa nL (σ, ce, sl, pc, ls, .long y :: .long x :: st) := by
  intro ad H locs lsC h1 h2 h3 h4 h5 h6
  exact lv_ladd hC.1 hC.2.1 hd (k ad H locs lsC h1 h2 h3 h4 h5 h6)
theorem mV_lsub (hC : m_Ctx p s m args meth c cc nL own dC dI aC A xa X Y) {x y : Int64} (hd : decode cc pc = .ok (.lsub, 1))  (k : mV p l e R s m args below meth c QQ dC dI aC A n0 ad0 xa nL (σ, ce, sl, pc + 1, ls, .long (x - y) :: st)) : mV p l e R s m args below meth c QQ dC dI aC A n0 ad0 xa nL (σ, ce, sl, pc, ls, .long y :: .long x :: st) := by
  intro ad H locs lsC h1 h2 h3 h4 h5 h6
  exact lv_lsub hC.1 hC.2.1 hd (k ad H locs lsC h1 h2 h3 h4 h5 h6)
theorem mV_lmul (hC : m_Ctx p s m args meth c cc nL own dC dI aC A xa X Y) {x y : Int64} (hd : decode cc pc = .ok (.lmul, 1))  (k : mV p l e R s m args below meth c QQ dC dI aC A n0 ad0 xa nL (σ, ce, sl, pc + 1, ls, .long (x * y) :: st)) : mV p l e R s m args below meth c QQ dC dI aC A n0 ad0 xa nL (σ, ce, sl, pc, ls, .long y :: .long x :: st) := by
  intro ad H locs lsC h1 h2 h3 h4 h5 h6
  exact lv_lmul hC.1 hC.2.1 hd (k ad H locs lsC h1 h2 h3 h4 h5 h6)
theorem mV_land (hC : m_Ctx p s m args meth c cc nL own dC dI aC A xa X Y) {x y : Int64} (hd : decode cc pc = .ok (.land, 1))  (k : mV p l e R s m args below meth c QQ dC dI aC A n0 ad0 xa nL (σ, ce, sl, pc + 1, ls, .long (x &&& y) :: st)) : mV p l e R s m args below meth c QQ dC dI aC A n0 ad0 xa nL (σ, ce, sl, pc, ls, .long y :: .long x :: st) := by
  intro ad H locs lsC h1 h2 h3 h4 h5 h6
  exact lv_land hC.1 hC.2.1 hd (k ad H locs lsC h1 h2 h3 h4 h5 h6)
theorem mV_lor (hC : m_Ctx p s m args meth c cc nL own dC dI aC A xa X Y) {x y : Int64} (hd : decode cc pc = .ok (.lor, 1))  (k : mV p l e R s m args below meth c QQ dC dI aC A n0 ad0 xa nL (σ, ce, sl, pc + 1, ls, .long (x ||| y) :: st)) : mV p l e R s m args below meth c QQ dC dI aC A n0 ad0 xa nL (σ, ce, sl, pc, ls, .long y :: .long x :: st) := by
  intro ad H locs lsC h1 h2 h3 h4 h5 h6
  exact lv_lor hC.1 hC.2.1 hd (k ad H locs lsC h1 h2 h3 h4 h5 h6)
theorem mV_ldiv (hC : m_Ctx p s m args meth c cc nL own dC dI aC A xa X Y) {x y : Int64} (hd : decode cc pc = .ok (.ldiv, 1)) (hne : ¬ y = 0) (k : mV p l e R s m args below meth c QQ dC dI aC A n0 ad0 xa nL (σ, ce, sl, pc + 1, ls, .long (x / y) :: st)) : mV p l e R s m args below meth c QQ dC dI aC A n0 ad0 xa nL (σ, ce, sl, pc, ls, .long y :: .long x :: st) := by
  intro ad H locs lsC h1 h2 h3 h4 h5 h6
  exact lv_ldiv hC.1 hC.2.1 hd hne (k ad H locs lsC h1 h2 h3 h4 h5 h6)
theorem mV_lrem (hC : m_Ctx p s m args meth c cc nL own dC dI aC A xa X Y) {x y : Int64} (hd : decode cc pc = .ok (.lrem, 1)) (hne : ¬ y = 0) (k : mV p l e R s m args below meth c QQ dC dI aC A n0 ad0 xa nL (σ, ce, sl, pc + 1, ls, .long (x - x / y * y) :: st)) : mV p l e R s m args below meth c QQ dC dI aC A n0 ad0 xa nL (σ, ce, sl, pc, ls, .long y :: .long x :: st) := by
  intro ad H locs lsC h1 h2 h3 h4 h5 h6
  exact lv_lrem hC.1 hC.2.1 hd hne (k ad H locs lsC h1 h2 h3 h4 h5 h6)
theorem mV_lshl (hC : m_Ctx p s m args meth c cc nL own dC dI aC A xa X Y) {x : Int64} {y : Int32} (hd : decode cc pc = .ok (.lshl, 1))  (k : mV p l e R s m args below meth c QQ dC dI aC A n0 ad0 xa nL (σ, ce, sl, pc + 1, ls, .long (x <<< (y.toInt64 &&& 63)) :: st)) : mV p l e R s m args below meth c QQ dC dI aC A n0 ad0 xa nL (σ, ce, sl, pc, ls, .int y :: .long x :: st) := by
  intro ad H locs lsC h1 h2 h3 h4 h5 h6
  exact lv_lshl hC.1 hC.2.1 hd rfl (k ad H locs lsC h1 h2 h3 h4 h5 h6)
theorem mV_lushr (hC : m_Ctx p s m args meth c cc nL own dC dI aC A xa X Y) {x : Int64} {y : Int32} (hd : decode cc pc = .ok (.lushr, 1))  (k : mV p l e R s m args below meth c QQ dC dI aC A n0 ad0 xa nL (σ, ce, sl, pc + 1, ls, .long (x.toUInt64 >>> (y.toInt64.toUInt64 &&& Int64.toUInt64 63)).toInt64 :: st)) : mV p l e R s m args below meth c QQ dC dI aC A n0 ad0 xa nL (σ, ce, sl, pc, ls, .int y :: .long x :: st) := by
  intro ad H locs lsC h1 h2 h3 h4 h5 h6
  exact lv_lushr hC.1 hC.2.1 hd rfl (k ad H locs lsC h1 h2 h3 h4 h5 h6)
theorem mV_lcmp (hC : m_Ctx p s m args meth c cc nL own dC dI aC A xa X Y) {x y : Int64} (hd : decode cc pc = .ok (.lcmp, 1))  (k : mV p l e R s m args below meth c QQ dC dI aC A n0 ad0 xa nL (σ, ce, sl, pc + 1, ls, .int (lg_cmp x y) :: st)) : mV p l e R s m args below meth c QQ dC dI aC A n0 ad0 xa nL (σ, ce, sl, pc, ls, .long y :: .long x :: st) := by
  intro ad H locs lsC h1 h2 h3 h4 h5 h6
  exact W.lcmp hC.1 hC.2.1 hd (k ad H locs lsC h1 h2 h3 h4 h5 h6)
theorem mV_l2i (hC : m_Ctx p s m args meth c cc nL own dC dI aC A xa X Y) {x : Int64} (hd : decode cc pc = .ok (.l2i, 1))  (k : mV p l e R s m args below meth c QQ dC dI aC A n0 ad0 xa nL (σ, ce, sl, pc + 1, ls, .int x.toInt32 :: st)) : mV p l e R s m args below meth c QQ dC dI aC A n0 ad0 xa nL (σ, ce, sl, pc, ls, .long x :: st) := by
  intro ad H locs lsC h1 h2 h3 h4 h5 h6
  exact lv_l2i hC.1 hC.2.1 hd rfl (k ad H locs lsC h1 h2 h3 h4 h5 h6)
theorem mV_dup (hC : m_Ctx p s m args meth c cc nL own dC dI aC A xa X Y) {a : Value} (hd : decode cc pc = .ok (.dup, 1)) (ha : a.category = 1) (k : mV p l e R s m args below meth c QQ dC dI aC A n0 ad0 xa nL (σ, ce, sl, pc + 1, ls, a :: a :: st)) : mV p l e R s m args below meth c QQ dC dI aC A n0 ad0 xa nL (σ, ce, sl, pc, ls, a :: st) := by
  intro ad H locs lsC h1 h2 h3 h4 h5 h6
  exact lv_dup hC.1 hC.2.1 hd ((m_re_cat ad a).trans ha) (k ad H locs lsC h1 h2 h3 h4 h5 h6)
theorem mV_pop (hC : m_Ctx p s m args meth c cc nL own dC dI aC A xa X Y) {a : Value} (hd : decode cc pc = .ok (.pop, 1)) (ha : a.category = 1) (k : mV p l e R s m args below meth c QQ dC dI aC A n0 ad0 xa nL (σ, ce, sl, pc + 1, ls, st)) : mV p l e R s m args below meth c QQ dC dI aC A n0 ad0 xa nL (σ, ce, sl, pc, ls, a :: st) := by
  intro ad H locs lsC h1 h2 h3 h4 h5 h6
  exact lv_pop hC.1 hC.2.1 hd ((m_re_cat ad a).trans ha) (k ad H locs lsC h1 h2 h3 h4 h5 h6)
theorem mV_dup_x1 (hC : m_Ctx p s m args meth c cc nL own dC dI aC A xa X Y) {a b : Value} (hd : decode cc pc = .ok (.dup_x1, 1)) (ha : a.category = 1) (hb : b.category = 1) (k : mV p l e R s m args below meth c QQ dC dI aC A n0 ad0 xa nL (σ, ce, sl, pc + 1, ls, a :: b :: a :: st)) : mV p l e R s m args below meth c QQ dC dI aC A n0 ad0 xa nL (σ, ce, sl, pc, ls, a :: b :: st) := by
  intro ad H locs lsC h1 h2 h3 h4 h5 h6
  exact lv_dup_x1 hC.1 hC.2.1 hd ((m_re_cat ad a).trans ha) ((m_re_cat ad b).trans hb) (k ad H locs lsC h1 h2 h3 h4 h5 h6)
theorem mV_dup2 (hC : m_Ctx p s m args meth c cc nL own dC dI aC A xa X Y) {a b : Value} (hd : decode cc pc = .ok (.dup2, 1)) (ha : a.category = 1) (hb : b.category = 1) (k : mV p l e R s m args below meth c QQ dC dI aC A n0 ad0 xa nL (σ, ce, sl, pc + 1, ls, a :: b :: a :: b :: st)) : mV p l e R s m args below meth c QQ dC dI aC A n0 ad0 xa nL (σ, ce, sl, pc, ls, a :: b :: st) := by
  intro ad H locs lsC h1 h2 h3 h4 h5 h6
  exact lv_dup2_11 hC.1 hC.2.1 hd ((m_re_cat ad a).trans ha) ((m_re_cat ad b).trans hb) (k ad H locs lsC h1 h2 h3 h4 h5 h6)
theorem mV_dup2w (hC : m_Ctx p s m args meth c cc nL own dC dI aC A xa X Y) {a : Value} (hd : decode cc pc = .ok (.dup2, 1)) (ha : a.category = 2) (k : mV p l e R s m args below meth c QQ dC dI aC A n0 ad0 xa nL (σ, ce, sl, pc + 1, ls, a :: a :: st)) : mV p l e R s m args below meth c QQ dC dI aC A n0 ad0 xa nL (σ, ce, sl, pc, ls, a :: st) := by
  intro ad H locs lsC h1 h2 h3 h4 h5 h6
  exact lv_dup2_2 hC.1 hC.2.1 hd ((m_re_cat ad a).trans ha) (k ad H locs lsC h1 h2 h3 h4 h5 h6)
theorem mV_pop2w (hC : m_Ctx p s m args meth c cc nL own dC dI aC A xa X Y) {a : Value} (hd : decode cc pc = .ok (.pop2, 1)) (ha : a.category = 2) (k : mV p l e R s m args below meth c QQ dC dI aC A n0 ad0 xa nL (σ, ce, sl, pc + 1, ls, st)) : mV p l e R s m args below meth c QQ dC dI aC A n0 ad0 xa nL (σ, ce, sl, pc, ls, a :: st) := by
  intro ad H locs lsC h1 h2 h3 h4 h5 h6
  exact lv_pop2_2 hC.1 hC.2.1 hd ((m_re_cat ad a).trans ha) (k ad H locs lsC h1 h2 h3 h4 h5 h6)

theorem mV_iload_n (hC : m_Ctx p s m args meth c cc nL own dC dI aC A xa X Y) {j : Fin 4} {x : Int32} (hd : decode cc pc = .ok (.iload_n j, 1)) (hl : m_ld (j : Nat) ls = some (.int x)) (k : mV p l e R s m args below meth c QQ dC dI aC A n0 ad0 xa nL (σ, ce, sl, pc + 1, ls, .int x :: st)) : mV p l e R s m args below meth c QQ dC dI aC A n0 ad0 xa nL (σ, ce, sl, pc, ls, st) := by
  intro ad H locs lsC h1 h2 h3 h4 h5 h6
  exact lv_iload_n hC.1 hC.2.1 hd rfl (m_ld_in hl h6) (k ad H locs lsC h1 h2 h3 h4 h5 h6)
theorem mV_iload (hC : m_Ctx p s m args meth c cc nL own dC dI aC A xa X Y) {j : Nat} {x : Int32} (hd : decode cc pc = .ok (.iload j, 2)) (hl : m_ld j ls = some (.int x)) (k : mV p l e R s m args below meth c QQ dC dI aC A n0 ad0 xa nL (σ, ce, sl, pc + 2, ls, .int x :: st)) : mV p l e R s m args below meth c QQ dC dI aC A n0 ad0 xa nL (σ, ce, sl, pc, ls, st) := by
  intro ad H locs lsC h1 h2 h3 h4 h5 h6
  exact lv_iload hC.1 hC.2.1 hd (m_ld_in hl h6) (k ad H locs lsC h1 h2 h3 h4 h5 h6)
theorem mV_istore_n (hC : m_Ctx p s m args meth c cc nL own dC dI aC A xa X Y) {j : Fin 4} {x : Int32} (hd : decode cc pc = .ok (.istore_n j, 1)) (hn : (j : Nat) < nL) (k : mV p l e R s m args below meth c QQ dC dI aC A n0 ad0 xa nL (σ, ce, sl, pc + 1, (m_st1 (j : Nat) (.int x) ls), st)) : mV p l e R s m args below meth c QQ dC dI aC A n0 ad0 xa nL (σ, ce, sl, pc, ls, .int x :: st) := by
  intro ad H locs lsC h1 h2 h3 h4 h5 h6
  exact lv_istore_n hC.1 hC.2.1 hd rfl h6 hn (m_lv_st1 ad (j : Nat) (.int x) ls) (fun ls2 h7 => k ad H locs ls2 h1 h2 h3 h4 h5 h7)
theorem mV_istore (hC : m_Ctx p s m args meth c cc nL own dC dI aC A xa X Y) {j : Nat} {x : Int32} (hd : decode cc pc = .ok (.istore j, 2)) (hn : j < nL) (k : mV p l e R s m args below meth c QQ dC dI aC A n0 ad0 xa nL (σ, ce, sl, pc + 2, (m_st1 j (.int x) ls), st)) : mV p l e R s m args below meth c QQ dC dI aC A n0 ad0 xa nL (σ, ce, sl, pc, ls, .int x :: st) := by
  intro ad H locs lsC h1 h2 h3 h4 h5 h6
  exact lv_istore hC.1 hC.2.1 hd h6 hn (m_lv_st1 ad j (.int x) ls) (fun ls2 h7 => k ad H locs ls2 h1 h2 h3 h4 h5 h7)
theorem mV_lload_n (hC : m_Ctx p s m args meth c cc nL own dC dI aC A xa X Y) {j : Fin 4} {x : Int64} (hd : decode cc pc = .ok (.lload_n j, 1)) (hl : m_ld (j : Nat) ls = some (.long x)) (k : mV p l e R s m args below meth c QQ dC dI aC A n0 ad0 xa nL (σ, ce, sl, pc + 1, ls, .long x :: st)) : mV p l e R s m args below meth c QQ dC dI aC A n0 ad0 xa nL (σ, ce, sl, pc, ls, st) := by
  intro ad H locs lsC h1 h2 h3 h4 h5 h6
  exact lv_lload_n hC.1 hC.2.1 hd rfl (m_ld_in hl h6) (k ad H locs lsC h1 h2 h3 h4 h5 h6)
theorem mV_lload (hC : m_Ctx p s m args meth c cc nL own dC dI aC A xa X Y) {j : Nat} {x : Int64} (hd : decode cc pc = .ok (.lload j, 2)) (hl : m_ld j ls = some (.long x)) (k : mV p l e R s m args below meth c QQ dC dI aC A n0 ad0 xa nL (σ, ce, sl, pc + 2, ls, .long x :: st)) : mV p l e R s m args below meth c QQ dC dI aC A n0 ad0 xa nL (σ, ce, sl, pc, ls, st) := by
  intro ad H locs lsC h1 h2 h3 h4 h5 h6
  exact lv_lload hC.1 hC.2.1 hd (m_ld_in hl h6) (k ad H locs lsC h1 h2 h3 h4 h5 h6)
theorem mV_lstore_n (hC : m_Ctx p s m args meth c cc nL own dC dI aC A xa X Y) {j : Fin 4} {x : Int64} (hd : decode cc pc = .ok (.lstore_n j, 1)) (hn : (j : Nat) + 1 < nL) (k : mV p l e R s m args below meth c QQ dC dI aC A n0 ad0 xa nL (σ, ce, sl, pc + 1, (m_st2 (j : Nat) (.long x) ls), st)) : mV p l e R s m args below meth c QQ dC dI aC A n0 ad0 xa nL (σ, ce, sl, pc, ls, .long x :: st) := by
  intro ad H locs lsC h1 h2 h3 h4 h5 h6
  exact lv_lstore_n hC.1 hC.2.1 hd rfl h6 hn (m_lv_st2 ad (j : Nat) (.long x) ls) (fun ls2 h7 => k ad H locs ls2 h1 h2 h3 h4 h5 h7)
theorem mV_lstore (hC : m_Ctx p s m args meth c cc nL own dC dI aC A xa X Y) {j : Nat} {x : Int64} (hd : decode cc pc = .ok (.lstore j, 2)) (hn : j + 1 < nL) (k : mV p l e R s m args below meth c QQ dC dI aC A n0 ad0 xa nL (σ, ce, sl, pc + 2, (m_st2 j (.long x) ls), st)) : mV p l e R s m args below meth c QQ dC dI aC A n0 ad0 xa nL (σ, ce, sl, pc, ls, .long x :: st) := by
  intro ad H locs lsC h1 h2 h3 h4 h5 h6
  exact lv_lstore hC.1 hC.2.1 hd h6 hn (m_lv_st2 ad j (.long x) ls) (fun ls2 h7 => k ad H locs ls2 h1 h2 h3 h4 h5 h7)
theorem mV_aload_n (hC : m_Ctx p s m args meth c cc nL own dC dI aC A xa X Y) {j : Fin 4} {x : Nat} (hd : decode cc pc = .ok (.aload_n j, 1)) (hl : m_ld (j : Nat) ls = some (.ref x)) (k : mV p l e R s m args below meth c QQ dC dI aC A n0 ad0 xa nL (σ, ce, sl, pc + 1, ls, .ref x :: st)) : mV p l e R s m args below meth c QQ dC dI aC A n0 ad0 xa nL (σ, ce, sl, pc, ls, st) := by
  intro ad H locs lsC h1 h2 h3 h4 h5 h6
  exact lv_aload_n hC.1 hC.2.1 hd rfl (m_ld_in hl h6) (k ad H locs lsC h1 h2 h3 h4 h5 h6)
theorem mV_aload (hC : m_Ctx p s m args meth c cc nL own dC dI aC A xa X Y) {j : Nat} {x : Nat} (hd : decode cc pc = .ok (.aload j, 2)) (hl : m_ld j ls = some (.ref x)) (k : mV p l e R s m args below meth c QQ dC dI aC A n0 ad0 xa nL (σ, ce, sl, pc + 2, ls, .ref x :: st)) : mV p l e R s m args below meth c QQ dC dI aC A n0 ad0 xa nL (σ, ce, sl, pc, ls, st) := by
  intro ad H locs lsC h1 h2 h3 h4 h5 h6
  exact lv_aload hC.1 hC.2.1 hd (m_ld_in hl h6) (k ad H locs lsC h1 h2 h3 h4 h5 h6)
theorem mV_astore_n (hC : m_Ctx p s m args meth c cc nL own dC dI aC A xa X Y) {j : Fin 4} {x : Nat} (hd : decode cc pc = .ok (.astore_n j, 1)) (hn : (j : Nat) < nL) (k : mV p l e R s m args below meth c QQ dC dI aC A n0 ad0 xa nL (σ, ce, sl, pc + 1, (m_st1 (j : Nat) (.ref x) ls), st)) : mV p l e R s m args below meth c QQ dC dI aC A n0 ad0 xa nL (σ, ce, sl, pc, ls, .ref x :: st) := by
  intro ad H locs lsC h1 h2 h3 h4 h5 h6
  exact lv_astore_n hC.1 hC.2.1 hd rfl h6 hn (m_lv_st1 ad (j : Nat) (.ref x) ls) (fun ls2 h7 => k ad H locs ls2 h1 h2 h3 h4 h5 h7)
theorem mV_astore (hC : m_Ctx p s m args meth c cc nL own dC dI aC A xa X Y) {j : Nat} {x : Nat} (hd : decode cc pc = .ok (.astore j, 2)) (hn : j < nL) (k : mV p l e R s m args below meth c QQ dC dI aC A n0 ad0 xa nL (σ, ce, sl, pc + 2, (m_st1 j (.ref x) ls), st)) : mV p l e R s m args below meth c QQ dC dI aC A n0 ad0 xa nL (σ, ce, sl, pc, ls, .ref x :: st) := by
  intro ad H locs lsC h1 h2 h3 h4 h5 h6
  exact lv_astore hC.1 hC.2.1 hd h6 hn (m_lv_st1 ad j (.ref x) ls) (fun ls2 h7 => k ad H locs ls2 h1 h2 h3 h4 h5 h7)
theorem mV_iinc (hC : m_Ctx p s m args meth c cc nL own dC dI aC A xa X Y) {j : Nat} {n : Int} {x : Int32} (hd : decode cc pc = .ok (.iinc j n, 3)) (hl : m_ld j ls = some (.int x)) (hn : j < nL) (k : mV p l e R s m args below meth c QQ dC dI aC A n0 ad0 xa nL (σ, ce, sl, pc + 3, (m_st1 j (.int (x + Int32.ofInt n)) ls), st)) : mV p l e R s m args below meth c QQ dC dI aC A n0 ad0 xa nL (σ, ce, sl, pc, ls, st) := by
  intro ad H locs lsC h1 h2 h3 h4 h5 h6
  have h7 : lv_has lsC nL ((j, .int x) :: m_lv ad ls) := ⟨h6.1, h6.2.1, fun q hq => by
    rcases List.mem_cons.mp hq with h | h
    · subst h; exact m_ld_in hl h6
    · exact h6.2.2 q h⟩
  refine lv_iinc hC.1 hC.2.1 hd h7 (k := 0) rfl rfl hn rfl (fun ls2 h8 => k ad H locs ls2 h1 h2 h3 h4 h5 ?_)
  rw [← m_lv_st1]
  refine ⟨h8.1, h8.2.1, fun q hq => h8.2.2 q ?_⟩
  rcases List.mem_cons.mp hq with h | h
  · subst h; exact List.mem_cons_self
  · obtain ⟨h9, h10⟩ := List.mem_filter.mp h
    exact List.mem_cons_of_mem _ (List.mem_filter.mpr ⟨List.mem_cons_of_mem _ h9, h10⟩)

theorem mV_if_eq (hC : m_Ctx p s m args meth c cc nL own dC dI aC A xa X Y) {x : Int32} {off : Int} {tgt : Nat} (hd : decode cc pc = .ok (.ifCond .eq off, 3)) (ht : (pc : Int) + off = (tgt : Int)) (kt : x = 0 → mV p l e R s m args below meth c QQ dC dI aC A n0 ad0 xa nL (σ, ce, sl, tgt, ls, st)) (kf : ¬ x = 0 → mV p l e R s m args below meth c QQ dC dI aC A n0 ad0 xa nL (σ, ce, sl, pc + 3, ls, st)) : mV p l e R s m args below meth c QQ dC dI aC A n0 ad0 xa nL (σ, ce, sl, pc, ls, .int x :: st) := by
  intro ad H locs lsC h1 h2 h3 h4 h5 h6
  exact lv_if_eq hC.1 hC.2.1 hd ht (fun q => kt q ad H locs lsC h1 h2 h3 h4 h5 h6) (fun q => kf q ad H locs lsC h1 h2 h3 h4 h5 h6)
theorem mV_icmp_eq (hC : m_Ctx p s m args meth c cc nL own dC dI aC A xa X Y) {x y : Int32} {off : Int} {tgt : Nat} (hd : decode cc pc = .ok (.if_icmp .eq off, 3)) (ht : (pc : Int) + off = (tgt : Int)) (kt : x = y → mV p l e R s m args below meth c QQ dC dI aC A n0 ad0 xa nL (σ, ce, sl, tgt, ls, st)) (kf : ¬ x = y → mV p l e R s m args below meth c QQ dC dI aC A n0 ad0 xa nL (σ, ce, sl, pc + 3, ls, st)) : mV p l e R s m args below meth c QQ dC dI aC A n0 ad0 xa nL (σ, ce, sl, pc, ls, .int y :: .int x :: st) := by
  intro ad H locs lsC h1 h2 h3 h4 h5 h6
  exact lv_icmp_eq hC.1 hC.2.1 hd ht (fun q => kt q ad H locs lsC h1 h2 h3 h4 h5 h6) (fun q => kf q ad H locs lsC h1 h2 h3 h4 h5 h6)
theorem mV_if_ne (hC : m_Ctx p s m args meth c cc nL own dC dI aC A xa X Y) {x : Int32} {off : Int} {tgt : Nat} (hd : decode cc pc = .ok (.ifCond .ne off, 3)) (ht : (pc : Int) + off = (tgt : Int)) (kt : ¬ x = 0 → mV p l e R s m args below meth c QQ dC dI aC A n0 ad0 xa nL (σ, ce, sl, tgt, ls, st)) (kf : x = 0 → mV p l e R s m args below meth c QQ dC dI aC A n0 ad0 xa nL (σ, ce, sl, pc + 3, ls, st)) : mV p l e R s m args below meth c QQ dC dI aC A n0 ad0 xa nL (σ, ce, sl, pc, ls, .int x :: st) := by
  intro ad H locs lsC h1 h2 h3 h4 h5 h6
  exact lv_if_ne hC.1 hC.2.1 hd ht (fun q => kt q ad H locs lsC h1 h2 h3 h4 h5 h6) (fun q => kf q ad H locs lsC h1 h2 h3 h4 h5 h6)
theorem mV_icmp_ne (hC : m_Ctx p s m args meth c cc nL own dC dI aC A xa X Y) {x y : Int32} {off : Int} {tgt : Nat} (hd : decode cc pc = .ok (.if_icmp .ne off, 3)) (ht : (pc : Int) + off = (tgt : Int)) (kt : ¬ x = y → mV p l e R s m args below meth c QQ dC dI aC A n0 ad0 xa nL (σ, ce, sl, tgt, ls, st)) (kf : x = y → mV p l e R s m args below meth c QQ dC dI aC A n0 ad0 xa nL (σ, ce, sl, pc + 3, ls, st)) : mV p l e R s m args below meth c QQ dC dI aC A n0 ad0 xa nL (σ, ce, sl, pc, ls, .int y :: .int x :: st) := by
  intro ad H locs lsC h1 h2 h3 h4 h5 h6
  exact lv_icmp_ne hC.1 hC.2.1 hd ht (fun q => kt q ad H locs lsC h1 h2 h3 h4 h5 h6) (fun q => kf q ad H locs lsC h1 h2 h3 h4 h5 h6)
theorem mV_if_lt (hC : m_Ctx p s m args meth c cc nL own dC dI aC A xa X Y) {x : Int32} {off : Int} {tgt : Nat} (hd : decode cc pc = .ok (.ifCond .lt off, 3)) (ht : (pc : Int) + off = (tgt : Int)) (kt : x < 0 → mV p l e R s m args below meth c QQ dC dI aC A n0 ad0 xa nL (σ, ce, sl, tgt, ls, st)) (kf : ¬ x < 0 → mV p l e R s m args below meth c QQ dC dI aC A n0 ad0 xa nL (σ, ce, sl, pc + 3, ls, st)) : mV p l e R s m args below meth c QQ dC dI aC A n0 ad0 xa nL (σ, ce, sl, pc, ls, .int x :: st) := by
  intro ad H locs lsC h1 h2 h3 h4 h5 h6
  exact lv_if_lt hC.1 hC.2.1 hd ht (fun q => kt q ad H locs lsC h1 h2 h3 h4 h5 h6) (fun q => kf q ad H locs lsC h1 h2 h3 h4 h5 h6)
theorem mV_icmp_lt (hC : m_Ctx p s m args meth c cc nL own dC dI aC A xa X Y) {x y : Int32} {off : Int} {tgt : Nat} (hd : decode cc pc = .ok (.if_icmp .lt off, 3)) (ht : (pc : Int) + off = (tgt : Int)) (kt : x < y → mV p l e R s m args below meth c QQ dC dI aC A n0 ad0 xa nL (σ, ce, sl, tgt, ls, st)) (kf : ¬ x < y → mV p l e R s m args below meth c QQ dC dI aC A n0 ad0 xa nL (σ, ce, sl, pc + 3, ls, st)) : mV p l e R s m args below meth c QQ dC dI aC A n0 ad0 xa nL (σ, ce, sl, pc, ls, .int y :: .int x :: st) := by
  intro ad H locs lsC h1 h2 h3 h4 h5 h6
  exact lv_icmp_lt hC.1 hC.2.1 hd ht (fun q => kt q ad H locs lsC h1 h2 h3 h4 h5 h6) (fun q => kf q ad H locs lsC h1 h2 h3 h4 h5 h6)
theorem mV_if_ge (hC : m_Ctx p s m args meth c cc nL own dC dI aC A xa X Y) {x : Int32} {off : Int} {tgt : Nat} (hd : decode cc pc = .ok (.ifCond .ge off, 3)) (ht : (pc : Int) + off = (tgt : Int)) (kt : 0 ≤ x → mV p l e R s m args below meth c QQ dC dI aC A n0 ad0 xa nL (σ, ce, sl, tgt, ls, st)) (kf : ¬ 0 ≤ x → mV p l e R s m args below meth c QQ dC dI aC A n0 ad0 xa nL (σ, ce, sl, pc + 3, ls, st)) : mV p l e R s m args below meth c QQ dC dI aC A n0 ad0 xa nL (σ, ce, sl, pc, ls, .int x :: st) := by
  intro ad H locs lsC h1 h2 h3 h4 h5 h6
  exact lv_if_ge hC.1 hC.2.1 hd ht (fun q => kt q ad H locs lsC h1 h2 h3 h4 h5 h6) (fun q => kf q ad H locs lsC h1 h2 h3 h4 h5 h6)
theorem mV_icmp_ge (hC : m_Ctx p s m args meth c cc nL own dC dI aC A xa X Y) {x y : Int32} {off : Int} {tgt : Nat} (hd : decode cc pc = .ok (.if_icmp .ge off, 3)) (ht : (pc : Int) + off = (tgt : Int)) (kt : y ≤ x → mV p l e R s m args below meth c QQ dC dI aC A n0 ad0 xa nL (σ, ce, sl, tgt, ls, st)) (kf : ¬ y ≤ x → mV p l e R s m args below meth c QQ dC dI aC A n0 ad0 xa nL (σ, ce, sl, pc + 3, ls, st)) : mV p l e R s m args below meth c QQ dC dI aC A n0 ad0 xa nL (σ, ce, sl, pc, ls, .int y :: .int x :: st) := by
  intro ad H locs lsC h1 h2 h3 h4 h5 h6
  exact lv_icmp_ge hC.1 hC.2.1 hd ht (fun q => kt q ad H locs lsC h1 h2 h3 h4 h5 h6) (fun q => kf q ad H locs lsC h1 h2 h3 h4 h5 h6)
theorem mV_if_gt (hC : m_Ctx p s m args meth c cc nL own dC dI aC A xa X Y) {x : Int32} {off : Int} {tgt : Nat} (hd : decode cc pc = .ok (.ifCond .gt off, 3)) (ht : (pc : Int) + off = (tgt : Int)) (kt : 0 < x → mV p l e R s m args below meth c QQ dC dI aC A n0 ad0 xa nL (σ, ce, sl, tgt, ls, st)) (kf : ¬ 0 < x → mV p l e R s m args below meth c QQ dC dI aC A n0 ad0 xa nL (σ, ce, sl, pc + 3, ls, st)) : mV p l e R s m args below meth c QQ dC dI aC A n0 ad0 xa nL (σ, ce, sl, pc, ls, .int x :: st) := by
  intro ad H locs lsC h1 h2 h3 h4 h5 h6
  exact lv_if_gt hC.1 hC.2.1 hd ht (fun q => kt q ad H locs lsC h1 h2 h3 h4 h5 h6) (fun q => kf q ad H locs lsC h1 h2 h3 h4 h5 h6)
theorem mV_icmp_gt (hC : m_Ctx p s m args meth c cc nL own dC dI aC A xa X Y) {x y : Int32} {off : Int} {tgt : Nat} (hd : decode cc pc = .ok (.if_icmp .gt off, 3)) (ht : (pc : Int) + off = (tgt : Int)) (kt : y < x → mV p l e R s m args below meth c QQ dC dI aC A n0 ad0 xa nL (σ, ce, sl, tgt, ls, st)) (kf : ¬ y < x → mV p l e R s m args below meth c QQ dC dI aC A n0 ad0 xa nL (σ, ce, sl, pc + 3, ls, st)) : mV p l e R s m args below meth c QQ dC dI aC A n0 ad0 xa nL (σ, ce, sl, pc, ls, .int y :: .int x :: st) := by
  intro ad H locs lsC h1 h2 h3 h4 h5 h6
  exact lv_icmp_gt hC.1 hC.2.1 hd ht (fun q => kt q ad H locs lsC h1 h2 h3 h4 h5 h6) (fun q => kf q ad H locs lsC h1 h2 h3 h4 h5 h6)
theorem mV_if_le (hC : m_Ctx p s m args meth c cc nL own dC dI aC A xa X Y) {x : Int32} {off : Int} {tgt : Nat} (hd : decode cc pc = .ok (.ifCond .le off, 3)) (ht : (pc : Int) + off = (tgt : Int)) (kt : x ≤ 0 → mV p l e R s m args below meth c QQ dC dI aC A n0 ad0 xa nL (σ, ce, sl, tgt, ls, st)) (kf : ¬ x ≤ 0 → mV p l e R s m args below meth c QQ dC dI aC A n0 ad0 xa nL (σ, ce, sl, pc + 3, ls, st)) : mV p l e R s m args below meth c QQ dC dI aC A n0 ad0 xa nL (σ, ce, sl, pc, ls, .int x :: st) := by
  intro ad H locs lsC h1 h2 h3 h4 h5 h6
  exact lv_if_le hC.1 hC.2.1 hd ht (fun q => kt q ad H locs lsC h1 h2 h3 h4 h5 h6) (fun q => kf q ad H locs lsC h1 h2 h3 h4 h5 h6)
theorem mV_icmp_le (hC : m_Ctx p s m args meth c cc nL own dC dI aC A xa X Y) {x y : Int32} {off : Int} {tgt : Nat} (hd : decode cc pc = .ok (.if_icmp .le off, 3)) (ht : (pc : Int) + off = (tgt : Int)) (kt : x ≤ y → mV p l e R s m args below meth c QQ dC dI aC A n0 ad0 xa nL (σ, ce, sl, tgt, ls, st)) (kf : ¬ x ≤ y → mV p l e R s m args below meth c QQ dC dI aC A n0 ad0 xa nL (σ, ce, sl, pc + 3, ls, st)) : mV p l e R s m args below meth c QQ dC dI aC A n0 ad0 xa nL (σ, ce, sl, pc, ls, .int y :: .int x :: st) := by
  intro ad H locs lsC h1 h2 h3 h4 h5 h6
  exact lv_icmp_le hC.1 hC.2.1 hd ht (fun q => kt q ad H locs lsC h1 h2 h3 h4 h5 h6) (fun q => kf q ad H locs lsC h1 h2 h3 h4 h5 h6)
theorem mV_goto (hC : m_Ctx p s m args meth c cc nL own dC dI aC A xa X Y) {off : Int} {tgt : Nat} (hd : decode cc pc = .ok (.goto off, 3)) (ht : (pc : Int) + off = (tgt : Int)) (k : mV p l e R s m args below meth c QQ dC dI aC A n0 ad0 xa nL (σ, ce, sl, tgt, ls, st)) : mV p l e R s m args below meth c QQ dC dI aC A n0 ad0 xa nL (σ, ce, sl, pc, ls, st) := by
  intro ad H locs lsC h1 h2 h3 h4 h5 h6
  exact lv_goto hC.1 hC.2.1 hd ht (k ad H locs lsC h1 h2 h3 h4 h5 h6)
theorem mV_lookup (hC : m_Ctx p s m args meth c cc nL own dC dI aC A xa X Y) {dflt : Int} {ps : Array (Int × Int)} {len : Nat} {x : Int32} {off : Int} {tgt : Nat} (hd : decode cc pc = .ok (.lookupswitch dflt ps, len)) (hp : (ps.toList.zip (ps.toList.drop 1)).all (fun (a, next) => a.1 < next.1) = true) (ho : Op.lookupswitch.offset ps.toList dflt x.toInt = off) (ht : (pc : Int) + off = (tgt : Int)) (k : mV p l e R s m args below meth c QQ dC dI aC A n0 ad0 xa nL (σ, ce, sl, tgt, ls, st)) : mV p l e R s m args below meth c QQ dC dI aC A n0 ad0 xa nL (σ, ce, sl, pc, ls, .int x :: st) := by
  intro ad H locs lsC h1 h2 h3 h4 h5 h6
  exact lv_lookup hC.1 hC.2.1 hd hp ho ht (k ad H locs lsC h1 h2 h3 h4 h5 h6)
theorem mV_tableIn (hC : m_Ctx p s m args meth c cc nL own dC dI aC A xa X Y) {dflt lo hi : Int} {offs : Array Int} {len : Nat} {x : Int32} {off : Int} {tgt : Nat} (hd : decode cc pc = .ok (.tableswitch dflt lo hi offs, len)) (g1 : ¬ x.toInt < lo) (g2 : ¬ hi < x.toInt) (ho : offs[(x.toInt - lo).toNat]? = some off) (ht : (pc : Int) + off = (tgt : Int)) (k : mV p l e R s m args below meth c QQ dC dI aC A n0 ad0 xa nL (σ, ce, sl, tgt, ls, st)) : mV p l e R s m args below meth c QQ dC dI aC A n0 ad0 xa nL (σ, ce, sl, pc, ls, .int x :: st) := by
  intro ad H locs lsC h1 h2 h3 h4 h5 h6
  exact lv_tableIn hC.1 hC.2.1 hd g1 g2 ho ht (k ad H locs lsC h1 h2 h3 h4 h5 h6)
theorem mV_tableOut (hC : m_Ctx p s m args meth c cc nL own dC dI aC A xa X Y) {dflt lo hi : Int} {offs : Array Int} {len : Nat} {x : Int32} {tgt : Nat} (hd : decode cc pc = .ok (.tableswitch dflt lo hi offs, len)) (g1 : x.toInt < lo ∨ hi < x.toInt) (ht : (pc : Int) + dflt = (tgt : Int)) (k : mV p l e R s m args below meth c QQ dC dI aC A n0 ad0 xa nL (σ, ce, sl, tgt, ls, st)) : mV p l e R s m args below meth c QQ dC dI aC A n0 ad0 xa nL (σ, ce, sl, pc, ls, .int x :: st) := by
  intro ad H locs lsC h1 h2 h3 h4 h5 h6
  exact lv_tableOut hC.1 hC.2.1 hd g1 ht (k ad H locs lsC h1 h2 h3 h4 h5 h6)

theorem m_ctb (hC : m_Ctx p s m args meth c cc nL own dC dI aC A xa X Y) {w : Cond} (h : w ∈ a_tb) : w.before args s = true := hC.2.2.2.2.1 w h
theorem m_cnb (hC : m_Ctx p s m args meth c cc nL own dC dI aC A xa X Y) {w : Cond} (h : w ∈ a_nb) : w.before args s = true := m_nwU (List.mem_filter.mp h).2 (hC.2.2.2.2.2.2.2.1.2.2.2.1 w h)
theorem m_map_at {ad : Nat → Nat} {fs : List Value} {k : Nat} {v : Value} (h : fs[k]? = some v) : (fs.map (m_re ad))[k]? = some (m_re ad v) := by
  rw [List.getElem?_map, h]; rfl
/-- reading a field: v is what the cell's list has at k -/
theorem mV_getfield (hC : m_Ctx p s m args meth c cc nL own dC dI aC A xa X Y) {q ci k idx : Nat} {r : vw_C} {fs : List Value} {v : Value} (hd : decode cc pc = .ok (.getfield idx, 3)) (hσ : σ[q]? = some (.inr ci, fs)) (hc : vwCl[ci]? = some r) (hk : k < r.2.2) (hw : Cond.fieldLink own idx (r.2.1 k).1 (r.2.1 k).2.1 (r.2.1 k).2.2.1 ∈ a_tb) (hv : fs[k]? = some v) (kk : mV p l e R s m args below meth c QQ dC dI aC A n0 ad0 xa nL (σ, ce, sl, pc + 3, ls, v :: st)) : mV p l e R s m args below meth c QQ dC dI aC A n0 ad0 xa nL (σ, ce, sl, pc, ls, .ref q :: st) := by
  intro ad H locs lsC h1 h2 h3 h4 h5 h6
  exact va_get hC.1 hC.2.1 hC.2.2.2.2.1 (a_cls hc) hC.2.2.2.1 hC.2.2.2.2.2.1 h3 q (m_W_at hσ) hc k hk (m_ctb hC hw) (fun _ z => z) (m_map_at hv) hd (kk ad H locs lsC h1 h2 h3 h4 h5 h6)
theorem mV_getfieldN (hC : m_Ctx p s m args meth c cc nL own dC dI aC A xa X Y) {q ci k idx : Nat} {host : String} {r : vw_C} {fs : List Value} {v : Value} (hd : decode cc pc = .ok (.getfield idx, 3)) (hσ : σ[q]? = some (.inr ci, fs)) (hc : vwCl[ci]? = some r) (hk : k < r.2.2) (hw : Cond.fieldLinkNest own idx (r.2.1 k).1 (r.2.1 k).2.1 (r.2.1 k).2.2.1 host ∈ a_nb) (hv : fs[k]? = some v) (kk : mV p l e R s m args below meth c QQ dC dI aC A n0 ad0 xa nL (σ, ce, sl, pc + 3, ls, v :: st)) : mV p l e R s m args below meth c QQ dC dI aC A n0 ad0 xa nL (σ, ce, sl, pc, ls, .ref q :: st) := by
  intro ad H locs lsC h1 h2 h3 h4 h5 h6
  exact va_getN hC.1 hC.2.1 hC.2.2.2.2.1 (a_cls hc) hC.2.2.2.1 hC.2.2.2.2.2.1 h3 q (m_W_at hσ) hc k hk (m_cnb hC hw) (fun _ z => z) (m_map_at hv) hd (kk ad H locs lsC h1 h2 h3 h4 h5 h6)
theorem m_set_o {ad : Nat → Nat} {aC : Nat → ClassId} {σ : m_H} {q ci k : Nat} {fs : List Value} {v : Value} : (m_W ad aC σ).set q (ad q, .inr (ci, (fs.map (m_re ad)).set k (m_re ad v))) = m_W ad aC (σ.set q (.inr ci, fs.set k v)) := by
  rw [← m_W_set]
  simp [m_E, List.map_set]
theorem m_narrow {ty : FieldType} {v : Value} (ad : Nat → Nat) (h : narrow ty v = v) : narrow ty (m_re ad v) = m_re ad v := by
  cases v with
  | ref k => cases ty <;> rfl
  | _ => exact h
theorem m_fits {ty : FieldType} {v : Value} (ad : Nat → Nat) (h : fits ty v = true) : fits ty (m_re ad v) = true := by
  cases v with
  | ref k => cases ty <;> first | rfl | exact h
  | _ => exact h
theorem mV_putfield (hC : m_Ctx p s m args meth c cc nL own dC dI aC A xa X Y) {q ci k idx : Nat} {r : vw_C} {fs : List Value} {v : Value} (hd : decode cc pc = .ok (.putfield idx, 3)) (hσ : σ[q]? = some (.inr ci, fs)) (hc : vwCl[ci]? = some r) (hk : k < r.2.2) (hw : Cond.fieldLink own idx (r.2.1 k).1 (r.2.1 k).2.1 (r.2.1 k).2.2.1 ∈ a_tb) (hf : (r.2.1 k).2.2.2 = false) (hn : narrow (a_ty ci k) v = v) (hfit : fits (a_ty ci k) v = true) (hl : k < fs.length) (kk : mV p l e R s m args below meth c QQ dC dI aC A n0 ad0 xa nL (σ.set q (.inr ci, fs.set k v), ce, sl, pc + 3, ls, st)) : mV p l e R s m args below meth c QQ dC dI aC A n0 ad0 xa nL (σ, ce, sl, pc, ls, v :: .ref q :: st) := by
  intro ad H locs lsC h1 h2 h3 h4 h5 h6
  refine va_put hC.1 hC.2.1 hC.2.2.2.2.1 (a_cls hc) (a_ty ci) (a_cls2 hc).1 (a_cls2 hc).2 hC.2.2.2.1 hC.2.2.2.2.2.1 h3 h4 h5 q (m_W_at hσ) hc k hk (m_ctb hC hw) (fun _ z => z) hf ((a_cls2 hc).1 k hk) (m_narrow ad hn) (m_fits ad hfit) (by simpa using hl) hd (fun H1 locs1 g3 g4 g5 => ?_)
  rw [m_set_o] at g3 g4
  exact kk ad H1 locs1 lsC h1 h2 g3 g4 g5 h6
theorem mV_putfieldN (hC : m_Ctx p s m args meth c cc nL own dC dI aC A xa X Y) {q ci k idx : Nat} {host : String} {r : vw_C} {fs : List Value} {v : Value} (hd : decode cc pc = .ok (.putfield idx, 3)) (hσ : σ[q]? = some (.inr ci, fs)) (hc : vwCl[ci]? = some r) (hk : k < r.2.2) (hw : Cond.fieldLinkNest own idx (r.2.1 k).1 (r.2.1 k).2.1 (r.2.1 k).2.2.1 host ∈ a_nb) (hf : (r.2.1 k).2.2.2 = false) (hn : narrow (a_ty ci k) v = v) (hfit : fits (a_ty ci k) v = true) (hl : k < fs.length) (kk : mV p l e R s m args below meth c QQ dC dI aC A n0 ad0 xa nL (σ.set q (.inr ci, fs.set k v), ce, sl, pc + 3, ls, st)) : mV p l e R s m args below meth c QQ dC dI aC A n0 ad0 xa nL (σ, ce, sl, pc, ls, v :: .ref q :: st) := by
  intro ad H locs lsC h1 h2 h3 h4 h5 h6
  refine va_putN hC.1 hC.2.1 hC.2.2.2.2.1 (a_cls hc) (a_ty ci) (a_cls2 hc).1 (a_cls2 hc).2 hC.2.2.2.1 hC.2.2.2.2.2.1 h3 h4 h5 q (m_W_at hσ) hc k hk (m_cnb hC hw) (fun _ z => z) hf ((a_cls2 hc).1 k hk) (m_narrow ad hn) (m_fits ad hfit) (by simpa using hl) hd (fun H1 locs1 g3 g4 g5 => ?_)
  rw [m_set_o] at g3 g4
  exact kk ad H1 locs1 lsC h1 h2 g3 g4 g5 h6
theorem mV_putfieldF (hC : m_Ctx p s m args meth c cc nL own dC dI aC A xa X Y) {q ci k idx : Nat} {r : vw_C} {fs : List Value} {v : Value} (hd : decode cc pc = .ok (.putfield idx, 3)) (hσ : σ[q]? = some (.inr ci, fs)) (hc : vwCl[ci]? = some r) (hk : k < r.2.2) (hw : Cond.fieldLink own idx (r.2.1 k).1 (r.2.1 k).2.1 (r.2.1 k).2.2.1 ∈ a_tb) (hf : (r.2.1 k).2.2.2 = true) (hini : meth.name = "<init>") (ho : (r.2.1 k).1 = own) (hn : narrow (a_ty ci k) v = v) (hfit : fits (a_ty ci k) v = true) (hl : k < fs.length) (kk : mV p l e R s m args below meth c QQ dC dI aC A n0 ad0 xa nL (σ.set q (.inr ci, fs.set k v), ce, sl, pc + 3, ls, st)) : mV p l e R s m args below meth c QQ dC dI aC A n0 ad0 xa nL (σ, ce, sl, pc, ls, v :: .ref q :: st) := by
  intro ad H locs lsC h1 h2 h3 h4 h5 h6
  refine va_putF hC.1 hC.2.1 hC.2.2.2.2.1 (a_cls hc) (a_ty ci) (a_cls2 hc).1 (a_cls2 hc).2 hC.2.2.2.1 hC.2.2.2.2.2.1 h3 h4 h5 q (m_W_at hσ) hc k hk (m_ctb hC hw) (fun _ z => z) hf hini ho ((a_cls2 hc).1 k hk) (m_narrow ad hn) (m_fits ad hfit) (by simpa using hl) hd (fun H1 locs1 g3 g4 g5 => ?_)
  rw [m_set_o] at g3 g4
  exact kk ad H1 locs1 lsC h1 h2 g3 g4 g5 h6
theorem m_fI_at {vs : List Value} {k : Nat} {x : Int32} (h : vs[k]? = some (.int x)) : m_fI vs k = x := by simp [m_fI, h, m_int]
theorem m_fL_at {vs : List Value} {k : Nat} {x : Int64} (h : vs[k]? = some (.long x)) : m_fL vs k = x := by simp [m_fL, h, m_long]
theorem m_fI_set {vs : List Value} {k : Nat} {x : Int32} (h : k < vs.length) : m_fI (vs.set k (.int x)) = upd (m_fI vs) k x := by
  funext j
  unfold upd m_fI
  by_cases hj : j = k
  · subst hj; simp [h, m_int]
  · rw [if_neg hj]
    simp [List.getElem?_set_ne (Ne.symm hj)]
theorem m_fL_set {vs : List Value} {k : Nat} {x : Int64} (h : k < vs.length) : m_fL (vs.set k (.long x)) = vp_updL (m_fL vs) k x := by
  funext j
  unfold vp_updL m_fL
  by_cases hj : j = k
  · subst hj; simp [h, m_long]
  · rw [if_neg hj]
    simp [List.getElem?_set_ne (Ne.symm hj)]
theorem m_fR_set {ad : Nat → Nat} {vs : List Value} {k r : Nat} (h : k < vs.length) : m_fR ad (vs.set k (.ref r)) = va_up (m_fR ad vs) k (some (ad r)) := by
  funext j
  unfold va_up m_fR
  by_cases hj : j = k
  · subst hj; simp [h, m_rf]
  · rw [if_neg hj]
    simp [List.getElem?_set_ne (Ne.symm hj)]
theorem m_vp_lt {i : Int32} {n : Nat} (h : vp_in i n) : i.toNatClampNeg < n := Nat.not_le.mp fun q => h (Or.inr q)
theorem mV_iaload (hC : m_Ctx p s m args meth c cc nL own dC dI aC A xa X Y) {q : Nat} {i x : Int32} {vs : List Value} (hd : decode cc pc = .ok (.iaload, 1)) (hσ : σ[q]? = some (.inl 0, vs)) (hi : vp_in i vs.length) (hv : vs[i.toNatClampNeg]? = some (.int x)) (k : mV p l e R s m args below meth c QQ dC dI aC A n0 ad0 xa nL (σ, ce, sl, pc + 1, ls, .int x :: st)) : mV p l e R s m args below meth c QQ dC dI aC A n0 ad0 xa nL (σ, ce, sl, pc, ls, .int i :: .ref q :: st) := by
  intro ad H locs lsC h1 h2 h3 h4 h5 h6
  refine va_iald hC.1 hC.2.1 hC.2.2.2.2.2.1 h3 q 0 (f := m_fI vs) (m_W_at hσ) (m_tys_at aC (t := 0) (by decide)) hi hd ?_
  rw [m_fI_at hv]; exact k ad H locs lsC h1 h2 h3 h4 h5 h6
theorem mV_baload (hC : m_Ctx p s m args meth c cc nL own dC dI aC A xa X Y) {q : Nat} {i x : Int32} {vs : List Value} (hd : decode cc pc = .ok (.baload, 1)) (hσ : σ[q]? = some (.inl 1, vs)) (hi : vp_in i vs.length) (hv : vs[i.toNatClampNeg]? = some (.int x)) (k : mV p l e R s m args below meth c QQ dC dI aC A n0 ad0 xa nL (σ, ce, sl, pc + 1, ls, .int x :: st)) : mV p l e R s m args below meth c QQ dC dI aC A n0 ad0 xa nL (σ, ce, sl, pc, ls, .int i :: .ref q :: st) := by
  intro ad H locs lsC h1 h2 h3 h4 h5 h6
  refine va_bald hC.1 hC.2.1 hC.2.2.2.2.2.1 h3 q 1 (f := m_fI vs) (m_W_at hσ) (m_tys_at aC (t := 1) (by decide)) hi hd ?_
  rw [m_fI_at hv]; exact k ad H locs lsC h1 h2 h3 h4 h5 h6
theorem mV_caload (hC : m_Ctx p s m args meth c cc nL own dC dI aC A xa X Y) {q : Nat} {i x : Int32} {vs : List Value} (hd : decode cc pc = .ok (.caload, 1)) (hσ : σ[q]? = some (.inl 2, vs)) (hi : vp_in i vs.length) (hv : vs[i.toNatClampNeg]? = some (.int x)) (k : mV p l e R s m args below meth c QQ dC dI aC A n0 ad0 xa nL (σ, ce, sl, pc + 1, ls, .int x :: st)) : mV p l e R s m args below meth c QQ dC dI aC A n0 ad0 xa nL (σ, ce, sl, pc, ls, .int i :: .ref q :: st) := by
  intro ad H locs lsC h1 h2 h3 h4 h5 h6
  refine va_cald hC.1 hC.2.1 hC.2.2.2.2.2.1 h3 q 2 (f := m_fI vs) (m_W_at hσ) (m_tys_at aC (t := 2) (by decide)) hi hd ?_
  rw [m_fI_at hv]; exact k ad H locs lsC h1 h2 h3 h4 h5 h6
theorem mV_zaload (hC : m_Ctx p s m args meth c cc nL own dC dI aC A xa X Y) {q : Nat} {i x : Int32} {vs : List Value} (hd : decode cc pc = .ok (.baload, 1)) (hσ : σ[q]? = some (.inl 3, vs)) (hi : vp_in i vs.length) (hv : vs[i.toNatClampNeg]? = some (.int x)) (k : mV p l e R s m args below meth c QQ dC dI aC A n0 ad0 xa nL (σ, ce, sl, pc + 1, ls, .int x :: st)) : mV p l e R s m args below meth c QQ dC dI aC A n0 ad0 xa nL (σ, ce, sl, pc, ls, .int i :: .ref q :: st) := by
  intro ad H locs lsC h1 h2 h3 h4 h5 h6
  refine va_zald hC.1 hC.2.1 hC.2.2.2.2.2.1 h3 q 3 (f := m_fI vs) (m_W_at hσ) (m_tys_at aC (t := 3) (by decide)) hi hd ?_
  rw [m_fI_at hv]; exact k ad H locs lsC h1 h2 h3 h4 h5 h6
theorem mV_laload (hC : m_Ctx p s m args meth c cc nL own dC dI aC A xa X Y) {q : Nat} {i : Int32} {x : Int64} {vs : List Value} (hd : decode cc pc = .ok (.laload, 1)) (hσ : σ[q]? = some (.inl 4, vs)) (hi : vp_in i vs.length) (hv : vs[i.toNatClampNeg]? = some (.long x)) (k : mV p l e R s m args below meth c QQ dC dI aC A n0 ad0 xa nL (σ, ce, sl, pc + 1, ls, .long x :: st)) : mV p l e R s m args below meth c QQ dC dI aC A n0 ad0 xa nL (σ, ce, sl, pc, ls, .int i :: .ref q :: st) := by
  intro ad H locs lsC h1 h2 h3 h4 h5 h6
  refine va_lald hC.1 hC.2.1 hC.2.2.2.2.2.1 h3 q 4 (f := m_fL vs) (m_W_at hσ) (m_tys_at aC (t := 4) (by decide)) hi hd ?_
  rw [m_fL_at hv]; exact k ad H locs lsC h1 h2 h3 h4 h5 h6
theorem mV_aaload (hC : m_Ctx p s m args meth c cc nL own dC dI aC A xa X Y) {q r : Nat} {i : Int32} {vs : List Value} (hd : decode cc pc = .ok (.aaload, 1)) (hσ : σ[q]? = some (.inl 5, vs)) (hi : vp_in i vs.length) (hv : vs[i.toNatClampNeg]? = some (.ref r)) (k : mV p l e R s m args below meth c QQ dC dI aC A n0 ad0 xa nL (σ, ce, sl, pc + 1, ls, .ref r :: st)) : mV p l e R s m args below meth c QQ dC dI aC A n0 ad0 xa nL (σ, ce, sl, pc, ls, .int i :: .ref q :: st) := by
  intro ad H locs lsC h1 h2 h3 h4 h5 h6
  have e : m_fR ad vs i.toNatClampNeg = some (ad r) := by simp [m_fR, hv, m_rf]
  refine va_aldq hC.1 hC.2.1 hC.2.2.2.2.2.1 h3 q 5 (f := m_fR ad vs) (m_W_at hσ) (m_tys_at aC (t := 5) (by decide)) hi hd ?_
  rw [e]; exact k ad H locs lsC h1 h2 h3 h4 h5 h6
theorem m_set_a {ad : Nat → Nat} {aC : Nat → ClassId} {σ : m_H} {q t : Nat} {vs vs' : List Value} {a : vp_A} (h : m_arr ad t vs' = a) : (m_W ad aC σ).set q (ad q, .inl (aC t, a)) = m_W ad aC (σ.set q (.inl t, vs')) := by
  rw [← m_W_set, ← h]; rfl
theorem mV_iastore (hC : m_Ctx p s m args meth c cc nL own dC dI aC A xa X Y) {q : Nat} {i x : Int32} {vs : List Value} (hd : decode cc pc = .ok (.iastore, 1)) (hσ : σ[q]? = some (.inl 0, vs)) (hi : vp_in i vs.length) (k : mV p l e R s m args below meth c QQ dC dI aC A n0 ad0 xa nL (σ.set q (.inl 0, vs.set i.toNatClampNeg (.int x)), ce, sl, pc + 1, ls, st)) : mV p l e R s m args below meth c QQ dC dI aC A n0 ad0 xa nL (σ, ce, sl, pc, ls, .int x :: .int i :: .ref q :: st) := by
  intro ad H locs lsC h1 h2 h3 h4 h5 h6
  refine va_iast hC.1 hC.2.1 hC.2.2.2.2.2.1 h3 h4 h5 q 0 (f := m_fI vs) (m_W_at hσ) (m_tys_at aC (t := 0) (by decide)) hi hd (fun H1 locs1 g3 g4 g5 => ?_)
  rw [m_set_a (vs := vs) (vs' := vs.set i.toNatClampNeg (.int x)) (by simp [m_arr, m_fI_set (m_vp_lt hi)])] at g3 g4
  exact k ad H1 locs1 lsC h1 h2 g3 g4 g5 h6
theorem mV_bastore (hC : m_Ctx p s m args meth c cc nL own dC dI aC A xa X Y) {q : Nat} {i x : Int32} {vs : List Value} (hd : decode cc pc = .ok (.bastore, 1)) (hσ : σ[q]? = some (.inl 1, vs)) (hi : vp_in i vs.length) (k : mV p l e R s m args below meth c QQ dC dI aC A n0 ad0 xa nL (σ.set q (.inl 1, vs.set i.toNatClampNeg (.int (vp_nar .byte x))), ce, sl, pc + 1, ls, st)) : mV p l e R s m args below meth c QQ dC dI aC A n0 ad0 xa nL (σ, ce, sl, pc, ls, .int x :: .int i :: .ref q :: st) := by
  intro ad H locs lsC h1 h2 h3 h4 h5 h6
  refine va_bast hC.1 hC.2.1 hC.2.2.2.2.2.1 h3 h4 h5 q 1 (f := m_fI vs) (m_W_at hσ) (m_tys_at aC (t := 1) (by decide)) hi hd (fun H1 locs1 g3 g4 g5 => ?_)
  rw [m_set_a (vs := vs) (vs' := vs.set i.toNatClampNeg (.int (vp_nar .byte x))) (by simp [m_arr, m_fI_set (m_vp_lt hi)])] at g3 g4
  exact k ad H1 locs1 lsC h1 h2 g3 g4 g5 h6
theorem mV_castore (hC : m_Ctx p s m args meth c cc nL own dC dI aC A xa X Y) {q : Nat} {i x : Int32} {vs : List Value} (hd : decode cc pc = .ok (.castore, 1)) (hσ : σ[q]? = some (.inl 2, vs)) (hi : vp_in i vs.length) (k : mV p l e R s m args below meth c QQ dC dI aC A n0 ad0 xa nL (σ.set q (.inl 2, vs.set i.toNatClampNeg (.int (vp_nar .char x))), ce, sl, pc + 1, ls, st)) : mV p l e R s m args below meth c QQ dC dI aC A n0 ad0 xa nL (σ, ce, sl, pc, ls, .int x :: .int i :: .ref q :: st) := by
  intro ad H locs lsC h1 h2 h3 h4 h5 h6
  refine va_cast hC.1 hC.2.1 hC.2.2.2.2.2.1 h3 h4 h5 q 2 (f := m_fI vs) (m_W_at hσ) (m_tys_at aC (t := 2) (by decide)) hi hd (fun H1 locs1 g3 g4 g5 => ?_)
  rw [m_set_a (vs := vs) (vs' := vs.set i.toNatClampNeg (.int (vp_nar .char x))) (by simp [m_arr, m_fI_set (m_vp_lt hi)])] at g3 g4
  exact k ad H1 locs1 lsC h1 h2 g3 g4 g5 h6
theorem mV_zastore (hC : m_Ctx p s m args meth c cc nL own dC dI aC A xa X Y) {q : Nat} {i x : Int32} {vs : List Value} (hd : decode cc pc = .ok (.bastore, 1)) (hσ : σ[q]? = some (.inl 3, vs)) (hi : vp_in i vs.length) (k : mV p l e R s m args below meth c QQ dC dI aC A n0 ad0 xa nL (σ.set q (.inl 3, vs.set i.toNatClampNeg (.int (vp_nar .boolean x))), ce, sl, pc + 1, ls, st)) : mV p l e R s m args below meth c QQ dC dI aC A n0 ad0 xa nL (σ, ce, sl, pc, ls, .int x :: .int i :: .ref q :: st) := by
  intro ad H locs lsC h1 h2 h3 h4 h5 h6
  refine va_zast hC.1 hC.2.1 hC.2.2.2.2.2.1 h3 h4 h5 q 3 (f := m_fI vs) (m_W_at hσ) (m_tys_at aC (t := 3) (by decide)) hi hd (fun H1 locs1 g3 g4 g5 => ?_)
  rw [m_set_a (vs := vs) (vs' := vs.set i.toNatClampNeg (.int (vp_nar .boolean x))) (by simp [m_arr, m_fI_set (m_vp_lt hi)])] at g3 g4
  exact k ad H1 locs1 lsC h1 h2 g3 g4 g5 h6
theorem mV_lastore (hC : m_Ctx p s m args meth c cc nL own dC dI aC A xa X Y) {q : Nat} {i : Int32} {x : Int64} {vs : List Value} (hd : decode cc pc = .ok (.lastore, 1)) (hσ : σ[q]? = some (.inl 4, vs)) (hi : vp_in i vs.length) (k : mV p l e R s m args below meth c QQ dC dI aC A n0 ad0 xa nL (σ.set q (.inl 4, vs.set i.toNatClampNeg (.long x)), ce, sl, pc + 1, ls, st)) : mV p l e R s m args below meth c QQ dC dI aC A n0 ad0 xa nL (σ, ce, sl, pc, ls, .long x :: .int i :: .ref q :: st) := by
  intro ad H locs lsC h1 h2 h3 h4 h5 h6
  refine va_last hC.1 hC.2.1 hC.2.2.2.2.2.1 h3 h4 h5 q 4 (f := m_fL vs) (m_W_at hσ) (m_tys_at aC (t := 4) (by decide)) hi hd (fun H1 locs1 g3 g4 g5 => ?_)
  rw [m_set_a (vs := vs) (vs' := vs.set i.toNatClampNeg (.long x)) (by simp [m_arr, m_fL_set (m_vp_lt hi)])] at g3 g4
  exact k ad H1 locs1 lsC h1 h2 g3 g4 g5 h6
theorem mV_aastore (hC : m_Ctx p s m args meth c cc nL own dC dI aC A xa X Y) {q r : Nat} {i : Int32} {vs fs : List Value} (hd : decode cc pc = .ok (.aastore, 1)) (hσ : σ[q]? = some (.inl 5, vs)) (hr : σ[r]? = some (.inr 8, fs)) (hi : vp_in i vs.length) (k : mV p l e R s m args below meth c QQ dC dI aC A n0 ad0 xa nL (σ.set q (.inl 5, vs.set i.toNatClampNeg (.ref r)), ce, sl, pc + 1, ls, st)) : mV p l e R s m args below meth c QQ dC dI aC A n0 ad0 xa nL (σ, ce, sl, pc, ls, .ref r :: .int i :: .ref q :: st) := by
  intro ad H locs lsC h1 h2 h3 h4 h5 h6
  refine va_astq hC.1 hC.2.1 hC.2.2.2.2.2.1 h3 h4 h5 q 5 r 8 (r := (RX8, TX8, 9)) (f := m_fR ad vs) (m_W_at hσ) (m_tys_at aC (t := 5) (by decide)) (m_W_at hr) rfl hi hd (fun H1 locs1 g3 g4 g5 => ?_)
  rw [m_set_a (vs := vs) (vs' := vs.set i.toNatClampNeg (.ref r)) (by simp [m_arr, m_fR_set (m_vp_lt hi)])] at g3 g4
  exact k ad H1 locs1 lsC h1 h2 g3 g4 g5 h6
theorem mV_alen (hC : m_Ctx p s m args meth c cc nL own dC dI aC A xa X Y) {q t : Nat} {vs : List Value} (hd : decode cc pc = .ok (.arraylength, 1)) (hσ : σ[q]? = some (.inl t, vs)) (ht : t ≤ 5) (k : mV p l e R s m args below meth c QQ dC dI aC A n0 ad0 xa nL (σ, ce, sl, pc + 1, ls, .int (Int32.ofNat vs.length) :: st)) : mV p l e R s m args below meth c QQ dC dI aC A n0 ad0 xa nL (σ, ce, sl, pc, ls, .ref q :: st) := by
  intro ad H locs lsC h1 h2 h3 h4 h5 h6
  exact va_alen hC.1 hC.2.1 hC.2.2.2.2.2.1 h3 q t (m_W_at hσ) (m_tys_at aC ht) rfl hd (k ad H locs lsC h1 h2 h3 h4 h5 h6)
/-- int rows outside -/
theorem mV_xaload (hC : m_Ctx p s m args meth c cc nL own dC dI aC A xa X Y) {i0 : Nat} {i : Int32} {L : List Int32} (hd : decode cc pc = .ok (.iaload, 1)) (hX : X i0 = some L) (hi : vp_in i L.length) (k : mV p l e R s m args below meth c QQ dC dI aC A n0 ad0 xa nL (σ, ce, sl, pc + 1, ls, .int (L.getD i.toNatClampNeg 0) :: st)) : mV p l e R s m args below meth c QQ dC dI aC A n0 ad0 xa nL (σ, ce, sl, pc, ls, .int i :: .ref (m_X0 + i0) :: st) := by
  intro ad H locs lsC h1 h2 h3 h4 h5 h6
  have hT := hC.2.2.2.2.2.2.2.1.1 i0 L hX
  rw [← h2 i0] at hT
  exact va_ti hC.1 hC.2.1 hT h5 hi rfl hd (k ad H locs lsC h1 h2 h3 h4 h5 h6)
theorem mV_xalen (hC : m_Ctx p s m args meth c cc nL own dC dI aC A xa X Y) {i0 : Nat} {L : List Int32} (hd : decode cc pc = .ok (.arraylength, 1)) (hX : X i0 = some L) (k : mV p l e R s m args below meth c QQ dC dI aC A n0 ad0 xa nL (σ, ce, sl, pc + 1, ls, .int (Int32.ofNat L.length) :: st)) : mV p l e R s m args below meth c QQ dC dI aC A n0 ad0 xa nL (σ, ce, sl, pc, ls, .ref (m_X0 + i0) :: st) := by
  intro ad H locs lsC h1 h2 h3 h4 h5 h6
  have hT := hC.2.2.2.2.2.2.2.1.1 i0 L hX
  rw [← h2 i0] at hT
  exact va_tlen hC.1 hC.2.1 hT h5 rfl hd (k ad H locs lsC h1 h2 h3 h4 h5 h6)
theorem mV_places (hC : m_Ctx p s m args meth c cc nL own dC dI aC A xa X Y) {idx : Nat} (hd : decode cc pc = .ok (.getstatic idx, 3)) (hw : Cond.fieldLink own idx "LetByTheDegree$Lodging" "PLACES" "[I" ∈ a_tb) (k : mV p l e R s m args below meth c QQ dC dI aC A n0 ad0 xa nL (σ, ce, sl, pc + 3, ls, .ref m_X0 :: st)) : mV p l e R s m args below meth c QQ dC dI aC A n0 ad0 xa nL (σ, ce, sl, pc, ls, st) := by
  intro ad H locs lsC h1 h2 h3 h4 h5 h6
  have hZ := hC.2.2.2.2.2.2.2.1.2.1
  rw [← h2 0] at hZ
  exact va_gets hC.1 hC.2.1 hZ h5 hC.2.2.2.1 (m_ctb hC hw) (fun _ z => z) hd (k ad H locs lsC h1 h2 h3 h4 h5 h6)
theorem mV_steps (hC : m_Ctx p s m args meth c cc nL own dC dI aC A xa X Y) {idx : Nat} (hd : decode cc pc = .ok (.getstatic idx, 3)) (hw : Cond.fieldLink own idx "LetByTheDegree$StoveWay" "STEPS" "[I" ∈ a_tb) (k : mV p l e R s m args below meth c QQ dC dI aC A n0 ad0 xa nL (σ, ce, sl, pc + 3, ls, .ref (m_X0 + 1) :: st)) : mV p l e R s m args below meth c QQ dC dI aC A n0 ad0 xa nL (σ, ce, sl, pc, ls, st) := by
  intro ad H locs lsC h1 h2 h3 h4 h5 h6
  have hZ := hC.2.2.2.2.2.2.2.1.2.2.1
  rw [← h2 1] at hZ
  exact va_gets hC.1 hC.2.1 hZ h5 hC.2.2.2.1 (m_ctb hC hw) (fun _ z => z) hd (k ad H locs lsC h1 h2 h3 h4 h5 h6)
end MW
