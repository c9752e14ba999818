section
/-! THE LAW'S START: both constructors, the cells they leave -/
theorem okb_t {B : Int} (hB : 0 ≤ B) {t : Nat × Int × Int} {v : Value} (h : t_okb t v = true) : t_ok B t v := by
  unfold t_okb at h
  unfold t_ok
  split at h
  · rename_i x e
    rw [e]
    obtain ⟨h1, h2⟩ := Bool.and_eq_true _ _ |>.mp h
    exact ⟨x, rfl, i_le_iff.mp h1, i_le_iff.mp h2⟩
  · rename_i k e
    rw [e]
    exact congrArg Value.ref (Nat.eq_of_beq_eq_true h)
  · rename_i x e
    rw [e]
    exact ⟨x, rfl⟩
  · rename_i x e
    rw [e]
    have := i_eq_iff.mp h
    exact ⟨x, rfl, by omega, by omega⟩
  · rename_i e
    rw [e]
    exact Or.inl rfl
  · rename_i k e
    rw [e]
    exact Or.inr ⟨k, rfl⟩
  · cases h
theorem okb_v {v : Value} (h : m_vOkb v = true) : m_vOk h_N v := by
  cases v with
  | ref k => exact Or.inl (Nat.le_of_ble_eq_true h)
  | _ => trivial
theorem okb_r {B : Int} (hB : 0 ≤ B) {p : Nat} : ∀ (vs : List Value) (n : Nat), r_okb p n vs = true → ∀ (k : Nat) (v : Value), vs[k]? = some v → t_ok B (h_ty p (n + k)) v ∧ m_vOk h_N v
  | [], _, _, _, _, h => by simp at h
  | v0 :: vs, n, h, k, v, hv => by
    unfold r_okb at h
    obtain ⟨h1, h⟩ := Bool.and_eq_true _ _ |>.mp h
    obtain ⟨h2, h⟩ := Bool.and_eq_true _ _ |>.mp h
    cases k with
    | zero =>
      obtain rfl : v0 = v := by simpa using hv
      exact ⟨okb_t hB h1, okb_v h2⟩
    | succ k =>
      have := okb_r hB vs (n + 1) h k v (by simpa using hv)
      rw [show n + (k + 1) = n + 1 + k by omega]
      exact this
theorem okb_h {B : Int} (hB : 0 ≤ B) : ∀ (σ : m_H) (n : Nat), h_okb n σ = true → ∀ p, p < σ.length → ∃ vs, σ[p]? = some (h_kd (n + p), vs) ∧ vs.length = h_ln (n + p) ∧ ∀ (k : Nat) (v : Value), vs[k]? = some v → t_ok B (h_ty (n + p) k) v ∧ m_vOk h_N v
  | [], _, _, p, h => by simp at h
  | c :: σ, n, h, p, hp => by
    unfold h_okb at h
    obtain ⟨h1, h⟩ := Bool.and_eq_true _ _ |>.mp h
    obtain ⟨h2, h⟩ := Bool.and_eq_true _ _ |>.mp h
    obtain ⟨h3, h⟩ := Bool.and_eq_true _ _ |>.mp h
    cases p with
    | zero =>
      refine ⟨c.2, ?_, Nat.eq_of_beq_eq_true h2, fun k v hv => ?_⟩
      · have e : c.1 = h_kd n := of_decide_eq_true h1
        show some c = some (h_kd (n + 0), c.2)
        rw [Nat.add_zero, ← e]
      · have := okb_r hB c.2 0 h3 k v hv
        rw [Nat.zero_add] at this
        exact this
    | succ p =>
      have := okb_h hB σ (n + 1) h p (by simpa using hp)
      rw [show n + (p + 1) = n + 1 + p by omega]
      obtain ⟨vs, g1, g2⟩ := this
      exact ⟨vs, by rw [List.getElem?_cons_succ]; exact g1, g2⟩
theorem okb_ok {B : Int} (hB : 0 ≤ B) {σ : m_H} (hl : σ.length = h_N) (h : h_okb 0 σ = true) : h_ok B σ := ⟨hl, fun p hp => by
  have := okb_h hB σ 0 h p (by rw [hl]; exact hp)
  rw [Nat.zero_add] at this
  exact this⟩
theorem xs_get : ∃ (a b : m_H) (c1 s1 c2 s2 : Nat), x_exec xcode 3000 8 0 (xs_0, 0, 0, 0, lv_args 0 [.ref 0], []) = some (a, c1, s1) ∧ x_exec xcode 3000 8 159 (a ++ [(.inr 13, x_dfs 13)], 0, 0, 0, lv_args 0 [.ref a.length], []) = some (b, c2, s2) ∧ a.length = 251 ∧ b.length = 278 ∧ c1 ≤ 300 ∧ c2 ≤ 300 ∧ s1 ≤ 4000 ∧ s2 ≤ 4000 ∧ h_okb 0 (b ++ [(.inl 4, [.long 0])]) = true := by
  have h := xs_ok
  unfold xs_3b at h
  split at h
  · rename_i a c1 s1 b c2 s2 h1 h2
    unfold xs_2 at h2
    rw [h1] at h2
    unfold xs_1 at h1
    obtain ⟨g1, h⟩ := Bool.and_eq_true _ _ |>.mp h
    obtain ⟨g2, h⟩ := Bool.and_eq_true _ _ |>.mp h
    obtain ⟨g3, h⟩ := Bool.and_eq_true _ _ |>.mp h
    obtain ⟨g4, h⟩ := Bool.and_eq_true _ _ |>.mp h
    obtain ⟨g5, h⟩ := Bool.and_eq_true _ _ |>.mp h
    obtain ⟨g6, h⟩ := Bool.and_eq_true _ _ |>.mp h
    exact ⟨a, b, c1, s1, c2, s2, h1, h2, Nat.eq_of_beq_eq_true g1, Nat.eq_of_beq_eq_true g2, Nat.le_of_ble_eq_true g3, Nat.le_of_ble_eq_true g4, Nat.le_of_ble_eq_true g5, Nat.le_of_ble_eq_true g6, h⟩
  · cases h
def q_ini1 : a_M := (⟨"LetByTheDegree", "<init>", "()V"⟩, prog_1_method_1_code, 1, none)
def q_ini2 : a_M := (⟨"LetByTheDegreeModel", "<init>", "()V"⟩, prog_15_method_1_code, 1, none)
theorem q_ini1_at : a_mt[0]? = some q_ini1 := rfl
set_option maxRecDepth 100000 in
theorem q_ini2_at : a_mt[159]? = some q_ini2 := a_mt_nth 9 15 159 a_mt_9 q_ini2 rfl a_mt_t_9 rfl rfl
theorem q_ini1_w : Cond.code q_ini1.1 q_ini1.2.1 q_ini1.2.2.1 none ∈ a_tb := a_mt_in q_ini1 (List.mem_of_getElem? q_ini1_at)
theorem q_ini2_w : Cond.code q_ini2.1 q_ini2.2.1 q_ini2.2.2.1 none ∈ a_tb := a_mt_in q_ini2 (List.mem_of_getElem? q_ini2_at)
theorem st_mk {l : Launch} {X : Nat → Option (List Int32)} {xa : Nat → Nat} {y : Nat} {q : a_M} (hq : a_mt[y]? = some q) (hpl : plainFor q.1 = true) {σ σ' : m_H} {o c' s' f d : Nat} (h : x_exec xcode f d y (σ, 0, 0, 0, lv_args 0 [.ref o], []) = some (σ', c', s')) (ho : o < σ.length) (hh : m_hOk σ.length σ) (hl : σ'.length < m_X0) (hln : (lg_sl [.ref o]).length ≤ q.2.2.1) :
    m_hOk σ'.length σ' ∧ σ.length ≤ σ'.length ∧ v_K l X (yY xa) xa d q.1 q.2.1 q.2.2.1 none σ [.ref o] (fun r z => r = none ∧ z = σ') c' s' := by
  have hA : ∀ v ∈ [Value.ref o], m_vOk σ.length v := fun v hv => by
    obtain rfl := List.mem_singleton.mp hv
    exact Or.inl ho
  obtain ⟨v1, v2⟩ := x_exec_ok (l := l) (X := X) (yY_ok xa) (yY_AO xa) xcode_ok f d y _ _ _ _ h ⟨hh, fun u hu => hA _ (lv_args_in _ 0 u hu), fun v hv => by cases hv⟩ hl
  exact ⟨v1.1, v1.2.1, v_K_of hpl hln (fun p e s m args below meth c dC dI aC ad sz hC hn hrt => v2 q hq p e (m_rm d c' s') s m args below meth c dC dI aC ad σ sz c' s' hC hn hrt ⟨Nat.le_refl _, Nat.le_refl _⟩ ⟨Nat.le_refl _, Nat.le_refl _⟩ (Nat.le_refl _) (Nat.le_refl _) (Nat.le_refl _))⟩
end
section
/-! THE LAW'S START: what lies outside, the classes -/
theorem st_in {k i : Nat} {w : Cond} (h : (a_part k)[i]? = some w) : w ∈ lw_tbl := List.mem_append_right _ (a_part_in k (List.mem_of_getElem? h))
theorem st_str {args : Array Value} {s : State} {own tx : String} {k : Nat} (hex : (Cond.exactly (.string own k) "java/lang/String").before args s = true) (hst : (Cond.stringRef own k tx).before args s = true) : ∃ a, vk_R own k tx a s := by
  obtain ⟨a, c, cA, kA, q1, -⟩ := Cond.exactly_spec (args := args) (first := s) (o := none) (s := s) (idx := []) (t := .string own k) (cls := "java/lang/String") hex
  exact ⟨a, vk_R.of hst q1⟩
theorem st_tab {args : Array Value} {s : State} {C n : String} {A : Nat → Prop} {L : List Int32} (hN : L.length < 2 ^ 31) (harr : (Cond.arrayOf (.static C n "[I") .int).before args s = true) (hlen : (Cond.eq (.length (.static C n "[I")) (.int (Int32.ofNat L.length))).before args s = true)
    (hel : ∀ j, j < L.length → (Cond.eq (.elem (.static C n "[I") (.int (Int32.ofNat j))) (.int (L.getD j 0))).before args s = true) (hA : ∀ a : Nat, a < s.heap.size → ¬ A a) (hl : (Cond.laysStatic C n "[I").before args s = true) (hi : (Cond.initialized C).before args s = true) :
    ∃ t, va_T .int t L.length (fun j => .int (L.getD j 0)) A s s.heap ∧ va_Z C n "[I" (.ref t) A s s.heap := by
  obtain ⟨t, ht, hT⟩ := va_Tof (f := fun j => .int (L.getD j 0)) hN harr (va_eqt hlen) (fun j hj => va_eqt (hel j hj)) hA
  exact ⟨t, hT, va_Zref hl hi ht hA⟩
def st_X (L : Nat) (xs : Nat → Int32) : Nat → Option (List Int32) := fun i => match i with
  | 0 => some ((x_tab 0).map Int32.ofInt)
  | 1 => some ((x_tab 1).map Int32.ofInt)
  | 3 => some ((List.range L).map xs)
  | _ => none
theorem st_X01 {L : Nat} {xs : Nat → Int32} : ∀ i, i < 2 → st_X L xs i = some ((x_tab i).map Int32.ofInt) := fun i hi => by
  rcases (show i = 0 ∨ i = 1 by omega) with rfl | rfl <;> rfl
def st_xa (v : List Nat) : Nat → Nat := fun i => v.getD i 0
abbrev st_G : Cond := Jvm.Cond.and given_1 narrow_1
theorem st_K {s : State} {args : Array Value} (hts : ∀ w ∈ lw_tbl, w.before args s = true) : ∃ (dC : Nat → ClassId) (dI : Nat → Nat → Nat) (aC : Nat → ClassId), va_K (dC, dI) vwCl (m_tys aC) s := by
  have hta : ∀ w ∈ a_tb, w.before args s = true := fun w hw => hts w (List.mem_filter.mp hw).1
  have hin : ∀ r ∈ vwCl, Cond.instantiable r.1 r.2.2 ∈ a_tb := a_ins_in
  have h0 : ∀ k : Nat, ∃ q : ClassId × (Nat → Nat), ∀ r, vwCl[k]? = some r → u_Kn s r.1 r.2.1 r.2.2 q.1 q.2 := by
    intro k
    cases hk : vwCl[k]? with
    | none => exact ⟨((0 : Nat), fun _ => 0), fun r hr => by cases hr⟩
    | some r0 =>
      obtain ⟨cC, iS, hh⟩ := u_known (C := r0.1) (T := r0.2.1) (N := r0.2.2) (n := r0.2.2) hta (a_cls hk) (hta _ (hin r0 (List.mem_of_getElem? hk)))
      exact ⟨(cC, iS), fun r hr => by cases hr; exact hh⟩
  obtain ⟨q, hq⟩ := Classical.axiomOfChoice h0
  have harr : ∀ ty : FieldType, (Cond.arrayClass ty).before args s = true → ∃ cA : ClassId, ArrOfT s cA ty ∧ s.vm.findClass ("[" ++ ty.toString) = some cA := by
    intro ty h
    obtain ⟨c, k, comp, f1, f2, f3⟩ := Cond.arrayClass_spec h
    exact ⟨c, fun n z => ⟨fun k h => (by cases h), k, f2, comp, f3⟩, f1⟩
  obtain ⟨c0, e0, f0⟩ := harr .int (hts _ (st_in (k := 1) (i := 87) rfl))
  obtain ⟨c1, e1, f1⟩ := harr .byte (hts _ (st_in (k := 4) (i := 65) rfl))
  obtain ⟨c2, e2, f2⟩ := harr .char (hts _ (st_in (k := 1) (i := 57) rfl))
  obtain ⟨c3, e3, f3⟩ := harr .boolean (hts _ (st_in (k := 7) (i := 71) rfl))
  obtain ⟨c4, e4, f4⟩ := harr .long (hts _ (st_in (k := 3) (i := 13) rfl))
  have h5 : (Cond.arrayOver (.object "LetByTheDegree$State")).before args s = true := hts _ (st_in (k := 2) (i := 41) rfl)
  obtain ⟨comp, c5, k5, g1, g2, g3, g4, g5⟩ := Cond.arrayOver_spec h5
  refine ⟨fun k => (q k).1, fun k => (q k).2, fun k => match k with | 0 => c0 | 1 => c1 | 2 => c2 | 3 => c3 | 4 => c4 | _ => c5, fun k r hr => hq k r hr, ?_⟩
  intro k r hr
  match k, hr with
  | 0, hr => cases hr; exact ⟨e0, f0⟩
  | 1, hr => cases hr; exact ⟨e1, f1⟩
  | 2, hr => cases hr; exact ⟨e2, f2⟩
  | 3, hr => cases hr; exact ⟨e3, f3⟩
  | 4, hr => cases hr; exact ⟨e4, f4⟩
  | 5, hr => cases hr; exact ⟨fun n z => ⟨fun k h => (by cases h), k5, g3, comp, g4⟩, k5, comp, g3, g4, g1, g5⟩
  | k + 6, hr => simp [m_tys] at hr
theorem st_ext {s : State} {b L : Nat} {xs : Nat → Int32} (hL : L ≤ 2560) (hts : ∀ w ∈ lw_tbl, w.before #[Value.ref b] s = true) (hX : va_X b L xs s s.heap) (hbl : b < s.heap.size) (hgv : st_G.before #[Value.ref b] s = true) : ∃ xa : Nat → Nat, xa 3 = b ∧ m_Ext (st_X L xs) (yY xa) xa (fun q => s.heap.size ≤ q) s s.heap := by
  have hs := flat_of_before _ hgv
  have hA : ∀ a : Nat, a < s.heap.size → ¬ (fun q => s.heap.size ≤ q) a := fun a h => Nat.not_le.mpr h
  obtain ⟨p0, t0, z0⟩ := st_tab (L := (x_tab 0).map Int32.ofInt) (C := "LetByTheDegree$Lodging") (n := "PLACES") (by decide) (hs _ (by decide +kernel)) (hs _ (by decide +kernel)) (fun j hj => match j, hj with
    | 0, _ => hs _ (by decide +kernel)
    | 1, _ => hs _ (by decide +kernel)
    | 2, _ => hs _ (by decide +kernel)
    | j + 3, hj => absurd hj (by show ¬ (j + 3 < 3); omega)) hA (hts _ (st_in (k := 5) (i := 67) rfl)) (hts _ (st_in (k := 1) (i := 10) rfl))
  obtain ⟨p1, t1, z1⟩ := st_tab (L := (x_tab 1).map Int32.ofInt) (C := "LetByTheDegree$StoveWay") (n := "STEPS") (by decide) (hs _ (by decide +kernel)) (hs _ (by decide +kernel)) (fun j hj => match j, hj with
    | 0, _ => hs _ (by decide +kernel)
    | 1, _ => hs _ (by decide +kernel)
    | 2, _ => hs _ (by decide +kernel)
    | 3, _ => hs _ (by decide +kernel)
    | 4, _ => hs _ (by decide +kernel)
    | j + 5, hj => absurd hj (by show ¬ (j + 5 < 5); omega)) hA (hts _ (st_in (k := 5) (i := 184) rfl)) (hts _ (st_in (k := 1) (i := 12) rfl))
  have n0 : ∀ i : Nat, i < 1 → ([7] : List Nat).getD i 0 < 2 ^ 31 := fun i hi => match i, hi with
    | 0, _ => by decide
    | i + 1, hi => absurd hi (by omega)
  have n1 : ∀ i : Nat, i < 1 → (Cond.eq (.length (.field (.string "LetByTheDegree$RuleReader" 80) "java/lang/String" "value" "[B")) (.int (Int32.ofNat (([7] : List Nat).getD i 0)))).before #[Value.ref b] s = true := fun i hi => match i, hi with
    | 0, _ => hs _ (by decide +kernel)
    | i + 1, hi => absurd hi (by omega)
  have n2 : ∀ i : Nat, i < 1 → ∀ j : Nat, j < ([7] : List Nat).getD i 0 → (Cond.eq (.elem (.field (.string "LetByTheDegree$RuleReader" 80) "java/lang/String" "value" "[B") (.int (Int32.ofNat j))) (.int ((([ix_b] : List (List Int32)).getD i []).getD j 0))).before #[Value.ref b] s = true := fun i hi => match i, hi with
    | 0, _ => fun j hj => match j, hj with
      | 0, _ => hs _ (by decide +kernel)
      | 1, _ => hs _ (by decide +kernel)
      | 2, _ => hs _ (by decide +kernel)
      | 3, _ => hs _ (by decide +kernel)
      | 4, _ => hs _ (by decide +kernel)
      | 5, _ => hs _ (by decide +kernel)
      | 6, _ => hs _ (by decide +kernel)
      | j + 7, hj => absurd hj (by show ¬ (j + 7 < 7); omega)
    | i + 1, hi => absurd hi (by omega)
  obtain ⟨adK, adV, hSt, hEv⟩ := vk_Sof (N := 1) (tm := fun _ => .string "LetByTheDegree$RuleReader" 80) (len := [7]) (byt := [ix_b]) (A := fun q => s.heap.size ≤ q) (args := #[Value.ref b]) (s := s) n0 (fun k _ => hs _ (by decide +kernel)) (fun k _ => hs _ (by decide +kernel)) (fun k _ => hs _ (by decide +kernel)) n1 n2 (fun k j hi hj hij => absurd (show k = j by omega) hij) hA
  obtain ⟨o1, o2, o3, o4⟩ := hSt.1 0 (by decide)
  have oE := hEv 0 (by decide)
  obtain ⟨r5, R5⟩ := st_str (own := "LetByTheDegree") (k := 169) (hs _ (by decide +kernel)) (hts _ (st_in (k := 6) (i := 88) rfl))
  obtain ⟨r6, R6⟩ := st_str (own := "LetByTheDegree") (k := 193) (hs _ (by decide +kernel)) (hts _ (st_in (k := 6) (i := 114) rfl))
  obtain ⟨r7, R7⟩ := st_str (own := "LetByTheDegree") (k := 198) (hs _ (by decide +kernel)) (hts _ (st_in (k := 6) (i := 122) rfl))
  obtain ⟨r8, R8⟩ := st_str (own := "LetByTheDegree") (k := 220) (hs _ (by decide +kernel)) (hts _ (st_in (k := 6) (i := 127) rfl))
  obtain ⟨r9, R9⟩ := st_str (own := "LetByTheDegree") (k := 456) (hs _ (by decide +kernel)) (hts _ (st_in (k := 6) (i := 135) rfl))
  have iT : (Cond.initialized "java/lang/Throwable").before #[Value.ref b] s = true := hts _ (st_in (k := 1) (i := 22) rfl)
  have hZ : va_Z "java/lang/String" "COMPACT_STRINGS" "Z" (.int 1) (fun q => s.heap.size ≤ q) s s.heap := va_Zof (args := #[Value.ref b]) (hts _ (st_in (k := 3) (i := 221) rfl)) (hts _ (st_in (k := 1) (i := 16) rfl)) (va_eqt (hs _ (by decide +kernel))) hA
  have hU : vx_Zq Bundle.tN "UNASSIGNED_STACK" Bundle.steD (fun q => s.heap.size ≤ q) s s.heap := vx_Zqof (args := #[Value.ref b]) (hts _ (st_in (k := 6) (i := 76) rfl)) iT (hs _ (by decide +kernel)) hA
  have hV : vx_Zq Bundle.tN "SUPPRESSED_SENTINEL" Bundle.listD (fun q => s.heap.size ≤ q) s s.heap := vx_Zqof (args := #[Value.ref b]) (hts _ (st_in (k := 6) (i := 78) rfl)) iT (hs _ (by decide +kernel)) hA
  refine ⟨st_xa [p0, p1, adK 0, b, adV 0, r5, r6, r7, r8, r9], rfl, ?_, z0, z1, ?_, ?_⟩
  · intro i Ls hi
    match i, hi with
    | 0, hi => cases hi; exact t0
    | 1, hi => cases hi; exact t1
    | 2, hi => cases hi
    | 3, hi =>
      cases hi
      obtain ⟨scr, a1, a2, a3, a4, a5⟩ := hX
      have hl : ((List.range L).map xs).length = L := by simp
      refine ⟨scr, a1, a2, a3, (by rw [hl, a4]; exact Nat.le_refl L), (by rw [hl, a4]), fun j hj => ?_, hA _ hbl⟩
      rw [hl] at hj
      rw [a5 j hj]
      have e : ((List.range L).map xs).getD j 0 = xs j := by simp [List.getD_eq_getElem?_getD, hj]
      show _ = some (Value.int (((List.range L).map xs).getD j 0))
      rw [e]
    | i + 4, hi => cases hi
  · intro w hw
    have h1 := hts w (List.mem_filter.mp hw).1
    have h2 := (List.mem_filter.mp hw).2
    cases w <;> first | exact va_Nw.of rfl h1 | (simp [a_isN] at h2; done)
  · exact ⟨⟨vk_R.of (hts _ (st_in (k := 3) (i := 207) rfl)) oE, o1, o2, o3, o4, hZ⟩, va_AO.of (hts _ (st_in (k := 2) (i := 41) rfl)), ⟨R5, R6, R7, R8, R9⟩, hU, hV, va_Nw.of rfl (hts _ (st_in (k := 6) (i := 51) rfl)), va_Nw.of rfl (hts _ (st_in (k := 6) (i := 53) rfl)), va_Nw.of rfl (hts _ (st_in (k := 6) (i := 55) rfl)), va_Nw.of rfl (hts _ (st_in (k := 6) (i := 57) rfl))⟩
end
