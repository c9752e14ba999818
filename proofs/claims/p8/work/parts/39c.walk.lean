/-! THE LAW'S START: its walk to the loop -/
theorem py_ini1 : (parseMethodDescriptor q_ini1.1.desc).map (fun d => d.parameters.length) = some ([] : List Value).length := by decide +kernel
theorem py_ini2 : (parseMethodDescriptor q_ini2.1.desc).map (fun d => d.parameters.length) = some ([] : List Value).length := by decide +kernel
theorem hOk_app {a : m_H} {c : m_C} (h : m_hOk a.length a) (hc : ∀ v ∈ c.2, m_vOk (a ++ [c]).length v) : m_hOk (a ++ [c]).length (a ++ [c]) := fun x hx v hv => by
  rcases List.mem_append.mp hx with hx | hx
  · exact m_vOk_mono (by simp) (h x hx v hv)
  · obtain rfl := List.mem_singleton.mp hx
    exact hc v hv
/-- the cells at the loop's start -/
noncomputable def xs_is (σ : m_H) : Prop := ∃ (a b : m_H) (c1 s1 c2 s2 : Nat), xs_1 = some (a, c1, s1) ∧ x_exec xcode 3000 8 159 (a ++ [(.inr 13, x_dfs 13)], 0, 0, 0, lv_args 0 [.ref a.length], []) = some (b, c2, s2) ∧ σ = b ++ [(.inl 4, [.long 0])]
noncomputable def xs_ck (f : m_H → Bool) : Bool := match xs_2 with
  | some (b, _, _) => f (b ++ [(.inl 4, [.long 0])])
  | none => false
theorem xs_ck_ok {f : m_H → Bool} (h : xs_ck f = true) {σ : m_H} (hx : xs_is σ) : f σ = true := by
  obtain ⟨a, b, c1, s1, c2, s2, h1, h2, rfl⟩ := hx
  unfold xs_ck xs_2 at h
  rw [h1] at h
  simp only at h
  rw [h2] at h
  exact h
theorem st_walk (Rel : m_H → Prop) (hRel0 : ∀ σ, xs_is σ → Rel σ) (hRel : ∀ c ∈ law_cs, l_rel2 Rel c) (hS5 : l_rel3 Rel 181 2) (hS6 : l_rel3x Rel 156 0 190 262 2) (hS39 : l_rel3 Rel 261 1) {p : Program} {l : Launch} {e : Env} {s : State} {m : MethodId} {args : Array Value} {below : List Frame} {meth : Method} {c : Code} {QQ : State → Prop} {dC : Nat → ClassId} {dI : Nat → Nat → Nat} {aC : Nat → ClassId} {A : Nat → Prop} {ad0 xa : Nat → Nat} {X : Nat → Option (List Int32)}
    (hl : l.stackTraces = false) (hX : ∀ i, i < 2 → X i = some ((x_tab i).map Int32.ofInt)) {Ls : List Int32} (hX3 : X 3 = some Ls) (hLs : Ls.length ≤ 2560) (hC : m_Ctx p s m args meth c code 8 "LetByTheDegreeLaw" dC dI aC A xa X (yY xa)) (hrt : meth.sig.returnType = some .boolean)
    (END : ∀ (σ : m_H) (k n : Nat) (ls : List (Nat × Value)), k ≤ 603 + 512 → n ≤ 8100 + 3072 → mV p l e room_1 s m args below meth c QQ dC dI aC A 0 ad0 xa 8 (σ, k, n, 1327, ls, [])) : mV p l e room_1 s m args below meth c QQ dC dI aC A 0 ad0 xa 8 ([], 0, 0, 0, [(0, .ref (m_X0 + 3))], []) := by
  obtain ⟨a, b, c1, s1, c2, s2, h1, h2, ea, eb, hc1, hc2, hs1, hs2, hok⟩ := xs_get
  have hY := yY_ok xa
  have v0 : ∀ n, m_vOk n (.ref (m_X0 + 3)) := fun n => Or.inr (Nat.le_add_right _ _)
  have hx0 : m_hOk xs_0.length xs_0 := fun q hq => by
    obtain rfl := List.mem_singleton.mp hq
    exact x_dfs_in 12 _
  obtain ⟨a1, -, hM1⟩ := st_mk (l := l) (X := X) (xa := xa) q_ini1_at (by decide +kernel) h1 (by decide) hx0 (by rw [ea]; decide) (by decide)
  have hR0 : Rel (b ++ [((.inl 4, [.long 0]) : m_C)]) := hRel0 _ ⟨a, b, c1, s1, c2, s2, h1, h2, rfl⟩
  rw [ea] at h2
  have hx1 : m_hOk (a ++ [((.inr 13, x_dfs 13) : m_C)]).length (a ++ [((.inr 13, x_dfs 13) : m_C)]) := hOk_app a1 (x_dfs_in 13 _)
  obtain ⟨b1, -, hM2⟩ := st_mk (l := l) (X := X) (xa := xa) q_ini2_at (by decide +kernel) h2 (by rw [List.length_append, ea]; decide) hx1 (by rw [eb]; decide) (by decide)
  have hRc : room_1.cells = 601024 := rfl
  have hRs : room_1.slots = 7293034 := rfl
  refine mV_new hC (ci := 12) (kd law_k (pc := 0) rfl).1.1 rfl (a_in (k := 1) (i := 28) rfl rfl) (a_in (k := 1) (i := 29) rfl rfl) (a_in (k := 1) (i := 1) rfl rfl) (x_dfs_ok (ci := 12) rfl).1 (x_dfs_ok (ci := 12) rfl).2.1 (by decide) (by decide) (Nat.zero_le _) (by decide) (fun q hq => by cases hq) (fun q hq => by obtain rfl := List.mem_singleton.mp hq; exact v0 _) (fun v hv => by cases hv) (x_dfs_in 12 _) ?_
  show mV p l e room_1 s m args below meth c QQ dC dI aC A 0 ad0 xa 8 (xs_0, 1, 14, 3, [(0, .ref (m_X0 + 3))], [.ref 0])
  refine mV_dup hC (kd law_k (pc := 3) rfl).1.1 rfl ?_
  refine mV_callI hY hC (q := 0) (as := []) (st := [.ref 0]) (kd law_k (pc := 4) rfl).1.1 hM1 rfl (a_in (k := 1) (i := 30) rfl rfl) (a_in (k := 1) (i := 31) rfl rfl) (a_in (k := 1) (i := 1) rfl rfl) q_ini1_w ⟨by decide, by decide⟩ py_ini1 ⟨by decide, by decide⟩ (by decide) (by omega) (by omega) (by decide) (Nat.zero_le _) (fun v hv => by obtain rfl := List.mem_singleton.mp hv; exact Or.inl (by decide)) (fun q hq => by obtain rfl := List.mem_singleton.mp hq; exact v0 _) (fun r z hz => ?_)
  obtain ⟨hz1, hz2⟩ := hz
  rw [hz1, hz2]
  refine mV_astore_n hC (j := 1) (x := 0) (st := []) (kd law_k (pc := 7) rfl).1.1 (by decide) ?_
  show mV p l e room_1 s m args below meth c QQ dC dI aC A 0 ad0 xa 8 (a, 1 + c1, 14 + s1, 8, [(1, .ref 0), (0, .ref (m_X0 + 3))], [])
  have ho1 : ∀ n, 0 < n → ∀ q ∈ ([(1, .ref 0), (0, .ref (m_X0 + 3))] : List (Nat × Value)), m_vOk n q.2 := fun n hn q hq => by
    simp only [List.mem_cons, List.not_mem_nil, or_false] at hq
    rcases hq with rfl | rfl
    · exact vok_ref hn
    · exact v0 n
  refine mV_new hC (ci := 13) (kd law_k (pc := 8) rfl).1.1 rfl (a_in (k := 6) (i := 136) rfl rfl) (a_in (k := 6) (i := 137) rfl rfl) (a_in (k := 1) (i := 14) rfl rfl) (x_dfs_ok (ci := 13) rfl).1 (x_dfs_ok (ci := 13) rfl).2.1 (by omega) (by show 14 + s1 + 56 ≤ room_1.slots; omega) (Nat.zero_le _) (by rw [ea]; decide) a1 (ho1 _ (by omega)) (fun v hv => by cases hv) (x_dfs_in 13 _) ?_
  rw [ea]
  show mV p l e room_1 s m args below meth c QQ dC dI aC A 0 ad0 xa 8 (a ++ [((.inr 13, x_dfs 13) : m_C)], 1 + c1 + 1, 14 + s1 + 56, 11, [(1, .ref 0), (0, .ref (m_X0 + 3))], [.ref 251])
  have hla : (a ++ [((.inr 13, x_dfs 13) : m_C)]).length = 252 := by rw [List.length_append, ea]; rfl
  refine mV_dup hC (kd law_k (pc := 11) rfl).1.1 rfl ?_
  refine mV_callI hY hC (q := 251) (as := []) (st := [.ref 251]) (kd law_k (pc := 12) rfl).1.1 hM2 rfl (a_in (k := 6) (i := 138) rfl rfl) (a_in (k := 6) (i := 139) rfl rfl) (a_in (k := 1) (i := 14) rfl rfl) q_ini2_w ⟨by decide, by decide⟩ py_ini2 ⟨by decide, by decide⟩ (by decide) (by omega) (by omega) (by decide) (Nat.zero_le _) (fun v hv => by obtain rfl := List.mem_singleton.mp hv; exact Or.inl (by rw [hla]; decide)) (ho1 _ (by rw [hla]; decide)) (fun r z hz => ?_)
  obtain ⟨hz1, hz2⟩ := hz
  rw [hz1, hz2]
  refine mV_astore_n hC (j := 2) (x := 251) (st := []) (kd law_k (pc := 15) rfl).1.1 (by decide) ?_
  show mV p l e room_1 s m args below meth c QQ dC dI aC A 0 ad0 xa 8 (b, 1 + c1 + 1 + c2, 14 + s1 + 56 + s2, 16, [(2, .ref 251), (1, .ref 0), (0, .ref (m_X0 + 3))], [])
  have ho2 : ∀ q ∈ ([(2, .ref 251), (1, .ref 0), (0, .ref (m_X0 + 3))] : List (Nat × Value)), m_vOk b.length q.2 := fun q hq => by
    rw [eb]
    simp only [List.mem_cons, List.not_mem_nil, or_false] at hq
    rcases hq with rfl | rfl | rfl
    · exact vok_ref (by decide)
    · exact vok_ref (by decide)
    · exact v0 _
  refine mV_iconst hC (kd law_k (pc := 16) rfl).1.1 ?_
  refine mV_newa hC (t := 4) (N := 1) (kd law_k (pc := 17) rfl).1.1 (a_in (k := 3) (i := 13) rfl rfl) (by decide) rfl (by decide) (by decide) (by decide) (by omega) (by omega) (Nat.zero_le _) (by rw [eb]; decide) b1 ho2 (fun v hv => by cases hv) ?_
  rw [eb]
  show mV p l e room_1 s m args below meth c QQ dC dI aC A 0 ad0 xa 8 (b ++ [((.inl 4, [.long 0]) : m_C)], 1 + c1 + 1 + c2 + 1, 14 + s1 + 56 + s2 + 1, 19, [(2, .ref 251), (1, .ref 0), (0, .ref (m_X0 + 3))], [.ref 278])
  refine mV_astore_n hC (j := 3) (x := 278) (st := []) (kd law_k (pc := 19) rfl).1.1 (by decide) ?_
  refine mV_iconst hC (kd law_k (pc := 20) rfl).1.1 ?_
  refine mV_istore hC (kd law_k (pc := 21) rfl).1.1 (by decide) ?_
  show mV p l e room_1 s m args below meth c QQ dC dI aC A 0 ad0 xa 8 (b ++ [((.inl 4, [.long 0]) : m_C)], 1 + c1 + 1 + c2 + 1, 14 + s1 + 56 + s2 + 1, 23, [(4, .int (Int32.ofInt 0)), (3, .ref 278), (2, .ref 251), (1, .ref 0), (0, .ref (m_X0 + 3))], [])
  refine mV_ls (ls' := l_ex (Int32.ofInt 0)) (fun q hq => ?_) (law_loop Rel hRel hS5 hS6 hS39 hl hX hX3 hLs hC hrt (Nat.zero_le _) (k0 := 603) (s0 := 8100) (by decide) (by decide) END 512 0 _ _ _ 0 _ rfl (by decide) (Int.le_refl 0) (by omega) (okb_ok (Int.le_refl 0) (by rw [List.length_append, eb]; rfl) hok) hR0 (by omega) (by omega))
  simp only [l_ex, List.mem_cons, List.not_mem_nil, or_false] at hq
  rcases hq with rfl | rfl | rfl | rfl | rfl <;> simp
