/-! A STRING'S indexOf(int), of the short string outside -/
def sy_ix2 : MethodName := ⟨"java/lang/String", "indexOf", "(II)I"⟩
def sy_lat : MethodName := ⟨"java/lang/String", "isLatin1", "()Z"⟩
def sy_len : MethodName := ⟨"java/lang/String", "length", "()I"⟩
def sy_cod : MethodName := ⟨"java/lang/String", "coder", "()B"⟩
def sy_lix : MethodName := ⟨"java/lang/StringLatin1", "indexOf", "([BIII)I"⟩
def sy_can : MethodName := ⟨"java/lang/StringLatin1", "canEncode", "(I)Z"⟩
def sy_ioc : MethodName := ⟨"java/lang/StringLatin1", "indexOfChar", "([BIII)I"⟩
theorem py_can : (parseMethodDescriptor sy_can.desc).map (fun d => d.parameters.length) = some 1 := by decide +kernel
theorem py_ioc : (parseMethodDescriptor sy_ioc.desc).map (fun d => d.parameters.length) = some 4 := by decide +kernel
theorem py_lix : (parseMethodDescriptor sy_lix.desc).map (fun d => d.parameters.length) = some 4 := by decide +kernel
theorem sw (k i : Nat) {w : Cond} (h : (a_part k)[i]? = some w) (hg : goodWord w = true) : w ∈ a_tb := a_in h hg
theorem sw_ini : Cond.initialized "java/lang/String" ∈ a_tb := a_in (k := 1) (i := 16) rfl rfl
theorem sw_iniL : Cond.initialized "java/lang/StringLatin1" ∈ a_tb := a_in (k := 1) (i := 17) rfl rfl
theorem js_ix1_0 : decode prog_25_method_79_code 0 = .ok (.aload_n 0, 1) := by decide +kernel
theorem js_ix1_1 : decode prog_25_method_79_code 1 = .ok (.iload_n 1, 1) := by decide +kernel
theorem js_ix1_2 : decode prog_25_method_79_code 2 = .ok (.iconst (0), 1) := by decide +kernel
theorem js_ix1_3 : decode prog_25_method_79_code 3 = .ok (.invokevirtual 633, 3) := by decide +kernel
theorem js_ix1_6 : decode prog_25_method_79_code 6 = .ok (.ireturn, 1) := by decide +kernel
theorem js_ix2_0 : decode prog_25_method_80_code 0 = .ok (.aload_n 0, 1) := by decide +kernel
theorem js_ix2_1 : decode prog_25_method_80_code 1 = .ok (.invokevirtual 492, 3) := by decide +kernel
theorem js_ix2_4 : decode prog_25_method_80_code 4 = .ok (.ifCond .eq (19), 3) := by decide +kernel
theorem js_ix2_7 : decode prog_25_method_80_code 7 = .ok (.aload_n 0, 1) := by decide +kernel
theorem js_ix2_8 : decode prog_25_method_80_code 8 = .ok (.getfield 9, 3) := by decide +kernel
theorem js_ix2_11 : decode prog_25_method_80_code 11 = .ok (.iload_n 1, 1) := by decide +kernel
theorem js_ix2_12 : decode prog_25_method_80_code 12 = .ok (.iload_n 2, 1) := by decide +kernel
theorem js_ix2_13 : decode prog_25_method_80_code 13 = .ok (.aload_n 0, 1) := by decide +kernel
theorem js_ix2_14 : decode prog_25_method_80_code 14 = .ok (.invokevirtual 505, 3) := by decide +kernel
theorem js_ix2_17 : decode prog_25_method_80_code 17 = .ok (.invokestatic 637, 3) := by decide +kernel
theorem js_ix2_20 : decode prog_25_method_80_code 20 = .ok (.goto (16), 3) := by decide +kernel
theorem js_ix2_23 : decode prog_25_method_80_code 23 = .ok (.aload_n 0, 1) := by decide +kernel
theorem js_ix2_24 : decode prog_25_method_80_code 24 = .ok (.getfield 9, 3) := by decide +kernel
theorem js_ix2_27 : decode prog_25_method_80_code 27 = .ok (.iload_n 1, 1) := by decide +kernel
theorem js_ix2_28 : decode prog_25_method_80_code 28 = .ok (.iload_n 2, 1) := by decide +kernel
theorem js_ix2_29 : decode prog_25_method_80_code 29 = .ok (.aload_n 0, 1) := by decide +kernel
theorem js_ix2_30 : decode prog_25_method_80_code 30 = .ok (.invokevirtual 505, 3) := by decide +kernel
theorem js_ix2_33 : decode prog_25_method_80_code 33 = .ok (.invokestatic 640, 3) := by decide +kernel
theorem js_ix2_36 : decode prog_25_method_80_code 36 = .ok (.ireturn, 1) := by decide +kernel
theorem js_lat_0 : decode prog_25_method_154_code 0 = .ok (.getstatic 38, 3) := by decide +kernel
theorem js_lat_3 : decode prog_25_method_154_code 3 = .ok (.ifCond .eq (14), 3) := by decide +kernel
theorem js_lat_6 : decode prog_25_method_154_code 6 = .ok (.aload_n 0, 1) := by decide +kernel
theorem js_lat_7 : decode prog_25_method_154_code 7 = .ok (.getfield 15, 3) := by decide +kernel
theorem js_lat_10 : decode prog_25_method_154_code 10 = .ok (.ifCond .ne (7), 3) := by decide +kernel
theorem js_lat_13 : decode prog_25_method_154_code 13 = .ok (.iconst (1), 1) := by decide +kernel
theorem js_lat_14 : decode prog_25_method_154_code 14 = .ok (.goto (4), 3) := by decide +kernel
theorem js_lat_17 : decode prog_25_method_154_code 17 = .ok (.iconst (0), 1) := by decide +kernel
theorem js_lat_18 : decode prog_25_method_154_code 18 = .ok (.ireturn, 1) := by decide +kernel
theorem js_len_0 : decode prog_25_method_54_code 0 = .ok (.aload_n 0, 1) := by decide +kernel
theorem js_len_1 : decode prog_25_method_54_code 1 = .ok (.getfield 9, 3) := by decide +kernel
theorem js_len_4 : decode prog_25_method_54_code 4 = .ok (.arraylength, 1) := by decide +kernel
theorem js_len_5 : decode prog_25_method_54_code 5 = .ok (.aload_n 0, 1) := by decide +kernel
theorem js_len_6 : decode prog_25_method_54_code 6 = .ok (.invokevirtual 335, 3) := by decide +kernel
theorem js_len_9 : decode prog_25_method_54_code 9 = .ok (.ishr, 1) := by decide +kernel
theorem js_len_10 : decode prog_25_method_54_code 10 = .ok (.ireturn, 1) := by decide +kernel
theorem js_cod_0 : decode prog_25_method_152_code 0 = .ok (.getstatic 38, 3) := by decide +kernel
theorem js_cod_3 : decode prog_25_method_152_code 3 = .ok (.ifCond .eq (10), 3) := by decide +kernel
theorem js_cod_6 : decode prog_25_method_152_code 6 = .ok (.aload_n 0, 1) := by decide +kernel
theorem js_cod_7 : decode prog_25_method_152_code 7 = .ok (.getfield 15, 3) := by decide +kernel
theorem js_cod_10 : decode prog_25_method_152_code 10 = .ok (.goto (4), 3) := by decide +kernel
theorem js_cod_13 : decode prog_25_method_152_code 13 = .ok (.iconst (1), 1) := by decide +kernel
theorem js_cod_14 : decode prog_25_method_152_code 14 = .ok (.ireturn, 1) := by decide +kernel
theorem js_lix_0 : decode prog_26_method_22_code 0 = .ok (.iload_n 1, 1) := by decide +kernel
theorem js_lix_1 : decode prog_26_method_22_code 1 = .ok (.invokestatic 88, 3) := by decide +kernel
theorem js_lix_4 : decode prog_26_method_22_code 4 = .ok (.ifCond .ne (5), 3) := by decide +kernel
theorem js_lix_7 : decode prog_26_method_22_code 7 = .ok (.iconst (-1), 1) := by decide +kernel
theorem js_lix_8 : decode prog_26_method_22_code 8 = .ok (.ireturn, 1) := by decide +kernel
theorem js_lix_9 : decode prog_26_method_22_code 9 = .ok (.iload_n 2, 1) := by decide +kernel
theorem js_lix_10 : decode prog_26_method_22_code 10 = .ok (.iconst (0), 1) := by decide +kernel
theorem js_lix_11 : decode prog_26_method_22_code 11 = .ok (.invokestatic 92, 3) := by decide +kernel
theorem js_lix_14 : decode prog_26_method_22_code 14 = .ok (.istore_n 2, 1) := by decide +kernel
theorem js_lix_15 : decode prog_26_method_22_code 15 = .ok (.iload_n 3, 1) := by decide +kernel
theorem js_lix_16 : decode prog_26_method_22_code 16 = .ok (.aload_n 0, 1) := by decide +kernel
theorem js_lix_17 : decode prog_26_method_22_code 17 = .ok (.arraylength, 1) := by decide +kernel
theorem js_lix_18 : decode prog_26_method_22_code 18 = .ok (.invokestatic 38, 3) := by decide +kernel
theorem js_lix_21 : decode prog_26_method_22_code 21 = .ok (.istore_n 3, 1) := by decide +kernel
theorem js_lix_22 : decode prog_26_method_22_code 22 = .ok (.iload_n 2, 1) := by decide +kernel
theorem js_lix_23 : decode prog_26_method_22_code 23 = .ok (.iload_n 3, 1) := by decide +kernel
theorem js_lix_24 : decode prog_26_method_22_code 24 = .ok (.if_icmp .lt (5), 3) := by decide +kernel
theorem js_lix_27 : decode prog_26_method_22_code 27 = .ok (.iconst (-1), 1) := by decide +kernel
theorem js_lix_28 : decode prog_26_method_22_code 28 = .ok (.ireturn, 1) := by decide +kernel
theorem js_lix_29 : decode prog_26_method_22_code 29 = .ok (.aload_n 0, 1) := by decide +kernel
theorem js_lix_30 : decode prog_26_method_22_code 30 = .ok (.iload_n 1, 1) := by decide +kernel
theorem js_lix_31 : decode prog_26_method_22_code 31 = .ok (.iload_n 2, 1) := by decide +kernel
theorem js_lix_32 : decode prog_26_method_22_code 32 = .ok (.iload_n 3, 1) := by decide +kernel
theorem js_lix_33 : decode prog_26_method_22_code 33 = .ok (.invokestatic 95, 3) := by decide +kernel
theorem js_lix_36 : decode prog_26_method_22_code 36 = .ok (.ireturn, 1) := by decide +kernel
theorem js_can_0 : decode prog_26_method_4_code 0 = .ok (.iload_n 0, 1) := by decide +kernel
theorem js_can_1 : decode prog_26_method_4_code 1 = .ok (.ifCond .lt (14), 3) := by decide +kernel
theorem js_can_4 : decode prog_26_method_4_code 4 = .ok (.iload_n 0, 1) := by decide +kernel
theorem js_can_5 : decode prog_26_method_4_code 5 = .ok (.sipush (255), 3) := by decide +kernel
theorem js_can_8 : decode prog_26_method_4_code 8 = .ok (.if_icmp .gt (7), 3) := by decide +kernel
theorem js_can_11 : decode prog_26_method_4_code 11 = .ok (.iconst (1), 1) := by decide +kernel
theorem js_can_12 : decode prog_26_method_4_code 12 = .ok (.goto (4), 3) := by decide +kernel
theorem js_can_15 : decode prog_26_method_4_code 15 = .ok (.iconst (0), 1) := by decide +kernel
theorem js_can_16 : decode prog_26_method_4_code 16 = .ok (.ireturn, 1) := by decide +kernel
theorem js_ioc_0 : decode prog_26_method_23_code 0 = .ok (.iload_n 1, 1) := by decide +kernel
theorem js_ioc_1 : decode prog_26_method_23_code 1 = .ok (.i2b, 1) := by decide +kernel
theorem js_ioc_2 : decode prog_26_method_23_code 2 = .ok (.istore 4, 2) := by decide +kernel
theorem js_ioc_4 : decode prog_26_method_23_code 4 = .ok (.iload_n 2, 1) := by decide +kernel
theorem js_ioc_5 : decode prog_26_method_23_code 5 = .ok (.istore 5, 2) := by decide +kernel
theorem js_ioc_7 : decode prog_26_method_23_code 7 = .ok (.iload 5, 2) := by decide +kernel
theorem js_ioc_9 : decode prog_26_method_23_code 9 = .ok (.iload_n 3, 1) := by decide +kernel
theorem js_ioc_10 : decode prog_26_method_23_code 10 = .ok (.if_icmp .ge (21), 3) := by decide +kernel
theorem js_ioc_13 : decode prog_26_method_23_code 13 = .ok (.aload_n 0, 1) := by decide +kernel
theorem js_ioc_14 : decode prog_26_method_23_code 14 = .ok (.iload 5, 2) := by decide +kernel
theorem js_ioc_16 : decode prog_26_method_23_code 16 = .ok (.baload, 1) := by decide +kernel
theorem js_ioc_17 : decode prog_26_method_23_code 17 = .ok (.iload 4, 2) := by decide +kernel
theorem js_ioc_19 : decode prog_26_method_23_code 19 = .ok (.if_icmp .ne (6), 3) := by decide +kernel
theorem js_ioc_22 : decode prog_26_method_23_code 22 = .ok (.iload 5, 2) := by decide +kernel
theorem js_ioc_24 : decode prog_26_method_23_code 24 = .ok (.ireturn, 1) := by decide +kernel
theorem js_ioc_25 : decode prog_26_method_23_code 25 = .ok (.iinc 5 (1), 3) := by decide +kernel
theorem js_ioc_28 : decode prog_26_method_23_code 28 = .ok (.goto (-21), 3) := by decide +kernel
theorem js_ioc_31 : decode prog_26_method_23_code 31 = .ok (.iconst (-1), 1) := by decide +kernel
theorem js_ioc_32 : decode prog_26_method_23_code 32 = .ok (.ireturn, 1) := by decide +kernel
section SS
variable {p : Program} {l : Launch} {e : Env} {R : Room} {s : State} {m : MethodId} {args : Array Value} {below : List Frame} {meth : Method} {c : Code} {QQ : State → Prop} {dC : Nat → ClassId} {dI : Nat → Nat → Nat} {aC : Nat → ClassId} {A : Nat → Prop} {n0 : Nat} {ad0 xa : Nat → Nat} {nL : Nat} {cc : ByteArray} {own : String} {X : Nat → Option (List Int32)} {Y : (Nat → Prop) → State → Heap → Prop}
variable {σ : m_H} {ce sl pc mc ms : Nat} {ls : List (Nat × Value)} {st : List Value}
theorem mV_sgs (hC : m_Ctx p s m args meth c cc nL own dC dI aC A xa X Y) {idx : Nat} (hZ : va_Z "java/lang/String" "COMPACT_STRINGS" "Z" (.int 1) A s s.heap) (hd : decode cc pc = .ok (.getstatic idx, 3)) (hw : Cond.fieldLink own idx "java/lang/String" "COMPACT_STRINGS" "Z" ∈ a_tb) (k : mV p l e R s m args below meth c QQ dC dI aC A n0 ad0 xa nL (σ, ce, sl, pc + 3, ls, .int 1 :: st)) : mV p l e R s m args below meth c QQ dC dI aC A n0 ad0 xa nL (σ, ce, sl, pc, ls, st) := by
  intro ad H locs lsC h1 h2 h3 h4 h5 h6
  exact va_gets hC.1 hC.2.1 hZ h5 hC.2.2.2.1 (m_ctb hC hw) (fun _ z => z) hd (k ad H locs lsC h1 h2 h3 h4 h5 h6)
theorem mV_sgf (hC : m_Ctx p s m args meth c cc nL own dC dI aC A xa X Y) {idx : Nat} {n ds : String} {v v' : Value} (hE : va_OF "java/lang/String" n ds v' (xa 2) A s s.heap) (hv : ∀ ad : Nat → Nat, (∀ k, ad (m_X0 + k) = xa k) → m_re ad v = v') (hd : decode cc pc = .ok (.getfield idx, 3)) (hw : Cond.fieldLink own idx "java/lang/String" n ds ∈ a_tb) (k : mV p l e R s m args below meth c QQ dC dI aC A n0 ad0 xa nL (σ, ce, sl, pc + 3, ls, v :: st)) : mV p l e R s m args below meth c QQ dC dI aC A n0 ad0 xa nL (σ, ce, sl, pc, ls, .ref (m_X0 + 2) :: st) := by
  intro ad H locs lsC h1 h2 h3 h4 h5 h6
  rw [← h2 2, ← hv ad h2] at hE
  exact vk_getf hC.1 hC.2.1 hE h5 hC.2.2.2.1 (m_ctb hC hw) (fun _ z => z) hd (k ad H locs lsC h1 h2 h3 h4 h5 h6)
theorem mV_slen (hC : m_Ctx p s m args meth c cc nL own dC dI aC A xa X Y) {N : Nat} {f : Nat → Value} {x : Int32} (hT : va_T .byte (xa 4) N f A s s.heap) (hx : Int32.ofNat N = x) (hd : decode cc pc = .ok (.arraylength, 1)) (k : mV p l e R s m args below meth c QQ dC dI aC A n0 ad0 xa nL (σ, ce, sl, pc + 1, ls, .int x :: st)) : mV p l e R s m args below meth c QQ dC dI aC A n0 ad0 xa nL (σ, ce, sl, pc, ls, .ref (m_X0 + 4) :: st) := by
  intro ad H locs lsC h1 h2 h3 h4 h5 h6
  rw [← h2 4] at hT
  exact va_tlen hC.1 hC.2.1 hT h5 hx hd (k ad H locs lsC h1 h2 h3 h4 h5 h6)
theorem mV_sbl (hC : m_Ctx p s m args meth c cc nL own dC dI aC A xa X Y) {N : Nat} {f : Nat → Int32} {i : Int32} (hT : va_T .byte (xa 4) N (fun j => .int (f j)) A s s.heap) (hi : vp_in i N) (hd : decode cc pc = .ok (.baload, 1)) (k : mV p l e R s m args below meth c QQ dC dI aC A n0 ad0 xa nL (σ, ce, sl, pc + 1, ls, .int (f i.toNatClampNeg) :: st)) : mV p l e R s m args below meth c QQ dC dI aC A n0 ad0 xa nL (σ, ce, sl, pc, ls, .int i :: .ref (m_X0 + 4) :: st) := by
  intro ad H locs lsC h1 h2 h3 h4 h5 h6
  rw [← h2 4] at hT
  exact va_tb hC.1 hC.2.1 hT h5 hi rfl hd (k ad H locs lsC h1 h2 h3 h4 h5 h6)
theorem mV_sV0 (hY : m_Yok Y) (hC : m_Ctx p s m args meth c cc nL own dC dI aC A xa X Y) {idx d n : Nat} {y : MethodName} {b : ByteArray} {rt : Option FieldType} {Q : Option Value → m_H → Prop} (hyc : y.cls = "java/lang/String") (hE : va_O "java/lang/String" (xa 2) A s s.heap) (hd : decode cc pc = .ok (.invokevirtual idx, 3)) (hM : v_K l X Y xa d y b n rt σ [.ref (m_X0 + 2)] Q 0 0) (w1 : Cond.methodLink own idx y ∈ a_tb) (w2 : Cond.instanceMethod y ∈ a_tb) (w3 : Cond.selects "java/lang/String" y y ∈ a_tb) (w4 : Cond.code y b n rt ∈ a_tb) (hlen : (parseMethodDescriptor y.desc).map (fun d => d.parameters.length) = some 0) (h20 : n ≤ 20)
    (hR : d + 1 ≤ R.frames ∧ 40 * d + 40 ≤ R.locals) (hce : ce ≤ R.cells) (hsl : sl ≤ R.slots) (h8 : (st.map fun v => v.category).sum ≤ 8) (hn0 : n0 ≤ σ.length) (ho : ∀ v ∈ st, m_vOk σ.length v) (hol : ∀ q ∈ ls, m_vOk σ.length q.2)
    (kk : ∀ (r : Option Value) (σ' : m_H), Q r σ' → mV p l e R s m args below meth c QQ dC dI aC A n0 ad0 xa nL (σ', ce, sl, pc + 3, ls, r.toList ++ st)) : mV p l e R s m args below meth c QQ dC dI aC A n0 ad0 xa nL (σ, ce, sl, pc, ls, .ref (m_X0 + 2) :: st) := by
  intro ad H locs lsC h1 h2 h3 h4 h5 h6
  have hG : GoodIn a_tb (wsV own idx "java/lang/String" y (m_ws y b n rt)) := a_good fun w hw => by
    rcases List.mem_append.mp hw with h | h
    · simp only [List.mem_cons, List.not_mem_nil, or_false] at h
      rcases h with rfl | rfl | rfl | rfl
      · exact w1
      · exact w2
      · exact w3
      · exact sw_ini
    · exact m_wsIn w4 w h
  have hrc : ∃ cell : Cell, H[ad (m_X0 + 2)]? = some cell ∧ cell.vm.isStatics = false ∧ s.vm.findClass "java/lang/String" = some cell.cls := by
    obtain ⟨cell, g1, g2, g3, -⟩ := hE.kept h5.2.1
    rw [h2]
    exact ⟨cell, g1, g2, g3⟩
  refine m_goOn (mc := 0) (ms := 0) (st := st) hC (ad := ad) (σ := σ) (H := H) (locs := locs) (va_runV (As := []) (rest := st.map (m_re ad)) (g := F0 m pc lsC ((Value.ref (m_X0 + 2) :: st).map (m_re ad))) hC.fix (hM dC dI aC ad H.size h2)
    (cwV 0 hC.2.2.2.2.1 hG rfl rfl rfl ⟨hyc, by rw [hyc]; decide, by rw [hyc]; decide, hlen⟩ (m_room hR h20)) ⟨m_blind hY, hrc, m_pre (as := [.ref (m_X0 + 2)]) hY hC h3 h4 h5⟩ rfl rfl h6.1 rfl (m_cats8 h8 _) hd ⟨hce, hsl⟩) h1 h2 hn0 h4 h5 h6 ho hol kk
theorem mV_sV2 (hY : m_Yok Y) (hC : m_Ctx p s m args meth c cc nL own dC dI aC A xa X Y) {idx d n : Nat} {x x2 : Int32} {y : MethodName} {b : ByteArray} {rt : Option FieldType} {Q : Option Value → m_H → Prop} (hyc : y.cls = "java/lang/String") (hE : va_O "java/lang/String" (xa 2) A s s.heap) (hd : decode cc pc = .ok (.invokevirtual idx, 3)) (hM : v_K l X Y xa d y b n rt σ [.ref (m_X0 + 2), .int x, .int x2] Q 0 0) (w1 : Cond.methodLink own idx y ∈ a_tb) (w2 : Cond.instanceMethod y ∈ a_tb) (w3 : Cond.selects "java/lang/String" y y ∈ a_tb) (w4 : Cond.code y b n rt ∈ a_tb) (hlen : (parseMethodDescriptor y.desc).map (fun d => d.parameters.length) = some 2) (h20 : n ≤ 20)
    (hR : d + 1 ≤ R.frames ∧ 40 * d + 40 ≤ R.locals) (hce : ce ≤ R.cells) (hsl : sl ≤ R.slots) (h8 : (st.map fun v => v.category).sum ≤ 8) (hn0 : n0 ≤ σ.length) (ho : ∀ v ∈ st, m_vOk σ.length v) (hol : ∀ q ∈ ls, m_vOk σ.length q.2)
    (kk : ∀ (r : Option Value) (σ' : m_H), Q r σ' → mV p l e R s m args below meth c QQ dC dI aC A n0 ad0 xa nL (σ', ce, sl, pc + 3, ls, r.toList ++ st)) : mV p l e R s m args below meth c QQ dC dI aC A n0 ad0 xa nL (σ, ce, sl, pc, ls, .int x2 :: .int x :: .ref (m_X0 + 2) :: st) := by
  intro ad H locs lsC h1 h2 h3 h4 h5 h6
  have hG : GoodIn a_tb (wsV own idx "java/lang/String" y (m_ws y b n rt)) := a_good fun w hw => by
    rcases List.mem_append.mp hw with h | h
    · simp only [List.mem_cons, List.not_mem_nil, or_false] at h
      rcases h with rfl | rfl | rfl | rfl
      · exact w1
      · exact w2
      · exact w3
      · exact sw_ini
    · exact m_wsIn w4 w h
  have hrc : ∃ cell : Cell, H[ad (m_X0 + 2)]? = some cell ∧ cell.vm.isStatics = false ∧ s.vm.findClass "java/lang/String" = some cell.cls := by
    obtain ⟨cell, g1, g2, g3, -⟩ := hE.kept h5.2.1
    rw [h2]
    exact ⟨cell, g1, g2, g3⟩
  refine m_goOn (mc := 0) (ms := 0) (st := st) hC (ad := ad) (σ := σ) (H := H) (locs := locs) (va_runV (As := [Value.int x, .int x2]) (rest := st.map (m_re ad)) (g := F0 m pc lsC ((Value.int x2 :: .int x :: .ref (m_X0 + 2) :: st).map (m_re ad))) hC.fix (hM dC dI aC ad H.size h2)
    (cwV 2 hC.2.2.2.2.1 hG rfl rfl rfl ⟨hyc, by rw [hyc]; decide, by rw [hyc]; decide, hlen⟩ (m_room hR h20)) ⟨m_blind hY, hrc, m_pre (as := [.ref (m_X0 + 2), .int x, .int x2]) hY hC h3 h4 h5⟩ rfl rfl h6.1 rfl (m_cats8 h8 _) hd ⟨hce, hsl⟩) h1 h2 hn0 h4 h5 h6 ho hol kk
end SS
section SK
variable {l : Launch} {X : Nat → Option (List Int32)} {Y : (Nat → Prop) → State → Heap → Prop} {xa : Nat → Nat}
theorem vx2 (n : Nat) : m_vOk n (.ref (m_X0 + 2)) := Or.inr (Nat.le_add_right _ _)
theorem vx4 (n : Nat) : m_vOk n (.ref (m_X0 + 4)) := Or.inr (Nat.le_add_right _ _)
theorem k_lat (hYS : ∀ A U H, Y A U H → y_str xa A U H) {d : Nat} {σ : m_H} : v_K l X Y xa d sy_lat prog_25_method_154_code 1 (some .boolean) σ [.ref (m_X0 + 2)] (fun r σ' => r = some (.int 1) ∧ σ' = σ) 0 0 := by
  refine v_K_of (by decide +kernel) (Nat.le_of_ble_eq_true rfl) (fun p e s m args below meth c dC dI aC ad sz hC hn hrt => ?_)
  have hS := hYS _ _ _ hC.2.2.2.2.2.2.2.1.2.2.2.2
  refine mV_sgs hC hS.2.2.2.2.2 js_lat_0 (a_in (k := 3) (i := 220) rfl rfl) ?_
  refine mV_if_eq hC js_lat_3 (tgt := 17) rfl (fun h => absurd h (by decide)) (fun _ => ?_)
  refine mV_aload_n hC js_lat_6 rfl ?_
  refine mV_sgf hC hS.2.2.1 (v := .int 0) (fun _ _ => rfl) js_lat_7 (a_in (k := 9) (i := 18) rfl rfl) ?_
  refine mV_if_ne hC js_lat_10 (tgt := 17) rfl (fun h => absurd rfl h) (fun _ => ?_)
  refine mV_iconst hC js_lat_13 ?_
  refine mV_goto hC js_lat_14 (tgt := 18) rfl ?_
  exact mV_iret hC js_lat_18 hrt rfl ⟨rfl, rfl⟩ (Nat.le_refl _) (Nat.le_refl _)
theorem k_cod (hYS : ∀ A U H, Y A U H → y_str xa A U H) {d : Nat} {σ : m_H} : v_K l X Y xa d sy_cod prog_25_method_152_code 1 (some .byte) σ [.ref (m_X0 + 2)] (fun r σ' => r = some (.int 0) ∧ σ' = σ) 0 0 := by
  refine v_K_of (by decide +kernel) (Nat.le_of_ble_eq_true rfl) (fun p e s m args below meth c dC dI aC ad sz hC hn hrt => ?_)
  have hS := hYS _ _ _ hC.2.2.2.2.2.2.2.1.2.2.2.2
  refine mV_sgs hC hS.2.2.2.2.2 js_cod_0 (a_in (k := 3) (i := 220) rfl rfl) ?_
  refine mV_if_eq hC js_cod_3 (tgt := 13) rfl (fun h => absurd h (by decide)) (fun _ => ?_)
  refine mV_aload_n hC js_cod_6 rfl ?_
  refine mV_sgf hC hS.2.2.1 (v := .int 0) (fun _ _ => rfl) js_cod_7 (a_in (k := 9) (i := 18) rfl rfl) ?_
  refine mV_goto hC js_cod_10 (tgt := 14) rfl ?_
  exact mV_iret hC js_cod_14 hrt rfl ⟨rfl, rfl⟩ (Nat.le_refl _) (Nat.le_refl _)
theorem k_len (hY : m_Yok Y) (hYS : ∀ A U H, Y A U H → y_str xa A U H) {d : Nat} {σ : m_H} : v_K l X Y xa (d + 1) sy_len prog_25_method_54_code 1 (some .int) σ [.ref (m_X0 + 2)] (fun r σ' => r = some (.int 7) ∧ σ' = σ) 0 0 := by
  refine v_K_of (by decide +kernel) (Nat.le_of_ble_eq_true rfl) (fun p e s m args below meth c dC dI aC ad sz hC hn hrt => ?_)
  have hS := hYS _ _ _ hC.2.2.2.2.2.2.2.1.2.2.2.2
  refine mV_aload_n hC js_len_0 rfl ?_
  refine mV_sgf hC hS.2.2.2.1 (v := .ref (m_X0 + 4)) (fun ad h => congrArg Value.ref (h 4)) js_len_1 (a_in (k := 9) (i := 19) rfl rfl) ?_
  refine mV_slen hC hS.2.2.2.2.1 (x := 7) rfl js_len_4 ?_
  refine mV_aload_n hC js_len_5 rfl ?_
  refine mV_sV0 hY hC (y := sy_cod) rfl hS.2.1 js_len_6 (k_cod hYS (d := d)) (a_in (k := 3) (i := 226) rfl rfl) (a_in (k := 3) (i := 227) rfl rfl) (a_in (k := 3) (i := 228) rfl rfl) (a_in (k := 3) (i := 229) rfl rfl) (by decide) (by decide) m_rm_ok (Nat.zero_le _) (Nat.zero_le _) (Nat.le_of_ble_eq_true rfl) (Nat.le_refl _) (fun v hv => by obtain rfl := List.mem_singleton.mp hv; trivial) (fun u hu => by obtain rfl := List.mem_singleton.mp hu; exact vx2 _) (fun r σ' hQ => ?_)
  obtain ⟨rfl, rfl⟩ := hQ
  refine mV_ishr hC js_len_9 ?_
  exact mV_iret hC js_len_10 hrt rfl ⟨rfl, rfl⟩ (Nat.le_refl _) (Nat.le_refl _)
theorem k_can {d : Nat} {σ : m_H} {x : Int32} : v_K l X Y xa d sy_can prog_26_method_4_code 1 (some .boolean) σ [.int x] (fun r σ' => r = some (.int (if 0 ≤ x ∧ x ≤ 255 then 1 else 0)) ∧ σ' = σ) 0 0 := by
  refine v_K_of (by decide +kernel) (Nat.le_of_ble_eq_true rfl) (fun p e s m args below meth c dC dI aC ad sz hC hn hrt => ?_)
  refine mV_iload_n hC js_can_0 rfl ?_
  refine mV_if_lt hC js_can_1 (tgt := 15) rfl (fun h => ?_) (fun h => ?_)
  · refine mV_iconst hC js_can_15 ?_
    refine mV_iret hC js_can_16 hrt rfl ⟨?_, rfl⟩ (Nat.le_refl _) (Nat.le_refl _)
    rw [if_neg (fun z => absurd h (Int32.not_lt.mpr z.1))]; rfl
  · refine mV_iload_n hC js_can_4 rfl ?_
    refine mV_sipush hC js_can_5 ?_
    refine mV_icmp_gt hC js_can_8 (tgt := 15) rfl (fun h2 => ?_) (fun h2 => ?_)
    · refine mV_iconst hC js_can_15 ?_
      refine mV_iret hC js_can_16 hrt rfl ⟨?_, rfl⟩ (Nat.le_refl _) (Nat.le_refl _)
      rw [if_neg (fun z => absurd h2 (Int32.not_lt.mpr z.2))]; rfl
    · refine mV_iconst hC js_can_11 ?_
      refine mV_goto hC js_can_12 (tgt := 16) rfl ?_
      refine mV_iret hC js_can_16 hrt rfl ⟨?_, rfl⟩ (Nat.le_refl _) (Nat.le_refl _)
      rw [if_pos ⟨Int32.not_lt.mp h, Int32.not_lt.mp h2⟩]; rfl
/-- where a letter stands first, from i on (7: nowhere) -/
def ix_f (x : Int32) : Nat → Nat → Int32
  | 0, _ => -1
  | n + 1, i => if ix_b.getD i 0 = x then Int32.ofNat i else ix_f x n (i + 1)
def ix_at (x : Int32) : Int32 := if 0 ≤ x ∧ x ≤ 255 then ix_f x.toInt8.toInt32 7 0 else -1
theorem i7_a : ∀ i, i < 7 → ¬ ((7 : Int32) ≤ Int32.ofNat i) := by decide
theorem i7_b : ∀ i, i < 7 → (Int32.ofNat i).toNatClampNeg = i := by decide
theorem i7_e : ∀ i, i < 7 → -1 ≤ (Int32.ofNat i).toInt ∧ (Int32.ofNat i).toInt ≤ 6 := by decide
theorem i7_c (i : Nat) (h : i < 7) : vp_in (Int32.ofNat i) 7 := by
  have h1 : ∀ i, i < 7 → 0 ≤ (Int32.ofNat i).toInt ∧ (Int32.ofNat i).toInt < 7 := by decide
  exact vp_in_iff.mpr ⟨(h1 i h).1, (h1 i h).2⟩
theorem i7_d : ∀ i, i < 7 → Int32.ofNat i + Int32.ofInt 1 = Int32.ofNat (i + 1) := by decide
theorem k_ioc (hYS : ∀ A U H, Y A U H → y_str xa A U H) {d : Nat} {σ : m_H} {x : Int32} : v_K l X Y xa d sy_ioc prog_26_method_23_code 6 (some .int) σ [.ref (m_X0 + 4), .int x, .int 0, .int 7] (fun r σ' => r = some (.int (ix_f x.toInt8.toInt32 7 0)) ∧ σ' = σ) 0 0 := by
  refine v_K_of (by decide +kernel) (Nat.le_of_ble_eq_true rfl) (fun p e s m args below meth c dC dI aC ad sz hC hn hrt => ?_)
  have hS := hYS _ _ _ hC.2.2.2.2.2.2.2.1.2.2.2.2
  refine mV_iload_n hC js_ioc_0 rfl ?_
  refine mV_i2b hC js_ioc_1 ?_
  refine mV_istore hC js_ioc_2 (by decide) ?_
  refine mV_iload_n hC js_ioc_4 rfl ?_
  refine mV_istore hC js_ioc_5 (by decide) ?_
  have loop : ∀ (n i : Nat), n + i = 7 → ix_f x.toInt8.toInt32 7 0 = ix_f x.toInt8.toInt32 n i → mV p l e (m_rm d 0 0) s m args below meth c (MQ below (m_Qc dC dI aC xa ad sz σ (fun r σ' => r = some (.int (ix_f x.toInt8.toInt32 7 0)) ∧ σ' = σ)) args s 0 0 (va_A (m_W ad aC σ) sz)) dC dI aC (va_A (m_W ad aC σ) sz) σ.length ad xa 6 (σ, 0, 0, 7, [(5, .int (Int32.ofNat i)), (4, .int x.toInt8.toInt32), (0, .ref (m_X0 + 4)), (1, .int x), (2, .int 0), (3, .int 7)], []) := by
    intro n
    induction n with
    | zero =>
      intro i hi he
      obtain rfl : i = 7 := by omega
      refine mV_iload hC js_ioc_7 rfl ?_
      refine mV_iload_n hC js_ioc_9 rfl ?_
      refine mV_icmp_ge hC js_ioc_10 (tgt := 31) rfl (fun h => ?_) (fun h => absurd (by decide) h)
      refine mV_iconst hC js_ioc_31 ?_
      exact mV_iret hC js_ioc_32 hrt rfl ⟨by rw [he]; rfl, rfl⟩ (Nat.le_refl _) (Nat.le_refl _)
    | succ n ih =>
      intro i hi he
      have hi7 : i < 7 := by omega
      refine mV_iload hC js_ioc_7 rfl ?_
      refine mV_iload_n hC js_ioc_9 rfl ?_
      refine mV_icmp_ge hC js_ioc_10 (tgt := 31) rfl (fun h => absurd h (i7_a i hi7)) (fun h => ?_)
      refine mV_aload_n hC js_ioc_13 rfl ?_
      refine mV_iload hC js_ioc_14 rfl ?_
      refine mV_sbl hC hS.2.2.2.2.1 (i7_c i hi7) js_ioc_16 ?_
      rw [i7_b i hi7]
      refine mV_iload hC js_ioc_17 rfl ?_
      refine mV_icmp_ne hC js_ioc_19 (tgt := 25) rfl (fun h => ?_) (fun h => ?_)
      · refine mV_iinc hC js_ioc_25 rfl (by decide) ?_
        refine mV_goto hC js_ioc_28 (tgt := 7) rfl ?_
        rw [i7_d i hi7]
        refine ih (i + 1) (by omega) ?_
        rw [he]
        show (if ix_b.getD i 0 = x.toInt8.toInt32 then Int32.ofNat i else ix_f x.toInt8.toInt32 n (i + 1)) = _
        rw [if_neg h]
      · refine mV_iload hC js_ioc_22 rfl ?_
        refine mV_iret hC js_ioc_24 hrt rfl ⟨?_, rfl⟩ (Nat.le_refl _) (Nat.le_refl _)
        rw [he]
        show _ = some (Value.int (if ix_b.getD i 0 = x.toInt8.toInt32 then Int32.ofNat i else ix_f x.toInt8.toInt32 n (i + 1)))
        rw [if_pos h]
  exact loop 7 0 rfl rfl
theorem k_lix (hY : m_Yok Y) (hYS : ∀ A U H, Y A U H → y_str xa A U H) {d : Nat} {σ : m_H} {x : Int32} : v_K l X Y xa (d + 1) sy_lix prog_26_method_22_code 4 (some .int) σ [.ref (m_X0 + 4), .int x, .int 0, .int 7] (fun r σ' => r = some (.int (ix_at x)) ∧ σ' = σ) 0 0 := by
  refine v_K_of (by decide +kernel) (Nat.le_of_ble_eq_true rfl) (fun p e s m args below meth c dC dI aC ad sz hC hn hrt => ?_)
  have hS := hYS _ _ _ hC.2.2.2.2.2.2.2.1.2.2.2.2
  have hls : ∀ (a b : Int32), ∀ u ∈ ([(0, .ref (m_X0 + 4)), (1, .int x), (2, .int a), (3, .int b)] : List (Nat × Value)), m_vOk σ.length u.2 := fun a b u hu => by
    simp only [List.mem_cons, List.not_mem_nil, or_false] at hu
    rcases hu with rfl | rfl | rfl | rfl
    · exact vx4 _
    · trivial
    · trivial
    · trivial
  refine mV_iload_n hC js_lix_0 rfl ?_
  refine mV_callS hY hC (as := [.int x]) (st := []) js_lix_1 (k_can (d := d)) (a_in (k := 3) (i := 233) rfl rfl) (a_in (k := 3) (i := 234) rfl rfl) sw_iniL (a_in (k := 3) (i := 235) rfl rfl) (by decide) py_can m_rm_ok (by decide) (Nat.zero_le _) (Nat.zero_le _) (Nat.zero_le _) (Nat.le_refl _) (fun v hv => by cases hv) (hls 0 7) (fun r σ' hQ => ?_)
  obtain ⟨rfl, rfl⟩ := hQ
  refine mV_if_ne hC js_lix_4 (tgt := 9) rfl (fun h => ?_) (fun h => ?_)
  · have hx : 0 ≤ x ∧ x ≤ 255 := by
      by_cases z : 0 ≤ x ∧ x ≤ 255
      · exact z
      · rw [if_neg z] at h; exact absurd rfl h
    have hfr : 1 ≤ (m_rm (d + 1) 0 0).frames ∧ 40 ≤ (m_rm (d + 1) 0 0).locals := ⟨Nat.le_add_left _ _, by show 40 ≤ 40 * (d + 1); omega⟩
    refine mV_iload_n hC js_lix_9 rfl ?_
    refine mV_iconst hC js_lix_10 ?_
    refine mV_mmax hC js_lix_11 (a_in (k := 3) (i := 236) rfl rfl) hfr (Nat.zero_le _) (Nat.zero_le _) (Nat.zero_le _) ?_
    refine mV_istore_n hC js_lix_14 (by decide) ?_
    refine mV_iload_n hC js_lix_15 rfl ?_
    refine mV_aload_n hC js_lix_16 rfl ?_
    refine mV_slen hC hS.2.2.2.2.1 (x := 7) rfl js_lix_17 ?_
    refine mV_mmin hC js_lix_18 (a_in (k := 3) (i := 239) rfl rfl) hfr (Nat.zero_le _) (Nat.zero_le _) (Nat.zero_le _) ?_
    refine mV_istore_n hC js_lix_21 (by decide) ?_
    refine mV_iload_n hC js_lix_22 rfl ?_
    refine mV_iload_n hC js_lix_23 rfl ?_
    refine mV_icmp_lt hC js_lix_24 (tgt := 29) rfl (fun h2 => ?_) (fun h2 => absurd (by decide) h2)
    refine mV_aload_n hC js_lix_29 rfl ?_
    refine mV_iload_n hC js_lix_30 rfl ?_
    refine mV_iload_n hC js_lix_31 rfl ?_
    refine mV_iload_n hC js_lix_32 rfl ?_
    refine mV_callS hY hC (as := [.ref (m_X0 + 4), .int x, .int 0, .int 7]) (st := []) js_lix_33 (k_ioc hYS (d := d)) (a_in (k := 4) (i := 2) rfl rfl) (a_in (k := 4) (i := 3) rfl rfl) sw_iniL (a_in (k := 4) (i := 4) rfl rfl) (by decide) py_ioc m_rm_ok (by decide) (Nat.zero_le _) (Nat.zero_le _) (Nat.zero_le _) (Nat.le_refl _) (fun v hv => by cases hv) (fun u hu => by
      have hu : u ∈ ([(3, .int 7), (2, .int 0), (0, .ref (m_X0 + 4)), (1, .int x)] : List (Nat × Value)) := hu
      simp only [List.mem_cons, List.not_mem_nil, or_false] at hu
      rcases hu with rfl | rfl | rfl | rfl
      · trivial
      · trivial
      · exact vx4 _
      · trivial) (fun r σ' hQ => ?_)
    obtain ⟨rfl, rfl⟩ := hQ
    refine mV_iret hC js_lix_36 hrt rfl ⟨?_, rfl⟩ (Nat.le_refl _) (Nat.le_refl _)
    unfold ix_at
    rw [if_pos hx]
  · have hx : ¬ (0 ≤ x ∧ x ≤ 255) := fun z => by rw [if_pos z] at h; exact absurd h (by decide)
    refine mV_iconst hC js_lix_7 ?_
    refine mV_iret hC js_lix_8 hrt rfl ⟨?_, rfl⟩ (Nat.le_refl _) (Nat.le_refl _)
    unfold ix_at
    rw [if_neg hx]; rfl
theorem k_ix2 (hY : m_Yok Y) (hYS : ∀ A U H, Y A U H → y_str xa A U H) {d : Nat} {σ : m_H} {x : Int32} : v_K l X Y xa (d + 2) sy_ix2 prog_25_method_80_code 3 (some .int) σ [.ref (m_X0 + 2), .int x, .int 0] (fun r σ' => r = some (.int (ix_at x)) ∧ σ' = σ) 0 0 := by
  refine v_K_of (by decide +kernel) (Nat.le_of_ble_eq_true rfl) (fun p e s m args below meth c dC dI aC ad sz hC hn hrt => ?_)
  have hS := hYS _ _ _ hC.2.2.2.2.2.2.2.1.2.2.2.2
  have hls : ∀ u ∈ ([(0, .ref (m_X0 + 2)), (1, .int x), (2, .int 0)] : List (Nat × Value)), m_vOk σ.length u.2 := fun u hu => by
    simp only [List.mem_cons, List.not_mem_nil, or_false] at hu
    rcases hu with rfl | rfl | rfl
    · exact vx2 _
    · trivial
    · trivial
  refine mV_aload_n hC js_ix2_0 rfl ?_
  refine mV_sV0 hY hC (y := sy_lat) rfl hS.2.1 js_ix2_1 (k_lat hYS (d := d + 1)) (a_in (k := 3) (i := 216) rfl rfl) (a_in (k := 3) (i := 217) rfl rfl) (a_in (k := 3) (i := 218) rfl rfl) (a_in (k := 3) (i := 219) rfl rfl) (by decide) (by decide) m_rm_ok (Nat.zero_le _) (Nat.zero_le _) (Nat.zero_le _) (Nat.le_refl _) (fun v hv => by cases hv) hls (fun r σ' hQ => ?_)
  obtain ⟨rfl, rfl⟩ := hQ
  refine mV_if_eq hC js_ix2_4 (tgt := 23) rfl (fun h => absurd h (by decide)) (fun _ => ?_)
  refine mV_aload_n hC js_ix2_7 rfl ?_
  refine mV_sgf hC hS.2.2.2.1 (v := .ref (m_X0 + 4)) (fun ad h => congrArg Value.ref (h 4)) js_ix2_8 (a_in (k := 9) (i := 19) rfl rfl) ?_
  refine mV_iload_n hC js_ix2_11 rfl ?_
  refine mV_iload_n hC js_ix2_12 rfl ?_
  refine mV_aload_n hC js_ix2_13 rfl ?_
  refine mV_sV0 hY hC (y := sy_len) rfl hS.2.1 js_ix2_14 (k_len hY hYS (d := d)) (a_in (k := 3) (i := 222) rfl rfl) (a_in (k := 3) (i := 223) rfl rfl) (a_in (k := 3) (i := 224) rfl rfl) (a_in (k := 3) (i := 225) rfl rfl) (by decide) (by decide) m_rm_ok (Nat.zero_le _) (Nat.zero_le _) (Nat.le_of_ble_eq_true rfl) (Nat.le_refl _) (fun v hv => by
      have hv : v ∈ ([.int 0, .int x, .ref (m_X0 + 4)] : List Value) := hv
      simp only [List.mem_cons, List.not_mem_nil, or_false] at hv
      rcases hv with rfl | rfl | rfl
      · trivial
      · trivial
      · exact vx4 _) hls (fun r σ' hQ => ?_)
  obtain ⟨rfl, rfl⟩ := hQ
  refine mV_callS hY hC (as := [.ref (m_X0 + 4), .int x, .int 0, .int 7]) (st := []) js_ix2_17 (k_lix hY hYS (d := d)) (a_in (k := 3) (i := 230) rfl rfl) (a_in (k := 3) (i := 231) rfl rfl) sw_iniL (a_in (k := 3) (i := 232) rfl rfl) (by decide) py_lix m_rm_ok (by decide) (Nat.zero_le _) (Nat.zero_le _) (Nat.zero_le _) (Nat.le_refl _) (fun v hv => by cases hv) hls (fun r σ' hQ => ?_)
  obtain ⟨rfl, rfl⟩ := hQ
  refine mV_goto hC js_ix2_20 (tgt := 36) rfl ?_
  exact mV_iret hC js_ix2_36 hrt rfl ⟨rfl, rfl⟩ (Nat.le_refl _) (Nat.le_refl _)
theorem ix_f_rng (x : Int32) : ∀ (n i : Nat), n + i = 7 → -1 ≤ (ix_f x n i).toInt ∧ (ix_f x n i).toInt ≤ 6
  | 0, i, h => by
    show -1 ≤ (-1 : Int32).toInt ∧ (-1 : Int32).toInt ≤ 6
    decide
  | n + 1, i, h => by
    show -1 ≤ (if ix_b.getD i 0 = x then Int32.ofNat i else ix_f x n (i + 1)).toInt ∧ (if ix_b.getD i 0 = x then Int32.ofNat i else ix_f x n (i + 1)).toInt ≤ 6
    by_cases hc : ix_b.getD i 0 = x
    · rw [if_pos hc]
      exact i7_e i (by omega)
    · rw [if_neg hc]
      exact ix_f_rng x n (i + 1) (by omega)
theorem ix_at_rng (x : Int32) : -1 ≤ (ix_at x).toInt ∧ (ix_at x).toInt ≤ 6 := by
  unfold ix_at
  by_cases hc : 0 ≤ x ∧ x ≤ 255
  · rw [if_pos hc]; exact ix_f_rng _ 7 0 rfl
  · rw [if_neg hc]; decide
theorem ix_all : ∀ k : Nat, k < 256 → (ix_f (Int32.ofNat k).toInt8.toInt32 7 0).toInt = z_idx (k : Int) := by decide +kernel
theorem ix_at_z (x : Int32) : (ix_at x).toInt = z_idx x.toInt := by
  unfold ix_at z_idx
  by_cases hc : 0 ≤ x ∧ x ≤ 255
  · rw [if_pos hc]
    have h0 := Int32.le_iff_toInt_le.mp hc.1
    have h1 := Int32.le_iff_toInt_le.mp hc.2
    have e0 : (0 : Int32).toInt = 0 := rfl
    have e1 : (255 : Int32).toInt = 255 := rfl
    have hk : x.toInt.toNat < 256 := by omega
    have hx : Int32.ofNat x.toInt.toNat = x := Int32.toInt_inj.mp (by rw [Int32.toInt_ofNat_of_lt (by omega)]; omega)
    have h := ix_all x.toInt.toNat hk
    rw [hx] at h
    rw [h]
    have hz : ((x.toInt.toNat : Nat) : Int) = x.toInt := by omega
    rw [hz]; rfl
  · rw [if_neg hc]
    have h0 := Int32.le_iff_toInt_le (x := 0) (y := x)
    have h1 := Int32.le_iff_toInt_le (x := x) (y := 255)
    have e0 : (0 : Int32).toInt = 0 := rfl
    have e1 : (255 : Int32).toInt = 255 := rfl
    have hn : ¬ (0 ≤ x.toInt ∧ x.toInt ≤ 255) := fun z => hc ⟨h0.mpr (by omega), h1.mpr (by omega)⟩
    rw [if_neg (by omega), if_neg (by omega), if_neg (by omega), if_neg (by omega), if_neg (by omega), if_neg (by omega), if_neg (by omega)]; rfl
theorem k_ix1 (hY : m_Yok Y) (hYS : ∀ A U H, Y A U H → y_str xa A U H) {d : Nat} {σ : m_H} {x : Int32} : v_K l X Y xa (d + 3) ix_y prog_25_method_79_code 2 (some .int) σ [.ref (m_X0 + 2), .int x] (fun r σ' => r = some (.int (ix_at x)) ∧ σ' = σ) 0 0 := by
  refine v_K_of (by decide +kernel) (Nat.le_of_ble_eq_true rfl) (fun p e s m args below meth c dC dI aC ad sz hC hn hrt => ?_)
  have hS := hYS _ _ _ hC.2.2.2.2.2.2.2.1.2.2.2.2
  refine mV_aload_n hC js_ix1_0 rfl ?_
  refine mV_iload_n hC js_ix1_1 rfl ?_
  refine mV_iconst hC js_ix1_2 ?_
  refine mV_sV2 hY hC (y := sy_ix2) (x := x) (x2 := 0) (st := []) rfl hS.2.1 js_ix1_3 (k_ix2 hY hYS (d := d)) (a_in (k := 3) (i := 212) rfl rfl) (a_in (k := 3) (i := 213) rfl rfl) (a_in (k := 3) (i := 214) rfl rfl) (a_in (k := 3) (i := 215) rfl rfl) (by decide) (by decide) m_rm_ok (Nat.zero_le _) (Nat.zero_le _) (Nat.zero_le _) (Nat.le_refl _) (fun v hv => by cases hv) (fun u hu => by
    simp only [lv_args, List.mem_cons, List.not_mem_nil, or_false] at hu
    rcases hu with rfl | rfl
    · exact vx2 _
    · trivial) (fun r σ' hQ => ?_)
  obtain ⟨rfl, rfl⟩ := hQ
  exact mV_iret hC js_ix1_6 hrt rfl ⟨rfl, rfl⟩ (Nat.le_refl _) (Nat.le_refl _)
theorem ix_K_ok (hY : m_Yok Y) (hYS : ∀ A U H, Y A U H → y_str xa A U H) : ix_K l X Y xa := by
  intro d σ x hd
  obtain ⟨d', rfl⟩ : ∃ d', d = d' + 3 := ⟨d - 3, by omega⟩
  exact (k_ix1 hY hYS).mono (fun r σ' hQ => ⟨hQ.2, _, hQ.1, ix_at_z x⟩)
end SK
