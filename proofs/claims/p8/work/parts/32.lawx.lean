/-! THE LAW'S room, person, row -/
/-- what the law's own method tells of the class's call: thrown, or put aside and told -/
noncomputable def l_O (y k : Nat) (cv : List Value) (σ : m_H) (r : Option Value) (σ' : m_H) : Prop := (r = some (.int (Int32.ofInt 1)) ∧ z_Ev y (z_m σ, 0, z_fr y (z_s cv), []) (z_m σ', some (9, 0))) ∨ (r = some (.int (Int32.ofInt 0)) ∧ ∃ (m1 : z_M) (u : Int), z_Ev y (z_m σ, 0, z_fr y (z_s cv), []) (m1, some (k, u)) ∧ z_m σ' = z_up m1 278 0 u)
noncomputable def c_semH (l : Launch) (X : Nat → Option (List Int32)) (Y : (Nat → Prop) → State → Heap → Prop) (xa : Nat → Nat) (d : Nat) (C : A_C) (y : MethodName) (b : ByteArray) (n : Nat) (r : Option FieldType) (hh : List (Nat × Nat × Nat × Nat)) (yk kk tk : Nat) : Prop := match C with
  | (_, E0, args, ov0, mc, tau, dep, alts, _, _) => ∀ (ρ0 : List Int) (M z dz : Int) (σ : m_H) (vs : List Value), e_ok M E0 ρ0 → 0 ≤ M → h_ok M σ → l_ev ρ0 tau = some z → 0 ≤ z → M + z ≤ 1073741824 → l_ev ρ0 dep = some dz → dz ≤ (d : Int) → o_ok ρ0 ov0 σ → s_ok ρ0 args vs → (∀ v ∈ vs, m_vOk h_N v) →
    m_KH l X Y xa d y b n r hh σ vs (fun r1 σ1 => c_post alts mc (M + z) ρ0 σ r1 σ1 ∧ l_O yk kk (vs.take tk) σ r1 σ1) 1 6
theorem px_2 : (parseMethodDescriptor "(II)I").map (fun d => d.parameters.length) = some 2 := by decide +kernel
theorem px_1 : (parseMethodDescriptor "(I)J").map (fun d => d.parameters.length) = some 1 := by decide +kernel
theorem x_own13 : Cond.classLink "LetByTheDegreeLaw" 13 xN ∈ a_tb := a_in (k := 6) (i := 44) rfl rfl
theorem x_278 {B : Int} {σ : m_H} (hh : h_ok B σ) : ∃ vs, σ[278]? = some (.inl 4, vs) ∧ vs.length = 1 := by
  obtain ⟨vs, h1, h2, -⟩ := h_cell hh (p := 278) (by decide)
  rw [show h_kd 278 = .inl 4 by decide +kernel] at h1
  rw [show h_ln 278 = 1 by decide +kernel] at h2
  exact ⟨vs, h1, h2⟩
theorem x_set278 {B : Int} {σ : m_H} {vs : List Value} (hh : h_ok B σ) (h : σ[278]? = some (.inl 4, vs)) (x : Int64) : h_ok B (σ.set 278 (.inl 4, vs.set 0 (.long x))) := by
  rw [← show h_kd 278 = .inl 4 by decide +kernel] at h ⊢
  refine h_set hh h ?_ trivial
  rw [show h_ty 278 0 = (2, 0, 0) by decide +kernel]
  exact ⟨x, rfl⟩
theorem x_0 {B : Int} {σ : m_H} (hh : h_ok B σ) : ∃ vs, σ[0]? = some (.inr 12, vs) := by
  obtain ⟨vs, h1, h2, -⟩ := h_cell hh (p := 0) (by decide)
  rw [show h_kd 0 = .inr 12 by decide +kernel] at h1
  exact ⟨vs, h1⟩
section LX
variable {p : Program} {l : Launch} {e : Env} {R : Room} {s : State} {m : MethodId} {args : Array Value} {below : List Frame} {meth : Method} {c : Code} {dC : Nat → ClassId} {dI : Nat → Nat → Nat} {aC : Nat → ClassId} {A : Nat → Prop} {n0 : Nat} {ad0 xa : Nat → Nat} {nL : Nat} {cc : ByteArray} {X : Nat → Option (List Int32)} {Y : (Nat → Prop) → State → Heap → Prop} {QQ : State → Prop}
/-- caught: the exception is put aside, 1 is answered -/
theorem x_catch (hC : m_Ctx p s m args meth c cc nL "LetByTheDegreeLaw" dC dI aC A xa X (yY xa)) {H : Heap} {locs : List Loc} {lsC : Array Slot} {q : Addr} {cell : Cell} {rest : List Value} {ce sl pc to h : Nat}
    (htab : c.exceptionTable.toList = tableOf [(0, to, h, 13)]) (hpc : pc < to) (hcell : H[q]? = some cell) (hv : cell.vm = .none) (hcl : s.vm.findClass xN = some cell.cls)
    (kk : W p l e R s m args below meth c H locs ce sl QQ (F0 m h lsC [.ref q])) : vx_W p l e R s m args below meth c H locs ce sl QQ (F0 m pc lsC rest) q := by
  refine vx_catch (own := "LetByTheDegreeLaw") (name := xN) (E := xN) hC.2.2.2.1 [] ⟨0, to, h, 13⟩ [] (by rw [htab]; rfl) (fun z hz => by cases hz) ?_ (show (13 : Nat) ≠ 0 by decide) (m_ctb hC x_own13) (va_Nw.use rfl hC.2.2.2.2.2.2.2.1.2.2.2.2.2.2.2.2.2.1) hcell hv hcl kk
  unfold covers
  simp [hpc]
end LX
def yl_room : MethodName := ⟨"LetByTheDegreeLaw", "room", "(LLetByTheDegree;II[J)I"⟩
theorem jl_room_0 : decode method_3_code 0 = .ok (.aload_n 3, 1) := by decide +kernel
theorem jl_room_1 : decode method_3_code 1 = .ok (.iconst (0), 1) := by decide +kernel
theorem jl_room_2 : decode method_3_code 2 = .ok (.aload_n 0, 1) := by decide +kernel
theorem jl_room_3 : decode method_3_code 3 = .ok (.iload_n 1, 1) := by decide +kernel
theorem jl_room_4 : decode method_3_code 4 = .ok (.iload_n 2, 1) := by decide +kernel
theorem jl_room_5 : decode method_3_code 5 = .ok (.invokevirtual 7, 3) := by decide +kernel
theorem jl_room_8 : decode method_3_code 8 = .ok (.i2l, 1) := by decide +kernel
theorem jl_room_9 : decode method_3_code 9 = .ok (.lastore, 1) := by decide +kernel
theorem jl_room_10 : decode method_3_code 10 = .ok (.goto (7), 3) := by decide +kernel
theorem jl_room_13 : decode method_3_code 13 = .ok (.astore 4, 2) := by decide +kernel
theorem jl_room_15 : decode method_3_code 15 = .ok (.iconst (1), 1) := by decide +kernel
theorem jl_room_16 : decode method_3_code 16 = .ok (.ireturn, 1) := by decide +kernel
theorem jl_room_17 : decode method_3_code 17 = .ok (.iconst (0), 1) := by decide +kernel
theorem jl_room_18 : decode method_3_code 18 = .ok (.ireturn, 1) := by decide +kernel
def cl_room : A_C := (0, [iR, iR], [(2, 0, 0), (1, 0, 0), (1, 1, 0), (2, 278, 0)], [], [(6, 0, 39), (7, 0, 6), (278, 0, 0)], (0, []), (7, []), [([iR, iR], [], some (0, 0, 0), []), ([iR, iR], [], some (0, 0, 1), [])], [], (0, []))
theorem cl_room_sem {l : Launch} {X : Nat → Option (List Int32)} {xa : Nat → Nat} {d : Nat} (hd : 6 ≤ d) (h : c_semX l X (yY xa) xa d cx_room) : c_semH l X (yY xa) xa (d + 1) cl_room yl_room method_3_code 5 (some .int) [(0, 10, 13, 13)] 155 0 3 := by
  intro ρ0 M z dz σ vs he hM hh htau hz hMz hdep hdz ho ha hv
  have hzz : (0 : Int) + 0 = z := Option.some.inj htau
  obtain rfl : z = 0 := by omega
  clear hzz
  cases vs with
  | nil => exact absurd ha id
  | cons v1 t1 =>
  obtain ⟨hv1, ha⟩ := ha
  have hv1 : v1 = .ref 0 := hv1
  subst hv1
  cases t1 with
  | nil => exact absurd ha id
  | cons v2 t2 =>
  obtain ⟨hv2, ha⟩ := ha
  obtain ⟨x, rx, rfl, hrx, hxx⟩ := v_var hv2
  cases t2 with
  | nil => exact absurd ha id
  | cons v3 t2 =>
  obtain ⟨hv3, ha⟩ := ha
  obtain ⟨w, rw0, rfl, hrw, hww⟩ := v_var hv3
  cases t2 with
  | nil => exact absurd ha id
  | cons v4 t4 =>
  obtain ⟨hv4, ha⟩ := ha
  have hv4 : v4 = .ref 278 := hv4
  subst hv4
  cases t4 with
  | cons v5 t5 => exact absurd ha id
  | nil =>
  have hσl : σ.length = h_N := hh.1
  have hN : (0 : Nat) < h_N ∧ 278 < h_N := by decide
  obtain ⟨fs, hσ0⟩ := x_0 hh
  have hK0 := h _ rfl ρ0 M 0 5 σ [.ref 0, .int x, .int w] he hM hh rfl (by decide) (by omega) rfl (by omega) (fun q hq => by cases hq) ⟨rfl, hv2, hv3, trivial⟩ (fun v hv => by
    simp only [List.mem_cons, List.not_mem_nil, or_false] at hv
    rcases hv with rfl | rfl | rfl
    · exact vok_ref hN.1
    · trivial
    · trivial)
  have hK := hK0 (z_of_h hh)
  have hls : ∀ u ∈ ([(0, .ref 0), (1, .int x), (2, .int w), (3, .ref 278)] : List (Nat × Value)), m_vOk σ.length u.2 := fun u hu => by
    rw [hσl]
    simp only [List.mem_cons, List.not_mem_nil, or_false] at hu
    rcases hu with rfl | rfl | rfl | rfl
    · exact vok_ref hN.1
    · trivial
    · trivial
    · exact vok_ref hN.2
  refine m_KH_of (by decide) (Nat.le_of_ble_eq_true rfl) (fun p e s m args below meth c dC dI aC ad sz hC hrt htab => ?_)
  refine mV_aload_n hC jl_room_0 rfl ?_
  refine mV_iconst hC jl_room_1 ?_
  refine mV_aload_n hC jl_room_2 rfl ?_
  refine mV_iload_n hC jl_room_3 rfl ?_
  refine mV_iload_n hC jl_room_4 rfl ?_
  refine mV_callVX (yY_ok xa) hC (as := [.int x, .int w]) (st := [.int 0, .ref 278]) (r0 := _) (q := 0) jl_room_5 hK hσ0 (ci := 12) rfl rfl (a_in (k := 6) (i := 45) rfl rfl) (a_in (k := 6) (i := 46) rfl rfl) (a_in (k := 6) (i := 47) rfl rfl) (a_in (k := 1) (i := 1) rfl rfl) (a_in (k := 6) (i := 48) rfl rfl) (by decide) px_2 ⟨Nat.le_refl _, Nat.le_refl _⟩ (by decide) (Nat.le_refl _) (Nat.le_refl _) (by decide) (Nat.le_refl _) (fun v hv => by
    rw [hσl]
    simp only [List.mem_cons, List.not_mem_nil, or_false] at hv
    rcases hv with rfl | rfl
    · trivial
    · exact vok_ref hN.2) hls (fun r σ' hQ => ?_) (fun σ' ad' H' locs' lsC q cell rest hQ b1 b2 b3 b4 b5 b6 b7 b8 b9 => ?_)
  · obtain ⟨hQ, -, hEv⟩ := hQ
    obtain ⟨q, hq, ρ', c1, c2, c3, c4, c5, c6, c7⟩ := hQ
    obtain rfl := List.mem_singleton.mp hq
    cases r with
    | none => exact absurd c4 id
    | some v =>
      obtain ⟨y, ry, rfl, hry, hyy⟩ := v_var (show v_ok ρ' (1, 2, 0) v from c4)
      obtain ⟨os, g1, g2⟩ := x_278 c5
      have eO : z_m (σ'.set 278 (.inl 4, os.set 0 (.long y.toInt64))) = z_up (z_m σ') 278 0 y.toInt := by
        rw [z_m_set g1 (by rw [g2]; decide)]
        show z_up (z_m σ') 278 0 y.toInt64.toInt = _
        rw [Int32.toInt_toInt64]
      refine mV_i2l hC jl_room_8 ?_
      refine mV_lastore hC jl_room_9 g1 (i := 0) (by rw [g2]; exact vp_in_iff.mpr ⟨by decide, by decide⟩) ?_
      refine mV_goto hC jl_room_10 (tgt := 17) rfl ?_
      refine mV_iconst hC jl_room_17 ?_
      refine mV_iret hC jl_room_18 hrt rfl ⟨⟨_, List.mem_cons_self, ρ0, r_ext.rf, by rw [Int.add_zero]; exact he, (fun q hq => by cases hq), ⟨0, rfl, rfl⟩, x_set278 c5 g1 y.toInt64, (fun q hq => by cases hq), ?_⟩, Or.inr ⟨rfl, _, _, hEv, eO⟩⟩ (Nat.le_refl _) (Nat.le_refl _)
      refine h_fr_set ?_ g1 ⟨(278, 0, 0), by decide, rfl, Nat.le_refl _, Nat.le_refl _⟩
      exact fun p k hn => c7 p k (fun z => hn (by obtain ⟨u, u1, u2⟩ := z; exact ⟨u, (by rcases List.mem_cons.mp u1 with rfl | u1; exact List.mem_cons_self; rcases List.mem_cons.mp u1 with rfl | u1; exact List.mem_cons_of_mem _ List.mem_cons_self; cases u1), u2⟩))
  · obtain ⟨hQ, -, hEv⟩ := hQ
    refine x_catch hC htab (by decide) b7 b8 b9 ?_
    refine lv_astore hC.1 hC.2.1 jl_room_13 b6 (by decide) rfl (fun ls' hl' => ?_)
    have k2 : mV p l e (m_rm (d + 1) 1 6) s m args below meth c (MQ below (m_Qc dC dI aC xa ad sz σ (fun r1 σ1 => c_post [([iR, iR], [], some (0, 0, 0), []), ([iR, iR], [], some (0, 0, 1), [])] [(6, 0, 39), (7, 0, 6), (278, 0, 0)] (M + 0) ρ0 σ r1 σ1 ∧ l_O 155 0 [.ref 0, .int x, .int w] σ r1 σ1)) args s 1 6 (va_A (m_W ad aC σ) sz)) dC dI aC (va_A (m_W ad aC σ) sz) σ.length ad xa 5 (σ', 0 + 1, 0 + 6, 15, [], []) := by
      refine mV_iconst hC jl_room_15 ?_
      refine mV_iret hC jl_room_16 hrt rfl ⟨⟨_, List.mem_cons_of_mem _ List.mem_cons_self, ρ0, r_ext.rf, by rw [Int.add_zero]; exact he, (fun q hq => by cases hq), ⟨1, rfl, rfl⟩, hQ.1, (fun q hq => by cases hq), ?_⟩, Or.inl ⟨rfl, hEv⟩⟩ (Nat.le_refl _) (Nat.le_refl _)
      exact fun p k hn => hQ.2 p k (fun z => hn (by obtain ⟨u, u1, u2⟩ := z; exact ⟨u, (by rcases List.mem_cons.mp u1 with rfl | u1; exact List.mem_cons_self; rcases List.mem_cons.mp u1 with rfl | u1; exact List.mem_cons_of_mem _ List.mem_cons_self; cases u1), u2⟩))
    exact k2 ad' H' locs' ls' b1 b2 b3 b4 b5 ⟨hl'.1, hl'.2.1, fun q hq => by cases hq⟩
def yl_person : MethodName := ⟨"LetByTheDegreeLaw", "person", "(LLetByTheDegree;II[J)I"⟩
theorem jl_person_0 : decode method_4_code 0 = .ok (.aload_n 3, 1) := by decide +kernel
theorem jl_person_1 : decode method_4_code 1 = .ok (.iconst (0), 1) := by decide +kernel
theorem jl_person_2 : decode method_4_code 2 = .ok (.aload_n 0, 1) := by decide +kernel
theorem jl_person_3 : decode method_4_code 3 = .ok (.iload_n 1, 1) := by decide +kernel
theorem jl_person_4 : decode method_4_code 4 = .ok (.iload_n 2, 1) := by decide +kernel
theorem jl_person_5 : decode method_4_code 5 = .ok (.invokevirtual 15, 3) := by decide +kernel
theorem jl_person_8 : decode method_4_code 8 = .ok (.i2l, 1) := by decide +kernel
theorem jl_person_9 : decode method_4_code 9 = .ok (.lastore, 1) := by decide +kernel
theorem jl_person_10 : decode method_4_code 10 = .ok (.goto (7), 3) := by decide +kernel
theorem jl_person_13 : decode method_4_code 13 = .ok (.astore 4, 2) := by decide +kernel
theorem jl_person_15 : decode method_4_code 15 = .ok (.iconst (1), 1) := by decide +kernel
theorem jl_person_16 : decode method_4_code 16 = .ok (.ireturn, 1) := by decide +kernel
theorem jl_person_17 : decode method_4_code 17 = .ok (.iconst (0), 1) := by decide +kernel
theorem jl_person_18 : decode method_4_code 18 = .ok (.ireturn, 1) := by decide +kernel
def cl_person : A_C := (0, [iR, iR], [(2, 0, 0), (1, 0, 0), (1, 1, 0), (2, 278, 0)], [], [(278, 0, 0)], (0, []), (7, []), [([iR, iR], [], some (0, 0, 0), []), ([iR, iR], [], some (0, 0, 1), [])], [], (0, []))
theorem cl_person_sem {l : Launch} {X : Nat → Option (List Int32)} {xa : Nat → Nat} {d : Nat} (hd : 6 ≤ d) (h : c_semX l X (yY xa) xa d cx_person) : c_semH l X (yY xa) xa (d + 1) cl_person yl_person method_4_code 5 (some .int) [(0, 10, 13, 13)] 156 0 3 := by
  intro ρ0 M z dz σ vs he hM hh htau hz hMz hdep hdz ho ha hv
  have hzz : (0 : Int) + 0 = z := Option.some.inj htau
  obtain rfl : z = 0 := by omega
  clear hzz
  cases vs with
  | nil => exact absurd ha id
  | cons v1 t1 =>
  obtain ⟨hv1, ha⟩ := ha
  have hv1 : v1 = .ref 0 := hv1
  subst hv1
  cases t1 with
  | nil => exact absurd ha id
  | cons v2 t2 =>
  obtain ⟨hv2, ha⟩ := ha
  obtain ⟨x, rx, rfl, hrx, hxx⟩ := v_var hv2
  cases t2 with
  | nil => exact absurd ha id
  | cons v3 t2 =>
  obtain ⟨hv3, ha⟩ := ha
  obtain ⟨w, rw0, rfl, hrw, hww⟩ := v_var hv3
  cases t2 with
  | nil => exact absurd ha id
  | cons v4 t4 =>
  obtain ⟨hv4, ha⟩ := ha
  have hv4 : v4 = .ref 278 := hv4
  subst hv4
  cases t4 with
  | cons v5 t5 => exact absurd ha id
  | nil =>
  have hσl : σ.length = h_N := hh.1
  have hN : (0 : Nat) < h_N ∧ 278 < h_N := by decide
  obtain ⟨fs, hσ0⟩ := x_0 hh
  have hK0 := h _ rfl ρ0 M 0 5 σ [.ref 0, .int x, .int w] he hM hh rfl (by decide) (by omega) rfl (by omega) (fun q hq => by cases hq) ⟨rfl, hv2, hv3, trivial⟩ (fun v hv => by
    simp only [List.mem_cons, List.not_mem_nil, or_false] at hv
    rcases hv with rfl | rfl | rfl
    · exact vok_ref hN.1
    · trivial
    · trivial)
  have hK := hK0 (z_of_h hh)
  have hls : ∀ u ∈ ([(0, .ref 0), (1, .int x), (2, .int w), (3, .ref 278)] : List (Nat × Value)), m_vOk σ.length u.2 := fun u hu => by
    rw [hσl]
    simp only [List.mem_cons, List.not_mem_nil, or_false] at hu
    rcases hu with rfl | rfl | rfl | rfl
    · exact vok_ref hN.1
    · trivial
    · trivial
    · exact vok_ref hN.2
  refine m_KH_of (by decide) (Nat.le_of_ble_eq_true rfl) (fun p e s m args below meth c dC dI aC ad sz hC hrt htab => ?_)
  refine mV_aload_n hC jl_person_0 rfl ?_
  refine mV_iconst hC jl_person_1 ?_
  refine mV_aload_n hC jl_person_2 rfl ?_
  refine mV_iload_n hC jl_person_3 rfl ?_
  refine mV_iload_n hC jl_person_4 rfl ?_
  refine mV_callVX (yY_ok xa) hC (as := [.int x, .int w]) (st := [.int 0, .ref 278]) (r0 := _) (q := 0) jl_person_5 hK hσ0 (ci := 12) rfl rfl (a_in (k := 6) (i := 118) rfl rfl) (a_in (k := 6) (i := 119) rfl rfl) (a_in (k := 6) (i := 120) rfl rfl) (a_in (k := 1) (i := 1) rfl rfl) (a_in (k := 6) (i := 121) rfl rfl) (by decide) px_2 ⟨Nat.le_refl _, Nat.le_refl _⟩ (by decide) (Nat.le_refl _) (Nat.le_refl _) (by decide) (Nat.le_refl _) (fun v hv => by
    rw [hσl]
    simp only [List.mem_cons, List.not_mem_nil, or_false] at hv
    rcases hv with rfl | rfl
    · trivial
    · exact vok_ref hN.2) hls (fun r σ' hQ => ?_) (fun σ' ad' H' locs' lsC q cell rest hQ b1 b2 b3 b4 b5 b6 b7 b8 b9 => ?_)
  · obtain ⟨hQ, -, hEv⟩ := hQ
    obtain ⟨q, hq, ρ', c1, c2, c3, c4, c5, c6, c7⟩ := hQ
    obtain rfl := List.mem_singleton.mp hq
    cases r with
    | none => exact absurd c4 id
    | some v =>
      obtain ⟨y, ry, rfl, hry, hyy⟩ := v_var (show v_ok ρ' (1, 2, 0) v from c4)
      obtain ⟨os, g1, g2⟩ := x_278 c5
      have eO : z_m (σ'.set 278 (.inl 4, os.set 0 (.long y.toInt64))) = z_up (z_m σ') 278 0 y.toInt := by
        rw [z_m_set g1 (by rw [g2]; decide)]
        show z_up (z_m σ') 278 0 y.toInt64.toInt = _
        rw [Int32.toInt_toInt64]
      refine mV_i2l hC jl_person_8 ?_
      refine mV_lastore hC jl_person_9 g1 (i := 0) (by rw [g2]; exact vp_in_iff.mpr ⟨by decide, by decide⟩) ?_
      refine mV_goto hC jl_person_10 (tgt := 17) rfl ?_
      refine mV_iconst hC jl_person_17 ?_
      refine mV_iret hC jl_person_18 hrt rfl ⟨⟨_, List.mem_cons_self, ρ0, r_ext.rf, by rw [Int.add_zero]; exact he, (fun q hq => by cases hq), ⟨0, rfl, rfl⟩, x_set278 c5 g1 y.toInt64, (fun q hq => by cases hq), ?_⟩, Or.inr ⟨rfl, _, _, hEv, eO⟩⟩ (Nat.le_refl _) (Nat.le_refl _)
      refine h_fr_set ?_ g1 ⟨(278, 0, 0), by decide, rfl, Nat.le_refl _, Nat.le_refl _⟩
      exact fun p k hn => c7 p k (fun z => hn (by obtain ⟨u, u1, u2⟩ := z; exact ⟨u, (by cases u1), u2⟩))
  · obtain ⟨hQ, -, hEv⟩ := hQ
    refine x_catch hC htab (by decide) b7 b8 b9 ?_
    refine lv_astore hC.1 hC.2.1 jl_person_13 b6 (by decide) rfl (fun ls' hl' => ?_)
    have k2 : mV p l e (m_rm (d + 1) 1 6) s m args below meth c (MQ below (m_Qc dC dI aC xa ad sz σ (fun r1 σ1 => c_post [([iR, iR], [], some (0, 0, 0), []), ([iR, iR], [], some (0, 0, 1), [])] [(278, 0, 0)] (M + 0) ρ0 σ r1 σ1 ∧ l_O 156 0 [.ref 0, .int x, .int w] σ r1 σ1)) args s 1 6 (va_A (m_W ad aC σ) sz)) dC dI aC (va_A (m_W ad aC σ) sz) σ.length ad xa 5 (σ', 0 + 1, 0 + 6, 15, [], []) := by
      refine mV_iconst hC jl_person_15 ?_
      refine mV_iret hC jl_person_16 hrt rfl ⟨⟨_, List.mem_cons_of_mem _ List.mem_cons_self, ρ0, r_ext.rf, by rw [Int.add_zero]; exact he, (fun q hq => by cases hq), ⟨1, rfl, rfl⟩, hQ.1, (fun q hq => by cases hq), ?_⟩, Or.inl ⟨rfl, hEv⟩⟩ (Nat.le_refl _) (Nat.le_refl _)
      exact fun p k hn => hQ.2 p k (fun z => hn (by obtain ⟨u, u1, u2⟩ := z; exact ⟨u, (by cases u1), u2⟩))
    exact k2 ad' H' locs' ls' b1 b2 b3 b4 b5 ⟨hl'.1, hl'.2.1, fun q hq => by cases hq⟩
def yl_row : MethodName := ⟨"LetByTheDegreeLaw", "row", "(LLetByTheDegree;I[J)I"⟩
theorem jl_row_0 : decode method_5_code 0 = .ok (.aload_n 2, 1) := by decide +kernel
theorem jl_row_1 : decode method_5_code 1 = .ok (.iconst (0), 1) := by decide +kernel
theorem jl_row_2 : decode method_5_code 2 = .ok (.aload_n 0, 1) := by decide +kernel
theorem jl_row_3 : decode method_5_code 3 = .ok (.iload_n 1, 1) := by decide +kernel
theorem jl_row_4 : decode method_5_code 4 = .ok (.invokevirtual 18, 3) := by decide +kernel
theorem jl_row_7 : decode method_5_code 7 = .ok (.lastore, 1) := by decide +kernel
theorem jl_row_8 : decode method_5_code 8 = .ok (.goto (6), 3) := by decide +kernel
theorem jl_row_11 : decode method_5_code 11 = .ok (.astore_n 3, 1) := by decide +kernel
theorem jl_row_12 : decode method_5_code 12 = .ok (.iconst (1), 1) := by decide +kernel
theorem jl_row_13 : decode method_5_code 13 = .ok (.ireturn, 1) := by decide +kernel
theorem jl_row_14 : decode method_5_code 14 = .ok (.iconst (0), 1) := by decide +kernel
theorem jl_row_15 : decode method_5_code 15 = .ok (.ireturn, 1) := by decide +kernel
def cl_row : A_C := (0, [iR], [(2, 0, 0), (1, 0, 0), (2, 278, 0)], [], [(278, 0, 0)], (0, []), (7, []), [([iR], [], some (0, 0, 0), []), ([iR], [], some (0, 0, 1), [])], [], (0, []))
theorem cl_row_sem {l : Launch} {X : Nat → Option (List Int32)} {xa : Nat → Nat} {d : Nat} (hd : 6 ≤ d) (h : c_semX l X (yY xa) xa d cx_row) : c_semH l X (yY xa) xa (d + 1) cl_row yl_row method_5_code 4 (some .int) [(0, 8, 11, 13)] 158 1 2 := by
  intro ρ0 M z dz σ vs he hM hh htau hz hMz hdep hdz ho ha hv
  have hzz : (0 : Int) + 0 = z := Option.some.inj htau
  obtain rfl : z = 0 := by omega
  clear hzz
  cases vs with
  | nil => exact absurd ha id
  | cons v1 t1 =>
  obtain ⟨hv1, ha⟩ := ha
  have hv1 : v1 = .ref 0 := hv1
  subst hv1
  cases t1 with
  | nil => exact absurd ha id
  | cons v2 t2 =>
  obtain ⟨hv2, ha⟩ := ha
  obtain ⟨x, rx, rfl, hrx, hxx⟩ := v_var hv2
  cases t2 with
  | nil => exact absurd ha id
  | cons v4 t4 =>
  obtain ⟨hv4, ha⟩ := ha
  have hv4 : v4 = .ref 278 := hv4
  subst hv4
  cases t4 with
  | cons v5 t5 => exact absurd ha id
  | nil =>
  have hσl : σ.length = h_N := hh.1
  have hN : (0 : Nat) < h_N ∧ 278 < h_N := by decide
  obtain ⟨fs, hσ0⟩ := x_0 hh
  have hK0 := h _ rfl ρ0 M 0 5 σ [.ref 0, .int x] he hM hh rfl (by decide) (by omega) rfl (by omega) (fun q hq => by cases hq) ⟨rfl, hv2, trivial⟩ (fun v hv => by
    simp only [List.mem_cons, List.not_mem_nil, or_false] at hv
    rcases hv with rfl | rfl
    · exact vok_ref hN.1
    · trivial)
  have hK := hK0 (z_of_h hh)
  have hls : ∀ u ∈ ([(0, .ref 0), (1, .int x), (2, .ref 278)] : List (Nat × Value)), m_vOk σ.length u.2 := fun u hu => by
    rw [hσl]
    simp only [List.mem_cons, List.not_mem_nil, or_false] at hu
    rcases hu with rfl | rfl | rfl
    · exact vok_ref hN.1
    · trivial
    · exact vok_ref hN.2
  refine m_KH_of (by decide) (Nat.le_of_ble_eq_true rfl) (fun p e s m args below meth c dC dI aC ad sz hC hrt htab => ?_)
  refine mV_aload_n hC jl_row_0 rfl ?_
  refine mV_iconst hC jl_row_1 ?_
  refine mV_aload_n hC jl_row_2 rfl ?_
  refine mV_iload_n hC jl_row_3 rfl ?_
  refine mV_callVX (yY_ok xa) hC (as := [.int x]) (st := [.int 0, .ref 278]) (r0 := _) (q := 0) jl_row_4 hK hσ0 (ci := 12) rfl rfl (a_in (k := 6) (i := 131) rfl rfl) (a_in (k := 6) (i := 132) rfl rfl) (a_in (k := 6) (i := 133) rfl rfl) (a_in (k := 1) (i := 1) rfl rfl) (a_in (k := 6) (i := 134) rfl rfl) (by decide) px_1 ⟨Nat.le_refl _, Nat.le_refl _⟩ (by decide) (Nat.le_refl _) (Nat.le_refl _) (by decide) (Nat.le_refl _) (fun v hv => by
    rw [hσl]
    simp only [List.mem_cons, List.not_mem_nil, or_false] at hv
    rcases hv with rfl | rfl
    · trivial
    · exact vok_ref hN.2) hls (fun r σ' hQ => ?_) (fun σ' ad' H' locs' lsC q cell rest hQ b1 b2 b3 b4 b5 b6 b7 b8 b9 => ?_)
  · obtain ⟨hQ, -, hEv⟩ := hQ
    obtain ⟨q, hq, ρ', c1, c2, c3, c4, c5, c6, c7⟩ := hQ
    obtain rfl := List.mem_singleton.mp hq
    cases r with
    | none => exact absurd c4 id
    | some v =>
      obtain ⟨y, ry, rfl, hry, hyy⟩ : ∃ (y : Int64) (r : Int), v = .long y ∧ ρ'[1]? = some r ∧ y.toInt = r + 0 := c4
      obtain ⟨os, g1, g2⟩ := x_278 c5
      have eO : z_m (σ'.set 278 (.inl 4, os.set 0 (.long y))) = z_up (z_m σ') 278 0 y.toInt := z_m_set g1 (by rw [g2]; decide)
      refine mV_lastore hC jl_row_7 g1 (i := 0) (by rw [g2]; exact vp_in_iff.mpr ⟨by decide, by decide⟩) ?_
      refine mV_goto hC jl_row_8 (tgt := 14) rfl ?_
      refine mV_iconst hC jl_row_14 ?_
      refine mV_iret hC jl_row_15 hrt rfl ⟨⟨_, List.mem_cons_self, ρ0, r_ext.rf, by rw [Int.add_zero]; exact he, (fun q hq => by cases hq), ⟨0, rfl, rfl⟩, x_set278 c5 g1 y, (fun q hq => by cases hq), ?_⟩, Or.inr ⟨rfl, _, _, hEv, eO⟩⟩ (Nat.le_refl _) (Nat.le_refl _)
      refine h_fr_set ?_ g1 ⟨(278, 0, 0), by decide, rfl, Nat.le_refl _, Nat.le_refl _⟩
      exact fun p k hn => c7 p k (fun z => hn (by obtain ⟨u, u1, u2⟩ := z; exact ⟨u, (by cases u1), u2⟩))
  · obtain ⟨hQ, -, hEv⟩ := hQ
    refine x_catch hC htab (by decide) b7 b8 b9 ?_
    refine lv_astore_n hC.1 hC.2.1 jl_row_11 rfl b6 (by decide) rfl (fun ls' hl' => ?_)
    have k2 : mV p l e (m_rm (d + 1) 1 6) s m args below meth c (MQ below (m_Qc dC dI aC xa ad sz σ (fun r1 σ1 => c_post [([iR], [], some (0, 0, 0), []), ([iR], [], some (0, 0, 1), [])] [(278, 0, 0)] (M + 0) ρ0 σ r1 σ1 ∧ l_O 158 1 [.ref 0, .int x] σ r1 σ1)) args s 1 6 (va_A (m_W ad aC σ) sz)) dC dI aC (va_A (m_W ad aC σ) sz) σ.length ad xa 4 (σ', 0 + 1, 0 + 6, 12, [], []) := by
      refine mV_iconst hC jl_row_12 ?_
      refine mV_iret hC jl_row_13 hrt rfl ⟨⟨_, List.mem_cons_of_mem _ List.mem_cons_self, ρ0, r_ext.rf, by rw [Int.add_zero]; exact he, (fun q hq => by cases hq), ⟨1, rfl, rfl⟩, hQ.1, (fun q hq => by cases hq), ?_⟩, Or.inl ⟨rfl, hEv⟩⟩ (Nat.le_refl _) (Nat.le_refl _)
      exact fun p k hn => hQ.2 p k (fun z => hn (by obtain ⟨u, u1, u2⟩ := z; exact ⟨u, (by cases u1), u2⟩))
    exact k2 ad' H' locs' ls' b1 b2 b3 b4 b5 ⟨hl'.1, hl'.2.1, fun q hq => by cases hq⟩
