/-! DECODING, quicker: the bytes as a list, by a short table of what stands most often -/
section DC
variable {α β : Type} {code : ByteArray} {p s : Nat}
theorem rb_ok {m : Jvm.ClassFile.Decoder α} {f : α → Jvm.ClassFile.Decoder β} {a : α} (h : m code p = .ok (a, s)) : (m >>= f) code p = f a code s := by
  have e : (m >>= f) code p = Except.bind (m code p) (fun q => f q.1 code q.2) := rfl
  rw [e, h]
  rfl
theorem rm_ok {m : Jvm.ClassFile.Decoder α} {g : α → β} {a : α} (h : m code p = .ok (a, s)) : (g <$> m) code p = .ok (g a, s) := by
  have e : (g <$> m) code p = Except.bind (m code p) (fun q => Except.ok (g q.1, q.2)) := rfl
  rw [e, h]
  rfl
theorem d_next {L l : List UInt8} {b : UInt8} (h : L.drop p = b :: l) : L.drop (p + 1) = l := by
  have e := congrArg (List.drop 1) h
  rw [List.drop_drop] at e
  exact e
theorem rd_u1 {b : UInt8} {l : List UInt8} (h : code.data.toList.drop p = b :: l) : (Jvm.ClassFile.Reader.u1 : Jvm.ClassFile.Decoder Nat) code p = .ok (b.toNat, p + 1) := by
  obtain ⟨bs⟩ := code
  have h0 : bs.toList.drop p = b :: l := h
  have h1 : bs.toList[p]? = some b := by
    have e := congrArg List.head? h0
    rw [List.head?_drop] at e
    exact e
  obtain ⟨hp, hb⟩ := List.getElem?_eq_some_iff.mp h1
  have hp' : p < (ByteArray.mk bs).size := hp
  have e : (Jvm.ClassFile.Reader.u1 : Jvm.ClassFile.Decoder Nat) (ByteArray.mk bs) p = (dite (p < (ByteArray.mk bs).size) (fun h => (do set (p + 1); Pure.pure ((ByteArray.mk bs)[p]'h).toNat : Jvm.ClassFile.Decoder Nat)) (fun _ => throw (Jvm.ClassFile.HasTruncated.truncated p)) : Jvm.ClassFile.Decoder Nat) (ByteArray.mk bs) p := rfl
  rw [e, dif_pos hp']
  subst hb
  rfl
theorem rd_s1 {b : UInt8} {l : List UInt8} (h : code.data.toList.drop p = b :: l) : (Jvm.ClassFile.Reader.s1 : Jvm.ClassFile.Decoder Int) code p = .ok (Jvm.ClassFile.Reader.signed 8 b.toNat, p + 1) := rm_ok (rd_u1 h)
theorem rd_u2 {a b : UInt8} {l : List UInt8} (h : code.data.toList.drop p = a :: b :: l) : (Jvm.ClassFile.Reader.u2 : Jvm.ClassFile.Decoder Nat) code p = .ok (a.toNat * 256 + b.toNat, p + 1 + 1) := by
  show ((Jvm.ClassFile.Reader.u1 : Jvm.ClassFile.Decoder Nat) >>= fun hi => (Jvm.ClassFile.Reader.u1 : Jvm.ClassFile.Decoder Nat) >>= fun lo => (Pure.pure (hi * 256 + lo) : Jvm.ClassFile.Decoder Nat)) code p = _
  rw [rb_ok (rd_u1 h), rb_ok (rd_u1 (d_next h))]
  rfl
theorem rd_s2 {a b : UInt8} {l : List UInt8} (h : code.data.toList.drop p = a :: b :: l) : (Jvm.ClassFile.Reader.s2 : Jvm.ClassFile.Decoder Int) code p = .ok (Jvm.ClassFile.Reader.signed 16 (a.toNat * 256 + b.toNat), p + 1 + 1) := rm_ok (rd_u2 h)
end DC
theorem dec_step {code : ByteArray} {pc op s : Nat} {K : Nat → Jvm.ClassFile.Decoder Jvm.ClassFile.Instr} (hK : Jvm.ClassFile.Decoder.instr pc = (Jvm.ClassFile.Reader.u1 : Jvm.ClassFile.Decoder Nat) >>= K) (h1 : (Jvm.ClassFile.Reader.u1 : Jvm.ClassFile.Decoder Nat) code pc = .ok (op, s)) {i : Jvm.ClassFile.Instr} {n : Nat} (h2 : K op code s = .ok (i, n)) : decode code pc = .ok (i, n - pc) := by
  have e : decode code pc = Except.bind (Jvm.ClassFile.Decoder.instr pc code pc) (fun q => Except.ok (q.1, q.2 - pc)) := rfl
  rw [e, hK, rb_ok h1, h2]
  rfl
/-- a row of the table is right: the first byte, what the others tell -/
abbrev d_F : Type := List UInt8 → Option (Jvm.ClassFile.Instr × Nat)
def d_snd (op : Nat) (f : d_F) : Prop := ∀ (code : ByteArray) (pc : Nat) (b : UInt8) (l : List UInt8) (r : Jvm.ClassFile.Instr × Nat), code.data.toList.drop pc = b :: l → b.toNat = op → f l = some r → decode code pc = .ok r
def d_f0 (i : Jvm.ClassFile.Instr) : d_F := fun _ => some (i, 1)
def d_f1 (mk : Nat → Jvm.ClassFile.Instr) : d_F
  | a :: _ => some (mk a.toNat, 2)
  | [] => none
def d_s1 (mk : Int → Jvm.ClassFile.Instr) : d_F
  | a :: _ => some (mk (Jvm.ClassFile.Reader.signed 8 a.toNat), 2)
  | [] => none
def d_f2 (mk : Nat → Jvm.ClassFile.Instr) : d_F
  | a :: b :: _ => some (mk (a.toNat * 256 + b.toNat), 3)
  | _ => none
def d_s2 (mk : Int → Jvm.ClassFile.Instr) : d_F
  | a :: b :: _ => some (mk (Jvm.ClassFile.Reader.signed 16 (a.toNat * 256 + b.toNat)), 3)
  | _ => none
def d_ii (mk : Nat → Int → Jvm.ClassFile.Instr) : d_F
  | a :: b :: _ => some (mk a.toNat (Jvm.ClassFile.Reader.signed 8 b.toNat), 3)
  | _ => none
theorem dq_0 {op : Nat} {i : Jvm.ClassFile.Instr} (hK : ∀ pc, ∃ K, Jvm.ClassFile.Decoder.instr pc = (Jvm.ClassFile.Reader.u1 : Jvm.ClassFile.Decoder Nat) >>= K ∧ K op = Pure.pure i) : d_snd op (d_f0 i) := by
  intro code pc b l r hd hb hf
  obtain ⟨K, k1, k2⟩ := hK pc
  have hf : some (i, 1) = some r := hf
  cases hf
  have h1 := rd_u1 hd
  rw [hb] at h1
  have e := dec_step k1 h1 (i := i) (n := pc + 1) (by rw [k2]; rfl)
  rw [Nat.add_sub_cancel_left] at e
  exact e
theorem dq_1 {op : Nat} {mk : Nat → Jvm.ClassFile.Instr} (hK : ∀ pc, ∃ K, Jvm.ClassFile.Decoder.instr pc = (Jvm.ClassFile.Reader.u1 : Jvm.ClassFile.Decoder Nat) >>= K ∧ K op = ((Jvm.ClassFile.Reader.u1 : Jvm.ClassFile.Decoder Nat) >>= fun a => Pure.pure (mk a))) : d_snd op (d_f1 mk) := by
  intro code pc b l r hd hb hf
  obtain ⟨K, k1, k2⟩ := hK pc
  cases l with
  | nil =>
    have hf : none = some r := hf
    cases hf
  | cons a t =>
    have hf : some (mk a.toNat, 2) = some r := hf
    cases hf
    have h1 := rd_u1 hd
    rw [hb] at h1
    have h2 := rd_u1 (d_next hd)
    have e := dec_step k1 h1 (i := mk a.toNat) (n := pc + 1 + 1) (by rw [k2, rb_ok h2]; rfl)
    rw [show pc + 1 + 1 - pc = 2 by omega] at e
    exact e
theorem dq_s1 {op : Nat} {mk : Int → Jvm.ClassFile.Instr} (hK : ∀ pc, ∃ K, Jvm.ClassFile.Decoder.instr pc = (Jvm.ClassFile.Reader.u1 : Jvm.ClassFile.Decoder Nat) >>= K ∧ K op = ((Jvm.ClassFile.Reader.s1 : Jvm.ClassFile.Decoder Int) >>= fun a => Pure.pure (mk a))) : d_snd op (d_s1 mk) := by
  intro code pc b l r hd hb hf
  obtain ⟨K, k1, k2⟩ := hK pc
  cases l with
  | nil =>
    have hf : none = some r := hf
    cases hf
  | cons a t =>
    have hf : some (mk (Jvm.ClassFile.Reader.signed 8 a.toNat), 2) = some r := hf
    cases hf
    have h1 := rd_u1 hd
    rw [hb] at h1
    have h2 := rd_s1 (d_next hd)
    have e := dec_step k1 h1 (i := mk (Jvm.ClassFile.Reader.signed 8 a.toNat)) (n := pc + 1 + 1) (by rw [k2, rb_ok h2]; rfl)
    rw [show pc + 1 + 1 - pc = 2 by omega] at e
    exact e
theorem dq_2 {op : Nat} {mk : Nat → Jvm.ClassFile.Instr} (hK : ∀ pc, ∃ K, Jvm.ClassFile.Decoder.instr pc = (Jvm.ClassFile.Reader.u1 : Jvm.ClassFile.Decoder Nat) >>= K ∧ K op = ((Jvm.ClassFile.Reader.u2 : Jvm.ClassFile.Decoder Nat) >>= fun a => Pure.pure (mk a))) : d_snd op (d_f2 mk) := by
  intro code pc b l r hd hb hf
  obtain ⟨K, k1, k2⟩ := hK pc
  cases l with
  | nil =>
    have hf : none = some r := hf
    cases hf
  | cons a t =>
  cases t with
  | nil =>
    have hf : none = some r := hf
    cases hf
  | cons b2 t =>
    have hf : some (mk (a.toNat * 256 + b2.toNat), 3) = some r := hf
    cases hf
    have h1 := rd_u1 hd
    rw [hb] at h1
    have h2 := rd_u2 (d_next hd)
    have e := dec_step k1 h1 (i := mk (a.toNat * 256 + b2.toNat)) (n := pc + 1 + 1 + 1) (by rw [k2, rb_ok h2]; rfl)
    rw [show pc + 1 + 1 + 1 - pc = 3 by omega] at e
    exact e
theorem dq_s2 {op : Nat} {mk : Int → Jvm.ClassFile.Instr} (hK : ∀ pc, ∃ K, Jvm.ClassFile.Decoder.instr pc = (Jvm.ClassFile.Reader.u1 : Jvm.ClassFile.Decoder Nat) >>= K ∧ K op = ((Jvm.ClassFile.Reader.s2 : Jvm.ClassFile.Decoder Int) >>= fun a => Pure.pure (mk a))) : d_snd op (d_s2 mk) := by
  intro code pc b l r hd hb hf
  obtain ⟨K, k1, k2⟩ := hK pc
  cases l with
  | nil =>
    have hf : none = some r := hf
    cases hf
  | cons a t =>
  cases t with
  | nil =>
    have hf : none = some r := hf
    cases hf
  | cons b2 t =>
    have hf : some (mk (Jvm.ClassFile.Reader.signed 16 (a.toNat * 256 + b2.toNat)), 3) = some r := hf
    cases hf
    have h1 := rd_u1 hd
    rw [hb] at h1
    have h2 := rd_s2 (d_next hd)
    have e := dec_step k1 h1 (i := mk (Jvm.ClassFile.Reader.signed 16 (a.toNat * 256 + b2.toNat))) (n := pc + 1 + 1 + 1) (by rw [k2, rb_ok h2]; rfl)
    rw [show pc + 1 + 1 + 1 - pc = 3 by omega] at e
    exact e
theorem dq_ii {op : Nat} {mk : Nat → Int → Jvm.ClassFile.Instr} (hK : ∀ pc, ∃ K, Jvm.ClassFile.Decoder.instr pc = (Jvm.ClassFile.Reader.u1 : Jvm.ClassFile.Decoder Nat) >>= K ∧ K op = ((Jvm.ClassFile.Reader.u1 : Jvm.ClassFile.Decoder Nat) >>= fun a => (Jvm.ClassFile.Reader.s1 : Jvm.ClassFile.Decoder Int) >>= fun k => Pure.pure (mk a k))) : d_snd op (d_ii mk) := by
  intro code pc b l r hd hb hf
  obtain ⟨K, k1, k2⟩ := hK pc
  cases l with
  | nil =>
    have hf : none = some r := hf
    cases hf
  | cons a t =>
  cases t with
  | nil =>
    have hf : none = some r := hf
    cases hf
  | cons b2 t =>
    have hf : some (mk a.toNat (Jvm.ClassFile.Reader.signed 8 b2.toNat), 3) = some r := hf
    cases hf
    have h1 := rd_u1 hd
    rw [hb] at h1
    have h2 := rd_u1 (d_next hd)
    have h3 := rd_s1 (d_next (d_next hd))
    have e := dec_step k1 h1 (i := mk a.toNat (Jvm.ClassFile.Reader.signed 8 b2.toNat)) (n := pc + 1 + 1 + 1) (by rw [k2, rb_ok h2, rb_ok h3]; rfl)
    rw [show pc + 1 + 1 + 1 - pc = 3 by omega] at e
    exact e
theorem dx_42 : d_snd 42 (d_f0 (.aload_n 0)) := dq_0 (fun _ => ⟨_, rfl, rfl⟩)
theorem dx_180 : d_snd 180 (d_f2 .getfield) := dq_2 (fun _ => ⟨_, rfl, rfl⟩)
theorem dx_182 : d_snd 182 (d_f2 .invokevirtual) := dq_2 (fun _ => ⟨_, rfl, rfl⟩)
theorem dx_3 : d_snd 3 (d_f0 (.iconst 0)) := dq_0 (fun _ => ⟨_, rfl, rfl⟩)
theorem dx_27 : d_snd 27 (d_f0 (.iload_n 1)) := dq_0 (fun _ => ⟨_, rfl, rfl⟩)
theorem dx_21 : d_snd 21 (d_f1 .iload) := dq_1 (fun _ => ⟨_, rfl, rfl⟩)
theorem dx_28 : d_snd 28 (d_f0 (.iload_n 2)) := dq_0 (fun _ => ⟨_, rfl, rfl⟩)
theorem dx_16 : d_snd 16 (d_s1 .bipush) := dq_s1 (fun _ => ⟨_, rfl, rfl⟩)
theorem dx_172 : d_snd 172 (d_f0 (.ireturn)) := dq_0 (fun _ => ⟨_, rfl, rfl⟩)
theorem dx_167 : d_snd 167 (d_s2 .goto) := dq_s2 (fun _ => ⟨_, rfl, rfl⟩)
theorem dx_4 : d_snd 4 (d_f0 (.iconst 1)) := dq_0 (fun _ => ⟨_, rfl, rfl⟩)
theorem dx_181 : d_snd 181 (d_f2 .putfield) := dq_2 (fun _ => ⟨_, rfl, rfl⟩)
theorem dx_96 : d_snd 96 (d_f0 (.iadd)) := dq_0 (fun _ => ⟨_, rfl, rfl⟩)
theorem dx_46 : d_snd 46 (d_f0 (.iaload)) := dq_0 (fun _ => ⟨_, rfl, rfl⟩)
theorem dx_29 : d_snd 29 (d_f0 (.iload_n 3)) := dq_0 (fun _ => ⟨_, rfl, rfl⟩)
theorem dx_43 : d_snd 43 (d_f0 (.aload_n 1)) := dq_0 (fun _ => ⟨_, rfl, rfl⟩)
theorem dx_162 : d_snd 162 (d_s2 (.if_icmp .ge)) := dq_s2 (fun _ => ⟨_, rfl, rfl⟩)
theorem dx_54 : d_snd 54 (d_f1 .istore) := dq_1 (fun _ => ⟨_, rfl, rfl⟩)
theorem dx_2 : d_snd 2 (d_f0 (.iconst (-1))) := dq_0 (fun _ => ⟨_, rfl, rfl⟩)
theorem dx_184 : d_snd 184 (d_f2 .invokestatic) := dq_2 (fun _ => ⟨_, rfl, rfl⟩)
theorem dx_153 : d_snd 153 (d_s2 (.ifCond .eq)) := dq_s2 (fun _ => ⟨_, rfl, rfl⟩)
theorem dx_132 : d_snd 132 (d_ii .iinc) := dq_ii (fun _ => ⟨_, rfl, rfl⟩)
theorem dx_79 : d_snd 79 (d_f0 (.iastore)) := dq_0 (fun _ => ⟨_, rfl, rfl⟩)
theorem dx_154 : d_snd 154 (d_s2 (.ifCond .ne)) := dq_s2 (fun _ => ⟨_, rfl, rfl⟩)
theorem dx_61 : d_snd 61 (d_f0 (.istore_n 2)) := dq_0 (fun _ => ⟨_, rfl, rfl⟩)
theorem dx_62 : d_snd 62 (d_f0 (.istore_n 3)) := dq_0 (fun _ => ⟨_, rfl, rfl⟩)
theorem dx_160 : d_snd 160 (d_s2 (.if_icmp .ne)) := dq_s2 (fun _ => ⟨_, rfl, rfl⟩)
theorem dx_177 : d_snd 177 (d_f0 (.return_)) := dq_0 (fun _ => ⟨_, rfl, rfl⟩)
theorem dx_89 : d_snd 89 (d_f0 (.dup)) := dq_0 (fun _ => ⟨_, rfl, rfl⟩)
theorem dx_87 : d_snd 87 (d_f0 (.pop)) := dq_0 (fun _ => ⟨_, rfl, rfl⟩)
theorem dx_133 : d_snd 133 (d_f0 (.i2l)) := dq_0 (fun _ => ⟨_, rfl, rfl⟩)
theorem dx_6 : d_snd 6 (d_f0 (.iconst 3)) := dq_0 (fun _ => ⟨_, rfl, rfl⟩)
theorem dx_5 : d_snd 5 (d_f0 (.iconst 2)) := dq_0 (fun _ => ⟨_, rfl, rfl⟩)
theorem dx_26 : d_snd 26 (d_f0 (.iload_n 0)) := dq_0 (fun _ => ⟨_, rfl, rfl⟩)
theorem dx_100 : d_snd 100 (d_f0 (.isub)) := dq_0 (fun _ => ⟨_, rfl, rfl⟩)
theorem dx_104 : d_snd 104 (d_f0 (.imul)) := dq_0 (fun _ => ⟨_, rfl, rfl⟩)
theorem dx_60 : d_snd 60 (d_f0 (.istore_n 1)) := dq_0 (fun _ => ⟨_, rfl, rfl⟩)
theorem dx_44 : d_snd 44 (d_f0 (.aload_n 2)) := dq_0 (fun _ => ⟨_, rfl, rfl⟩)
theorem dx_155 : d_snd 155 (d_s2 (.ifCond .lt)) := dq_s2 (fun _ => ⟨_, rfl, rfl⟩)
theorem dx_159 : d_snd 159 (d_s2 (.if_icmp .eq)) := dq_s2 (fun _ => ⟨_, rfl, rfl⟩)
theorem dx_164 : d_snd 164 (d_s2 (.if_icmp .le)) := dq_s2 (fun _ => ⟨_, rfl, rfl⟩)
theorem dx_126 : d_snd 126 (d_f0 (.iand)) := dq_0 (fun _ => ⟨_, rfl, rfl⟩)
theorem dx_8 : d_snd 8 (d_f0 (.iconst 5)) := dq_0 (fun _ => ⟨_, rfl, rfl⟩)
theorem dx_161 : d_snd 161 (d_s2 (.if_icmp .lt)) := dq_s2 (fun _ => ⟨_, rfl, rfl⟩)
theorem dx_17 : d_snd 17 (d_s2 .sipush) := dq_s2 (fun _ => ⟨_, rfl, rfl⟩)
theorem dx_7 : d_snd 7 (d_f0 (.iconst 4)) := dq_0 (fun _ => ⟨_, rfl, rfl⟩)
theorem dx_163 : d_snd 163 (d_s2 (.if_icmp .gt)) := dq_s2 (fun _ => ⟨_, rfl, rfl⟩)
theorem dx_92 : d_snd 92 (d_f0 (.dup2)) := dq_0 (fun _ => ⟨_, rfl, rfl⟩)
theorem dx_120 : d_snd 120 (d_f0 (.ishl)) := dq_0 (fun _ => ⟨_, rfl, rfl⟩)
theorem dx_18 : d_snd 18 (d_f1 .ldc) := dq_1 (fun _ => ⟨_, rfl, rfl⟩)
theorem dx_9 : d_snd 9 (d_f0 (.lconst 0)) := dq_0 (fun _ => ⟨_, rfl, rfl⟩)
theorem dx_128 : d_snd 128 (d_f0 (.ior)) := dq_0 (fun _ => ⟨_, rfl, rfl⟩)
theorem dx_45 : d_snd 45 (d_f0 (.aload_n 3)) := dq_0 (fun _ => ⟨_, rfl, rfl⟩)
def d_tab : List (Nat × d_F) := [(42, d_f0 (.aload_n 0)), (180, d_f2 .getfield), (182, d_f2 .invokevirtual), (3, d_f0 (.iconst 0)), (27, d_f0 (.iload_n 1)), (21, d_f1 .iload), (28, d_f0 (.iload_n 2)), (16, d_s1 .bipush), (172, d_f0 (.ireturn)), (167, d_s2 .goto), (4, d_f0 (.iconst 1)), (181, d_f2 .putfield), (96, d_f0 (.iadd)), (46, d_f0 (.iaload)), (29, d_f0 (.iload_n 3)), (43, d_f0 (.aload_n 1)), (162, d_s2 (.if_icmp .ge)), (54, d_f1 .istore), (2, d_f0 (.iconst (-1))), (184, d_f2 .invokestatic), (153, d_s2 (.ifCond .eq)), (132, d_ii .iinc), (79, d_f0 (.iastore)), (154, d_s2 (.ifCond .ne)), (61, d_f0 (.istore_n 2)), (62, d_f0 (.istore_n 3)), (160, d_s2 (.if_icmp .ne)), (177, d_f0 (.return_)), (89, d_f0 (.dup)), (87, d_f0 (.pop)), (133, d_f0 (.i2l)), (6, d_f0 (.iconst 3)), (5, d_f0 (.iconst 2)), (26, d_f0 (.iload_n 0)), (100, d_f0 (.isub)), (104, d_f0 (.imul)), (60, d_f0 (.istore_n 1)), (44, d_f0 (.aload_n 2)), (155, d_s2 (.ifCond .lt)), (159, d_s2 (.if_icmp .eq)), (164, d_s2 (.if_icmp .le)), (126, d_f0 (.iand)), (8, d_f0 (.iconst 5)), (161, d_s2 (.if_icmp .lt)), (17, d_s2 .sipush), (7, d_f0 (.iconst 4)), (163, d_s2 (.if_icmp .gt)), (92, d_f0 (.dup2)), (120, d_f0 (.ishl)), (18, d_f1 .ldc), (9, d_f0 (.lconst 0)), (128, d_f0 (.ior)), (45, d_f0 (.aload_n 3))]
theorem d_tab_ok : ∀ e ∈ d_tab, d_snd e.1 e.2 := by
  unfold d_tab
  refine List.forall_mem_cons.mpr ⟨dx_42, ?_⟩
  refine List.forall_mem_cons.mpr ⟨dx_180, ?_⟩
  refine List.forall_mem_cons.mpr ⟨dx_182, ?_⟩
  refine List.forall_mem_cons.mpr ⟨dx_3, ?_⟩
  refine List.forall_mem_cons.mpr ⟨dx_27, ?_⟩
  refine List.forall_mem_cons.mpr ⟨dx_21, ?_⟩
  refine List.forall_mem_cons.mpr ⟨dx_28, ?_⟩
  refine List.forall_mem_cons.mpr ⟨dx_16, ?_⟩
  refine List.forall_mem_cons.mpr ⟨dx_172, ?_⟩
  refine List.forall_mem_cons.mpr ⟨dx_167, ?_⟩
  refine List.forall_mem_cons.mpr ⟨dx_4, ?_⟩
  refine List.forall_mem_cons.mpr ⟨dx_181, ?_⟩
  refine List.forall_mem_cons.mpr ⟨dx_96, ?_⟩
  refine List.forall_mem_cons.mpr ⟨dx_46, ?_⟩
  refine List.forall_mem_cons.mpr ⟨dx_29, ?_⟩
  refine List.forall_mem_cons.mpr ⟨dx_43, ?_⟩
  refine List.forall_mem_cons.mpr ⟨dx_162, ?_⟩
  refine List.forall_mem_cons.mpr ⟨dx_54, ?_⟩
  refine List.forall_mem_cons.mpr ⟨dx_2, ?_⟩
  refine List.forall_mem_cons.mpr ⟨dx_184, ?_⟩
  refine List.forall_mem_cons.mpr ⟨dx_153, ?_⟩
  refine List.forall_mem_cons.mpr ⟨dx_132, ?_⟩
  refine List.forall_mem_cons.mpr ⟨dx_79, ?_⟩
  refine List.forall_mem_cons.mpr ⟨dx_154, ?_⟩
  refine List.forall_mem_cons.mpr ⟨dx_61, ?_⟩
  refine List.forall_mem_cons.mpr ⟨dx_62, ?_⟩
  refine List.forall_mem_cons.mpr ⟨dx_160, ?_⟩
  refine List.forall_mem_cons.mpr ⟨dx_177, ?_⟩
  refine List.forall_mem_cons.mpr ⟨dx_89, ?_⟩
  refine List.forall_mem_cons.mpr ⟨dx_87, ?_⟩
  refine List.forall_mem_cons.mpr ⟨dx_133, ?_⟩
  refine List.forall_mem_cons.mpr ⟨dx_6, ?_⟩
  refine List.forall_mem_cons.mpr ⟨dx_5, ?_⟩
  refine List.forall_mem_cons.mpr ⟨dx_26, ?_⟩
  refine List.forall_mem_cons.mpr ⟨dx_100, ?_⟩
  refine List.forall_mem_cons.mpr ⟨dx_104, ?_⟩
  refine List.forall_mem_cons.mpr ⟨dx_60, ?_⟩
  refine List.forall_mem_cons.mpr ⟨dx_44, ?_⟩
  refine List.forall_mem_cons.mpr ⟨dx_155, ?_⟩
  refine List.forall_mem_cons.mpr ⟨dx_159, ?_⟩
  refine List.forall_mem_cons.mpr ⟨dx_164, ?_⟩
  refine List.forall_mem_cons.mpr ⟨dx_126, ?_⟩
  refine List.forall_mem_cons.mpr ⟨dx_8, ?_⟩
  refine List.forall_mem_cons.mpr ⟨dx_161, ?_⟩
  refine List.forall_mem_cons.mpr ⟨dx_17, ?_⟩
  refine List.forall_mem_cons.mpr ⟨dx_7, ?_⟩
  refine List.forall_mem_cons.mpr ⟨dx_163, ?_⟩
  refine List.forall_mem_cons.mpr ⟨dx_92, ?_⟩
  refine List.forall_mem_cons.mpr ⟨dx_120, ?_⟩
  refine List.forall_mem_cons.mpr ⟨dx_18, ?_⟩
  refine List.forall_mem_cons.mpr ⟨dx_9, ?_⟩
  refine List.forall_mem_cons.mpr ⟨dx_128, ?_⟩
  refine List.forall_mem_cons.mpr ⟨dx_45, ?_⟩
  exact fun _ h => absurd h List.not_mem_nil
noncomputable def d_look (n : Nat) (l : List UInt8) (T : List (Nat × d_F)) : Option (Jvm.ClassFile.Instr × Nat) := @List.rec (Nat × d_F) (fun _ => Option (Jvm.ClassFile.Instr × Nat)) none (fun e _ ih => @Bool.rec (fun _ => Option (Jvm.ClassFile.Instr × Nat)) ih (e.2 l) (Nat.beq e.1 n)) T
theorem d_look_in {n : Nat} {l : List UInt8} {r : Jvm.ClassFile.Instr × Nat} : ∀ T, d_look n l T = some r → ∃ e ∈ T, e.1 = n ∧ e.2 l = some r
  | [], h => by
    have h : none = some r := h
    cases h
  | e :: T, h => by
    cases hb : Nat.beq e.1 n with
    | true =>
      have e1 : d_look n l (e :: T) = e.2 l := congrArg (fun b => @Bool.rec (fun _ => Option (Jvm.ClassFile.Instr × Nat)) (d_look n l T) (e.2 l) b) hb
      exact ⟨e, List.mem_cons_self, Nat.eq_of_beq_eq_true hb, e1.symm.trans h⟩
    | false =>
      have e1 : d_look n l (e :: T) = d_look n l T := congrArg (fun b => @Bool.rec (fun _ => Option (Jvm.ClassFile.Instr × Nat)) (d_look n l T) (e.2 l) b) hb
      obtain ⟨q, q1, q2⟩ := d_look_in T (e1.symm.trans h)
      exact ⟨q, List.mem_cons_of_mem _ q1, q2⟩
/-- one row, by the bytes from its place on -/
def d_cmp (code : ByteArray) (q : a_K) (o : Option (Jvm.ClassFile.Instr × Nat)) : Bool := match o with
  | some r => decide (r.1 = q.2.1) && Nat.beq r.2 q.2.2.1
  | none => k_dec code q
noncomputable def d_dec (code : ByteArray) (q : a_K) (l : List UInt8) : Bool := match l with
  | b :: t => d_cmp code q (d_look b.toNat t d_tab)
  | [] => false
theorem d_dec_ok {code : ByteArray} {q : a_K} {l : List UInt8} (hl : code.data.toList.drop q.1 = l) (h : d_dec code q l = true) : k_dec code q = true := by
  cases l with
  | nil =>
    have h : false = true := h
    cases h
  | cons b t =>
    have h : d_cmp code q (d_look b.toNat t d_tab) = true := h
    cases hd : d_look b.toNat t d_tab with
    | none =>
      rw [hd] at h
      exact h
    | some r =>
      rw [hd] at h
      obtain ⟨e, e1, e2, e3⟩ := d_look_in d_tab hd
      have hdc := d_tab_ok e e1 code q.1 b t r hl e2.symm e3
      obtain ⟨i, n⟩ := r
      have h : (decide (i = q.2.1) && Nat.beq n q.2.2.1) = true := h
      unfold k_dec
      rw [hdc]
      exact h
noncomputable def d_seq (c : Nat) (code : ByteArray) : List a_K → Nat → List UInt8 → Bool
  | [], _, _ => true
  | q :: t, pc, l => Nat.beq q.1 pc && ((d_dec code q l && (k_wchk c q.2.1 q.2.2.2.2 && k_lc c q.2.1 q.2.2.2.2)) && d_seq c code t (pc + q.2.2.1) (l.drop q.2.2.1))
theorem d_seq_ok {c : Nat} {code : ByteArray} : ∀ (r : List a_K) (pc : Nat) (l : List UInt8), code.data.toList.drop pc = l → d_seq c code r pc l = true → r.all (k_one c code) = true
  | [], _, _, _, _ => rfl
  | q :: t, pc, l, hl, h => by
    obtain ⟨h1, h⟩ := Bool.and_eq_true _ _ |>.mp h
    obtain ⟨h2, h3⟩ := Bool.and_eq_true _ _ |>.mp h
    obtain ⟨h4, h5⟩ := Bool.and_eq_true _ _ |>.mp h2
    have e := Nat.eq_of_beq_eq_true h1
    have a1 : k_one c code q = true := Bool.and_eq_true _ _ |>.mpr ⟨d_dec_ok (by rw [e]; exact hl) h4, h5⟩
    have a2 := d_seq_ok t (pc + q.2.2.1) (l.drop q.2.2.1) (by rw [← hl, List.drop_drop]) h3
    exact Bool.and_eq_true _ _ |>.mpr ⟨a1, a2⟩
noncomputable def d_row (c : Nat) (code : ByteArray) (r : List a_K) : Bool := match r with
  | [] => true
  | q :: _ => d_seq c code r q.1 (code.data.toList.drop q.1)
theorem d_row_ok {c : Nat} {code : ByteArray} {r : List a_K} (h : d_row c code r = true) : r.all (k_one c code) = true := by
  cases r with
  | nil => rfl
  | cons q t => exact d_seq_ok (q :: t) q.1 _ rfl h
theorem d_all {c : Nat} {code : ByteArray} {K : List (List a_K)} (h : K.all (d_row c code) = true) : K.all (fun r => r.all (k_one c code)) = true := List.all_eq_true.mpr fun r hr => d_row_ok (List.all_eq_true.mp h r hr)
