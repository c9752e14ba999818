section
/-! THE SAME IN PLAIN NUMBERS: memory by place and cell, frames of tagged numbers (0 an int, 1 a long, 2 a place) -/
abbrev z_V : Type := Nat × Int
abbrev z_M : Type := Nat → Nat → Int
abbrev z_L : Type := List z_V
abbrev z_G : Type := z_M × Nat × z_L × List z_V
abbrev z_Q : Type := z_M × Option z_V
def x_tab (i : Nat) : List Int := match i with
  | 0 => [1, 5, 25]
  | 1 => [-3, -1, 0, 1, 3]
  | _ => []
def z_vt : Value → Nat
  | .int _ => 0
  | .long _ => 1
  | .ref _ => 2
  | .null => 2
  | .double _ => 1
  | _ => 9
def z_vn : Value → Int
  | .int x => x.toInt
  | .long x => x.toInt
  | .ref k => (k : Int)
  | _ => -1
def z_v (v : Value) : z_V := (z_vt v, z_vn v)
/-- the frame: place by place -/
def z_lr (nL : Nat) (zl : z_L) (ls : List (Nat × Value)) : Prop := nL ≤ zl.length ∧ ∀ q ∈ ls, zl[q.1]? = some (z_v q.2)
def z_s (st : List Value) : List z_V := st.map z_v
def z_m (σ : m_H) : z_M := fun p k => match c_at σ p k with
  | some v => z_vn v
  | none => 0
def z_g (zl : z_L) (g : m_G) : z_G := (z_m g.1, g.2.2.2.1, zl, z_s g.2.2.2.2.2)
def z_ft : FieldType → Nat
  | .long => 1
  | .object _ => 2
  | .array _ => 2
  | .float => 9
  | .double => 1
  | _ => 0
noncomputable def z_tt (p k : Nat) : Nat := match h_kd p with
  | .inl t => if t = 4 then 1 else if t = 5 then 2 else 0
  | .inr ci => z_ft (a_ty ci k)
noncomputable def z_ok (σ : m_H) : Prop := σ.length = h_N ∧ ∀ p, p < h_N → ∃ vs, σ[p]? = some (h_kd p, vs) ∧ vs.length = h_ln p ∧ ∀ (k : Nat) (v : Value), vs[k]? = some v → z_vt v = z_tt p k ∧ ((h_ty p k).1 = 1 → v = .ref (h_ty p k).2.1.toNat)
/-! what the instructions compute -/
def z_add (x y : Int) : Int := (Int32.ofInt x + Int32.ofInt y).toInt
def z_sub (x y : Int) : Int := (Int32.ofInt x - Int32.ofInt y).toInt
def z_mul (x y : Int) : Int := (Int32.ofInt x * Int32.ofInt y).toInt
def z_and (x y : Int) : Int := (Int32.ofInt x &&& Int32.ofInt y).toInt
def z_or (x y : Int) : Int := (Int32.ofInt x ||| Int32.ofInt y).toInt
def z_xor (x y : Int) : Int := (Int32.ofInt x ^^^ Int32.ofInt y).toInt
def z_shl (x y : Int) : Int := (Int32.ofInt x <<< (Int32.ofInt y &&& 31)).toInt
def z_shr (x y : Int) : Int := (Int32.ofInt x >>> (Int32.ofInt y &&& 31)).toInt
def z_ush (x y : Int) : Int := (j_ushr (Int32.ofInt x) (Int32.ofInt y)).toInt
def z_div (x y : Int) : Int := (Int32.ofInt x / Int32.ofInt y).toInt
def z_rem (x y : Int) : Int := (Int32.ofInt x - Int32.ofInt x / Int32.ofInt y * Int32.ofInt y).toInt
def z_neg (x : Int) : Int := (-(Int32.ofInt x)).toInt
def z_i2b (x : Int) : Int := (Int32.ofInt x).toInt8.toInt32.toInt
def z_i2s (x : Int) : Int := (Int32.ofInt x).toInt16.toInt32.toInt
def z_i2c (x : Int) : Int := ((Int32.ofInt x).toUInt32 % 65536).toInt32.toInt
def z_i2l (x : Int) : Int := (Int32.ofInt x).toInt64.toInt
def z_l2i (x : Int) : Int := (Int64.ofInt x).toInt32.toInt
def z_ladd (x y : Int) : Int := (Int64.ofInt x + Int64.ofInt y).toInt
def z_lsub (x y : Int) : Int := (Int64.ofInt x - Int64.ofInt y).toInt
def z_lmul (x y : Int) : Int := (Int64.ofInt x * Int64.ofInt y).toInt
def z_land (x y : Int) : Int := (Int64.ofInt x &&& Int64.ofInt y).toInt
def z_lor (x y : Int) : Int := (Int64.ofInt x ||| Int64.ofInt y).toInt
def z_ldiv (x y : Int) : Int := (Int64.ofInt x / Int64.ofInt y).toInt
def z_lrem (x y : Int) : Int := (Int64.ofInt x - Int64.ofInt x / Int64.ofInt y * Int64.ofInt y).toInt
def z_lshl (x y : Int) : Int := (Int64.ofInt x <<< ((Int32.ofInt y).toInt64 &&& 63)).toInt
def z_lush (x y : Int) : Int := ((Int64.ofInt x).toUInt64 >>> ((Int32.ofInt y).toInt64.toUInt64 &&& Int64.toUInt64 63)).toInt64.toInt
def z_lcmp (x y : Int) : Int := (lg_cmp (Int64.ofInt x) (Int64.ofInt y)).toInt
def z_by (x : Int) : Int := (vp_nar .byte (Int32.ofInt x)).toInt
def z_ch (x : Int) : Int := (vp_nar .char (Int32.ofInt x)).toInt
def z_bo (x : Int) : Int := (vp_nar .boolean (Int32.ofInt x)).toInt
/-- where a letter of the rule stands in "wiafynh" -/
def z_idx (x : Int) : Int := if x = 119 then 0 else if x = 105 then 1 else if x = 97 then 2 else if x = 102 then 3 else if x = 121 then 4 else if x = 110 then 5 else if x = 104 then 6 else -1
def z_cn (cn : Jvm.ClassFile.Cond) (x y : Int) : Bool := match cn with
  | .eq => decide (x = y)
  | .ne => !decide (x = y)
  | .lt => decide (x < y)
  | .ge => decide (y ≤ x)
  | .gt => decide (y < x)
  | .le => decide (x ≤ y)
def z_tgt (pc : Nat) (off : Int) : Nat := ((pc : Int) + off).toNat
def z_tbo (d lo hi : Int) (os : List Int) (x : Int) : Int := if lo ≤ x ∧ x ≤ hi then (os[(x - lo).toNat]?).getD d else d
def z_up (m : z_M) (p k : Nat) (v : Int) : z_M := fun p' k' => if p' = p ∧ k' = k then v else m p' k'
def z_cp (m : z_M) (p s q d n : Nat) : z_M := fun p' k' => if p' = q ∧ d ≤ k' ∧ k' < d + n then m p (s + (k' - d)) else m p' k'
noncomputable def z_ln (q : Nat) : Nat := bif Nat.blt q h_N then h_ln q else (x_tab (q - m_X0)).length
def z_rd (m : z_M) (q k : Nat) : Int := bif Nat.blt q h_N then m q k else (x_tab (q - m_X0)).getD k 0
def z_ix (i : Int) (n : Nat) : Bool := decide (0 ≤ i) && decide (i < (n : Int))
/-- a field read: a place that never changes is known by the table -/
noncomputable def z_gf (m : z_M) (q ci k : Nat) : z_V := bif Nat.beq (h_ty q k).1 1 then (2, ((h_ty q k).2.1.toNat : Int)) else (z_ft (a_ty ci k), m q k)
noncomputable def z_ga (m : z_M) (q k : Nat) : z_V := bif Nat.beq (h_ty q k).1 1 then (2, ((h_ty q k).2.1.toNat : Int)) else (2, m q k)
def z_b2 : Jvm.ClassFile.Instr → Option (Int → Int → Int)
  | .iadd => some z_add
  | .isub => some z_sub
  | .imul => some z_mul
  | .iand => some z_and
  | .ior => some z_or
  | .ixor => some z_xor
  | .ishl => some z_shl
  | .ishr => some z_shr
  | .iushr => some z_ush
  | _ => none
def z_p1 (g : z_G) (n : Nat) (v : z_V) : Option z_G := some (g.1, g.2.1 + n, g.2.2.1, v :: g.2.2.2)
/-- one instruction that is no call and no return -/
noncomputable def z_step (q : a_K) (g : z_G) : Option z_G := match g with
  | (m, pc, ls, st) => match q with
    | (_, i, _, _, aux) => match i with
      | .iconst k => some (m, pc + 1, ls, (0, (Int32.ofInt k).toInt) :: st)
      | .bipush k => some (m, pc + 2, ls, (0, (Int8.ofInt k).toInt32.toInt) :: st)
      | .sipush k => some (m, pc + 3, ls, (0, (Int16.ofInt k).toInt32.toInt) :: st)
      | .lconst k => some (m, pc + 1, ls, (1, (Int64.ofNat (k : Nat)).toInt) :: st)
      | .ldc _ => (match aux with
        | [v] => some (m, pc + 2, ls, (0, (Int32.ofInt ((v : Int) - 2147483648)).toInt) :: st)
        | [_, _] => some (m, pc + 2, ls, (2, 1000002) :: st)
        | _ => none)
      | .ldc_w _ => (match aux with
        | [v] => some (m, pc + 3, ls, (0, (Int32.ofInt ((v : Int) - 2147483648)).toInt) :: st)
        | _ => none)
      | .ldc2_w _ => (match aux with
        | [v] => some (m, pc + 3, ls, (1, (Int64.ofInt ((v : Int) - 9223372036854775808)).toInt) :: st)
        | _ => none)
      | .iload_n j => (match ls[(j : Nat)]? with | some (_, x) => some (m, pc + 1, ls, (0, x) :: st) | none => none)
      | .iload j => (match ls[j]? with | some (_, x) => some (m, pc + 2, ls, (0, x) :: st) | none => none)
      | .lload_n j => (match ls[(j : Nat)]? with | some (_, x) => some (m, pc + 1, ls, (1, x) :: st) | none => none)
      | .lload j => (match ls[j]? with | some (_, x) => some (m, pc + 2, ls, (1, x) :: st) | none => none)
      | .aload_n j => (match ls[(j : Nat)]? with | some (_, x) => some (m, pc + 1, ls, (2, x) :: st) | none => none)
      | .aload j => (match ls[j]? with | some (_, x) => some (m, pc + 2, ls, (2, x) :: st) | none => none)
      | .istore_n j => (match st with | (_, x) :: r => some (m, pc + 1, ls.set (j : Nat) (0, x), r) | _ => none)
      | .istore j => (match st with | (_, x) :: r => some (m, pc + 2, ls.set j (0, x), r) | _ => none)
      | .lstore_n j => (match st with | (_, x) :: r => some (m, pc + 1, ls.set (j : Nat) (1, x), r) | _ => none)
      | .lstore j => (match st with | (_, x) :: r => some (m, pc + 2, ls.set j (1, x), r) | _ => none)
      | .astore_n j => (match st with | (_, x) :: r => some (m, pc + 1, ls.set (j : Nat) (2, x), r) | _ => none)
      | .astore j => (match st with | (_, x) :: r => some (m, pc + 2, ls.set j (2, x), r) | _ => none)
      | .iinc j k => (match ls[j]? with | some (_, x) => some (m, pc + 3, ls.set j (0, z_add x k), st) | none => none)
      | .idiv => (match st with | (_, y) :: (_, x) :: r => if y = 0 then none else some (m, pc + 1, ls, (0, z_div x y) :: r) | _ => none)
      | .irem => (match st with | (_, y) :: (_, x) :: r => if y = 0 then none else some (m, pc + 1, ls, (0, z_rem x y) :: r) | _ => none)
      | .ineg => (match st with | (_, x) :: r => some (m, pc + 1, ls, (0, z_neg x) :: r) | _ => none)
      | .i2b => (match st with | (_, x) :: r => some (m, pc + 1, ls, (0, z_i2b x) :: r) | _ => none)
      | .i2s => (match st with | (_, x) :: r => some (m, pc + 1, ls, (0, z_i2s x) :: r) | _ => none)
      | .i2c => (match st with | (_, x) :: r => some (m, pc + 1, ls, (0, z_i2c x) :: r) | _ => none)
      | .i2l => (match st with | (_, x) :: r => some (m, pc + 1, ls, (1, z_i2l x) :: r) | _ => none)
      | .l2i => (match st with | (_, x) :: r => some (m, pc + 1, ls, (0, z_l2i x) :: r) | _ => none)
      | .ladd => (match st with | (_, y) :: (_, x) :: r => some (m, pc + 1, ls, (1, z_ladd x y) :: r) | _ => none)
      | .lsub => (match st with | (_, y) :: (_, x) :: r => some (m, pc + 1, ls, (1, z_lsub x y) :: r) | _ => none)
      | .lmul => (match st with | (_, y) :: (_, x) :: r => some (m, pc + 1, ls, (1, z_lmul x y) :: r) | _ => none)
      | .land => (match st with | (_, y) :: (_, x) :: r => some (m, pc + 1, ls, (1, z_land x y) :: r) | _ => none)
      | .lor => (match st with | (_, y) :: (_, x) :: r => some (m, pc + 1, ls, (1, z_lor x y) :: r) | _ => none)
      | .ldiv => (match st with | (_, y) :: (_, x) :: r => if y = 0 then none else some (m, pc + 1, ls, (1, z_ldiv x y) :: r) | _ => none)
      | .lrem => (match st with | (_, y) :: (_, x) :: r => if y = 0 then none else some (m, pc + 1, ls, (1, z_lrem x y) :: r) | _ => none)
      | .lshl => (match st with | (_, y) :: (_, x) :: r => some (m, pc + 1, ls, (1, z_lshl x y) :: r) | _ => none)
      | .lushr => (match st with | (_, y) :: (_, x) :: r => some (m, pc + 1, ls, (1, z_lush x y) :: r) | _ => none)
      | .lcmp => (match st with | (_, y) :: (_, x) :: r => some (m, pc + 1, ls, (0, z_lcmp x y) :: r) | _ => none)
      | .dup => (match st with | a :: r => some (m, pc + 1, ls, a :: a :: r) | _ => none)
      | .pop => (match st with | _ :: r => some (m, pc + 1, ls, r) | _ => none)
      | .pop2 => (match st with | _ :: r => some (m, pc + 1, ls, r) | _ => none)
      | .dup_x1 => (match st with | a :: b :: r => some (m, pc + 1, ls, a :: b :: a :: r) | _ => none)
      | .dup2 => (match st with
        | a :: r => bif a.1 == 1 then some (m, pc + 1, ls, a :: a :: r) else (match r with | b :: r => some (m, pc + 1, ls, a :: b :: a :: b :: r) | _ => none)
        | _ => none)
      | .ifCond cn off => (match st with | (_, x) :: r => some (m, bif z_cn cn x 0 then z_tgt pc off else pc + 3, ls, r) | _ => none)
      | .if_icmp cn off => (match st with | (_, y) :: (_, x) :: r => some (m, bif z_cn cn x y then z_tgt pc off else pc + 3, ls, r) | _ => none)
      | .goto off => some (m, z_tgt pc off, ls, st)
      | .lookupswitch d ps => (match st with | (_, x) :: r => some (m, z_tgt pc (Op.lookupswitch.offset ps.toList d x), ls, r) | _ => none)
      | .tableswitch d lo hi os => (match st with | (_, x) :: r => some (m, z_tgt pc (z_tbo d lo hi os.toList x), ls, r) | _ => none)
      | .getfield _ => (match aux with
        | [_, ci, k, _] => (match st with | (_, q) :: r => some (m, pc + 3, ls, z_gf m q.toNat ci k :: r) | _ => none)
        | _ => none)
      | .putfield _ => (match aux with
        | [_, _, k, _] => (match st with | (_, v) :: (_, q) :: r => some (z_up m q.toNat k v, pc + 3, ls, r) | _ => none)
        | _ => none)
      | .getstatic _ => (match aux with
        | [0] => some (m, pc + 3, ls, (2, 1000000) :: st)
        | [1] => some (m, pc + 3, ls, (2, 1000001) :: st)
        | _ => none)
      | .iaload => (match st with | (_, i) :: (_, q) :: r => bif z_ix i (z_ln q.toNat) then some (m, pc + 1, ls, (0, z_rd m q.toNat i.toNat) :: r) else none | _ => none)
      | .baload => (match st with | (_, i) :: (_, q) :: r => bif z_ix i (h_ln q.toNat) then some (m, pc + 1, ls, (0, m q.toNat i.toNat) :: r) else none | _ => none)
      | .caload => (match st with | (_, i) :: (_, q) :: r => bif z_ix i (h_ln q.toNat) then some (m, pc + 1, ls, (0, m q.toNat i.toNat) :: r) else none | _ => none)
      | .laload => (match st with | (_, i) :: (_, q) :: r => bif z_ix i (h_ln q.toNat) then some (m, pc + 1, ls, (1, m q.toNat i.toNat) :: r) else none | _ => none)
      | .aaload => (match st with | (_, i) :: (_, q) :: r => bif z_ix i (h_ln q.toNat) then some (m, pc + 1, ls, z_ga m q.toNat i.toNat :: r) else none | _ => none)
      | .iastore => (match st with | (_, v) :: (_, i) :: (_, q) :: r => bif z_ix i (h_ln q.toNat) then some (z_up m q.toNat i.toNat v, pc + 1, ls, r) else none | _ => none)
      | .castore => (match st with | (_, v) :: (_, i) :: (_, q) :: r => bif z_ix i (h_ln q.toNat) then some (z_up m q.toNat i.toNat (z_ch v), pc + 1, ls, r) else none | _ => none)
      | .lastore => (match st with | (_, v) :: (_, i) :: (_, q) :: r => bif z_ix i (h_ln q.toNat) then some (z_up m q.toNat i.toNat v, pc + 1, ls, r) else none | _ => none)
      | .bastore => (match st with
        | (_, v) :: (_, i) :: (_, q) :: r => bif z_ix i (h_ln q.toNat) then some (z_up m q.toNat i.toNat (match h_kd q.toNat with | .inl 1 => z_by v | _ => z_bo v), pc + 1, ls, r) else none
        | _ => none)
      | .arraylength => (match st with | (_, q) :: r => some (m, pc + 1, ls, (0, (Int32.ofNat (z_ln q.toNat)).toInt) :: r) | _ => none)
      | .invokestatic _ => (match aux with
        | [_, _] => (match st with
          | (_, n) :: (_, d) :: (_, b) :: (_, s) :: (_, a) :: r => bif decide (0 ≤ n) && (decide (0 ≤ d) && (decide (0 ≤ s) && (decide (s + n ≤ (h_ln a.toNat : Int)) && decide (d + n ≤ (h_ln b.toNat : Int))))) then some (z_cp m a.toNat s.toNat b.toNat d.toNat n.toNat, pc + 3, ls, r) else none
          | _ => none)
        | [kd, _, _] => (match kd, st with
          | 0, (_, y) :: (_, x) :: r => some (m, pc + 3, ls, (0, if x < y then y else x) :: r)
          | 1, (_, y) :: (_, x) :: r => some (m, pc + 3, ls, (0, if y < x then y else x) :: r)
          | 2, (_, x) :: r => some (m, pc + 3, ls, (0, if 0 ≤ x then x else z_sub 0 x) :: r)
          | 3, (_, y) :: (_, x) :: r => some (m, pc + 3, ls, (1, if y < x then x else y) :: r)
          | _, _ => none)
        | _ => none)
      | .invokevirtual _ => (match aux with
        | [_, _, _] => (match st with | (_, x) :: _ :: r => some (m, pc + 3, ls, (0, z_idx x) :: r) | _ => none)
        | _ => none)
      | i => (match z_b2 i with
        | some f => (match st with | (_, y) :: (_, x) :: r => some (m, pc + 1, ls, (0, f x y) :: r) | _ => none)
        | none => none)
/-- 0: as above, 1: a return, 2: a call -/
def z_kd (i : Jvm.ClassFile.Instr) (aux : List Nat) : Nat := match i with
  | .ireturn => 1
  | .lreturn => 1
  | .return_ => 1
  | .new _ => 1
  | .invokevirtual _ => (match aux with | [_, _, _, _] => 2 | _ => 0)
  | .invokestatic _ => (match aux with | [_, _, _, _] => 2 | _ => 0)
  | _ => 0
def z_ret (q : a_K) (g : z_G) : Option z_Q := match g with
  | (m, _, _, st) => match q.2.1 with
    | .return_ => some (m, none)
    | .new _ => some (m, some (9, 0))
    | .ireturn => (match st with | (_, x) :: _ => some (m, some (0, x)) | _ => none)
    | .lreturn => (match st with | (_, x) :: _ => some (m, some (1, x)) | _ => none)
    | _ => none
def z_np (y : Nat) : Nat := match a_mw[y]? with
  | some (_, _, _, _, _, _, _, _, np) => np
  | none => 0
/-- a call: the method, its arguments, what stays on the stack -/
def z_call (q : a_K) (st : List z_V) : Option (Nat × List z_V × List z_V) := match q.2.1 with
  | .invokevirtual _ => (match q.2.2.2.2 with
    | [_, y, _, _] => bif Nat.ble (z_np y + 1) st.length then some (y, (st.take (z_np y + 1)).reverse, st.drop (z_np y + 1)) else none
    | _ => none)
  | .invokestatic _ => (match q.2.2.2.2 with
    | [_, y, _, _] => bif Nat.ble (z_np y) st.length then some (y, (st.take (z_np y)).reverse, st.drop (z_np y)) else none
    | _ => none)
  | _ => none
def z_args : List z_V → z_L
  | [] => []
  | v :: l => bif v.1 == 1 then v :: (9, 0) :: z_args l else v :: z_args l
/-- the frame of a method at its start -/
def z_fr (y : Nat) (as : List z_V) : z_L := z_args as ++ List.replicate (z_nl y - (z_args as).length) (9, 0)
/-- a method run to its end -/
noncomputable def z_ex : Nat → Nat → z_G → Option z_Q
  | 0, _, _ => none
  | f + 1, y, g => match k_get (kt_at y) g.2.1 with
    | none => none
    | some q => match z_kd q.2.1 q.2.2.2.2 with
      | 0 => (match z_step q g with
        | some g' => z_ex f y g'
        | none => none)
      | 1 => z_ret q g
      | _ => (match z_call q g.2.2.2 with
        | some (y2, as, rest) => (match z_ex f y2 (g.1, 0, z_fr y2 as, []) with
          | some (m', v) => z_ex f y (m', g.2.1 + 3, g.2.2.1, v.toList ++ rest)
          | none => none)
        | none => none)
noncomputable def z_Ev (y : Nat) (g : z_G) (r : z_Q) : Prop := ∃ f, z_ex f y g = some r
theorem z_ex_mono : ∀ (f y : Nat) (g : z_G) (r : z_Q), z_ex f y g = some r → z_ex (f + 1) y g = some r := by
  intro f
  induction f with
  | zero => intro y g r h; cases h
  | succ f ih =>
    intro y g r h
    unfold z_ex at h ⊢
    cases hq : k_get (kt_at y) g.2.1 with
    | none =>
      rw [hq] at h
      cases h
    | some q =>
      rw [hq] at h
      simp only at h ⊢
      generalize z_kd q.2.1 q.2.2.2.2 = kd at h ⊢
      match kd, h with
      | 0, h =>
        simp only at h ⊢
        cases hs : z_step q g with
        | none =>
          rw [hs] at h
          cases h
        | some g' =>
          rw [hs] at h
          simp only at h ⊢
          exact ih _ _ _ h
      | 1, h => exact h
      | kk + 2, h =>
        simp only at h ⊢
        cases hc : z_call q g.2.2.2 with
        | none =>
          rw [hc] at h
          cases h
        | some t =>
          obtain ⟨y2, as, rest⟩ := t
          rw [hc] at h
          simp only at h ⊢
          cases hv : z_ex f y2 (g.1, 0, z_fr y2 as, []) with
          | none =>
            rw [hv] at h
            cases h
          | some u =>
            obtain ⟨m', v⟩ := u
            rw [hv] at h
            rw [ih _ _ _ hv]
            exact ih _ _ _ h
theorem z_ex_le {f f' y : Nat} {g : z_G} {r : z_Q} (h : z_ex f y g = some r) (hf : f ≤ f') : z_ex f' y g = some r := by
  obtain ⟨d, rfl⟩ := Nat.exists_eq_add_of_le hf
  clear hf
  induction d with
  | zero => exact h
  | succ d ih => exact z_ex_mono _ _ _ _ ih
theorem z_Ev_one {y : Nat} {g : z_G} {r r' : z_Q} (h : z_Ev y g r) (h' : z_Ev y g r') : r = r' := by
  obtain ⟨f, h⟩ := h
  obtain ⟨f', h'⟩ := h'
  have a := z_ex_le h (Nat.le_max_left f f')
  have b := z_ex_le h' (Nat.le_max_right f f')
  exact Option.some.inj (a.symm.trans b)
/-- what is known of a frame's ends, closed under its instructions -/
noncomputable def z_cl (K : List (List a_K)) (Z : z_G → z_Q → Prop) : Prop :=
  (∀ (q : a_K) (g g' : z_G), k_get K g.2.1 = some q → z_kd q.2.1 q.2.2.2.2 = 0 → z_step q g = some g' → ∀ r, Z g' r → Z g r) ∧
  (∀ (q : a_K) (g : z_G) (r : z_Q), k_get K g.2.1 = some q → z_kd q.2.1 q.2.2.2.2 = 1 → z_ret q g = some r → Z g r) ∧
  ∀ (q : a_K) (g : z_G) (y2 : Nat) (as rest : List z_V) (m' : z_M) (v : Option z_V), k_get K g.2.1 = some q → z_kd q.2.1 q.2.2.2.2 = 2 → z_call q g.2.2.2 = some (y2, as, rest) → z_Ev y2 (g.1, 0, z_fr y2 as, []) (m', v) → ∀ r, Z (m', g.2.1 + 3, g.2.2.1, v.toList ++ rest) r → Z g r
theorem z_cl_Ev (y : Nat) : z_cl (kt_at y) (z_Ev y) := by
  refine ⟨fun q g g' h1 h2 h3 r ⟨f, h⟩ => ⟨f + 1, ?_⟩, fun q g r h1 h2 h3 => ⟨1, ?_⟩, fun q g y2 as rest m' v h1 h2 h3 ⟨f1, h4⟩ r ⟨f2, h5⟩ => ⟨max f1 f2 + 1, ?_⟩⟩
  · unfold z_ex; simp only [h1, h2, h3]; exact h
  · unfold z_ex; simp only [h1, h2]; exact h3
  · unfold z_ex
    simp only [h1, h2, h3, z_ex_le h4 (Nat.le_max_left f1 f2)]
    exact z_ex_le h5 (Nat.le_max_right f1 f2)
theorem z_cl_T (K : List (List a_K)) : z_cl K (fun _ _ => True) := ⟨fun _ _ _ _ _ _ _ _ => trivial, fun _ _ _ _ _ _ => trivial, fun _ _ _ _ _ _ _ _ _ _ _ _ _ => trivial⟩
/-- what stands at pc, and that it is the table's -/
def z_dx (K : List (List a_K)) (cc : ByteArray) (pc : Nat) (i : Jvm.ClassFile.Instr) (n : Nat) (aux : List Nat) : Prop := decode cc pc = .ok (i, n) ∧ ∃ fl, k_get K pc = some (pc, i, n, fl, aux)
end
section
/-! ONE INSTRUCTION over both: the machine, and the plain numbers -/
theorem i32_eqI {x y : Int32} : x = y ↔ x.toInt = y.toInt := Int32.toInt_inj.symm
theorem i32_z0 {y : Int32} (h : y.toInt = 0) : y = 0 := i32_eqI.mpr h
theorem i64_z0 {y : Int64} (h : y.toInt = 0) : y = 0 := Int64.toInt_inj.mp h
theorem z_cn_eq_t {x y : Int32} (q : x = y) : z_cn .eq x.toInt y.toInt = true := decide_eq_true (i32_eqI.mp q)
theorem z_cn_eq_f {x y : Int32} (q : ¬ x = y) : z_cn .eq x.toInt y.toInt = false := decide_eq_false (fun z => q (i32_eqI.mpr z))
theorem z_cn_ne_t {x y : Int32} (q : ¬ x = y) : z_cn .ne x.toInt y.toInt = true := by
  show (!decide (x.toInt = y.toInt)) = true
  rw [decide_eq_false (fun z => q (i32_eqI.mpr z))]; rfl
theorem z_cn_ne_f {x y : Int32} (q : x = y) : z_cn .ne x.toInt y.toInt = false := by
  show (!decide (x.toInt = y.toInt)) = false
  rw [decide_eq_true (i32_eqI.mp q)]; rfl
theorem z_cn_lt_t {x y : Int32} (q : x < y) : z_cn .lt x.toInt y.toInt = true := decide_eq_true (Int32.lt_iff_toInt_lt.mp q)
theorem z_cn_lt_f {x y : Int32} (q : ¬ x < y) : z_cn .lt x.toInt y.toInt = false := decide_eq_false (fun z => q (Int32.lt_iff_toInt_lt.mpr z))
theorem z_cn_gt_t {x y : Int32} (q : y < x) : z_cn .gt x.toInt y.toInt = true := decide_eq_true (Int32.lt_iff_toInt_lt.mp q)
theorem z_cn_gt_f {x y : Int32} (q : ¬ y < x) : z_cn .gt x.toInt y.toInt = false := decide_eq_false (fun z => q (Int32.lt_iff_toInt_lt.mpr z))
theorem z_cn_le_t {x y : Int32} (q : x ≤ y) : z_cn .le x.toInt y.toInt = true := decide_eq_true (Int32.le_iff_toInt_le.mp q)
theorem z_cn_le_f {x y : Int32} (q : ¬ x ≤ y) : z_cn .le x.toInt y.toInt = false := decide_eq_false (fun z => q (Int32.le_iff_toInt_le.mpr z))
theorem z_cn_ge_t {x y : Int32} (q : y ≤ x) : z_cn .ge x.toInt y.toInt = true := decide_eq_true (Int32.le_iff_toInt_le.mp q)
theorem z_cn_ge_f {x y : Int32} (q : ¬ y ≤ x) : z_cn .ge x.toInt y.toInt = false := decide_eq_false (fun z => q (Int32.le_iff_toInt_le.mpr z))
theorem x_tab3' : ∀ {j : Nat}, j < 2 → ∀ z ∈ x_tab j, i_m ≤ z ∧ z ≤ i_M
  | 0, _ => by decide
  | 1, _ => by decide
  | j + 2, h => absurd h (by omega)
theorem z_add_ok (x y : Int32) : z_add x.toInt y.toInt = (x + y).toInt := by unfold z_add; rw [i32_of, i32_of]
theorem z_sub_ok (x y : Int32) : z_sub x.toInt y.toInt = (x - y).toInt := by unfold z_sub; rw [i32_of, i32_of]
theorem z_mul_ok (x y : Int32) : z_mul x.toInt y.toInt = (x * y).toInt := by unfold z_mul; rw [i32_of, i32_of]
theorem z_and_ok (x y : Int32) : z_and x.toInt y.toInt = (x &&& y).toInt := by unfold z_and; rw [i32_of, i32_of]
theorem z_or_ok (x y : Int32) : z_or x.toInt y.toInt = (x ||| y).toInt := by unfold z_or; rw [i32_of, i32_of]
theorem z_xor_ok (x y : Int32) : z_xor x.toInt y.toInt = (x ^^^ y).toInt := by unfold z_xor; rw [i32_of, i32_of]
theorem z_shl_ok (x y : Int32) : z_shl x.toInt y.toInt = (x <<< (y &&& 31)).toInt := by unfold z_shl; rw [i32_of, i32_of]
theorem z_shr_ok (x y : Int32) : z_shr x.toInt y.toInt = (x >>> (y &&& 31)).toInt := by unfold z_shr; rw [i32_of, i32_of]
theorem z_ush_ok (x y : Int32) : z_ush x.toInt y.toInt = (x.toUInt32 >>> (y.toUInt32 &&& Int32.toUInt32 31)).toInt32.toInt := by unfold z_ush; rw [i32_of, i32_of]; rfl
theorem z_div_ok (x y : Int32) : z_div x.toInt y.toInt = (x / y).toInt := by unfold z_div; rw [i32_of, i32_of]
theorem z_rem_ok (x y : Int32) : z_rem x.toInt y.toInt = (x - x / y * y).toInt := by unfold z_rem; rw [i32_of, i32_of]
theorem z_neg_ok (x : Int32) : z_neg x.toInt = (-x).toInt := by unfold z_neg; rw [i32_of]
theorem z_i2b_ok (x : Int32) : z_i2b x.toInt = x.toInt8.toInt32.toInt := by unfold z_i2b; rw [i32_of]
theorem z_i2s_ok (x : Int32) : z_i2s x.toInt = x.toInt16.toInt32.toInt := by unfold z_i2s; rw [i32_of]
theorem z_i2c_ok (x : Int32) : z_i2c x.toInt = (x.toUInt32 % 65536).toInt32.toInt := by unfold z_i2c; rw [i32_of]
theorem z_i2l_ok (x : Int32) : z_i2l x.toInt = x.toInt64.toInt := by unfold z_i2l; rw [i32_of]
theorem z_l2i_ok (x : Int64) : z_l2i x.toInt = x.toInt32.toInt := by unfold z_l2i; rw [i64_of]
theorem z_ladd_ok (x y : Int64) : z_ladd x.toInt y.toInt = (x + y).toInt := by unfold z_ladd; rw [i64_of, i64_of]
theorem z_lsub_ok (x y : Int64) : z_lsub x.toInt y.toInt = (x - y).toInt := by unfold z_lsub; rw [i64_of, i64_of]
theorem z_lmul_ok (x y : Int64) : z_lmul x.toInt y.toInt = (x * y).toInt := by unfold z_lmul; rw [i64_of, i64_of]
theorem z_land_ok (x y : Int64) : z_land x.toInt y.toInt = (x &&& y).toInt := by unfold z_land; rw [i64_of, i64_of]
theorem z_lor_ok (x y : Int64) : z_lor x.toInt y.toInt = (x ||| y).toInt := by unfold z_lor; rw [i64_of, i64_of]
theorem z_ldiv_ok (x y : Int64) : z_ldiv x.toInt y.toInt = (x / y).toInt := by unfold z_ldiv; rw [i64_of, i64_of]
theorem z_lrem_ok (x y : Int64) : z_lrem x.toInt y.toInt = (x - x / y * y).toInt := by unfold z_lrem; rw [i64_of, i64_of]
theorem z_lshl_ok (x : Int64) (y : Int32) : z_lshl x.toInt y.toInt = (x <<< (y.toInt64 &&& 63)).toInt := by unfold z_lshl; rw [i64_of, i32_of]
theorem z_lush_ok (x : Int64) (y : Int32) : z_lush x.toInt y.toInt = (x.toUInt64 >>> (y.toInt64.toUInt64 &&& Int64.toUInt64 63)).toInt64.toInt := by unfold z_lush; rw [i64_of, i32_of]
theorem z_lcmp_ok (x y : Int64) : z_lcmp x.toInt y.toInt = (lg_cmp x y).toInt := by unfold z_lcmp; rw [i64_of, i64_of]
theorem z_by_ok (x : Int32) : z_by x.toInt = (vp_nar .byte x).toInt := by unfold z_by; rw [i32_of]
theorem z_ch_ok (x : Int32) : z_ch x.toInt = (vp_nar .char x).toInt := by unfold z_ch; rw [i32_of]
theorem z_bo_ok (x : Int32) : z_bo x.toInt = (vp_nar .boolean x).toInt := by unfold z_bo; rw [i32_of]
theorem z_cat {v : Value} : (v.category == 2) = ((z_v v).1 == 1) := by cases v <;> rfl
theorem z_cat1 {v : Value} (h : v.category = 1) : ((z_v v).1 == 1) = false := by rw [← z_cat, h]; rfl
theorem z_cat2 {v : Value} (h : v.category = 2) : ((z_v v).1 == 1) = true := by rw [← z_cat, h]; rfl
theorem z_lr_ld {nL j : Nat} {zl : z_L} {ls : List (Nat × Value)} {v : Value} (h : z_lr nL zl ls) (hj : m_ld j ls = some v) : zl[j]? = some (z_v v) := by
  unfold m_ld at hj
  obtain ⟨q, h1, h2⟩ := Option.map_eq_some_iff.mp hj
  have hq := List.find?_some h1
  have := h.2 q (List.mem_of_find?_eq_some h1)
  have hq : q.1 = j := by simpa using hq
  rw [hq, h2] at this
  exact this
theorem z_lr_st {nL j : Nat} {zl : z_L} {ls ls' : List (Nat × Value)} {v : Value} (h : z_lr nL zl ls) (hj : j < nL) (hs : ∀ q ∈ ls', q = (j, v) ∨ (¬ q.1 = j ∧ q ∈ ls)) : z_lr nL (zl.set j (z_v v)) ls' := by
  refine ⟨by rw [List.length_set]; exact h.1, fun q hq => ?_⟩
  rcases hs q hq with rfl | ⟨hne, hu⟩
  · exact List.getElem?_set_self (Nat.lt_of_lt_of_le hj h.1)
  · rw [List.getElem?_set_ne (Ne.symm hne)]
    exact h.2 q hu
theorem z_lr_st1 {nL j : Nat} {zl : z_L} {ls : List (Nat × Value)} {v : Value} (h : z_lr nL zl ls) (hj : j < nL) : z_lr nL (zl.set j (z_v v)) (m_st1 j v ls) := z_lr_st h hj fun q hq => by
  rcases List.mem_cons.mp hq with rfl | hq
  · exact Or.inl rfl
  · obtain ⟨h1, h2⟩ := List.mem_filter.mp hq
    obtain ⟨h3, -⟩ := Bool.and_eq_true _ _ |>.mp h2
    exact Or.inr ⟨by simpa using h3, h1⟩
theorem z_lr_st2 {nL j : Nat} {zl : z_L} {ls : List (Nat × Value)} {v : Value} (h : z_lr nL zl ls) (hj : j < nL) : z_lr nL (zl.set j (z_v v)) (m_st2 j v ls) := z_lr_st h hj fun q hq => by
  rcases List.mem_cons.mp hq with rfl | hq
  · exact Or.inl rfl
  · obtain ⟨h1, h2⟩ := List.mem_filter.mp hq
    obtain ⟨h3, -⟩ := Bool.and_eq_true _ _ |>.mp h2
    exact Or.inr ⟨by simpa using h3, h1⟩
theorem z_args_at : ∀ (vs : List Value) (n : Nat), ∀ q ∈ lv_args n vs, n ≤ q.1 ∧ (z_args (z_s vs))[q.1 - n]? = some (z_v q.2)
  | [], _, q, h => by cases h
  | v :: vs, n, q, h => by
    have e : z_args (z_s (v :: vs)) = bif v.category == 2 then z_v v :: (9, 0) :: z_args (z_s vs) else z_v v :: z_args (z_s vs) := by rw [z_cat]; rfl
    have h2 : q ∈ (n, v) :: lv_args (if v.category = 2 then n + 2 else n + 1) vs := h
    rw [e]
    rcases List.mem_cons.mp h2 with rfl | h3
    · refine ⟨Nat.le_refl _, ?_⟩
      show _[n - n]? = _
      rw [Nat.sub_self]
      cases v.category == 2 <;> rfl
    · by_cases hc : v.category = 2
      · rw [if_pos hc] at h3
        obtain ⟨g1, g2⟩ := z_args_at vs (n + 2) q h3
        have hb : (v.category == 2) = true := by rw [hc]; rfl
        refine ⟨by omega, ?_⟩
        rw [hb, show q.1 - n = (q.1 - (n + 2)) + 2 by omega]
        exact g2
      · rw [if_neg hc] at h3
        obtain ⟨g1, g2⟩ := z_args_at vs (n + 1) q h3
        have hb : (v.category == 2) = false := by simpa using hc
        refine ⟨by omega, ?_⟩
        rw [hb, show q.1 - n = (q.1 - (n + 1)) + 1 by omega]
        exact g2
theorem z_fr_ok {y n : Nat} {vs : List Value} (h : n ≤ z_nl y) : z_lr n (z_fr y (z_s vs)) (lv_args 0 vs) := by
  refine ⟨by unfold z_fr; rw [List.length_append, List.length_replicate]; omega, fun q hq => ?_⟩
  obtain ⟨-, h2⟩ := z_args_at vs 0 q hq
  have h2 : (z_args (z_s vs))[q.1]? = some (z_v q.2) := h2
  unfold z_fr
  rw [List.getElem?_append_left (List.getElem?_eq_some_iff.mp h2).1]
  exact h2
theorem z_m_set {σ : m_H} {p k : Nat} {kd : Nat ⊕ Nat} {vs : List Value} {v : Value} (h : σ[p]? = some (kd, vs)) (hk : k < vs.length) : z_m (σ.set p (kd, vs.set k v)) = z_up (z_m σ) p k (z_vn v) := by
  funext p' k'
  unfold z_m z_up
  rw [c_at_set h]
  by_cases hq : p' = p ∧ k' = k
  · rw [if_pos ⟨hq.1, hq.2, hk⟩, if_pos hq]
  · rw [if_neg (fun z => hq ⟨z.1, z.2.1⟩), if_neg hq]
theorem z_m_at {σ : m_H} {p k : Nat} {kd : Nat ⊕ Nat} {vs : List Value} {v : Value} (h : σ[p]? = some (kd, vs)) (hv : vs[k]? = some v) : z_m σ p k = z_vn v := by
  unfold z_m
  rw [c_at_eq h, hv]
theorem fits_tag {ty : FieldType} {v : Value} (h : fits ty v = true) : z_vt v = z_ft ty := by
  cases ty <;> cases v <;> first | rfl | (simp [fits] at h; done)
theorem z_in {σ : m_H} (hz : z_ok σ) {q : Nat} {kd : Nat ⊕ Nat} {vs : List Value} (h : σ[q]? = some (kd, vs)) : q < h_N ∧ h_kd q = kd ∧ vs.length = h_ln q ∧ ∀ (k : Nat) (v : Value), vs[k]? = some v → z_vt v = z_tt q k ∧ ((h_ty q k).1 = 1 → v = .ref (h_ty q k).2.1.toNat) := by
  have hl := (List.getElem?_eq_some_iff.mp h).1
  rw [hz.1] at hl
  obtain ⟨ws, w1, w2, w3⟩ := hz.2 q hl
  rw [h] at w1
  obtain ⟨rfl, rfl⟩ : kd = h_kd q ∧ vs = ws := by
    have := Option.some.inj w1
    exact ⟨congrArg Prod.fst this, congrArg Prod.snd this⟩
  exact ⟨hl, rfl, w2, w3⟩
theorem z_ok_set {σ : m_H} (hz : z_ok σ) {p k : Nat} {kd : Nat ⊕ Nat} {vs : List Value} {v : Value} (h : σ[p]? = some (kd, vs)) (ht : z_vt v = z_tt p k) (hc : ¬ (h_ty p k).1 = 1) : z_ok (σ.set p (kd, vs.set k v)) := by
  obtain ⟨a1, a2, a3, a4⟩ := z_in hz h
  refine ⟨by rw [List.length_set]; exact hz.1, fun p' hp' => ?_⟩
  by_cases hp : p' = p
  · subst hp
    have hl := (List.getElem?_eq_some_iff.mp h).1
    refine ⟨vs.set k v, by rw [a2]; exact List.getElem?_set_self hl, by rw [List.length_set]; exact a3, fun k' u hu => ?_⟩
    by_cases hk : k = k'
    · subst hk
      have hlt := (List.getElem?_eq_some_iff.mp hu).1
      rw [List.getElem?_set_self (by simpa using hlt)] at hu
      cases hu
      exact ⟨ht, fun z => absurd z hc⟩
    · rw [List.getElem?_set_ne hk] at hu
      exact a4 k' u hu
  · obtain ⟨ws, w1, w2, w3⟩ := hz.2 p' hp'
    exact ⟨ws, by rw [List.getElem?_set_ne (Ne.symm hp)]; exact w1, w2, w3⟩
/-- places that never change: final fields, and rows of places -/
noncomputable def z_cstc : Bool := (List.range h_N).all fun p => match h_at p with
  | (.inl t, _, ts) => bif Nat.beq t 5 then true else ts.all fun y => !(Nat.beq y.1 1)
  | (.inr ci, n, ts) => Nat.beq ts.length n && (match vwCl[ci]? with
    | some r => (List.range ts.length).all fun k => match ts[k]? with
      | some y => !(Nat.beq y.1 1) || (r.2.1 k).2.2.2
      | none => false
    | none => false)
set_option maxRecDepth 100000 in
theorem z_cst : z_cstc = true := by decide +kernel
theorem z_cstA {q t : Nat} (hq : q < h_N) (h : h_kd q = .inl t) (ht : ¬ t = 5) (k : Nat) : ¬ (h_ty q k).1 = 1 := by
  have hc := List.all_eq_true.mp z_cst q (List.mem_range.mpr hq)
  unfold h_kd at h
  unfold h_ty t_at
  generalize h_at q = c at h hc ⊢
  obtain ⟨kd, n, ts⟩ := c
  simp only at h
  subst h
  simp only at hc ⊢
  have h5 : Nat.beq t 5 = false := by
    cases hb : Nat.beq t 5
    · rfl
    · exact absurd (Nat.eq_of_beq_eq_true hb) ht
  rw [h5] at hc
  split
  · rename_i y hy
    have := List.all_eq_true.mp hc y (List.mem_of_getElem? hy)
    intro z
    rw [z] at this
    cases this
  · intro z; cases z
theorem z_cstO {q ci : Nat} {r : vw_C} (hq : q < h_N) (h : h_kd q = .inr ci) (hr : vwCl[ci]? = some r) {k : Nat} (hk : k < h_ln q) (hf : (r.2.1 k).2.2.2 = false) : ¬ (h_ty q k).1 = 1 := by
  have hc := List.all_eq_true.mp z_cst q (List.mem_range.mpr hq)
  unfold h_kd at h
  unfold h_ln at hk
  unfold h_ty t_at
  generalize h_at q = c at h hc hk ⊢
  obtain ⟨kd, n, ts⟩ := c
  simp only at h hk
  subst h
  simp only at hc ⊢
  obtain ⟨c1, c2⟩ := Bool.and_eq_true _ _ |>.mp hc
  have c1 := Nat.eq_of_beq_eq_true c1
  rw [hr] at c2
  simp only at c2
  have hkl : k < ts.length := by omega
  have e := List.all_eq_true.mp c2 k (List.mem_range.mpr hkl)
  rw [Nat.mod_eq_of_lt hkl]
  split
  · rename_i y hy
    rw [hy] at e
    simp only at e
    rw [hf] at e
    intro z
    rw [z] at e
    cases e
  · intro z; cases z
theorem z_ix_ok {i : Int32} {n : Nat} (h : vp_in i n) : z_ix i.toInt n = true ∧ i.toNatClampNeg = i.toInt.toNat ∧ i.toInt.toNat < n := by
  have h1 : ¬ i < 0 := fun z => h (Or.inl z)
  have h2 := m_vp_lt h
  have e : i.toNatClampNeg = i.toInt.toNat := rfl
  have h3 : ¬ i.toInt < 0 := fun z => h1 (Int32.lt_iff_toInt_lt.mpr z)
  refine ⟨?_, e, by omega⟩
  unfold z_ix
  rw [decide_eq_true (show (0 : Int) ≤ i.toInt by omega), decide_eq_true (show i.toInt < (n : Int) by omega)]; rfl
theorem z_rf (q : Nat) : ((q : Int)).toNat = q := Int.toNat_natCast q
theorem z_blt {q n : Nat} (h : q < n) : Nat.blt q n = true := Nat.ble_eq_true_of_le h
theorem z_ln_lt {q : Nat} (h : q < h_N) : z_ln q = h_ln q := by unfold z_ln; rw [z_blt h]; rfl
theorem z_rd_lt {m : z_M} {q k : Nat} (h : q < h_N) : z_rd m q k = m q k := by unfold z_rd; rw [z_blt h]; rfl
theorem z_pi {m : z_M} {pc : Nat} {ls : z_L} {t : Nat} {a b : Int} {st : List z_V} (h : a = b) : (some (m, pc, ls, (t, a) :: st) : Option z_G) = some (m, pc, ls, (t, b) :: st) := by rw [h]
theorem z_gf_ok {σ : m_H} {q ci k : Nat} {fs : List Value} {v : Value} (hz : z_ok σ) (hσ : σ[q]? = some (.inr ci, fs)) (hv : fs[k]? = some v) : z_gf (z_m σ) q ci k = z_v v := by
  obtain ⟨a1, a2, a3, a4⟩ := z_in hz hσ
  obtain ⟨b1, b2⟩ := a4 k v hv
  unfold z_gf
  cases hb : Nat.beq (h_ty q k).1 1
  · simp only [cond_false]
    rw [z_m_at hσ hv]
    unfold z_tt at b1
    rw [a2] at b1
    simp only at b1
    rw [← b1]; rfl
  · simp only [cond_true]
    rw [b2 (Nat.eq_of_beq_eq_true hb)]; rfl
theorem z_ga_ok {σ : m_H} {q k r : Nat} {vs : List Value} (hz : z_ok σ) (hσ : σ[q]? = some (.inl 5, vs)) (hv : vs[k]? = some (.ref r)) : z_ga (z_m σ) q k = (2, (r : Int)) := by
  obtain ⟨a1, a2, a3, a4⟩ := z_in hz hσ
  obtain ⟨b1, b2⟩ := a4 k _ hv
  unfold z_ga
  cases hb : Nat.beq (h_ty q k).1 1
  · simp only [cond_false]
    rw [z_m_at hσ hv]; rfl
  · simp only [cond_true]
    have := b2 (Nat.eq_of_beq_eq_true hb)
    cases this; rfl
theorem z_ok_put {σ : m_H} {q ci k : Nat} {r : vw_C} {fs : List Value} {v : Value} (hz : z_ok σ) (hσ : σ[q]? = some (.inr ci, fs)) (hc : vwCl[ci]? = some r) (hf : (r.2.1 k).2.2.2 = false) (hfit : fits (a_ty ci k) v = true) (hl : k < fs.length) : z_ok (σ.set q (.inr ci, fs.set k v)) := by
  obtain ⟨a1, a2, a3, a4⟩ := z_in hz hσ
  refine z_ok_set hz hσ ?_ (z_cstO a1 a2 hc (by omega) hf)
  unfold z_tt
  rw [a2]
  exact fits_tag hfit
theorem z_ok_ast {σ : m_H} {q t k : Nat} {vs : List Value} {v : Value} (hz : z_ok σ) (hσ : σ[q]? = some (.inl t, vs)) (ht : ¬ t = 5) (h6 : t < 5) (hv : z_vt v = if t = 4 then 1 else if t = 5 then 2 else 0) : z_ok (σ.set q (.inl t, vs.set k v)) := by
  obtain ⟨a1, a2, a3, a4⟩ := z_in hz hσ
  refine z_ok_set hz hσ ?_ (z_cstA a1 a2 ht k)
  unfold z_tt
  rw [a2]
  exact hv
/-- the machine comes to QQ from every frame that this small frame is a picture of, and Z tells of the small frame what the machine ends with -/
noncomputable def mW (K : List (List a_K)) (Z : z_G → z_Q → Prop) (p : Program) (l : Launch) (e : Env) (R : Room) (s : State) (m : MethodId) (args : Array Value) (below : List Frame) (meth : Method) (c : Code) (QQ : z_Q → State → Prop) (dC : Nat → ClassId) (dI : Nat → Nat → Nat) (aC : Nat → ClassId) (A : Nat → Prop) (n0 : Nat) (ad0 xa : Nat → Nat) (nL : Nat) (g : m_G) : Prop :=
  z_cl K Z → z_ok g.1 → ∀ zl : z_L, z_lr nL zl g.2.2.2.2.1 → mV p l e R s m args below meth c (fun t => ∃ r, Z (z_g zl g) r ∧ QQ r t) dC dI aC A n0 ad0 xa nL g
section ZR
variable {p : Program} {l : Launch} {e : Env} {R : Room} {s : State} {m : MethodId} {args : Array Value} {below : List Frame} {meth : Method} {c : Code} {QQ : z_Q → State → Prop} {dC : Nat → ClassId} {dI : Nat → Nat → Nat} {aC : Nat → ClassId} {A : Nat → Prop} {n0 : Nat} {ad0 xa : Nat → Nat} {nL : Nat} {cc : ByteArray} {own : String} {X : Nat → Option (List Int32)} {Y : (Nat → Prop) → State → Heap → Prop}
variable {K : List (List a_K)} {Z : z_G → z_Q → Prop} {aux : List Nat}
variable {σ : m_H} {ce sl pc : Nat} {ls : List (Nat × Value)} {st : List Value}
theorem w_st {i : Jvm.ClassFile.Instr} {n : Nat} {zl zl' : z_L} (hcl : z_cl K Z) (hd : z_dx K cc pc i n aux) (hk : z_kd i aux = 0) {g' : m_G} (hs : ∀ fl, z_step (pc, i, n, fl, aux) (z_m σ, pc, zl, z_s st) = some (z_g zl' g')) (k : mV p l e R s m args below meth c (fun t => ∃ r, Z (z_g zl' g') r ∧ QQ r t) dC dI aC A n0 ad0 xa nL g') : mV p l e R s m args below meth c (fun t => ∃ r, Z (z_m σ, pc, zl, z_s st) r ∧ QQ r t) dC dI aC A n0 ad0 xa nL g' := by
  obtain ⟨fl, hq⟩ := hd.2
  exact mV_mono (fun t ⟨r, r1, r2⟩ => ⟨r, hcl.1 (pc, i, n, fl, aux) (z_m σ, pc, zl, z_s st) _ hq hk (hs fl) r r1, r2⟩) k
theorem mW_iconst (hC : m_Ctx p s m args meth c cc nL own dC dI aC A xa X Y) {n : Int} (hd : z_dx K cc pc (.iconst n) 1 aux)  (k : mW K Z p l e R s m args below meth c QQ dC dI aC A n0 ad0 xa nL (σ, ce, sl, pc + 1, ls, .int (Int32.ofInt n) :: st)) : mW K Z p l e R s m args below meth c QQ dC dI aC A n0 ad0 xa nL (σ, ce, sl, pc, ls, st) := fun hcl hz zl hl => mV_iconst hC hd.1  (w_st hcl hd rfl (fun _ => rfl) (k hcl hz zl hl))
theorem mW_bipush (hC : m_Ctx p s m args meth c cc nL own dC dI aC A xa X Y) {n : Int} (hd : z_dx K cc pc (.bipush n) 2 aux)  (k : mW K Z p l e R s m args below meth c QQ dC dI aC A n0 ad0 xa nL (σ, ce, sl, pc + 2, ls, .int (Int8.ofInt n).toInt32 :: st)) : mW K Z p l e R s m args below meth c QQ dC dI aC A n0 ad0 xa nL (σ, ce, sl, pc, ls, st) := fun hcl hz zl hl => mV_bipush hC hd.1  (w_st hcl hd rfl (fun _ => rfl) (k hcl hz zl hl))
theorem mW_sipush (hC : m_Ctx p s m args meth c cc nL own dC dI aC A xa X Y) {n : Int} (hd : z_dx K cc pc (.sipush n) 3 aux)  (k : mW K Z p l e R s m args below meth c QQ dC dI aC A n0 ad0 xa nL (σ, ce, sl, pc + 3, ls, .int (Int16.ofInt n).toInt32 :: st)) : mW K Z p l e R s m args below meth c QQ dC dI aC A n0 ad0 xa nL (σ, ce, sl, pc, ls, st) := fun hcl hz zl hl => mV_sipush hC hd.1  (w_st hcl hd rfl (fun _ => rfl) (k hcl hz zl hl))
theorem mW_lconst (hC : m_Ctx p s m args meth c cc nL own dC dI aC A xa X Y) {n : Fin 2} (hd : z_dx K cc pc (.lconst n) 1 aux)  (k : mW K Z p l e R s m args below meth c QQ dC dI aC A n0 ad0 xa nL (σ, ce, sl, pc + 1, ls, .long (Int64.ofNat (n : Nat)) :: st)) : mW K Z p l e R s m args below meth c QQ dC dI aC A n0 ad0 xa nL (σ, ce, sl, pc, ls, st) := fun hcl hz zl hl => mV_lconst hC hd.1  (w_st hcl hd rfl (fun _ => rfl) (k hcl hz zl hl))
theorem mW_ldc (hC : m_Ctx p s m args meth c cc nL own dC dI aC A xa X Y) {i v : Nat} (hd : z_dx K cc pc (.ldc i) 2 [v]) (hw : Cond.constant own i (Int32.ofInt ((v : Int) - 2147483648)) ∈ a_tb) (k : mW K Z p l e R s m args below meth c QQ dC dI aC A n0 ad0 xa nL (σ, ce, sl, pc + 2, ls, .int (Int32.ofInt ((v : Int) - 2147483648)) :: st)) : mW K Z p l e R s m args below meth c QQ dC dI aC A n0 ad0 xa nL (σ, ce, sl, pc, ls, st) := fun hcl hz zl hl => mV_ldc hC hd.1 hw (w_st hcl hd rfl (fun _ => rfl) (k hcl hz zl hl))
theorem mW_ldcw (hC : m_Ctx p s m args meth c cc nL own dC dI aC A xa X Y) {i v : Nat} (hd : z_dx K cc pc (.ldc_w i) 3 [v]) (hw : Cond.constant own i (Int32.ofInt ((v : Int) - 2147483648)) ∈ a_tb) (k : mW K Z p l e R s m args below meth c QQ dC dI aC A n0 ad0 xa nL (σ, ce, sl, pc + 3, ls, .int (Int32.ofInt ((v : Int) - 2147483648)) :: st)) : mW K Z p l e R s m args below meth c QQ dC dI aC A n0 ad0 xa nL (σ, ce, sl, pc, ls, st) := fun hcl hz zl hl => mV_ldcw hC hd.1 hw (w_st hcl hd rfl (fun _ => rfl) (k hcl hz zl hl))
theorem mW_ldc2 (hC : m_Ctx p s m args meth c cc nL own dC dI aC A xa X Y) {i v : Nat} (hd : z_dx K cc pc (.ldc2_w i) 3 [v]) (hw : Cond.constantLong own i (Int64.ofInt ((v : Int) - 9223372036854775808)) ∈ a_tb) (k : mW K Z p l e R s m args below meth c QQ dC dI aC A n0 ad0 xa nL (σ, ce, sl, pc + 3, ls, .long (Int64.ofInt ((v : Int) - 9223372036854775808)) :: st)) : mW K Z p l e R s m args below meth c QQ dC dI aC A n0 ad0 xa nL (σ, ce, sl, pc, ls, st) := fun hcl hz zl hl => mV_ldc2 hC hd.1 hw (w_st hcl hd rfl (fun _ => rfl) (k hcl hz zl hl))
theorem mW_iadd (hC : m_Ctx p s m args meth c cc nL own dC dI aC A xa X Y) {x y : Int32} (hd : z_dx K cc pc (.iadd) 1 aux)  (k : mW K Z p l e R s m args below meth c QQ dC dI aC A n0 ad0 xa nL (σ, ce, sl, pc + 1, ls, .int (x + y) :: st)) : mW K Z p l e R s m args below meth c QQ dC dI aC A n0 ad0 xa nL (σ, ce, sl, pc, ls, .int y :: .int x :: st) := fun hcl hz zl hl => mV_iadd hC hd.1  (w_st hcl hd rfl (fun _ => z_pi (z_add_ok x y)) (k hcl hz zl hl))
theorem mW_isub (hC : m_Ctx p s m args meth c cc nL own dC dI aC A xa X Y) {x y : Int32} (hd : z_dx K cc pc (.isub) 1 aux)  (k : mW K Z p l e R s m args below meth c QQ dC dI aC A n0 ad0 xa nL (σ, ce, sl, pc + 1, ls, .int (x - y) :: st)) : mW K Z p l e R s m args below meth c QQ dC dI aC A n0 ad0 xa nL (σ, ce, sl, pc, ls, .int y :: .int x :: st) := fun hcl hz zl hl => mV_isub hC hd.1  (w_st hcl hd rfl (fun _ => z_pi (z_sub_ok x y)) (k hcl hz zl hl))
theorem mW_imul (hC : m_Ctx p s m args meth c cc nL own dC dI aC A xa X Y) {x y : Int32} (hd : z_dx K cc pc (.imul) 1 aux)  (k : mW K Z p l e R s m args below meth c QQ dC dI aC A n0 ad0 xa nL (σ, ce, sl, pc + 1, ls, .int (x * y) :: st)) : mW K Z p l e R s m args below meth c QQ dC dI aC A n0 ad0 xa nL (σ, ce, sl, pc, ls, .int y :: .int x :: st) := fun hcl hz zl hl => mV_imul hC hd.1  (w_st hcl hd rfl (fun _ => z_pi (z_mul_ok x y)) (k hcl hz zl hl))
theorem mW_iand (hC : m_Ctx p s m args meth c cc nL own dC dI aC A xa X Y) {x y : Int32} (hd : z_dx K cc pc (.iand) 1 aux)  (k : mW K Z p l e R s m args below meth c QQ dC dI aC A n0 ad0 xa nL (σ, ce, sl, pc + 1, ls, .int (x &&& y) :: st)) : mW K Z p l e R s m args below meth c QQ dC dI aC A n0 ad0 xa nL (σ, ce, sl, pc, ls, .int y :: .int x :: st) := fun hcl hz zl hl => mV_iand hC hd.1  (w_st hcl hd rfl (fun _ => z_pi (z_and_ok x y)) (k hcl hz zl hl))
theorem mW_ior (hC : m_Ctx p s m args meth c cc nL own dC dI aC A xa X Y) {x y : Int32} (hd : z_dx K cc pc (.ior) 1 aux)  (k : mW K Z p l e R s m args below meth c QQ dC dI aC A n0 ad0 xa nL (σ, ce, sl, pc + 1, ls, .int (x ||| y) :: st)) : mW K Z p l e R s m args below meth c QQ dC dI aC A n0 ad0 xa nL (σ, ce, sl, pc, ls, .int y :: .int x :: st) := fun hcl hz zl hl => mV_ior hC hd.1  (w_st hcl hd rfl (fun _ => z_pi (z_or_ok x y)) (k hcl hz zl hl))
theorem mW_ixor (hC : m_Ctx p s m args meth c cc nL own dC dI aC A xa X Y) {x y : Int32} (hd : z_dx K cc pc (.ixor) 1 aux)  (k : mW K Z p l e R s m args below meth c QQ dC dI aC A n0 ad0 xa nL (σ, ce, sl, pc + 1, ls, .int (x ^^^ y) :: st)) : mW K Z p l e R s m args below meth c QQ dC dI aC A n0 ad0 xa nL (σ, ce, sl, pc, ls, .int y :: .int x :: st) := fun hcl hz zl hl => mV_ixor hC hd.1  (w_st hcl hd rfl (fun _ => z_pi (z_xor_ok x y)) (k hcl hz zl hl))
theorem mW_ishl (hC : m_Ctx p s m args meth c cc nL own dC dI aC A xa X Y) {x y : Int32} (hd : z_dx K cc pc (.ishl) 1 aux)  (k : mW K Z p l e R s m args below meth c QQ dC dI aC A n0 ad0 xa nL (σ, ce, sl, pc + 1, ls, .int (x <<< (y &&& 31)) :: st)) : mW K Z p l e R s m args below meth c QQ dC dI aC A n0 ad0 xa nL (σ, ce, sl, pc, ls, .int y :: .int x :: st) := fun hcl hz zl hl => mV_ishl hC hd.1  (w_st hcl hd rfl (fun _ => z_pi (z_shl_ok x y)) (k hcl hz zl hl))
theorem mW_ishr (hC : m_Ctx p s m args meth c cc nL own dC dI aC A xa X Y) {x y : Int32} (hd : z_dx K cc pc (.ishr) 1 aux)  (k : mW K Z p l e R s m args below meth c QQ dC dI aC A n0 ad0 xa nL (σ, ce, sl, pc + 1, ls, .int (x >>> (y &&& 31)) :: st)) : mW K Z p l e R s m args below meth c QQ dC dI aC A n0 ad0 xa nL (σ, ce, sl, pc, ls, .int y :: .int x :: st) := fun hcl hz zl hl => mV_ishr hC hd.1  (w_st hcl hd rfl (fun _ => z_pi (z_shr_ok x y)) (k hcl hz zl hl))
theorem mW_idiv (hC : m_Ctx p s m args meth c cc nL own dC dI aC A xa X Y) {x y : Int32} (hd : z_dx K cc pc (.idiv) 1 aux) (hne : ¬ y = 0) (k : mW K Z p l e R s m args below meth c QQ dC dI aC A n0 ad0 xa nL (σ, ce, sl, pc + 1, ls, .int (x / y) :: st)) : mW K Z p l e R s m args below meth c QQ dC dI aC A n0 ad0 xa nL (σ, ce, sl, pc, ls, .int y :: .int x :: st) := fun hcl hz zl hl => mV_idiv hC hd.1 hne (w_st hcl hd rfl (fun _ => (if_neg (fun z => hne (i32_z0 z))).trans (z_pi (z_div_ok x y))) (k hcl hz zl hl))
theorem mW_irem (hC : m_Ctx p s m args meth c cc nL own dC dI aC A xa X Y) {x y : Int32} (hd : z_dx K cc pc (.irem) 1 aux) (hne : ¬ y = 0) (k : mW K Z p l e R s m args below meth c QQ dC dI aC A n0 ad0 xa nL (σ, ce, sl, pc + 1, ls, .int (x - x / y * y) :: st)) : mW K Z p l e R s m args below meth c QQ dC dI aC A n0 ad0 xa nL (σ, ce, sl, pc, ls, .int y :: .int x :: st) := fun hcl hz zl hl => mV_irem hC hd.1 hne (w_st hcl hd rfl (fun _ => (if_neg (fun z => hne (i32_z0 z))).trans (z_pi (z_rem_ok x y))) (k hcl hz zl hl))
theorem mW_ineg (hC : m_Ctx p s m args meth c cc nL own dC dI aC A xa X Y) {x : Int32} (hd : z_dx K cc pc (.ineg) 1 aux)  (k : mW K Z p l e R s m args below meth c QQ dC dI aC A n0 ad0 xa nL (σ, ce, sl, pc + 1, ls, .int (-x) :: st)) : mW K Z p l e R s m args below meth c QQ dC dI aC A n0 ad0 xa nL (σ, ce, sl, pc, ls, .int x :: st) := fun hcl hz zl hl => mV_ineg hC hd.1  (w_st hcl hd rfl (fun _ => z_pi (z_neg_ok x)) (k hcl hz zl hl))
theorem mW_i2b (hC : m_Ctx p s m args meth c cc nL own dC dI aC A xa X Y) {x : Int32} (hd : z_dx K cc pc (.i2b) 1 aux)  (k : mW K Z p l e R s m args below meth c QQ dC dI aC A n0 ad0 xa nL (σ, ce, sl, pc + 1, ls, .int x.toInt8.toInt32 :: st)) : mW K Z p l e R s m args below meth c QQ dC dI aC A n0 ad0 xa nL (σ, ce, sl, pc, ls, .int x :: st) := fun hcl hz zl hl => mV_i2b hC hd.1  (w_st hcl hd rfl (fun _ => z_pi (z_i2b_ok x)) (k hcl hz zl hl))
theorem mW_i2s (hC : m_Ctx p s m args meth c cc nL own dC dI aC A xa X Y) {x : Int32} (hd : z_dx K cc pc (.i2s) 1 aux)  (k : mW K Z p l e R s m args below meth c QQ dC dI aC A n0 ad0 xa nL (σ, ce, sl, pc + 1, ls, .int x.toInt16.toInt32 :: st)) : mW K Z p l e R s m args below meth c QQ dC dI aC A n0 ad0 xa nL (σ, ce, sl, pc, ls, .int x :: st) := fun hcl hz zl hl => mV_i2s hC hd.1  (w_st hcl hd rfl (fun _ => z_pi (z_i2s_ok x)) (k hcl hz zl hl))
theorem mW_i2c (hC : m_Ctx p s m args meth c cc nL own dC dI aC A xa X Y) {x : Int32} (hd : z_dx K cc pc (.i2c) 1 aux)  (k : mW K Z p l e R s m args below meth c QQ dC dI aC A n0 ad0 xa nL (σ, ce, sl, pc + 1, ls, .int (x.toUInt32 % 65536).toInt32 :: st)) : mW K Z p l e R s m args below meth c QQ dC dI aC A n0 ad0 xa nL (σ, ce, sl, pc, ls, .int x :: st) := fun hcl hz zl hl => mV_i2c hC hd.1  (w_st hcl hd rfl (fun _ => z_pi (z_i2c_ok x)) (k hcl hz zl hl))
theorem mW_i2l (hC : m_Ctx p s m args meth c cc nL own dC dI aC A xa X Y) {x : Int32} (hd : z_dx K cc pc (.i2l) 1 aux)  (k : mW K Z p l e R s m args below meth c QQ dC dI aC A n0 ad0 xa nL (σ, ce, sl, pc + 1, ls, .long x.toInt64 :: st)) : mW K Z p l e R s m args below meth c QQ dC dI aC A n0 ad0 xa nL (σ, ce, sl, pc, ls, .int x :: st) := fun hcl hz zl hl => mV_i2l hC hd.1  (w_st hcl hd rfl (fun _ => z_pi (z_i2l_ok x)) (k hcl hz zl hl))
theorem mW_iushr (hC : m_Ctx p s m args meth c cc nL own dC dI aC A xa X Y) {x y : Int32} (hd : z_dx K cc pc (.iushr) 1 aux)  (k : mW K Z p l e R s m args below meth c QQ dC dI aC A n0 ad0 xa nL (σ, ce, sl, pc + 1, ls, .int (x.toUInt32 >>> (y.toUInt32 &&& Int32.toUInt32 31)).toInt32 :: st)) : mW K Z p l e R s m args below meth c QQ dC dI aC A n0 ad0 xa nL (σ, ce, sl, pc, ls, .int y :: .int x :: st) := fun hcl hz zl hl => mV_iushr hC hd.1  (w_st hcl hd rfl (fun _ => z_pi (z_ush_ok x y)) (k hcl hz zl hl))
theorem mW_ladd (hC : m_Ctx p s m args meth c cc nL own dC dI aC A xa X Y) {x y : Int64} (hd : z_dx K cc pc (.ladd) 1 aux)  (k : mW K Z p l e R s m args below meth c QQ dC dI aC A n0 ad0 xa nL (σ, ce, sl, pc + 1, ls, .long (x + y) :: st)) : mW K Z p l e R s m args below meth c QQ dC dI aC A n0 ad0 xa nL (σ, ce, sl, pc, ls, .long y :: .long x :: st) := fun hcl hz zl hl => mV_ladd hC hd.1  (w_st hcl hd rfl (fun _ => z_pi (z_ladd_ok x y)) (k hcl hz zl hl))
theorem mW_lsub (hC : m_Ctx p s m args meth c cc nL own dC dI aC A xa X Y) {x y : Int64} (hd : z_dx K cc pc (.lsub) 1 aux)  (k : mW K Z p l e R s m args below meth c QQ dC dI aC A n0 ad0 xa nL (σ, ce, sl, pc + 1, ls, .long (x - y) :: st)) : mW K Z p l e R s m args below meth c QQ dC dI aC A n0 ad0 xa nL (σ, ce, sl, pc, ls, .long y :: .long x :: st) := fun hcl hz zl hl => mV_lsub hC hd.1  (w_st hcl hd rfl (fun _ => z_pi (z_lsub_ok x y)) (k hcl hz zl hl))
theorem mW_lmul (hC : m_Ctx p s m args meth c cc nL own dC dI aC A xa X Y) {x y : Int64} (hd : z_dx K cc pc (.lmul) 1 aux)  (k : mW K Z p l e R s m args below meth c QQ dC dI aC A n0 ad0 xa nL (σ, ce, sl, pc + 1, ls, .long (x * y) :: st)) : mW K Z p l e R s m args below meth c QQ dC dI aC A n0 ad0 xa nL (σ, ce, sl, pc, ls, .long y :: .long x :: st) := fun hcl hz zl hl => mV_lmul hC hd.1  (w_st hcl hd rfl (fun _ => z_pi (z_lmul_ok x y)) (k hcl hz zl hl))
theorem mW_land (hC : m_Ctx p s m args meth c cc nL own dC dI aC A xa X Y) {x y : Int64} (hd : z_dx K cc pc (.land) 1 aux)  (k : mW K Z p l e R s m args below meth c QQ dC dI aC A n0 ad0 xa nL (σ, ce, sl, pc + 1, ls, .long (x &&& y) :: st)) : mW K Z p l e R s m args below meth c QQ dC dI aC A n0 ad0 xa nL (σ, ce, sl, pc, ls, .long y :: .long x :: st) := fun hcl hz zl hl => mV_land hC hd.1  (w_st hcl hd rfl (fun _ => z_pi (z_land_ok x y)) (k hcl hz zl hl))
theorem mW_lor (hC : m_Ctx p s m args meth c cc nL own dC dI aC A xa X Y) {x y : Int64} (hd : z_dx K cc pc (.lor) 1 aux)  (k : mW K Z p l e R s m args below meth c QQ dC dI aC A n0 ad0 xa nL (σ, ce, sl, pc + 1, ls, .long (x ||| y) :: st)) : mW K Z p l e R s m args below meth c QQ dC dI aC A n0 ad0 xa nL (σ, ce, sl, pc, ls, .long y :: .long x :: st) := fun hcl hz zl hl => mV_lor hC hd.1  (w_st hcl hd rfl (fun _ => z_pi (z_lor_ok x y)) (k hcl hz zl hl))
theorem mW_ldiv (hC : m_Ctx p s m args meth c cc nL own dC dI aC A xa X Y) {x y : Int64} (hd : z_dx K cc pc (.ldiv) 1 aux) (hne : ¬ y = 0) (k : mW K Z p l e R s m args below meth c QQ dC dI aC A n0 ad0 xa nL (σ, ce, sl, pc + 1, ls, .long (x / y) :: st)) : mW K Z p l e R s m args below meth c QQ dC dI aC A n0 ad0 xa nL (σ, ce, sl, pc, ls, .long y :: .long x :: st) := fun hcl hz zl hl => mV_ldiv hC hd.1 hne (w_st hcl hd rfl (fun _ => (if_neg (fun z => hne (i64_z0 z))).trans (z_pi (z_ldiv_ok x y))) (k hcl hz zl hl))
theorem mW_lrem (hC : m_Ctx p s m args meth c cc nL own dC dI aC A xa X Y) {x y : Int64} (hd : z_dx K cc pc (.lrem) 1 aux) (hne : ¬ y = 0) (k : mW K Z p l e R s m args below meth c QQ dC dI aC A n0 ad0 xa nL (σ, ce, sl, pc + 1, ls, .long (x - x / y * y) :: st)) : mW K Z p l e R s m args below meth c QQ dC dI aC A n0 ad0 xa nL (σ, ce, sl, pc, ls, .long y :: .long x :: st) := fun hcl hz zl hl => mV_lrem hC hd.1 hne (w_st hcl hd rfl (fun _ => (if_neg (fun z => hne (i64_z0 z))).trans (z_pi (z_lrem_ok x y))) (k hcl hz zl hl))
theorem mW_lshl (hC : m_Ctx p s m args meth c cc nL own dC dI aC A xa X Y) {x : Int64} {y : Int32} (hd : z_dx K cc pc (.lshl) 1 aux)  (k : mW K Z p l e R s m args below meth c QQ dC dI aC A n0 ad0 xa nL (σ, ce, sl, pc + 1, ls, .long (x <<< (y.toInt64 &&& 63)) :: st)) : mW K Z p l e R s m args below meth c QQ dC dI aC A n0 ad0 xa nL (σ, ce, sl, pc, ls, .int y :: .long x :: st) := fun hcl hz zl hl => mV_lshl hC hd.1  (w_st hcl hd rfl (fun _ => z_pi (z_lshl_ok x y)) (k hcl hz zl hl))
theorem mW_lushr (hC : m_Ctx p s m args meth c cc nL own dC dI aC A xa X Y) {x : Int64} {y : Int32} (hd : z_dx K cc pc (.lushr) 1 aux)  (k : mW K Z p l e R s m args below meth c QQ dC dI aC A n0 ad0 xa nL (σ, ce, sl, pc + 1, ls, .long (x.toUInt64 >>> (y.toInt64.toUInt64 &&& Int64.toUInt64 63)).toInt64 :: st)) : mW K Z p l e R s m args below meth c QQ dC dI aC A n0 ad0 xa nL (σ, ce, sl, pc, ls, .int y :: .long x :: st) := fun hcl hz zl hl => mV_lushr hC hd.1  (w_st hcl hd rfl (fun _ => z_pi (z_lush_ok x y)) (k hcl hz zl hl))
theorem mW_lcmp (hC : m_Ctx p s m args meth c cc nL own dC dI aC A xa X Y) {x y : Int64} (hd : z_dx K cc pc (.lcmp) 1 aux)  (k : mW K Z p l e R s m args below meth c QQ dC dI aC A n0 ad0 xa nL (σ, ce, sl, pc + 1, ls, .int (lg_cmp x y) :: st)) : mW K Z p l e R s m args below meth c QQ dC dI aC A n0 ad0 xa nL (σ, ce, sl, pc, ls, .long y :: .long x :: st) := fun hcl hz zl hl => mV_lcmp hC hd.1  (w_st hcl hd rfl (fun _ => z_pi (z_lcmp_ok x y)) (k hcl hz zl hl))
theorem mW_l2i (hC : m_Ctx p s m args meth c cc nL own dC dI aC A xa X Y) {x : Int64} (hd : z_dx K cc pc (.l2i) 1 aux)  (k : mW K Z p l e R s m args below meth c QQ dC dI aC A n0 ad0 xa nL (σ, ce, sl, pc + 1, ls, .int x.toInt32 :: st)) : mW K Z p l e R s m args below meth c QQ dC dI aC A n0 ad0 xa nL (σ, ce, sl, pc, ls, .long x :: st) := fun hcl hz zl hl => mV_l2i hC hd.1  (w_st hcl hd rfl (fun _ => z_pi (z_l2i_ok x)) (k hcl hz zl hl))
theorem mW_dup (hC : m_Ctx p s m args meth c cc nL own dC dI aC A xa X Y) {a : Value} (hd : z_dx K cc pc (.dup) 1 aux) (ha : a.category = 1) (k : mW K Z p l e R s m args below meth c QQ dC dI aC A n0 ad0 xa nL (σ, ce, sl, pc + 1, ls, a :: a :: st)) : mW K Z p l e R s m args below meth c QQ dC dI aC A n0 ad0 xa nL (σ, ce, sl, pc, ls, a :: st) := fun hcl hz zl hl => mV_dup hC hd.1 ha (w_st hcl hd rfl (fun _ => rfl) (k hcl hz zl hl))
theorem mW_pop (hC : m_Ctx p s m args meth c cc nL own dC dI aC A xa X Y) {a : Value} (hd : z_dx K cc pc (.pop) 1 aux) (ha : a.category = 1) (k : mW K Z p l e R s m args below meth c QQ dC dI aC A n0 ad0 xa nL (σ, ce, sl, pc + 1, ls, st)) : mW K Z p l e R s m args below meth c QQ dC dI aC A n0 ad0 xa nL (σ, ce, sl, pc, ls, a :: st) := fun hcl hz zl hl => mV_pop hC hd.1 ha (w_st hcl hd rfl (fun _ => rfl) (k hcl hz zl hl))
theorem mW_dup_x1 (hC : m_Ctx p s m args meth c cc nL own dC dI aC A xa X Y) {a b : Value} (hd : z_dx K cc pc (.dup_x1) 1 aux) (ha : a.category = 1) (hb : b.category = 1) (k : mW K Z p l e R s m args below meth c QQ dC dI aC A n0 ad0 xa nL (σ, ce, sl, pc + 1, ls, a :: b :: a :: st)) : mW K Z p l e R s m args below meth c QQ dC dI aC A n0 ad0 xa nL (σ, ce, sl, pc, ls, a :: b :: st) := fun hcl hz zl hl => mV_dup_x1 hC hd.1 ha hb (w_st hcl hd rfl (fun _ => rfl) (k hcl hz zl hl))
theorem mW_dup2 (hC : m_Ctx p s m args meth c cc nL own dC dI aC A xa X Y) {a b : Value} (hd : z_dx K cc pc (.dup2) 1 aux) (ha : a.category = 1) (hb : b.category = 1) (k : mW K Z p l e R s m args below meth c QQ dC dI aC A n0 ad0 xa nL (σ, ce, sl, pc + 1, ls, a :: b :: a :: b :: st)) : mW K Z p l e R s m args below meth c QQ dC dI aC A n0 ad0 xa nL (σ, ce, sl, pc, ls, a :: b :: st) := fun hcl hz zl hl => mV_dup2 hC hd.1 ha hb (w_st hcl hd rfl (fun _ => (congrArg (fun z => bif z then some (z_m σ, pc + 1, zl, z_v a :: z_v a :: z_v b :: z_s st) else some (z_m σ, pc + 1, zl, z_v a :: z_v b :: z_v a :: z_v b :: z_s st)) (z_cat1 ha))) (k hcl hz zl hl))
theorem mW_dup2w (hC : m_Ctx p s m args meth c cc nL own dC dI aC A xa X Y) {a : Value} (hd : z_dx K cc pc (.dup2) 1 aux) (ha : a.category = 2) (k : mW K Z p l e R s m args below meth c QQ dC dI aC A n0 ad0 xa nL (σ, ce, sl, pc + 1, ls, a :: a :: st)) : mW K Z p l e R s m args below meth c QQ dC dI aC A n0 ad0 xa nL (σ, ce, sl, pc, ls, a :: st) := fun hcl hz zl hl => mV_dup2w hC hd.1 ha (w_st hcl hd rfl (fun _ => (congrArg (fun z => bif z then some (z_m σ, pc + 1, zl, z_v a :: z_v a :: z_s st) else (match z_s st with | b :: r => some (z_m σ, pc + 1, zl, z_v a :: b :: z_v a :: b :: r) | _ => none)) (z_cat2 ha))) (k hcl hz zl hl))
theorem mW_pop2w (hC : m_Ctx p s m args meth c cc nL own dC dI aC A xa X Y) {a : Value} (hd : z_dx K cc pc (.pop2) 1 aux) (ha : a.category = 2) (k : mW K Z p l e R s m args below meth c QQ dC dI aC A n0 ad0 xa nL (σ, ce, sl, pc + 1, ls, st)) : mW K Z p l e R s m args below meth c QQ dC dI aC A n0 ad0 xa nL (σ, ce, sl, pc, ls, a :: st) := fun hcl hz zl hl => mV_pop2w hC hd.1 ha (w_st hcl hd rfl (fun _ => rfl) (k hcl hz zl hl))
theorem mW_iload_n (hC : m_Ctx p s m args meth c cc nL own dC dI aC A xa X Y) {j : Fin 4} {x : Int32} (hd : z_dx K cc pc (.iload_n j) 1 aux) (hl : m_ld (j : Nat) ls = some (.int x)) (k : mW K Z p l e R s m args below meth c QQ dC dI aC A n0 ad0 xa nL (σ, ce, sl, pc + 1, ls, .int x :: st)) : mW K Z p l e R s m args below meth c QQ dC dI aC A n0 ad0 xa nL (σ, ce, sl, pc, ls, st) := fun hcl hz zl hzl => mV_iload_n hC hd.1 hl (w_st hcl hd rfl (fun _ => by
  have e := z_lr_ld hzl hl
  show (match zl[(j : Nat)]? with | some (_, x) => some (z_m σ, pc + 1, zl, (0, x) :: z_s st) | none => none) = _
  rw [e]; rfl) (k hcl hz zl hzl))
theorem mW_iload (hC : m_Ctx p s m args meth c cc nL own dC dI aC A xa X Y) {j : Nat} {x : Int32} (hd : z_dx K cc pc (.iload j) 2 aux) (hl : m_ld j ls = some (.int x)) (k : mW K Z p l e R s m args below meth c QQ dC dI aC A n0 ad0 xa nL (σ, ce, sl, pc + 2, ls, .int x :: st)) : mW K Z p l e R s m args below meth c QQ dC dI aC A n0 ad0 xa nL (σ, ce, sl, pc, ls, st) := fun hcl hz zl hzl => mV_iload hC hd.1 hl (w_st hcl hd rfl (fun _ => by
  have e := z_lr_ld hzl hl
  show (match zl[j]? with | some (_, x) => some (z_m σ, pc + 2, zl, (0, x) :: z_s st) | none => none) = _
  rw [e]; rfl) (k hcl hz zl hzl))
theorem mW_istore_n (hC : m_Ctx p s m args meth c cc nL own dC dI aC A xa X Y) {j : Fin 4} {x : Int32} (hd : z_dx K cc pc (.istore_n j) 1 aux) (hn : (j : Nat) < nL) (k : mW K Z p l e R s m args below meth c QQ dC dI aC A n0 ad0 xa nL (σ, ce, sl, pc + 1, (m_st1 (j : Nat) (.int x) ls), st)) : mW K Z p l e R s m args below meth c QQ dC dI aC A n0 ad0 xa nL (σ, ce, sl, pc, ls, .int x :: st) := fun hcl hz zl hl => mV_istore_n hC hd.1 hn (w_st (zl' := zl.set (j : Nat) (z_v (.int x))) hcl hd rfl (fun _ => rfl) (k hcl hz _ (z_lr_st1 hl (show (j : Nat) < nL by omega))))
theorem mW_istore (hC : m_Ctx p s m args meth c cc nL own dC dI aC A xa X Y) {j : Nat} {x : Int32} (hd : z_dx K cc pc (.istore j) 2 aux) (hn : j < nL) (k : mW K Z p l e R s m args below meth c QQ dC dI aC A n0 ad0 xa nL (σ, ce, sl, pc + 2, (m_st1 j (.int x) ls), st)) : mW K Z p l e R s m args below meth c QQ dC dI aC A n0 ad0 xa nL (σ, ce, sl, pc, ls, .int x :: st) := fun hcl hz zl hl => mV_istore hC hd.1 hn (w_st (zl' := zl.set j (z_v (.int x))) hcl hd rfl (fun _ => rfl) (k hcl hz _ (z_lr_st1 hl (show j < nL by omega))))
theorem mW_lload_n (hC : m_Ctx p s m args meth c cc nL own dC dI aC A xa X Y) {j : Fin 4} {x : Int64} (hd : z_dx K cc pc (.lload_n j) 1 aux) (hl : m_ld (j : Nat) ls = some (.long x)) (k : mW K Z p l e R s m args below meth c QQ dC dI aC A n0 ad0 xa nL (σ, ce, sl, pc + 1, ls, .long x :: st)) : mW K Z p l e R s m args below meth c QQ dC dI aC A n0 ad0 xa nL (σ, ce, sl, pc, ls, st) := fun hcl hz zl hzl => mV_lload_n hC hd.1 hl (w_st hcl hd rfl (fun _ => by
  have e := z_lr_ld hzl hl
  show (match zl[(j : Nat)]? with | some (_, x) => some (z_m σ, pc + 1, zl, (1, x) :: z_s st) | none => none) = _
  rw [e]; rfl) (k hcl hz zl hzl))
theorem mW_lload (hC : m_Ctx p s m args meth c cc nL own dC dI aC A xa X Y) {j : Nat} {x : Int64} (hd : z_dx K cc pc (.lload j) 2 aux) (hl : m_ld j ls = some (.long x)) (k : mW K Z p l e R s m args below meth c QQ dC dI aC A n0 ad0 xa nL (σ, ce, sl, pc + 2, ls, .long x :: st)) : mW K Z p l e R s m args below meth c QQ dC dI aC A n0 ad0 xa nL (σ, ce, sl, pc, ls, st) := fun hcl hz zl hzl => mV_lload hC hd.1 hl (w_st hcl hd rfl (fun _ => by
  have e := z_lr_ld hzl hl
  show (match zl[j]? with | some (_, x) => some (z_m σ, pc + 2, zl, (1, x) :: z_s st) | none => none) = _
  rw [e]; rfl) (k hcl hz zl hzl))
theorem mW_lstore_n (hC : m_Ctx p s m args meth c cc nL own dC dI aC A xa X Y) {j : Fin 4} {x : Int64} (hd : z_dx K cc pc (.lstore_n j) 1 aux) (hn : (j : Nat) + 1 < nL) (k : mW K Z p l e R s m args below meth c QQ dC dI aC A n0 ad0 xa nL (σ, ce, sl, pc + 1, (m_st2 (j : Nat) (.long x) ls), st)) : mW K Z p l e R s m args below meth c QQ dC dI aC A n0 ad0 xa nL (σ, ce, sl, pc, ls, .long x :: st) := fun hcl hz zl hl => mV_lstore_n hC hd.1 hn (w_st (zl' := zl.set (j : Nat) (z_v (.long x))) hcl hd rfl (fun _ => rfl) (k hcl hz _ (z_lr_st2 hl (show (j : Nat) < nL by omega))))
theorem mW_lstore (hC : m_Ctx p s m args meth c cc nL own dC dI aC A xa X Y) {j : Nat} {x : Int64} (hd : z_dx K cc pc (.lstore j) 2 aux) (hn : j + 1 < nL) (k : mW K Z p l e R s m args below meth c QQ dC dI aC A n0 ad0 xa nL (σ, ce, sl, pc + 2, (m_st2 j (.long x) ls), st)) : mW K Z p l e R s m args below meth c QQ dC dI aC A n0 ad0 xa nL (σ, ce, sl, pc, ls, .long x :: st) := fun hcl hz zl hl => mV_lstore hC hd.1 hn (w_st (zl' := zl.set j (z_v (.long x))) hcl hd rfl (fun _ => rfl) (k hcl hz _ (z_lr_st2 hl (show j < nL by omega))))
theorem mW_aload_n (hC : m_Ctx p s m args meth c cc nL own dC dI aC A xa X Y) {j : Fin 4} {x : Nat} (hd : z_dx K cc pc (.aload_n j) 1 aux) (hl : m_ld (j : Nat) ls = some (.ref x)) (k : mW K Z p l e R s m args below meth c QQ dC dI aC A n0 ad0 xa nL (σ, ce, sl, pc + 1, ls, .ref x :: st)) : mW K Z p l e R s m args below meth c QQ dC dI aC A n0 ad0 xa nL (σ, ce, sl, pc, ls, st) := fun hcl hz zl hzl => mV_aload_n hC hd.1 hl (w_st hcl hd rfl (fun _ => by
  have e := z_lr_ld hzl hl
  show (match zl[(j : Nat)]? with | some (_, x) => some (z_m σ, pc + 1, zl, (2, x) :: z_s st) | none => none) = _
  rw [e]; rfl) (k hcl hz zl hzl))
theorem mW_aload (hC : m_Ctx p s m args meth c cc nL own dC dI aC A xa X Y) {j : Nat} {x : Nat} (hd : z_dx K cc pc (.aload j) 2 aux) (hl : m_ld j ls = some (.ref x)) (k : mW K Z p l e R s m args below meth c QQ dC dI aC A n0 ad0 xa nL (σ, ce, sl, pc + 2, ls, .ref x :: st)) : mW K Z p l e R s m args below meth c QQ dC dI aC A n0 ad0 xa nL (σ, ce, sl, pc, ls, st) := fun hcl hz zl hzl => mV_aload hC hd.1 hl (w_st hcl hd rfl (fun _ => by
  have e := z_lr_ld hzl hl
  show (match zl[j]? with | some (_, x) => some (z_m σ, pc + 2, zl, (2, x) :: z_s st) | none => none) = _
  rw [e]; rfl) (k hcl hz zl hzl))
theorem mW_astore_n (hC : m_Ctx p s m args meth c cc nL own dC dI aC A xa X Y) {j : Fin 4} {x : Nat} (hd : z_dx K cc pc (.astore_n j) 1 aux) (hn : (j : Nat) < nL) (k : mW K Z p l e R s m args below meth c QQ dC dI aC A n0 ad0 xa nL (σ, ce, sl, pc + 1, (m_st1 (j : Nat) (.ref x) ls), st)) : mW K Z p l e R s m args below meth c QQ dC dI aC A n0 ad0 xa nL (σ, ce, sl, pc, ls, .ref x :: st) := fun hcl hz zl hl => mV_astore_n hC hd.1 hn (w_st (zl' := zl.set (j : Nat) (z_v (.ref x))) hcl hd rfl (fun _ => rfl) (k hcl hz _ (z_lr_st1 hl (show (j : Nat) < nL by omega))))
theorem mW_astore (hC : m_Ctx p s m args meth c cc nL own dC dI aC A xa X Y) {j : Nat} {x : Nat} (hd : z_dx K cc pc (.astore j) 2 aux) (hn : j < nL) (k : mW K Z p l e R s m args below meth c QQ dC dI aC A n0 ad0 xa nL (σ, ce, sl, pc + 2, (m_st1 j (.ref x) ls), st)) : mW K Z p l e R s m args below meth c QQ dC dI aC A n0 ad0 xa nL (σ, ce, sl, pc, ls, .ref x :: st) := fun hcl hz zl hl => mV_astore hC hd.1 hn (w_st (zl' := zl.set j (z_v (.ref x))) hcl hd rfl (fun _ => rfl) (k hcl hz _ (z_lr_st1 hl (show j < nL by omega))))
theorem mW_iinc (hC : m_Ctx p s m args meth c cc nL own dC dI aC A xa X Y) {j : Nat} {n : Int} {x : Int32} (hd : z_dx K cc pc (.iinc j n) 3 aux) (hl : m_ld j ls = some (.int x)) (hn : j < nL) (k : mW K Z p l e R s m args below meth c QQ dC dI aC A n0 ad0 xa nL (σ, ce, sl, pc + 3, (m_st1 j (.int (x + Int32.ofInt n)) ls), st)) : mW K Z p l e R s m args below meth c QQ dC dI aC A n0 ad0 xa nL (σ, ce, sl, pc, ls, st) := fun hcl hz zl hzl => mV_iinc hC hd.1 hl hn (w_st (zl' := zl.set j (z_v (.int (x + Int32.ofInt n)))) hcl hd rfl (fun _ => by
  have e : z_add x.toInt n = (x + Int32.ofInt n).toInt := by unfold z_add; rw [i32_of]
  have e2 := z_lr_ld hzl hl
  show (match zl[j]? with | some (_, x) => some (z_m σ, pc + 3, zl.set j (0, z_add x n), z_s st) | none => none) = some (z_m σ, pc + 3, zl.set j (0, (x + Int32.ofInt n).toInt), z_s st)
  rw [e2]
  show some (z_m σ, pc + 3, zl.set j (0, z_add x.toInt n), z_s st) = _
  rw [e]) (k hcl hz _ (z_lr_st1 hzl hn)))
theorem z_tgt_ok {pc tgt : Nat} {off : Int} (h : (pc : Int) + off = (tgt : Int)) : z_tgt pc off = tgt := by unfold z_tgt; rw [h]; exact Int.toNat_natCast tgt
theorem mW_if_eq (hC : m_Ctx p s m args meth c cc nL own dC dI aC A xa X Y) {x : Int32} {off : Int} {tgt : Nat} (hd : z_dx K cc pc (.ifCond .eq off) 3 aux) (ht : (pc : Int) + off = (tgt : Int)) (kt : x = 0 → mW K Z p l e R s m args below meth c QQ dC dI aC A n0 ad0 xa nL (σ, ce, sl, tgt, ls, st)) (kf : ¬ x = 0 → mW K Z p l e R s m args below meth c QQ dC dI aC A n0 ad0 xa nL (σ, ce, sl, pc + 3, ls, st)) : mW K Z p l e R s m args below meth c QQ dC dI aC A n0 ad0 xa nL (σ, ce, sl, pc, ls, .int x :: st) := fun hcl hz zl hl => mV_if_eq hC hd.1 ht (fun q => w_st hcl hd rfl (fun _ => (congrArg (fun b => some (z_m σ, bif b then z_tgt pc off else pc + 3, zl, z_s st)) (z_cn_eq_t q)).trans (congrArg (fun t => some (z_m σ, t, zl, z_s st)) (z_tgt_ok ht))) (kt q hcl hz zl hl)) (fun q => w_st hcl hd rfl (fun _ => (congrArg (fun b => some (z_m σ, bif b then z_tgt pc off else pc + 3, zl, z_s st)) (z_cn_eq_f q))) (kf q hcl hz zl hl))
theorem mW_icmp_eq (hC : m_Ctx p s m args meth c cc nL own dC dI aC A xa X Y) {x y : Int32} {off : Int} {tgt : Nat} (hd : z_dx K cc pc (.if_icmp .eq off) 3 aux) (ht : (pc : Int) + off = (tgt : Int)) (kt : x = y → mW K Z p l e R s m args below meth c QQ dC dI aC A n0 ad0 xa nL (σ, ce, sl, tgt, ls, st)) (kf : ¬ x = y → mW K Z p l e R s m args below meth c QQ dC dI aC A n0 ad0 xa nL (σ, ce, sl, pc + 3, ls, st)) : mW K Z p l e R s m args below meth c QQ dC dI aC A n0 ad0 xa nL (σ, ce, sl, pc, ls, .int y :: .int x :: st) := fun hcl hz zl hl => mV_icmp_eq hC hd.1 ht (fun q => w_st hcl hd rfl (fun _ => (congrArg (fun b => some (z_m σ, bif b then z_tgt pc off else pc + 3, zl, z_s st)) (z_cn_eq_t q)).trans (congrArg (fun t => some (z_m σ, t, zl, z_s st)) (z_tgt_ok ht))) (kt q hcl hz zl hl)) (fun q => w_st hcl hd rfl (fun _ => (congrArg (fun b => some (z_m σ, bif b then z_tgt pc off else pc + 3, zl, z_s st)) (z_cn_eq_f q))) (kf q hcl hz zl hl))
theorem mW_if_ne (hC : m_Ctx p s m args meth c cc nL own dC dI aC A xa X Y) {x : Int32} {off : Int} {tgt : Nat} (hd : z_dx K cc pc (.ifCond .ne off) 3 aux) (ht : (pc : Int) + off = (tgt : Int)) (kt : ¬ x = 0 → mW K Z p l e R s m args below meth c QQ dC dI aC A n0 ad0 xa nL (σ, ce, sl, tgt, ls, st)) (kf : x = 0 → mW K Z p l e R s m args below meth c QQ dC dI aC A n0 ad0 xa nL (σ, ce, sl, pc + 3, ls, st)) : mW K Z p l e R s m args below meth c QQ dC dI aC A n0 ad0 xa nL (σ, ce, sl, pc, ls, .int x :: st) := fun hcl hz zl hl => mV_if_ne hC hd.1 ht (fun q => w_st hcl hd rfl (fun _ => (congrArg (fun b => some (z_m σ, bif b then z_tgt pc off else pc + 3, zl, z_s st)) (z_cn_ne_t q)).trans (congrArg (fun t => some (z_m σ, t, zl, z_s st)) (z_tgt_ok ht))) (kt q hcl hz zl hl)) (fun q => w_st hcl hd rfl (fun _ => (congrArg (fun b => some (z_m σ, bif b then z_tgt pc off else pc + 3, zl, z_s st)) (z_cn_ne_f q))) (kf q hcl hz zl hl))
theorem mW_icmp_ne (hC : m_Ctx p s m args meth c cc nL own dC dI aC A xa X Y) {x y : Int32} {off : Int} {tgt : Nat} (hd : z_dx K cc pc (.if_icmp .ne off) 3 aux) (ht : (pc : Int) + off = (tgt : Int)) (kt : ¬ x = y → mW K Z p l e R s m args below meth c QQ dC dI aC A n0 ad0 xa nL (σ, ce, sl, tgt, ls, st)) (kf : x = y → mW K Z p l e R s m args below meth c QQ dC dI aC A n0 ad0 xa nL (σ, ce, sl, pc + 3, ls, st)) : mW K Z p l e R s m args below meth c QQ dC dI aC A n0 ad0 xa nL (σ, ce, sl, pc, ls, .int y :: .int x :: st) := fun hcl hz zl hl => mV_icmp_ne hC hd.1 ht (fun q => w_st hcl hd rfl (fun _ => (congrArg (fun b => some (z_m σ, bif b then z_tgt pc off else pc + 3, zl, z_s st)) (z_cn_ne_t q)).trans (congrArg (fun t => some (z_m σ, t, zl, z_s st)) (z_tgt_ok ht))) (kt q hcl hz zl hl)) (fun q => w_st hcl hd rfl (fun _ => (congrArg (fun b => some (z_m σ, bif b then z_tgt pc off else pc + 3, zl, z_s st)) (z_cn_ne_f q))) (kf q hcl hz zl hl))
theorem mW_if_lt (hC : m_Ctx p s m args meth c cc nL own dC dI aC A xa X Y) {x : Int32} {off : Int} {tgt : Nat} (hd : z_dx K cc pc (.ifCond .lt off) 3 aux) (ht : (pc : Int) + off = (tgt : Int)) (kt : x < 0 → mW K Z p l e R s m args below meth c QQ dC dI aC A n0 ad0 xa nL (σ, ce, sl, tgt, ls, st)) (kf : ¬ x < 0 → mW K Z p l e R s m args below meth c QQ dC dI aC A n0 ad0 xa nL (σ, ce, sl, pc + 3, ls, st)) : mW K Z p l e R s m args below meth c QQ dC dI aC A n0 ad0 xa nL (σ, ce, sl, pc, ls, .int x :: st) := fun hcl hz zl hl => mV_if_lt hC hd.1 ht (fun q => w_st hcl hd rfl (fun _ => (congrArg (fun b => some (z_m σ, bif b then z_tgt pc off else pc + 3, zl, z_s st)) (z_cn_lt_t q)).trans (congrArg (fun t => some (z_m σ, t, zl, z_s st)) (z_tgt_ok ht))) (kt q hcl hz zl hl)) (fun q => w_st hcl hd rfl (fun _ => (congrArg (fun b => some (z_m σ, bif b then z_tgt pc off else pc + 3, zl, z_s st)) (z_cn_lt_f q))) (kf q hcl hz zl hl))
theorem mW_icmp_lt (hC : m_Ctx p s m args meth c cc nL own dC dI aC A xa X Y) {x y : Int32} {off : Int} {tgt : Nat} (hd : z_dx K cc pc (.if_icmp .lt off) 3 aux) (ht : (pc : Int) + off = (tgt : Int)) (kt : x < y → mW K Z p l e R s m args below meth c QQ dC dI aC A n0 ad0 xa nL (σ, ce, sl, tgt, ls, st)) (kf : ¬ x < y → mW K Z p l e R s m args below meth c QQ dC dI aC A n0 ad0 xa nL (σ, ce, sl, pc + 3, ls, st)) : mW K Z p l e R s m args below meth c QQ dC dI aC A n0 ad0 xa nL (σ, ce, sl, pc, ls, .int y :: .int x :: st) := fun hcl hz zl hl => mV_icmp_lt hC hd.1 ht (fun q => w_st hcl hd rfl (fun _ => (congrArg (fun b => some (z_m σ, bif b then z_tgt pc off else pc + 3, zl, z_s st)) (z_cn_lt_t q)).trans (congrArg (fun t => some (z_m σ, t, zl, z_s st)) (z_tgt_ok ht))) (kt q hcl hz zl hl)) (fun q => w_st hcl hd rfl (fun _ => (congrArg (fun b => some (z_m σ, bif b then z_tgt pc off else pc + 3, zl, z_s st)) (z_cn_lt_f q))) (kf q hcl hz zl hl))
theorem mW_if_ge (hC : m_Ctx p s m args meth c cc nL own dC dI aC A xa X Y) {x : Int32} {off : Int} {tgt : Nat} (hd : z_dx K cc pc (.ifCond .ge off) 3 aux) (ht : (pc : Int) + off = (tgt : Int)) (kt : 0 ≤ x → mW K Z p l e R s m args below meth c QQ dC dI aC A n0 ad0 xa nL (σ, ce, sl, tgt, ls, st)) (kf : ¬ 0 ≤ x → mW K Z p l e R s m args below meth c QQ dC dI aC A n0 ad0 xa nL (σ, ce, sl, pc + 3, ls, st)) : mW K Z p l e R s m args below meth c QQ dC dI aC A n0 ad0 xa nL (σ, ce, sl, pc, ls, .int x :: st) := fun hcl hz zl hl => mV_if_ge hC hd.1 ht (fun q => w_st hcl hd rfl (fun _ => (congrArg (fun b => some (z_m σ, bif b then z_tgt pc off else pc + 3, zl, z_s st)) (z_cn_ge_t q)).trans (congrArg (fun t => some (z_m σ, t, zl, z_s st)) (z_tgt_ok ht))) (kt q hcl hz zl hl)) (fun q => w_st hcl hd rfl (fun _ => (congrArg (fun b => some (z_m σ, bif b then z_tgt pc off else pc + 3, zl, z_s st)) (z_cn_ge_f q))) (kf q hcl hz zl hl))
theorem mW_icmp_ge (hC : m_Ctx p s m args meth c cc nL own dC dI aC A xa X Y) {x y : Int32} {off : Int} {tgt : Nat} (hd : z_dx K cc pc (.if_icmp .ge off) 3 aux) (ht : (pc : Int) + off = (tgt : Int)) (kt : y ≤ x → mW K Z p l e R s m args below meth c QQ dC dI aC A n0 ad0 xa nL (σ, ce, sl, tgt, ls, st)) (kf : ¬ y ≤ x → mW K Z p l e R s m args below meth c QQ dC dI aC A n0 ad0 xa nL (σ, ce, sl, pc + 3, ls, st)) : mW K Z p l e R s m args below meth c QQ dC dI aC A n0 ad0 xa nL (σ, ce, sl, pc, ls, .int y :: .int x :: st) := fun hcl hz zl hl => mV_icmp_ge hC hd.1 ht (fun q => w_st hcl hd rfl (fun _ => (congrArg (fun b => some (z_m σ, bif b then z_tgt pc off else pc + 3, zl, z_s st)) (z_cn_ge_t q)).trans (congrArg (fun t => some (z_m σ, t, zl, z_s st)) (z_tgt_ok ht))) (kt q hcl hz zl hl)) (fun q => w_st hcl hd rfl (fun _ => (congrArg (fun b => some (z_m σ, bif b then z_tgt pc off else pc + 3, zl, z_s st)) (z_cn_ge_f q))) (kf q hcl hz zl hl))
theorem mW_if_gt (hC : m_Ctx p s m args meth c cc nL own dC dI aC A xa X Y) {x : Int32} {off : Int} {tgt : Nat} (hd : z_dx K cc pc (.ifCond .gt off) 3 aux) (ht : (pc : Int) + off = (tgt : Int)) (kt : 0 < x → mW K Z p l e R s m args below meth c QQ dC dI aC A n0 ad0 xa nL (σ, ce, sl, tgt, ls, st)) (kf : ¬ 0 < x → mW K Z p l e R s m args below meth c QQ dC dI aC A n0 ad0 xa nL (σ, ce, sl, pc + 3, ls, st)) : mW K Z p l e R s m args below meth c QQ dC dI aC A n0 ad0 xa nL (σ, ce, sl, pc, ls, .int x :: st) := fun hcl hz zl hl => mV_if_gt hC hd.1 ht (fun q => w_st hcl hd rfl (fun _ => (congrArg (fun b => some (z_m σ, bif b then z_tgt pc off else pc + 3, zl, z_s st)) (z_cn_gt_t q)).trans (congrArg (fun t => some (z_m σ, t, zl, z_s st)) (z_tgt_ok ht))) (kt q hcl hz zl hl)) (fun q => w_st hcl hd rfl (fun _ => (congrArg (fun b => some (z_m σ, bif b then z_tgt pc off else pc + 3, zl, z_s st)) (z_cn_gt_f q))) (kf q hcl hz zl hl))
theorem mW_icmp_gt (hC : m_Ctx p s m args meth c cc nL own dC dI aC A xa X Y) {x y : Int32} {off : Int} {tgt : Nat} (hd : z_dx K cc pc (.if_icmp .gt off) 3 aux) (ht : (pc : Int) + off = (tgt : Int)) (kt : y < x → mW K Z p l e R s m args below meth c QQ dC dI aC A n0 ad0 xa nL (σ, ce, sl, tgt, ls, st)) (kf : ¬ y < x → mW K Z p l e R s m args below meth c QQ dC dI aC A n0 ad0 xa nL (σ, ce, sl, pc + 3, ls, st)) : mW K Z p l e R s m args below meth c QQ dC dI aC A n0 ad0 xa nL (σ, ce, sl, pc, ls, .int y :: .int x :: st) := fun hcl hz zl hl => mV_icmp_gt hC hd.1 ht (fun q => w_st hcl hd rfl (fun _ => (congrArg (fun b => some (z_m σ, bif b then z_tgt pc off else pc + 3, zl, z_s st)) (z_cn_gt_t q)).trans (congrArg (fun t => some (z_m σ, t, zl, z_s st)) (z_tgt_ok ht))) (kt q hcl hz zl hl)) (fun q => w_st hcl hd rfl (fun _ => (congrArg (fun b => some (z_m σ, bif b then z_tgt pc off else pc + 3, zl, z_s st)) (z_cn_gt_f q))) (kf q hcl hz zl hl))
theorem mW_if_le (hC : m_Ctx p s m args meth c cc nL own dC dI aC A xa X Y) {x : Int32} {off : Int} {tgt : Nat} (hd : z_dx K cc pc (.ifCond .le off) 3 aux) (ht : (pc : Int) + off = (tgt : Int)) (kt : x ≤ 0 → mW K Z p l e R s m args below meth c QQ dC dI aC A n0 ad0 xa nL (σ, ce, sl, tgt, ls, st)) (kf : ¬ x ≤ 0 → mW K Z p l e R s m args below meth c QQ dC dI aC A n0 ad0 xa nL (σ, ce, sl, pc + 3, ls, st)) : mW K Z p l e R s m args below meth c QQ dC dI aC A n0 ad0 xa nL (σ, ce, sl, pc, ls, .int x :: st) := fun hcl hz zl hl => mV_if_le hC hd.1 ht (fun q => w_st hcl hd rfl (fun _ => (congrArg (fun b => some (z_m σ, bif b then z_tgt pc off else pc + 3, zl, z_s st)) (z_cn_le_t q)).trans (congrArg (fun t => some (z_m σ, t, zl, z_s st)) (z_tgt_ok ht))) (kt q hcl hz zl hl)) (fun q => w_st hcl hd rfl (fun _ => (congrArg (fun b => some (z_m σ, bif b then z_tgt pc off else pc + 3, zl, z_s st)) (z_cn_le_f q))) (kf q hcl hz zl hl))
theorem mW_icmp_le (hC : m_Ctx p s m args meth c cc nL own dC dI aC A xa X Y) {x y : Int32} {off : Int} {tgt : Nat} (hd : z_dx K cc pc (.if_icmp .le off) 3 aux) (ht : (pc : Int) + off = (tgt : Int)) (kt : x ≤ y → mW K Z p l e R s m args below meth c QQ dC dI aC A n0 ad0 xa nL (σ, ce, sl, tgt, ls, st)) (kf : ¬ x ≤ y → mW K Z p l e R s m args below meth c QQ dC dI aC A n0 ad0 xa nL (σ, ce, sl, pc + 3, ls, st)) : mW K Z p l e R s m args below meth c QQ dC dI aC A n0 ad0 xa nL (σ, ce, sl, pc, ls, .int y :: .int x :: st) := fun hcl hz zl hl => mV_icmp_le hC hd.1 ht (fun q => w_st hcl hd rfl (fun _ => (congrArg (fun b => some (z_m σ, bif b then z_tgt pc off else pc + 3, zl, z_s st)) (z_cn_le_t q)).trans (congrArg (fun t => some (z_m σ, t, zl, z_s st)) (z_tgt_ok ht))) (kt q hcl hz zl hl)) (fun q => w_st hcl hd rfl (fun _ => (congrArg (fun b => some (z_m σ, bif b then z_tgt pc off else pc + 3, zl, z_s st)) (z_cn_le_f q))) (kf q hcl hz zl hl))
theorem mW_goto (hC : m_Ctx p s m args meth c cc nL own dC dI aC A xa X Y) {off : Int} {tgt : Nat} (hd : z_dx K cc pc (.goto off) 3 aux) (ht : (pc : Int) + off = (tgt : Int)) (k : mW K Z p l e R s m args below meth c QQ dC dI aC A n0 ad0 xa nL (σ, ce, sl, tgt, ls, st)) : mW K Z p l e R s m args below meth c QQ dC dI aC A n0 ad0 xa nL (σ, ce, sl, pc, ls, st) := fun hcl hz zl hl => mV_goto hC hd.1 ht (w_st hcl hd rfl (fun _ => (congrArg (fun t => some (z_m σ, t, zl, z_s st)) (z_tgt_ok ht))) (k hcl hz zl hl))
theorem mW_lookup (hC : m_Ctx p s m args meth c cc nL own dC dI aC A xa X Y) {dflt : Int} {ps : Array (Int × Int)} {len : Nat} {x : Int32} {off : Int} {tgt : Nat} (hd : z_dx K cc pc (.lookupswitch dflt ps) len aux) (hp : (ps.toList.zip (ps.toList.drop 1)).all (fun (a, next) => a.1 < next.1) = true) (ho : Op.lookupswitch.offset ps.toList dflt x.toInt = off) (ht : (pc : Int) + off = (tgt : Int)) (k : mW K Z p l e R s m args below meth c QQ dC dI aC A n0 ad0 xa nL (σ, ce, sl, tgt, ls, st)) : mW K Z p l e R s m args below meth c QQ dC dI aC A n0 ad0 xa nL (σ, ce, sl, pc, ls, .int x :: st) := fun hcl hz zl hl => mV_lookup hC hd.1 hp ho ht (w_st hcl hd rfl (fun _ => (congrArg (fun t => some (z_m σ, z_tgt pc t, zl, z_s st)) ho).trans (congrArg (fun t => some (z_m σ, t, zl, z_s st)) (z_tgt_ok ht))) (k hcl hz zl hl))
theorem mW_tableIn (hC : m_Ctx p s m args meth c cc nL own dC dI aC A xa X Y) {dflt lo hi : Int} {offs : Array Int} {len : Nat} {x : Int32} {off : Int} {tgt : Nat} (hd : z_dx K cc pc (.tableswitch dflt lo hi offs) len aux) (g1 : ¬ x.toInt < lo) (g2 : ¬ hi < x.toInt) (ho : offs[(x.toInt - lo).toNat]? = some off) (ht : (pc : Int) + off = (tgt : Int)) (k : mW K Z p l e R s m args below meth c QQ dC dI aC A n0 ad0 xa nL (σ, ce, sl, tgt, ls, st)) : mW K Z p l e R s m args below meth c QQ dC dI aC A n0 ad0 xa nL (σ, ce, sl, pc, ls, .int x :: st) := fun hcl hz zl hl => mV_tableIn hC hd.1 g1 g2 ho ht (w_st hcl hd rfl (fun _ => by
  have e : z_tbo dflt lo hi offs.toList x.toInt = off := by
    unfold z_tbo
    rw [if_pos ⟨by omega, by omega⟩, Array.getElem?_toList, ho]; rfl
  exact (congrArg (fun t => some (z_m σ, z_tgt pc t, zl, z_s st)) e).trans (congrArg (fun t => some (z_m σ, t, zl, z_s st)) (z_tgt_ok ht))) (k hcl hz zl hl))
theorem mW_tableOut (hC : m_Ctx p s m args meth c cc nL own dC dI aC A xa X Y) {dflt lo hi : Int} {offs : Array Int} {len : Nat} {x : Int32} {tgt : Nat} (hd : z_dx K cc pc (.tableswitch dflt lo hi offs) len aux) (g1 : x.toInt < lo ∨ hi < x.toInt) (ht : (pc : Int) + dflt = (tgt : Int)) (k : mW K Z p l e R s m args below meth c QQ dC dI aC A n0 ad0 xa nL (σ, ce, sl, tgt, ls, st)) : mW K Z p l e R s m args below meth c QQ dC dI aC A n0 ad0 xa nL (σ, ce, sl, pc, ls, .int x :: st) := fun hcl hz zl hl => mV_tableOut hC hd.1 g1 ht (w_st hcl hd rfl (fun _ => by
  have e : z_tbo dflt lo hi offs.toList x.toInt = dflt := by
    unfold z_tbo
    rw [if_neg (by omega)]
  exact (congrArg (fun t => some (z_m σ, z_tgt pc t, zl, z_s st)) e).trans (congrArg (fun t => some (z_m σ, t, zl, z_s st)) (z_tgt_ok ht))) (k hcl hz zl hl))
theorem mW_getfield (hC : m_Ctx p s m args meth c cc nL own dC dI aC A xa X Y) {q ci k idx j ne : Nat} {r : vw_C} {fs : List Value} {v : Value} (hd : z_dx K cc pc (.getfield idx) 3 [j, ci, k, ne]) (hσ : σ[q]? = some (.inr ci, fs)) (hc : vwCl[ci]? = some r) (hk : k < r.2.2) (hw : Cond.fieldLink own idx (r.2.1 k).1 (r.2.1 k).2.1 (r.2.1 k).2.2.1 ∈ a_tb) (hv : fs[k]? = some v) (kk : mW K Z p l e R s m args below meth c QQ dC dI aC A n0 ad0 xa nL (σ, ce, sl, pc + 3, ls, v :: st)) : mW K Z p l e R s m args below meth c QQ dC dI aC A n0 ad0 xa nL (σ, ce, sl, pc, ls, .ref q :: st) := fun hcl hz zl hl => mV_getfield hC hd.1 hσ hc hk hw hv (w_st hcl hd rfl (fun _ => by
  show some (z_m σ, pc + 3, zl, z_gf (z_m σ) ((q : Int)).toNat ci k :: z_s st) = some (z_m σ, pc + 3, zl, z_v v :: z_s st)
  rw [z_rf, z_gf_ok hz hσ hv]) (kk hcl hz zl hl))
theorem mW_putfield (hC : m_Ctx p s m args meth c cc nL own dC dI aC A xa X Y) {q ci k idx j ne : Nat} {r : vw_C} {fs : List Value} {v : Value} (hd : z_dx K cc pc (.putfield idx) 3 [j, ci, k, ne]) (hσ : σ[q]? = some (.inr ci, fs)) (hc : vwCl[ci]? = some r) (hk : k < r.2.2) (hw : Cond.fieldLink own idx (r.2.1 k).1 (r.2.1 k).2.1 (r.2.1 k).2.2.1 ∈ a_tb) (hf : (r.2.1 k).2.2.2 = false) (hn : narrow (a_ty ci k) v = v) (hfit : fits (a_ty ci k) v = true) (hl : k < fs.length) (kk : mW K Z p l e R s m args below meth c QQ dC dI aC A n0 ad0 xa nL (σ.set q (.inr ci, fs.set k v), ce, sl, pc + 3, ls, st)) : mW K Z p l e R s m args below meth c QQ dC dI aC A n0 ad0 xa nL (σ, ce, sl, pc, ls, v :: .ref q :: st) := fun hcl hz zl hzl => mV_putfield hC hd.1 hσ hc hk hw hf hn hfit hl (w_st hcl hd rfl (fun _ => by
  show some (z_up (z_m σ) ((q : Int)).toNat k (z_vn v), pc + 3, zl, z_s st) = some (z_m (σ.set q (.inr ci, fs.set k v)), pc + 3, zl, z_s st)
  rw [z_rf, z_m_set hσ hl]) (kk hcl (z_ok_put hz hσ hc hf hfit hl) zl hzl))
theorem mW_getfieldN (hC : m_Ctx p s m args meth c cc nL own dC dI aC A xa X Y) {q ci k idx j ne : Nat} {host : String} {r : vw_C} {fs : List Value} {v : Value} (hd : z_dx K cc pc (.getfield idx) 3 [j, ci, k, ne]) (hσ : σ[q]? = some (.inr ci, fs)) (hc : vwCl[ci]? = some r) (hk : k < r.2.2) (hw : Cond.fieldLinkNest own idx (r.2.1 k).1 (r.2.1 k).2.1 (r.2.1 k).2.2.1 host ∈ a_nb) (hv : fs[k]? = some v) (kk : mW K Z p l e R s m args below meth c QQ dC dI aC A n0 ad0 xa nL (σ, ce, sl, pc + 3, ls, v :: st)) : mW K Z p l e R s m args below meth c QQ dC dI aC A n0 ad0 xa nL (σ, ce, sl, pc, ls, .ref q :: st) := fun hcl hz zl hl => mV_getfieldN hC hd.1 hσ hc hk hw hv (w_st hcl hd rfl (fun _ => by
  show some (z_m σ, pc + 3, zl, z_gf (z_m σ) ((q : Int)).toNat ci k :: z_s st) = some (z_m σ, pc + 3, zl, z_v v :: z_s st)
  rw [z_rf, z_gf_ok hz hσ hv]) (kk hcl hz zl hl))
theorem mW_putfieldN (hC : m_Ctx p s m args meth c cc nL own dC dI aC A xa X Y) {q ci k idx j ne : Nat} {host : String} {r : vw_C} {fs : List Value} {v : Value} (hd : z_dx K cc pc (.putfield idx) 3 [j, ci, k, ne]) (hσ : σ[q]? = some (.inr ci, fs)) (hc : vwCl[ci]? = some r) (hk : k < r.2.2) (hw : Cond.fieldLinkNest own idx (r.2.1 k).1 (r.2.1 k).2.1 (r.2.1 k).2.2.1 host ∈ a_nb) (hf : (r.2.1 k).2.2.2 = false) (hn : narrow (a_ty ci k) v = v) (hfit : fits (a_ty ci k) v = true) (hl : k < fs.length) (kk : mW K Z p l e R s m args below meth c QQ dC dI aC A n0 ad0 xa nL (σ.set q (.inr ci, fs.set k v), ce, sl, pc + 3, ls, st)) : mW K Z p l e R s m args below meth c QQ dC dI aC A n0 ad0 xa nL (σ, ce, sl, pc, ls, v :: .ref q :: st) := fun hcl hz zl hzl => mV_putfieldN hC hd.1 hσ hc hk hw hf hn hfit hl (w_st hcl hd rfl (fun _ => by
  show some (z_up (z_m σ) ((q : Int)).toNat k (z_vn v), pc + 3, zl, z_s st) = some (z_m (σ.set q (.inr ci, fs.set k v)), pc + 3, zl, z_s st)
  rw [z_rf, z_m_set hσ hl]) (kk hcl (z_ok_put hz hσ hc hf hfit hl) zl hzl))
theorem mW_iaload (hC : m_Ctx p s m args meth c cc nL own dC dI aC A xa X Y) {q : Nat} {i x : Int32} {vs : List Value} (hd : z_dx K cc pc (.iaload) 1 aux) (hσ : σ[q]? = some (.inl 0, vs)) (hi : vp_in i vs.length) (hv : vs[i.toNatClampNeg]? = some (.int x)) (k : mW K Z p l e R s m args below meth c QQ dC dI aC A n0 ad0 xa nL (σ, ce, sl, pc + 1, ls, .int x :: st)) : mW K Z p l e R s m args below meth c QQ dC dI aC A n0 ad0 xa nL (σ, ce, sl, pc, ls, .int i :: .ref q :: st) := fun hcl hz zl hl => mV_iaload hC hd.1 hσ hi hv (w_st hcl hd rfl (fun _ => by
  obtain ⟨a1, a2, a3, a4⟩ := z_in hz hσ
  obtain ⟨b1, b2, b3⟩ := z_ix_ok hi
  show (bif z_ix i.toInt (z_ln ((q : Int)).toNat) then some (z_m σ, pc + 1, zl, (0, z_rd (z_m σ) ((q : Int)).toNat i.toInt.toNat) :: z_s st) else none) = some (z_m σ, pc + 1, zl, (0, x.toInt) :: z_s st)
  rw [z_rf, z_ln_lt a1, ← a3, b1, z_rd_lt a1]
  rw [b2] at hv
  rw [z_m_at hσ hv]; rfl) (k hcl hz zl hl))
theorem mW_baload (hC : m_Ctx p s m args meth c cc nL own dC dI aC A xa X Y) {q : Nat} {i x : Int32} {vs : List Value} (hd : z_dx K cc pc (.baload) 1 aux) (hσ : σ[q]? = some (.inl 1, vs)) (hi : vp_in i vs.length) (hv : vs[i.toNatClampNeg]? = some (.int x)) (k : mW K Z p l e R s m args below meth c QQ dC dI aC A n0 ad0 xa nL (σ, ce, sl, pc + 1, ls, .int x :: st)) : mW K Z p l e R s m args below meth c QQ dC dI aC A n0 ad0 xa nL (σ, ce, sl, pc, ls, .int i :: .ref q :: st) := fun hcl hz zl hl => mV_baload hC hd.1 hσ hi hv (w_st hcl hd rfl (fun _ => by
  obtain ⟨a1, a2, a3, a4⟩ := z_in hz hσ
  obtain ⟨b1, b2, b3⟩ := z_ix_ok hi
  show (bif z_ix i.toInt (h_ln ((q : Int)).toNat) then some (z_m σ, pc + 1, zl, (0, z_m σ ((q : Int)).toNat i.toInt.toNat) :: z_s st) else none) = some (z_m σ, pc + 1, zl, (0, x.toInt) :: z_s st)
  rw [z_rf, ← a3, b1]
  rw [b2] at hv
  rw [z_m_at hσ hv]; rfl) (k hcl hz zl hl))
theorem mW_caload (hC : m_Ctx p s m args meth c cc nL own dC dI aC A xa X Y) {q : Nat} {i x : Int32} {vs : List Value} (hd : z_dx K cc pc (.caload) 1 aux) (hσ : σ[q]? = some (.inl 2, vs)) (hi : vp_in i vs.length) (hv : vs[i.toNatClampNeg]? = some (.int x)) (k : mW K Z p l e R s m args below meth c QQ dC dI aC A n0 ad0 xa nL (σ, ce, sl, pc + 1, ls, .int x :: st)) : mW K Z p l e R s m args below meth c QQ dC dI aC A n0 ad0 xa nL (σ, ce, sl, pc, ls, .int i :: .ref q :: st) := fun hcl hz zl hl => mV_caload hC hd.1 hσ hi hv (w_st hcl hd rfl (fun _ => by
  obtain ⟨a1, a2, a3, a4⟩ := z_in hz hσ
  obtain ⟨b1, b2, b3⟩ := z_ix_ok hi
  show (bif z_ix i.toInt (h_ln ((q : Int)).toNat) then some (z_m σ, pc + 1, zl, (0, z_m σ ((q : Int)).toNat i.toInt.toNat) :: z_s st) else none) = some (z_m σ, pc + 1, zl, (0, x.toInt) :: z_s st)
  rw [z_rf, ← a3, b1]
  rw [b2] at hv
  rw [z_m_at hσ hv]; rfl) (k hcl hz zl hl))
theorem mW_zaload (hC : m_Ctx p s m args meth c cc nL own dC dI aC A xa X Y) {q : Nat} {i x : Int32} {vs : List Value} (hd : z_dx K cc pc (.baload) 1 aux) (hσ : σ[q]? = some (.inl 3, vs)) (hi : vp_in i vs.length) (hv : vs[i.toNatClampNeg]? = some (.int x)) (k : mW K Z p l e R s m args below meth c QQ dC dI aC A n0 ad0 xa nL (σ, ce, sl, pc + 1, ls, .int x :: st)) : mW K Z p l e R s m args below meth c QQ dC dI aC A n0 ad0 xa nL (σ, ce, sl, pc, ls, .int i :: .ref q :: st) := fun hcl hz zl hl => mV_zaload hC hd.1 hσ hi hv (w_st hcl hd rfl (fun _ => by
  obtain ⟨a1, a2, a3, a4⟩ := z_in hz hσ
  obtain ⟨b1, b2, b3⟩ := z_ix_ok hi
  show (bif z_ix i.toInt (h_ln ((q : Int)).toNat) then some (z_m σ, pc + 1, zl, (0, z_m σ ((q : Int)).toNat i.toInt.toNat) :: z_s st) else none) = some (z_m σ, pc + 1, zl, (0, x.toInt) :: z_s st)
  rw [z_rf, ← a3, b1]
  rw [b2] at hv
  rw [z_m_at hσ hv]; rfl) (k hcl hz zl hl))
theorem mW_laload (hC : m_Ctx p s m args meth c cc nL own dC dI aC A xa X Y) {q : Nat} {i : Int32} {x : Int64} {vs : List Value} (hd : z_dx K cc pc (.laload) 1 aux) (hσ : σ[q]? = some (.inl 4, vs)) (hi : vp_in i vs.length) (hv : vs[i.toNatClampNeg]? = some (.long x)) (k : mW K Z p l e R s m args below meth c QQ dC dI aC A n0 ad0 xa nL (σ, ce, sl, pc + 1, ls, .long x :: st)) : mW K Z p l e R s m args below meth c QQ dC dI aC A n0 ad0 xa nL (σ, ce, sl, pc, ls, .int i :: .ref q :: st) := fun hcl hz zl hl => mV_laload hC hd.1 hσ hi hv (w_st hcl hd rfl (fun _ => by
  obtain ⟨a1, a2, a3, a4⟩ := z_in hz hσ
  obtain ⟨b1, b2, b3⟩ := z_ix_ok hi
  show (bif z_ix i.toInt (h_ln ((q : Int)).toNat) then some (z_m σ, pc + 1, zl, (1, z_m σ ((q : Int)).toNat i.toInt.toNat) :: z_s st) else none) = some (z_m σ, pc + 1, zl, (1, x.toInt) :: z_s st)
  rw [z_rf, ← a3, b1]
  rw [b2] at hv
  rw [z_m_at hσ hv]; rfl) (k hcl hz zl hl))
theorem mW_aaload (hC : m_Ctx p s m args meth c cc nL own dC dI aC A xa X Y) {q r : Nat} {i : Int32} {vs : List Value} (hd : z_dx K cc pc .aaload 1 aux) (hσ : σ[q]? = some (.inl 5, vs)) (hi : vp_in i vs.length) (hv : vs[i.toNatClampNeg]? = some (.ref r)) (k : mW K Z p l e R s m args below meth c QQ dC dI aC A n0 ad0 xa nL (σ, ce, sl, pc + 1, ls, .ref r :: st)) : mW K Z p l e R s m args below meth c QQ dC dI aC A n0 ad0 xa nL (σ, ce, sl, pc, ls, .int i :: .ref q :: st) := fun hcl hz zl hl => mV_aaload hC hd.1 hσ hi hv (w_st hcl hd rfl (fun _ => by
  obtain ⟨a1, a2, a3, a4⟩ := z_in hz hσ
  obtain ⟨b1, b2, b3⟩ := z_ix_ok hi
  show (bif z_ix i.toInt (h_ln ((q : Int)).toNat) then some (z_m σ, pc + 1, zl, z_ga (z_m σ) ((q : Int)).toNat i.toInt.toNat :: z_s st) else none) = some (z_m σ, pc + 1, zl, (2, (r : Int)) :: z_s st)
  rw [b2] at hv
  rw [z_rf, ← a3, b1, z_ga_ok hz hσ hv]; rfl) (k hcl hz zl hl))
theorem mW_iastore (hC : m_Ctx p s m args meth c cc nL own dC dI aC A xa X Y) {q : Nat} {i x : Int32} {vs : List Value} (hd : z_dx K cc pc (.iastore) 1 aux) (hσ : σ[q]? = some (.inl 0, vs)) (hi : vp_in i vs.length) (k : mW K Z p l e R s m args below meth c QQ dC dI aC A n0 ad0 xa nL (σ.set q (.inl 0, vs.set i.toNatClampNeg (.int x)), ce, sl, pc + 1, ls, st)) : mW K Z p l e R s m args below meth c QQ dC dI aC A n0 ad0 xa nL (σ, ce, sl, pc, ls, .int x :: .int i :: .ref q :: st) := fun hcl hz zl hl => mV_iastore hC hd.1 hσ hi (w_st hcl hd rfl (fun _ => by
  obtain ⟨a1, a2, a3, a4⟩ := z_in hz hσ
  obtain ⟨b1, b2, b3⟩ := z_ix_ok hi
  have e := z_m_set hσ (k := i.toNatClampNeg) (v := .int x) (m_vp_lt hi)
  rw [b2] at e
  show (bif z_ix i.toInt (h_ln ((q : Int)).toNat) then some (z_up (z_m σ) ((q : Int)).toNat i.toInt.toNat (x.toInt), pc + 1, zl, z_s st) else none) = some (z_m (σ.set q (.inl 0, vs.set i.toNatClampNeg (.int x))), pc + 1, zl, z_s st)
  rw [b2, e]
  rw [z_rf, ← a3, b1]
  rfl) (k hcl (z_ok_ast hz hσ (by decide) (by decide) rfl) zl hl))
theorem mW_castore (hC : m_Ctx p s m args meth c cc nL own dC dI aC A xa X Y) {q : Nat} {i x : Int32} {vs : List Value} (hd : z_dx K cc pc (.castore) 1 aux) (hσ : σ[q]? = some (.inl 2, vs)) (hi : vp_in i vs.length) (k : mW K Z p l e R s m args below meth c QQ dC dI aC A n0 ad0 xa nL (σ.set q (.inl 2, vs.set i.toNatClampNeg (.int (vp_nar .char x))), ce, sl, pc + 1, ls, st)) : mW K Z p l e R s m args below meth c QQ dC dI aC A n0 ad0 xa nL (σ, ce, sl, pc, ls, .int x :: .int i :: .ref q :: st) := fun hcl hz zl hl => mV_castore hC hd.1 hσ hi (w_st hcl hd rfl (fun _ => by
  obtain ⟨a1, a2, a3, a4⟩ := z_in hz hσ
  obtain ⟨b1, b2, b3⟩ := z_ix_ok hi
  have e := z_m_set hσ (k := i.toNatClampNeg) (v := .int (vp_nar .char x)) (m_vp_lt hi)
  rw [b2] at e
  show (bif z_ix i.toInt (h_ln ((q : Int)).toNat) then some (z_up (z_m σ) ((q : Int)).toNat i.toInt.toNat (z_ch x.toInt), pc + 1, zl, z_s st) else none) = some (z_m (σ.set q (.inl 2, vs.set i.toNatClampNeg (.int (vp_nar .char x)))), pc + 1, zl, z_s st)
  rw [b2, e]
  rw [z_rf, ← a3, b1, z_ch_ok]
  rfl) (k hcl (z_ok_ast hz hσ (by decide) (by decide) rfl) zl hl))
theorem mW_lastore (hC : m_Ctx p s m args meth c cc nL own dC dI aC A xa X Y) {q : Nat} {i : Int32} {x : Int64} {vs : List Value} (hd : z_dx K cc pc (.lastore) 1 aux) (hσ : σ[q]? = some (.inl 4, vs)) (hi : vp_in i vs.length) (k : mW K Z p l e R s m args below meth c QQ dC dI aC A n0 ad0 xa nL (σ.set q (.inl 4, vs.set i.toNatClampNeg (.long x)), ce, sl, pc + 1, ls, st)) : mW K Z p l e R s m args below meth c QQ dC dI aC A n0 ad0 xa nL (σ, ce, sl, pc, ls, .long x :: .int i :: .ref q :: st) := fun hcl hz zl hl => mV_lastore hC hd.1 hσ hi (w_st hcl hd rfl (fun _ => by
  obtain ⟨a1, a2, a3, a4⟩ := z_in hz hσ
  obtain ⟨b1, b2, b3⟩ := z_ix_ok hi
  have e := z_m_set hσ (k := i.toNatClampNeg) (v := .long x) (m_vp_lt hi)
  rw [b2] at e
  show (bif z_ix i.toInt (h_ln ((q : Int)).toNat) then some (z_up (z_m σ) ((q : Int)).toNat i.toInt.toNat (x.toInt), pc + 1, zl, z_s st) else none) = some (z_m (σ.set q (.inl 4, vs.set i.toNatClampNeg (.long x))), pc + 1, zl, z_s st)
  rw [b2, e]
  rw [z_rf, ← a3, b1]
  rfl) (k hcl (z_ok_ast hz hσ (by decide) (by decide) rfl) zl hl))
theorem mW_bastore (hC : m_Ctx p s m args meth c cc nL own dC dI aC A xa X Y) {q : Nat} {i x : Int32} {vs : List Value} (hd : z_dx K cc pc (.bastore) 1 aux) (hσ : σ[q]? = some (.inl 1, vs)) (hi : vp_in i vs.length) (k : mW K Z p l e R s m args below meth c QQ dC dI aC A n0 ad0 xa nL (σ.set q (.inl 1, vs.set i.toNatClampNeg (.int (vp_nar .byte x))), ce, sl, pc + 1, ls, st)) : mW K Z p l e R s m args below meth c QQ dC dI aC A n0 ad0 xa nL (σ, ce, sl, pc, ls, .int x :: .int i :: .ref q :: st) := fun hcl hz zl hl => mV_bastore hC hd.1 hσ hi (w_st hcl hd rfl (fun _ => by
  obtain ⟨a1, a2, a3, a4⟩ := z_in hz hσ
  obtain ⟨b1, b2, b3⟩ := z_ix_ok hi
  have e := z_m_set hσ (k := i.toNatClampNeg) (v := .int (vp_nar .byte x)) (m_vp_lt hi)
  rw [b2] at e
  show (bif z_ix i.toInt (h_ln ((q : Int)).toNat) then some (z_up (z_m σ) ((q : Int)).toNat i.toInt.toNat ((match h_kd ((q : Int)).toNat with | .inl 1 => z_by x.toInt | _ => z_bo x.toInt)), pc + 1, zl, z_s st) else none) = some (z_m (σ.set q (.inl 1, vs.set i.toNatClampNeg (.int (vp_nar .byte x)))), pc + 1, zl, z_s st)
  rw [b2, e]
  rw [z_rf, ← a3, b1]
  simp only [a2, cond_true]
  rw [z_by_ok]
  rfl) (k hcl (z_ok_ast hz hσ (by decide) (by decide) rfl) zl hl))
theorem mW_zastore (hC : m_Ctx p s m args meth c cc nL own dC dI aC A xa X Y) {q : Nat} {i x : Int32} {vs : List Value} (hd : z_dx K cc pc (.bastore) 1 aux) (hσ : σ[q]? = some (.inl 3, vs)) (hi : vp_in i vs.length) (k : mW K Z p l e R s m args below meth c QQ dC dI aC A n0 ad0 xa nL (σ.set q (.inl 3, vs.set i.toNatClampNeg (.int (vp_nar .boolean x))), ce, sl, pc + 1, ls, st)) : mW K Z p l e R s m args below meth c QQ dC dI aC A n0 ad0 xa nL (σ, ce, sl, pc, ls, .int x :: .int i :: .ref q :: st) := fun hcl hz zl hl => mV_zastore hC hd.1 hσ hi (w_st hcl hd rfl (fun _ => by
  obtain ⟨a1, a2, a3, a4⟩ := z_in hz hσ
  obtain ⟨b1, b2, b3⟩ := z_ix_ok hi
  have e := z_m_set hσ (k := i.toNatClampNeg) (v := .int (vp_nar .boolean x)) (m_vp_lt hi)
  rw [b2] at e
  show (bif z_ix i.toInt (h_ln ((q : Int)).toNat) then some (z_up (z_m σ) ((q : Int)).toNat i.toInt.toNat ((match h_kd ((q : Int)).toNat with | .inl 1 => z_by x.toInt | _ => z_bo x.toInt)), pc + 1, zl, z_s st) else none) = some (z_m (σ.set q (.inl 3, vs.set i.toNatClampNeg (.int (vp_nar .boolean x)))), pc + 1, zl, z_s st)
  rw [b2, e]
  rw [z_rf, ← a3, b1]
  simp only [a2, cond_true]
  rw [z_bo_ok]
  rfl) (k hcl (z_ok_ast hz hσ (by decide) (by decide) rfl) zl hl))
theorem mW_alen (hC : m_Ctx p s m args meth c cc nL own dC dI aC A xa X Y) {q t : Nat} {vs : List Value} (hd : z_dx K cc pc .arraylength 1 aux) (hσ : σ[q]? = some (.inl t, vs)) (ht : t ≤ 5) (k : mW K Z p l e R s m args below meth c QQ dC dI aC A n0 ad0 xa nL (σ, ce, sl, pc + 1, ls, .int (Int32.ofNat vs.length) :: st)) : mW K Z p l e R s m args below meth c QQ dC dI aC A n0 ad0 xa nL (σ, ce, sl, pc, ls, .ref q :: st) := fun hcl hz zl hl => mV_alen hC hd.1 hσ ht (w_st hcl hd rfl (fun _ => by
  obtain ⟨a1, a2, a3, a4⟩ := z_in hz hσ
  show some (z_m σ, pc + 1, zl, (0, (Int32.ofNat (z_ln ((q : Int)).toNat)).toInt) :: z_s st) = some (z_m σ, pc + 1, zl, (0, (Int32.ofNat vs.length).toInt) :: z_s st)
  rw [z_rf, z_ln_lt a1, a3]) (k hcl hz zl hl))
/-- int rows outside -/
theorem mW_xaload (hC : m_Ctx p s m args meth c cc nL own dC dI aC A xa X Y) {i0 : Nat} {i : Int32} {L : List Int32} (hd : z_dx K cc pc .iaload 1 aux) (hX : X i0 = some L) (hi : vp_in i L.length) (hT : (i0 < 2 ∧ L = (x_tab i0).map Int32.ofInt) ∨ ∀ g r, Z g r) (k : mW K Z p l e R s m args below meth c QQ dC dI aC A n0 ad0 xa nL (σ, ce, sl, pc + 1, ls, .int (L.getD i.toNatClampNeg 0) :: st)) : mW K Z p l e R s m args below meth c QQ dC dI aC A n0 ad0 xa nL (σ, ce, sl, pc, ls, .int i :: .ref (m_X0 + i0) :: st) := by
  rcases hT with ⟨h2, hL⟩ | hT
  · refine fun hcl hz zl hzl => mV_xaload hC hd.1 hX hi (w_st hcl hd rfl (fun _ => ?_) (k hcl hz zl hzl))
    obtain ⟨b1, b2, b3⟩ := z_ix_ok hi
    show (bif z_ix i.toInt (z_ln (((m_X0 + i0 : Nat) : Int)).toNat) then some (z_m σ, pc + 1, zl, (0, z_rd (z_m σ) (((m_X0 + i0 : Nat) : Int)).toNat i.toInt.toNat) :: z_s st) else none) = some (z_m σ, pc + 1, zl, (0, (L.getD i.toNatClampNeg 0).toInt) :: z_s st)
    have e1 : Nat.blt (m_X0 + i0) h_N = false := by
      cases hb : Nat.blt (m_X0 + i0) h_N
      · rfl
      · have : m_X0 + i0 < h_N := Nat.le_of_ble_eq_true hb
        unfold m_X0 h_N at this
        omega
    have e2 : m_X0 + i0 - m_X0 = i0 := by omega
    have e3 : z_ln (m_X0 + i0) = L.length := by unfold z_ln; rw [e1, e2, hL]; simp
    have e4 : z_rd (z_m σ) (m_X0 + i0) i.toInt.toNat = (L.getD i.toNatClampNeg 0).toInt := by
      unfold z_rd
      rw [e1, e2, hL, b2]
      rw [hL, List.length_map] at b3
      have hx := x_tab3' h2
      simp only [cond_false, List.getD_eq_getElem?_getD, List.getElem?_map, List.getElem?_eq_getElem b3, Option.map_some, Option.getD_some]
      have hm := hx _ (List.getElem_mem b3)
      rw [Int32.toInt_ofInt]
      exact (i32_bm hm.1 hm.2).symm
    rw [z_rf, e3, b1, e4]; rfl
  · exact fun hcl hz zl hzl => mV_xaload hC hd.1 hX hi (mV_mono (fun t ⟨r, _, r2⟩ => ⟨r, hT _ _, r2⟩) (k hcl hz zl hzl))
theorem mW_xalen (hC : m_Ctx p s m args meth c cc nL own dC dI aC A xa X Y) {i0 : Nat} {L : List Int32} (hd : z_dx K cc pc .arraylength 1 aux) (hX : X i0 = some L) (hT : (i0 < 2 ∧ L = (x_tab i0).map Int32.ofInt) ∨ ∀ g r, Z g r) (k : mW K Z p l e R s m args below meth c QQ dC dI aC A n0 ad0 xa nL (σ, ce, sl, pc + 1, ls, .int (Int32.ofNat L.length) :: st)) : mW K Z p l e R s m args below meth c QQ dC dI aC A n0 ad0 xa nL (σ, ce, sl, pc, ls, .ref (m_X0 + i0) :: st) := by
  rcases hT with ⟨h2, hL⟩ | hT
  · refine fun hcl hz zl hzl => mV_xalen hC hd.1 hX (w_st hcl hd rfl (fun _ => ?_) (k hcl hz zl hzl))
    show some (z_m σ, pc + 1, zl, (0, (Int32.ofNat (z_ln (((m_X0 + i0 : Nat) : Int)).toNat)).toInt) :: z_s st) = some (z_m σ, pc + 1, zl, (0, (Int32.ofNat L.length).toInt) :: z_s st)
    have e1 : Nat.blt (m_X0 + i0) h_N = false := by
      cases hb : Nat.blt (m_X0 + i0) h_N
      · rfl
      · have : m_X0 + i0 < h_N := Nat.le_of_ble_eq_true hb
        unfold m_X0 h_N at this
        omega
    have e2 : m_X0 + i0 - m_X0 = i0 := by omega
    have e3 : z_ln (m_X0 + i0) = L.length := by unfold z_ln; rw [e1, e2, hL]; simp
    rw [z_rf, e3]
  · exact fun hcl hz zl hzl => mV_xalen hC hd.1 hX (mV_mono (fun t ⟨r, _, r2⟩ => ⟨r, hT _ _, r2⟩) (k hcl hz zl hzl))
theorem mW_places (hC : m_Ctx p s m args meth c cc nL own dC dI aC A xa X Y) {idx : Nat} (hd : z_dx K cc pc (.getstatic idx) 3 [0]) (hw : Cond.fieldLink own idx "LetByTheDegree$Lodging" "PLACES" "[I" ∈ a_tb) (k : mW K Z p l e R s m args below meth c QQ dC dI aC A n0 ad0 xa nL (σ, ce, sl, pc + 3, ls, .ref m_X0 :: st)) : mW K Z p l e R s m args below meth c QQ dC dI aC A n0 ad0 xa nL (σ, ce, sl, pc, ls, st) := fun hcl hz zl hl => mV_places hC hd.1 hw (w_st hcl hd rfl (fun _ => rfl) (k hcl hz zl hl))
theorem mW_steps (hC : m_Ctx p s m args meth c cc nL own dC dI aC A xa X Y) {idx : Nat} (hd : z_dx K cc pc (.getstatic idx) 3 [1]) (hw : Cond.fieldLink own idx "LetByTheDegree$StoveWay" "STEPS" "[I" ∈ a_tb) (k : mW K Z p l e R s m args below meth c QQ dC dI aC A n0 ad0 xa nL (σ, ce, sl, pc + 3, ls, .ref (m_X0 + 1) :: st)) : mW K Z p l e R s m args below meth c QQ dC dI aC A n0 ad0 xa nL (σ, ce, sl, pc, ls, st) := fun hcl hz zl hl => mV_steps hC hd.1 hw (w_st hcl hd rfl (fun _ => rfl) (k hcl hz zl hl))
end ZR
end
section
/-! CALLS AND RETURNS over both -/
noncomputable def m_QZ (below : List Frame) (dC : Nat → ClassId) (dI : Nat → Nat → Nat) (aC : Nat → ClassId) (xa ad : Nat → Nat) (sz : Nat) (σ : m_H) (Q : Option Value → m_H → Prop) (args : Array Value) (s : State) (mc ms : Nat) (A : Nat → Prop) : z_Q → State → Prop := fun rz => MQ below (m_Qc dC dI aC xa ad sz σ (fun r1 σ1 => Q r1 σ1 ∧ z_ok σ1 ∧ rz = (z_m σ1, r1.map z_v))) args s mc ms A
/-- from the cells σ and these arguments the method comes back, within d frames, mc cells and ms slots; what it gives and leaves is Q's, and is what its plain numbers come to -/
noncomputable def m_K (yi : Nat) (l : Launch) (X : Nat → Option (List Int32)) (Y : (Nat → Prop) → State → Heap → Prop) (xa : Nat → Nat) (d : Nat) (y : MethodName) (b : ByteArray) (n : Nat) (r : Option FieldType) (σ : m_H) (as : List Value) (Q : Option Value → m_H → Prop) (mc ms : Nat) : Prop :=
  z_ok σ → v_K l X Y xa d y b n r σ as (fun r1 σ1 => Q r1 σ1 ∧ z_ok σ1 ∧ z_Ev yi (z_m σ, 0, z_fr yi (z_s as), []) (z_m σ1, r1.map z_v)) mc ms
theorem m_K_of {yi : Nat} {K : List (List a_K)} (hK : kt_at yi = K) {l : Launch} {X : Nat → Option (List Int32)} {Y : (Nat → Prop) → State → Heap → Prop} {xa : Nat → Nat} {d : Nat} {y : MethodName} {b : ByteArray} {n : Nat} {r : Option FieldType} {σ : m_H} {as : List Value} {Q : Option Value → m_H → Prop} {mc ms : Nat} (hy : plainFor y = true) (hlen : (lg_sl as).length ≤ n) (hnl : Nat.ble n (z_nl yi) = true)
    (body : ∀ (p : Program) (e : Env) (s : State) (m : MethodId) (args : Array Value) (below : List Frame) (meth : Method) (c : Code) (dC : Nat → ClassId) (dI : Nat → Nat → Nat) (aC : Nat → ClassId) (ad : Nat → Nat) (sz : Nat), m_Ctx p s m args meth c b n y.cls dC dI aC (va_A (m_W ad aC σ) sz) xa X Y → meth.name = y.name → meth.sig.returnType = r →
      mW K (z_Ev yi) p l e (m_rm d mc ms) s m args below meth c (m_QZ below dC dI aC xa ad sz σ Q args s mc ms (va_A (m_W ad aC σ) sz)) dC dI aC (va_A (m_W ad aC σ) sz) σ.length ad xa n (σ, 0, 0, 0, lv_args 0 as, [])) : m_K yi l X Y xa d y b n r σ as Q mc ms := by
  intro hz
  subst hK
  refine v_K_of hy hlen (fun p e s m args below meth c dC dI aC ad sz hC hn hr => ?_)
  refine mV_mono (fun t ht => ?_) (body p e s m args below meth c dC dI aC ad sz hC hn hr (z_cl_Ev yi) hz (z_fr yi (z_s as)) (z_fr_ok (Nat.le_of_ble_eq_true hnl)))
  obtain ⟨rz, h1, o, a1, a2, a3, a4⟩ := ht
  refine ⟨o, a1, a2, ?_, a4⟩
  obtain ⟨⟨r1, σ1, ad1, b1, ⟨b2, b3, b4⟩, b5⟩, b6⟩ := a3
  refine ⟨⟨r1, σ1, ad1, b1, ⟨b2, b3, ?_⟩, b5⟩, b6⟩
  rw [← b4]
  exact h1
theorem m_K.v {yi : Nat} {l : Launch} {X : Nat → Option (List Int32)} {Y : (Nat → Prop) → State → Heap → Prop} {xa : Nat → Nat} {d : Nat} {y : MethodName} {b : ByteArray} {n : Nat} {r : Option FieldType} {σ : m_H} {as : List Value} {Q : Option Value → m_H → Prop} {mc ms : Nat} (h : m_K yi l X Y xa d y b n r σ as Q mc ms) (hz : z_ok σ) : v_K l X Y xa d y b n r σ as Q mc ms := (h hz).mono fun _ _ q => q.1
theorem m_K.E {yi : Nat} {l : Launch} {X : Nat → Option (List Int32)} {Y : (Nat → Prop) → State → Heap → Prop} {xa : Nat → Nat} {d : Nat} {y : MethodName} {b : ByteArray} {n : Nat} {r : Option FieldType} {σ : m_H} {as : List Value} {Q : Option Value → m_H → Prop} {mc ms : Nat} (h : m_K yi l X Y xa d y b n r σ as Q mc ms) : m_K yi l X Y xa d y b n r σ as (fun r1 σ1 => Q r1 σ1 ∧ z_ok σ1 ∧ z_Ev yi (z_m σ, 0, z_fr yi (z_s as), []) (z_m σ1, r1.map z_v)) mc ms := fun hz => (h hz).mono fun _ _ q => ⟨q, q.2⟩
theorem z_s_call {as st : List Value} {v : Value} : z_s (as.reverse ++ v :: st) = ((z_s as).reverse ++ [z_v v]) ++ z_s st := by
  simp [z_s, List.map_append, List.map_reverse]
theorem z_callV {pc idx j yi w ne fl q : Nat} {as st : List Value} (hnp : z_np yi = as.length) : z_call (pc, .invokevirtual idx, 3, fl, [j, yi, w, ne]) (z_s (as.reverse ++ .ref q :: st)) = some (yi, z_s (.ref q :: as), z_s st) := by
  have hl : ((z_s as).reverse ++ [z_v (.ref q)]).length = z_np yi + 1 := by simp [z_s, hnp]
  show (bif Nat.ble (z_np yi + 1) (z_s (as.reverse ++ .ref q :: st)).length then some (yi, ((z_s (as.reverse ++ .ref q :: st)).take (z_np yi + 1)).reverse, (z_s (as.reverse ++ .ref q :: st)).drop (z_np yi + 1)) else none) = _
  rw [z_s_call, List.take_left' hl, List.drop_left' hl, Nat.ble_eq_true_of_le (by rw [List.length_append, hl]; omega)]
  simp [z_s]
theorem z_callS {pc idx j yi w ne fl : Nat} {as st : List Value} (hnp : z_np yi = as.length) : z_call (pc, .invokestatic idx, 3, fl, [j, yi, w, ne]) (z_s (as.reverse ++ st)) = some (yi, z_s as, z_s st) := by
  have e : z_s (as.reverse ++ st) = (z_s as).reverse ++ z_s st := by simp [z_s, List.map_append, List.map_reverse]
  have hl : ((z_s as).reverse).length = z_np yi := by simp [z_s, hnp]
  show (bif Nat.ble (z_np yi) (z_s (as.reverse ++ st)).length then some (yi, ((z_s (as.reverse ++ st)).take (z_np yi)).reverse, (z_s (as.reverse ++ st)).drop (z_np yi)) else none) = _
  rw [e, List.take_left' hl, List.drop_left' hl, Nat.ble_eq_true_of_le (by rw [List.length_append, hl]; omega)]
  simp
theorem z_s_ret {r : Option Value} {st : List Value} : z_s (r.toList ++ st) = (r.map z_v).toList ++ z_s st := by cases r <;> rfl
section ZC
variable {p : Program} {l : Launch} {e : Env} {R : Room} {s : State} {m : MethodId} {args : Array Value} {below : List Frame} {meth : Method} {c : Code} {dC : Nat → ClassId} {dI : Nat → Nat → Nat} {aC : Nat → ClassId} {ad0 xa : Nat → Nat} {nL : Nat} {cc : ByteArray} {own : String} {X : Nat → Option (List Int32)} {Y : (Nat → Prop) → State → Heap → Prop}
variable {K : List (List a_K)} {Z : z_G → z_Q → Prop} {aux : List Nat}
variable {σ σ0 : m_H} {ce sl pc sz mc ms : Nat} {ls : List (Nat × Value)} {st : List Value} {Q : Option Value → m_H → Prop}
theorem mW_vret (hC : m_Ctx p s m args meth c cc nL own dC dI aC (va_A (m_W ad0 aC σ0) sz) xa X Y) (hd : z_dx K cc pc .return_ 1 aux) (hr : meth.sig.returnType = none) (hQ : Q none σ) (hce : ce ≤ mc) (hsl : sl ≤ ms) :
    mW K Z p l e R s m args below meth c (m_QZ below dC dI aC xa ad0 sz σ0 Q args s mc ms (va_A (m_W ad0 aC σ0) sz)) dC dI aC (va_A (m_W ad0 aC σ0) sz) σ0.length ad0 xa nL (σ, ce, sl, pc, ls, []) := fun hcl hz zl hl => by
  obtain ⟨fl, hq⟩ := hd.2
  have h1 : Z (z_m σ, pc, zl, []) (z_m σ, none) := hcl.2.1 _ _ _ hq rfl rfl
  exact mV_mono (fun t h => ⟨(z_m σ, none), h1, h⟩) (mV_vret hC hd.1 hr (Q := fun r1 σ1 => Q r1 σ1 ∧ z_ok σ1 ∧ ((z_m σ, none) : z_Q) = (z_m σ1, r1.map z_v)) ⟨hQ, hz, rfl⟩ hce hsl)
theorem mW_iret (hC : m_Ctx p s m args meth c cc nL own dC dI aC (va_A (m_W ad0 aC σ0) sz) xa X Y) {x : Int32} {ty : FieldType} (hd : z_dx K cc pc .ireturn 1 aux) (hr : meth.sig.returnType = some ty) (hn : narrow ty (.int x) = .int x) (hQ : Q (some (.int x)) σ) (hce : ce ≤ mc) (hsl : sl ≤ ms) :
    mW K Z p l e R s m args below meth c (m_QZ below dC dI aC xa ad0 sz σ0 Q args s mc ms (va_A (m_W ad0 aC σ0) sz)) dC dI aC (va_A (m_W ad0 aC σ0) sz) σ0.length ad0 xa nL (σ, ce, sl, pc, ls, [.int x]) := fun hcl hz zl hl => by
  obtain ⟨fl, hq⟩ := hd.2
  have h1 : Z (z_m σ, pc, zl, [z_v (.int x)]) (z_m σ, some (z_v (.int x))) := hcl.2.1 _ _ _ hq rfl rfl
  exact mV_mono (fun t h => ⟨(z_m σ, some (z_v (.int x))), h1, h⟩) (mV_iret hC hd.1 hr hn (Q := fun r1 σ1 => Q r1 σ1 ∧ z_ok σ1 ∧ ((z_m σ, some (z_v (.int x))) : z_Q) = (z_m σ1, r1.map z_v)) ⟨hQ, hz, rfl⟩ hce hsl)
theorem mW_lret (hC : m_Ctx p s m args meth c cc nL own dC dI aC (va_A (m_W ad0 aC σ0) sz) xa X Y) {x : Int64} (hd : z_dx K cc pc .lreturn 1 aux) (hr : meth.sig.returnType = some .long) (hQ : Q (some (.long x)) σ) (hce : ce ≤ mc) (hsl : sl ≤ ms) :
    mW K Z p l e R s m args below meth c (m_QZ below dC dI aC xa ad0 sz σ0 Q args s mc ms (va_A (m_W ad0 aC σ0) sz)) dC dI aC (va_A (m_W ad0 aC σ0) sz) σ0.length ad0 xa nL (σ, ce, sl, pc, ls, [.long x]) := fun hcl hz zl hl => by
  obtain ⟨fl, hq⟩ := hd.2
  have h1 : Z (z_m σ, pc, zl, [z_v (.long x)]) (z_m σ, some (z_v (.long x))) := hcl.2.1 _ _ _ hq rfl rfl
  exact mV_mono (fun t h => ⟨(z_m σ, some (z_v (.long x))), h1, h⟩) (mV_lret hC hd.1 hr (Q := fun r1 σ1 => Q r1 σ1 ∧ z_ok σ1 ∧ ((z_m σ, some (z_v (.long x))) : z_Q) = (z_m σ1, r1.map z_v)) ⟨hQ, hz, rfl⟩ hce hsl)
end ZC
section ZD
variable {p : Program} {l : Launch} {e : Env} {R : Room} {s : State} {m : MethodId} {args : Array Value} {below : List Frame} {meth : Method} {c : Code} {QQ : z_Q → State → Prop} {dC : Nat → ClassId} {dI : Nat → Nat → Nat} {aC : Nat → ClassId} {A : Nat → Prop} {n0 : Nat} {ad0 xa : Nat → Nat} {nL : Nat} {cc : ByteArray} {own : String} {X : Nat → Option (List Int32)} {Y : (Nat → Prop) → State → Heap → Prop}
variable {K : List (List a_K)} {Z : z_G → z_Q → Prop} {aux : List Nat}
variable {σ : m_H} {ce sl pc mc ms : Nat} {ls : List (Nat × Value)} {st as : List Value} {Q : Option Value → m_H → Prop}
theorem w_call {i : Jvm.ClassFile.Instr} {n yi : Nat} {vs : List Value} {zl : z_L} (hcl : z_cl K Z) (hd : z_dx K cc pc i n aux) (hk : z_kd i aux = 2) {stA : List Value} (hs : ∀ fl, z_call (pc, i, n, fl, aux) (z_s stA) = some (yi, z_s vs, z_s st)) {r : Option Value} {σ' : m_H} (hE : z_Ev yi (z_m σ, 0, z_fr yi (z_s vs), []) (z_m σ', r.map z_v)) {g' : m_G} (k : mV p l e R s m args below meth c (fun t => ∃ r2, Z (z_m σ', pc + 3, zl, z_s (r.toList ++ st)) r2 ∧ QQ r2 t) dC dI aC A n0 ad0 xa nL g') : mV p l e R s m args below meth c (fun t => ∃ r2, Z (z_m σ, pc, zl, z_s stA) r2 ∧ QQ r2 t) dC dI aC A n0 ad0 xa nL g' := by
  obtain ⟨fl, hq⟩ := hd.2
  refine mV_mono (fun t ⟨r2, r3, r4⟩ => ⟨r2, ?_, r4⟩) k
  rw [z_s_ret] at r3
  exact hcl.2.2 (pc, i, n, fl, aux) (z_m σ, pc, zl, z_s stA) yi (z_s vs) (z_s st) (z_m σ') (r.map z_v) hq hk (hs fl) hE r2 r3
theorem mW_callV (hY : m_Yok Y) (hC : m_Ctx p s m args meth c cc nL own dC dI aC A xa X Y) {q ci idx d n j yi w ne : Nat} {r0 : vw_C} {fs : List Value} {y : MethodName} {b : ByteArray} {rt : Option FieldType} (hd : z_dx K cc pc (.invokevirtual idx) 3 [j, yi, w, ne]) (hnp : z_np yi = as.length) (hM : m_K yi l X Y xa d y b n rt σ (.ref q :: as) Q mc ms) (hσ : σ[q]? = some (.inr ci, fs)) (hc : vwCl[ci]? = some r0) (hyc : y.cls = r0.1)
    (w1 : Cond.methodLink own idx y ∈ a_tb) (w2 : Cond.instanceMethod y ∈ a_tb) (w3 : Cond.selects r0.1 y y ∈ a_tb) (w4 : Cond.initialized r0.1 ∈ a_tb) (w5 : Cond.code y b n rt ∈ a_tb) (hy : y.cls ≠ "java/lang/invoke/MethodHandle" ∧ y.cls ≠ "java/lang/invoke/VarHandle") (hlen : (parseMethodDescriptor y.desc).map (fun d => d.parameters.length) = some as.length)
    (hR : d + 1 ≤ R.frames ∧ 40 * d + 40 ≤ R.locals) (h20 : n ≤ 20) (hce : ce + mc ≤ R.cells) (hsl : sl + ms ≤ R.slots) (h8 : (st.map fun v => v.category).sum ≤ 8) (hn0 : n0 ≤ σ.length) (ho : ∀ v ∈ st, m_vOk σ.length v) (hol : ∀ q ∈ ls, m_vOk σ.length q.2)
    (kk : ∀ (r : Option Value) (σ' : m_H), Q r σ' → mW K Z p l e R s m args below meth c QQ dC dI aC A n0 ad0 xa nL (σ', ce + mc, sl + ms, pc + 3, ls, r.toList ++ st)) : mW K Z p l e R s m args below meth c QQ dC dI aC A n0 ad0 xa nL (σ, ce, sl, pc, ls, as.reverse ++ .ref q :: st) := fun hcl hz zl hl =>
  mV_callV hY hC hd.1 (hM hz) hσ hc hyc w1 w2 w3 w4 w5 hy hlen hR h20 hce hsl h8 hn0 ho hol (fun r σ' hQ => w_call hcl hd rfl (fun _ => z_callV hnp) hQ.2.2 (kk r σ' hQ.1 hcl hQ.2.1 zl hl))
theorem mW_callS (hY : m_Yok Y) (hC : m_Ctx p s m args meth c cc nL own dC dI aC A xa X Y) {idx d n j yi w ne : Nat} {y : MethodName} {b : ByteArray} {rt : Option FieldType} (hd : z_dx K cc pc (.invokestatic idx) 3 [j, yi, w, ne]) (hnp : z_np yi = as.length) (hM : m_K yi l X Y xa d y b n rt σ as Q mc ms)
    (w1 : Cond.methodLink own idx y ∈ a_tb) (w2 : Cond.static y ∈ a_tb) (w4 : Cond.initialized y.cls ∈ a_tb) (w5 : Cond.code y b n rt ∈ a_tb) (hy : y.cls ≠ "java/lang/invoke/MethodHandle" ∧ y.cls ≠ "java/lang/invoke/VarHandle") (hlen : (parseMethodDescriptor y.desc).map (fun d => d.parameters.length) = some as.length)
    (hR : d + 1 ≤ R.frames ∧ 40 * d + 40 ≤ R.locals) (h20 : n ≤ 20) (hce : ce + mc ≤ R.cells) (hsl : sl + ms ≤ R.slots) (h8 : (st.map fun v => v.category).sum ≤ 8) (hn0 : n0 ≤ σ.length) (ho : ∀ v ∈ st, m_vOk σ.length v) (hol : ∀ q ∈ ls, m_vOk σ.length q.2)
    (kk : ∀ (r : Option Value) (σ' : m_H), Q r σ' → mW K Z p l e R s m args below meth c QQ dC dI aC A n0 ad0 xa nL (σ', ce + mc, sl + ms, pc + 3, ls, r.toList ++ st)) : mW K Z p l e R s m args below meth c QQ dC dI aC A n0 ad0 xa nL (σ, ce, sl, pc, ls, as.reverse ++ st) := fun hcl hz zl hl =>
  mV_callS hY hC hd.1 (hM hz) w1 w2 w4 w5 hy hlen hR h20 hce hsl h8 hn0 ho hol (fun r σ' hQ => w_call hcl hd rfl (fun _ => z_callS hnp) hQ.2.2 (kk r σ' hQ.1 hcl hQ.2.1 zl hl))
theorem mW_callSN (hY : m_Yok Y) (hC : m_Ctx p s m args meth c cc nL own dC dI aC A xa X Y) {idx d n j yi w ne : Nat} {host : String} {y : MethodName} {b : ByteArray} {rt : Option FieldType} (hd : z_dx K cc pc (.invokestatic idx) 3 [j, yi, w, ne]) (hnp : z_np yi = as.length) (hM : m_K yi l X Y xa d y b n rt σ as Q mc ms)
    (w1 : Cond.methodLinkNest own idx y host ∈ a_nb) (w2 : Cond.static y ∈ a_tb) (w4 : Cond.initialized y.cls ∈ a_tb) (w5 : Cond.code y b n rt ∈ a_tb) (hy : y.cls ≠ "java/lang/invoke/MethodHandle" ∧ y.cls ≠ "java/lang/invoke/VarHandle") (hlen : (parseMethodDescriptor y.desc).map (fun d => d.parameters.length) = some as.length)
    (hR : d + 1 ≤ R.frames ∧ 40 * d + 40 ≤ R.locals) (h20 : n ≤ 20) (hce : ce + mc ≤ R.cells) (hsl : sl + ms ≤ R.slots) (h8 : (st.map fun v => v.category).sum ≤ 8) (hn0 : n0 ≤ σ.length) (ho : ∀ v ∈ st, m_vOk σ.length v) (hol : ∀ q ∈ ls, m_vOk σ.length q.2)
    (kk : ∀ (r : Option Value) (σ' : m_H), Q r σ' → mW K Z p l e R s m args below meth c QQ dC dI aC A n0 ad0 xa nL (σ', ce + mc, sl + ms, pc + 3, ls, r.toList ++ st)) : mW K Z p l e R s m args below meth c QQ dC dI aC A n0 ad0 xa nL (σ, ce, sl, pc, ls, as.reverse ++ st) := fun hcl hz zl hl =>
  mV_callSN hY hC hd.1 (hM hz) w1 w2 w4 w5 hy hlen hR h20 hce hsl h8 hn0 ho hol (fun r σ' hQ => w_call hcl hd rfl (fun _ => z_callS hnp) hQ.2.2 (kk r σ' hQ.1 hcl hQ.2.1 zl hl))
theorem z_cpy_at {fs gs : List Value} {sp dp n : Nat} (h1 : sp + n ≤ fs.length) (h2 : dp + n ≤ gs.length) (k : Nat) : (gs.take dp ++ (fs.drop sp).take n ++ gs.drop (dp + n))[k]? = if dp ≤ k ∧ k < dp + n then fs[sp + (k - dp)]? else gs[k]? := by
  have e1 : (gs.take dp).length = dp := by simp; omega
  have e2 : ((fs.drop sp).take n).length = n := by simp; omega
  by_cases hk : dp ≤ k ∧ k < dp + n
  · rw [if_pos hk, List.getElem?_append_left (by simp; omega), List.getElem?_append_right (by omega), e1, List.getElem?_take, if_pos (by omega), List.getElem?_drop]
  · rw [if_neg hk]
    by_cases hk2 : k < dp
    · rw [List.getElem?_append_left (by simp; omega), List.getElem?_append_left (by omega), List.getElem?_take, if_pos hk2]
    · rw [List.getElem?_append_right (by simp; omega)]
      simp only [List.length_append, e1, e2, List.getElem?_drop]
      congr 1
      omega
theorem z_m_cpy {σ : m_H} {q0 q1 : Nat} {kd0 kd1 : Nat ⊕ Nat} {fs gs : List Value} {sp dp n : Nat} (h0 : σ[q0]? = some (kd0, fs)) (h1 : σ[q1]? = some (kd1, gs)) (g4 : sp + n ≤ fs.length) (g5 : dp + n ≤ gs.length) : z_m (σ.set q1 (kd1, gs.take dp ++ (fs.drop sp).take n ++ gs.drop (dp + n))) = z_cp (z_m σ) q0 sp q1 dp n := by
  have hl := (List.getElem?_eq_some_iff.mp h1).1
  funext p k
  unfold z_cp
  by_cases hp : p = q1
  · subst hp
    have e : c_at (σ.set p (kd1, gs.take dp ++ (fs.drop sp).take n ++ gs.drop (dp + n))) p k = if dp ≤ k ∧ k < dp + n then fs[sp + (k - dp)]? else gs[k]? := by
      rw [c_at_eq (List.getElem?_set_self hl)]
      exact z_cpy_at g4 g5 k
    by_cases hk : dp ≤ k ∧ k < dp + n
    · rw [if_pos ⟨rfl, hk⟩]
      unfold z_m
      rw [e, if_pos hk, c_at_eq h0]
    · rw [if_neg (fun z => hk z.2)]
      unfold z_m
      rw [e, if_neg hk, c_at_eq h1]
  · rw [if_neg (fun z => hp z.1)]
    unfold z_m c_at
    rw [List.getElem?_set_ne (Ne.symm hp)]
theorem z_ok_cpy {σ : m_H} (hz : z_ok σ) {q0 q1 : Nat} {fs gs : List Value} {sp dp n : Nat} (h0 : σ[q0]? = some (.inl 0, fs)) (h1 : σ[q1]? = some (.inl 0, gs)) (g4 : sp + n ≤ fs.length) (g5 : dp + n ≤ gs.length) : z_ok (σ.set q1 (.inl 0, gs.take dp ++ (fs.drop sp).take n ++ gs.drop (dp + n))) := by
  obtain ⟨a1, a2, a3, a4⟩ := z_in hz h0
  obtain ⟨b1, b2, b3, b4⟩ := z_in hz h1
  have hl := (List.getElem?_eq_some_iff.mp h1).1
  refine ⟨by rw [List.length_set]; exact hz.1, fun p hp => ?_⟩
  by_cases hq : p = q1
  · subst hq
    refine ⟨_, by rw [b2]; exact List.getElem?_set_self hl, by simp; omega, fun k v hv => ?_⟩
    rw [z_cpy_at g4 g5] at hv
    split at hv
    · obtain ⟨c1, c2⟩ := a4 _ _ hv
      refine ⟨?_, fun z => absurd z (z_cstA b1 b2 (by decide) k)⟩
      rw [c1]
      unfold z_tt
      rw [a2, b2]
    · exact b4 k v hv
  · obtain ⟨ws, w1, w2, w3⟩ := hz.2 p hp
    exact ⟨ws, by rw [List.getElem?_set_ne (Ne.symm hq)]; exact w1, w2, w3⟩
theorem mW_copyi (hC : m_Ctx p s m args meth c cc nL own dC dI aC A xa X Y) {q0 q1 idx xj xk : Nat} {fs gs : List Value} {sp dp n : Int32} (hd : z_dx K cc pc (.invokestatic idx) 3 [xj, xk]) (w1 : Cond.methodLink own idx arraycopyName ∈ a_tb) (w2 : Cond.native arraycopyName ∈ a_tb) (w3 : Cond.static arraycopyName ∈ a_tb) (w4 : Cond.initialized "java/lang/System" ∈ a_tb)
    (hσ0 : σ[q0]? = some (.inl 0, fs)) (hσ1 : σ[q1]? = some (.inl 0, gs)) (g1 : ¬ sp < 0) (g2 : ¬ dp < 0) (g3 : ¬ n < 0) (g4 : sp.toNatClampNeg + n.toNatClampNeg ≤ fs.length) (g5 : dp.toNatClampNeg + n.toNatClampNeg ≤ gs.length) (hR : 1 ≤ R.frames ∧ 40 ≤ R.locals) (h8 : (st.map fun v => v.category).sum ≤ 8)
    (k : mW K Z p l e R s m args below meth c QQ dC dI aC A n0 ad0 xa nL (σ.set q1 (.inl 0, gs.take dp.toNatClampNeg ++ (fs.drop sp.toNatClampNeg).take n.toNatClampNeg ++ gs.drop (dp.toNatClampNeg + n.toNatClampNeg)), ce, sl, pc + 3, ls, st)) : mW K Z p l e R s m args below meth c QQ dC dI aC A n0 ad0 xa nL (σ, ce, sl, pc, ls, .int n :: .int dp :: .ref q1 :: .int sp :: .ref q0 :: st) := fun hcl hz zl hl => mV_copyi hC hd.1 w1 w2 w3 w4 hσ0 hσ1 g1 g2 g3 g4 g5 hR h8 (w_st hcl hd rfl (fun _ => by
  obtain ⟨a1, a2, a3, a4⟩ := z_in hz hσ0
  obtain ⟨b1, b2, b3, b4⟩ := z_in hz hσ1
  have e1 : sp.toNatClampNeg = sp.toInt.toNat := rfl
  have e2 : dp.toNatClampNeg = dp.toInt.toNat := rfl
  have e3 : n.toNatClampNeg = n.toInt.toNat := rfl
  have f1 : ¬ sp.toInt < 0 := fun z => g1 (Int32.lt_iff_toInt_lt.mpr z)
  have f2 : ¬ dp.toInt < 0 := fun z => g2 (Int32.lt_iff_toInt_lt.mpr z)
  have f3 : ¬ n.toInt < 0 := fun z => g3 (Int32.lt_iff_toInt_lt.mpr z)
  have e := z_m_cpy hσ0 hσ1 g4 g5
  show (bif decide (0 ≤ n.toInt) && (decide (0 ≤ dp.toInt) && (decide (0 ≤ sp.toInt) && (decide (sp.toInt + n.toInt ≤ (h_ln ((q0 : Int)).toNat : Int)) && decide (dp.toInt + n.toInt ≤ (h_ln ((q1 : Int)).toNat : Int))))) then some (z_cp (z_m σ) ((q0 : Int)).toNat sp.toInt.toNat ((q1 : Int)).toNat dp.toInt.toNat n.toInt.toNat, pc + 3, zl, z_s st) else none) = some (z_m _, pc + 3, zl, z_s st)
  rw [e, z_rf, z_rf, ← a3, ← b3, decide_eq_true (show (0 : Int) ≤ n.toInt by omega), decide_eq_true (show (0 : Int) ≤ dp.toInt by omega), decide_eq_true (show (0 : Int) ≤ sp.toInt by omega), decide_eq_true (show sp.toInt + n.toInt ≤ (fs.length : Int) by omega), decide_eq_true (show dp.toInt + n.toInt ≤ (gs.length : Int) by omega)]
  rfl) (k hcl (z_ok_cpy hz hσ0 hσ1 g4 g5) zl hl))
end ZD
/-- what a type says of the plain number -/
def z_tg (y : Nat × Int × Int) (w : Nat) : Bool := match y.1 with
  | 0 => Nat.beq w 0
  | 1 => Nat.beq w 2
  | 2 => Nat.beq w 1
  | 3 => Nat.beq w 0
  | 4 => Nat.beq w 2
  | _ => false
theorem z_tg_ok {B : Int} {y : Nat × Int × Int} {v : Value} {w : Nat} (h : t_ok B y v) (g : z_tg y w = true) : z_vt v = w ∧ (y.1 = 1 → v = .ref y.2.1.toNat) := by
  obtain ⟨a, b, c⟩ := y
  match a, h, g with
  | 0, h, g =>
    obtain ⟨x, rfl, -⟩ := h
    exact ⟨(Nat.eq_of_beq_eq_true g).symm, fun z => by cases z⟩
  | 1, h, g =>
    have h : v = .ref b.toNat := h
    subst h
    exact ⟨(Nat.eq_of_beq_eq_true g).symm, fun _ => rfl⟩
  | 2, h, g =>
    obtain ⟨x, rfl⟩ := h
    exact ⟨(Nat.eq_of_beq_eq_true g).symm, fun z => by cases z⟩
  | 3, h, g =>
    obtain ⟨x, rfl, -⟩ := h
    exact ⟨(Nat.eq_of_beq_eq_true g).symm, fun z => by cases z⟩
  | 4, h, g =>
    have h : v = .null ∨ ∃ k, v = .ref k := h
    refine ⟨?_, fun z => by cases z⟩
    rcases h with rfl | ⟨k, rfl⟩ <;> exact (Nat.eq_of_beq_eq_true g).symm
  | n + 5, h, g => cases g
noncomputable def z_tyc : Bool := (List.range h_N).all fun p => match h_at p with
  | (.inl t, _, ts) => Nat.blt 0 ts.length && ts.all fun y => z_tg y (if t = 4 then 1 else if t = 5 then 2 else 0)
  | (.inr ci, n, ts) => Nat.beq ts.length n && (List.range n).all fun k => match ts[k]? with
    | some y => z_tg y (z_ft (a_ty ci k))
    | none => false
set_option maxRecDepth 100000 in
theorem z_ty : z_tyc = true := by decide +kernel
theorem z_ty_at {p k : Nat} (hp : p < h_N) (hk : k < h_ln p) : z_tg (h_ty p k) (z_tt p k) = true := by
  have hc := List.all_eq_true.mp z_ty p (List.mem_range.mpr hp)
  unfold h_ln at hk
  unfold h_ty t_at z_tt h_kd
  generalize h_at p = c at hc hk ⊢
  obtain ⟨kd, n, ts⟩ := c
  simp only at hk
  cases kd with
  | inl t =>
    simp only at hc ⊢
    obtain ⟨c1, c2⟩ := Bool.and_eq_true _ _ |>.mp hc
    have c1 : 0 < ts.length := Nat.le_of_ble_eq_true c1
    have hm := Nat.mod_lt k c1
    rw [List.getElem?_eq_getElem hm]
    exact List.all_eq_true.mp c2 _ (List.getElem_mem hm)
  | inr ci =>
    simp only at hc ⊢
    obtain ⟨c1, c2⟩ := Bool.and_eq_true _ _ |>.mp hc
    have c1 := Nat.eq_of_beq_eq_true c1
    have hkl : k < ts.length := by omega
    have e := List.all_eq_true.mp c2 k (List.mem_range.mpr hk)
    rw [Nat.mod_eq_of_lt hkl, List.getElem?_eq_getElem hkl]
    rw [List.getElem?_eq_getElem hkl] at e
    exact e
theorem z_of_h {B : Int} {σ : m_H} (h : h_ok B σ) : z_ok σ := ⟨h.1, fun p hp => by
  obtain ⟨vs, h1, h2, h3⟩ := h.2 p hp
  refine ⟨vs, h1, h2, fun k v hv => z_tg_ok (h3 k v hv).1 (z_ty_at hp ?_)⟩
  have := (List.getElem?_eq_some_iff.mp hv).1
  omega⟩
end
section
/-! WHAT A METHOD COMES TO, as a function -/
noncomputable def z_R (y : Nat) (g : z_G) : Option z_Q := @dite (Option z_Q) (∃ r, z_Ev y g r) (Classical.propDecidable _) (fun h => some (Classical.choose h)) (fun _ => none)
theorem z_R_iff {y : Nat} {g : z_G} {r : z_Q} : z_R y g = some r ↔ z_Ev y g r := by
  classical
  unfold z_R
  constructor
  · intro h
    split at h
    · rename_i hx
      rw [← Option.some.inj h]
      exact Classical.choose_spec hx
    · cases h
  · intro h
    have hx : ∃ r, z_Ev y g r := ⟨r, h⟩
    rw [dif_pos hx]
    exact congrArg some (z_Ev_one (Classical.choose_spec hx) h)
theorem z_R_ext {y y' : Nat} {g g' : z_G} (h : ∀ r, z_Ev y g r ↔ z_Ev y' g' r) : z_R y g = z_R y' g' := by
  apply Option.ext
  intro r
  exact (z_R_iff (r := r)).trans ((h r).trans z_R_iff.symm)
theorem z_Ev_st {y : Nat} {K : List (List a_K)} (hK : kt_at y = K) {g g' : z_G} {q : a_K} (hq : k_get K g.2.1 = some q) (hk : z_kd q.2.1 q.2.2.2.2 = 0) (hs : z_step q g = some g') (r : z_Q) : z_Ev y g r ↔ z_Ev y g' r := by
  subst hK
  constructor
  · rintro ⟨f, h⟩
    cases f with
    | zero => cases h
    | succ f =>
      unfold z_ex at h
      simp only [hq, hk, hs] at h
      exact ⟨f, h⟩
  · exact (z_cl_Ev y).1 q g g' hq hk hs r
theorem z_R_st {y : Nat} {K : List (List a_K)} (hK : kt_at y = K) {g g' : z_G} {q : a_K} (hq : k_get K g.2.1 = some q) (hk : z_kd q.2.1 q.2.2.2.2 = 0) (hs : z_step q g = some g') : z_R y g = z_R y g' := z_R_ext (z_Ev_st hK hq hk hs)
theorem z_R_bad {y : Nat} {K : List (List a_K)} (hK : kt_at y = K) {g : z_G} {q : a_K} (hq : k_get K g.2.1 = some q) (hk : z_kd q.2.1 q.2.2.2.2 = 0) (hs : z_step q g = none) : z_R y g = none := by
  cases h : z_R y g with
  | none => rfl
  | some r =>
    obtain ⟨f, h⟩ := z_R_iff.mp h
    subst hK
    cases f with
    | zero => cases h
    | succ f =>
      unfold z_ex at h
      simp only [hq, hk, hs] at h
      cases h
theorem z_R_ret {y : Nat} {K : List (List a_K)} (hK : kt_at y = K) {m : z_M} {pc : Nat} {ls : z_L} {st : List z_V} {q : a_K} {r : z_Q} (hq : k_get K pc = some q) (hk : z_kd q.2.1 q.2.2.2.2 = 1) (hs : z_ret q (m, pc, ls, st) = some r) : z_R y (m, pc, ls, st) = some r := by
  subst hK
  exact z_R_iff.mpr ((z_cl_Ev y).2.1 q (m, pc, ls, st) r hq hk hs)
theorem z_R_call {y : Nat} {K : List (List a_K)} (hK : kt_at y = K) {m : z_M} {pc pc' : Nat} {ls : z_L} {st : List z_V} {q : a_K} {y2 : Nat} {as rest : List z_V} {fr : z_L} (hq : k_get K pc = some q) (hk : z_kd q.2.1 q.2.2.2.2 = 2) (hc : z_call q st = some (y2, as, rest)) (hf : z_fr y2 as = fr) (hp : pc + 3 = pc') : z_R y (m, pc, ls, st) = (z_R y2 (m, 0, fr, [])).bind fun r => z_R y (r.1, pc', ls, r.2.toList ++ rest) := by
  subst hK hf hp
  apply Option.ext
  intro r
  constructor
  · intro h
    obtain ⟨f, h⟩ := z_R_iff.mp h
    cases f with
    | zero => cases h
    | succ f =>
      unfold z_ex at h
      simp only [hq, hk, hc] at h
      split at h
      · rename_i m' v hv
        rw [z_R_iff.mpr ⟨f, hv⟩]
        exact z_R_iff.mpr ⟨f, h⟩
      · cases h
  · intro h
    obtain ⟨⟨m', v⟩, h1, h2⟩ := Option.bind_eq_some_iff.mp h
    exact z_R_iff.mpr ((z_cl_Ev y).2.2 q (m, pc, ls, st) y2 as rest m' v hq hk hc (z_R_iff.mp h1) r (z_R_iff.mp h2))
/-- some instructions at once -/
noncomputable def z_run (K : List (List a_K)) : Nat → z_G → Option z_G
  | 0, g => some g
  | n + 1, (m, pc, ls, st) => match k_get K pc with
    | none => none
    | some q => match z_kd q.2.1 q.2.2.2.2 with
      | 0 => (match z_step q (m, pc, ls, st) with
        | some g' => z_run K n g'
        | none => none)
      | _ => none
theorem z_R_run {y : Nat} {K : List (List a_K)} (hK : kt_at y = K) : ∀ {n : Nat} {g g' : z_G}, z_run K n g = some g' → z_R y g = z_R y g'
  | 0, g, g', h => by cases h; rfl
  | n + 1, (m, pc, ls, st), g', h => by
    unfold z_run at h
    split at h
    · cases h
    · rename_i q hq
      split at h
      · rename_i hk
        split at h
        · rename_i g1 hs
          exact (z_R_st hK hq hk hs).trans (z_R_run hK h)
        · cases h
      · cases h
theorem z_if {α : Type} {c : Prop} [h : Decidable c] {a a' b b' : α} (h1 : a = a') (h2 : b = b') : (if c then a else b) = (if c then a' else b') := by rw [h1, h2]
theorem z_bif {α : Type} {c : Prop} [h : Decidable c] {a b : α} : (bif decide c then a else b) = (if c then a else b) := by
  by_cases hc : c <;> simp [hc]
theorem z_bif_n {α : Type} {c : Prop} [h : Decidable c] {a b : α} : (bif !decide c then a else b) = (if c then b else a) := by
  by_cases hc : c <;> simp [hc]
theorem z_R_pc {y : Nat} {m : z_M} {b : Bool} {p q : Nat} {ls : z_L} {st : List z_V} : z_R y (m, bif b then p else q, ls, st) = bif b then z_R y (m, p, ls, st) else z_R y (m, q, ls, st) := by cases b <;> rfl
/-- a branch: by what is asked -/
theorem z_R_if {y : Nat} {K : List (List a_K)} (hK : kt_at y = K) {c : Prop} [hc : Decidable c] {m : z_M} {pc p1 p2 : Nat} {ls : z_L} {st st' : List z_V} {q : a_K} {A B : Option z_Q} (hq : k_get K pc = some q) (hk : z_kd q.2.1 q.2.2.2.2 = 0) (hs : z_step q (m, pc, ls, st) = some (m, bif decide c then p1 else p2, ls, st')) (h1 : z_R y (m, p1, ls, st') = A) (h2 : z_R y (m, p2, ls, st') = B) : z_R y (m, pc, ls, st) = if c then A else B := by
  rw [z_R_st hK (g := (m, pc, ls, st)) hq hk hs, z_R_pc, h1, h2, z_bif]
theorem z_R_ifn {y : Nat} {K : List (List a_K)} (hK : kt_at y = K) {c : Prop} [hc : Decidable c] {m : z_M} {pc p1 p2 : Nat} {ls : z_L} {st st' : List z_V} {q : a_K} {A B : Option z_Q} (hq : k_get K pc = some q) (hk : z_kd q.2.1 q.2.2.2.2 = 0) (hs : z_step q (m, pc, ls, st) = some (m, bif !decide c then p1 else p2, ls, st')) (h1 : z_R y (m, p1, ls, st') = A) (h2 : z_R y (m, p2, ls, st') = B) : z_R y (m, pc, ls, st) = if c then B else A := by
  rw [z_R_st hK (g := (m, pc, ls, st)) hq hk hs, z_R_pc, h1, h2, z_bif_n]
/-- a place in a row -/
theorem z_R_ix {y : Nat} {K : List (List a_K)} (hK : kt_at y = K) {i : Int} {n : Nat} {m : z_M} {pc : Nat} {ls : z_L} {st : List z_V} {g' : z_G} {q : a_K} {A : Option z_Q} (hq : k_get K pc = some q) (hk : z_kd q.2.1 q.2.2.2.2 = 0) (hs : z_step q (m, pc, ls, st) = bif z_ix i n then some g' else none) (h1 : z_R y g' = A) : z_R y (m, pc, ls, st) = if 0 ≤ i ∧ i < (n : Int) then A else none := by
  by_cases h : 0 ≤ i ∧ i < (n : Int)
  · have e : z_ix i n = true := by unfold z_ix; rw [decide_eq_true h.1, decide_eq_true h.2]; rfl
    rw [e] at hs
    rw [if_pos h, ← h1]
    exact z_R_st hK (g := (m, pc, ls, st)) hq hk hs
  · have e : z_ix i n = false := by
      unfold z_ix
      by_cases h0 : 0 ≤ i
      · rw [decide_eq_true h0, decide_eq_false (fun z => h ⟨h0, z⟩)]; rfl
      · rw [decide_eq_false h0]; rfl
    rw [e] at hs
    rw [if_neg h]
    exact z_R_bad hK (g := (m, pc, ls, st)) hq hk hs
/-- a divisor -/
theorem z_R_dv {y : Nat} {K : List (List a_K)} (hK : kt_at y = K) {d : Int} {m : z_M} {pc : Nat} {ls : z_L} {st : List z_V} {g' : z_G} {q : a_K} {A : Option z_Q} (hq : k_get K pc = some q) (hk : z_kd q.2.1 q.2.2.2.2 = 0) (hs : z_step q (m, pc, ls, st) = if d = 0 then none else some g') (h1 : z_R y g' = A) : z_R y (m, pc, ls, st) = if d = 0 then none else A := by
  by_cases h : d = 0
  · rw [if_pos h] at hs ⊢
    exact z_R_bad hK (g := (m, pc, ls, st)) hq hk hs
  · rw [if_neg h] at hs ⊢
    rw [← h1]
    exact z_R_st hK (g := (m, pc, ls, st)) hq hk hs
theorem z_R_s1 {y : Nat} {K : List (List a_K)} (hK : kt_at y = K) {m : z_M} {pc : Nat} {ls : z_L} {st : List z_V} {g' : z_G} {q : a_K} (hq : k_get K pc = some q) (hk : z_kd q.2.1 q.2.2.2.2 = 0) (hs : z_step q (m, pc, ls, st) = some g') : z_R y (m, pc, ls, st) = z_R y g' := z_R_st hK (g := (m, pc, ls, st)) hq hk hs
end
section
/-! STRETCHES -/
theorem s_sign_0 (m : z_M) (a : Int) : z_R 14 (m, 0, [(2, 0), (0, a)], []) = (z_R 15 (m, 0, [(2, 1), (0, a), (9, 0)], [])).bind fun r => z_R 14 (r.1, 8, [(2, 0), (0, a)], r.2.toList ++ []) :=
  have hK : kt_at 14 = kt_14 := rfl
  (z_R_run hK (n := 2) (g' := (m, 4, [(2, 0), (0, a)], [(2, 1)])) rfl).trans ((z_R_run hK (n := 1) (g' := (m, 5, [(2, 0), (0, a)], [(0, a), (2, 1)])) rfl).trans (z_R_call hK rfl rfl rfl rfl rfl))
theorem s_sign_8 (m : z_M) (x1 : Int) (u : Int) : z_R 14 (m, 8, [(2, 0), (0, x1)], [(0, u)]) = if u = 0 then some (m, some (0, (-1))) else some (m, some (0, m 1 1)) :=
  have hK : kt_at 14 = kt_14 := rfl
  z_R_if hK (c := u = 0) (p1 := 21) (p2 := 11) rfl rfl rfl ((z_R_run hK (n := 1) (g' := (m, 22, [(2, 0), (0, x1)], [(0, (-1))])) rfl).trans (z_R_ret hK rfl rfl rfl)) ((z_R_run hK (n := 2) (g' := (m, 15, [(2, 0), (0, x1)], [(2, 1)])) rfl).trans ((z_R_run hK (n := 2) (g' := (m, 22, [(2, 0), (0, x1)], [(0, m 1 1)])) rfl).trans (z_R_ret hK rfl rfl rfl)))
theorem s_append_0 (m : z_M) (a : Int) : z_R 15 (m, 0, [(2, 1), (0, a), (9, 0)], []) = if m 1 1 ≤ 76 then z_R 15 (m, 14, [(2, 1), (0, a), (0, 24)], []) else some (m, some (0, 0)) :=
  have hK : kt_at 15 = kt_15 := rfl
  (z_R_run hK (n := 3) (g' := (m, 6, [(2, 1), (0, a), (9, 0)], [(0, 76), (0, m 1 1)])) rfl).trans (z_R_if hK (c := m 1 1 ≤ 76) (p1 := 11) (p2 := 9) rfl rfl rfl ((z_R_run hK (n := 2) (g' := (m, 14, [(2, 1), (0, a), (0, 24)], [])) rfl).trans rfl) ((z_R_run hK (n := 1) (g' := (m, 10, [(2, 1), (0, a), (9, 0)], [(0, 0)])) rfl).trans (z_R_ret hK rfl rfl rfl)))
theorem s_append_14 (m : z_M) (x1 : Int) (x2 : Int) : z_R 15 (m, 14, [(2, 1), (0, x1), (0, x2)], []) = if x2 < 0 then some (m, some (0, 1)) else if 0 ≤ m 1 1 ∧ m 1 1 < ((80 : Nat) : Int) then z_R 15 (z_up (z_up m 2 (m 1 1).toNat (z_ch (z_i2c (z_and (z_ush x1 x2) 255)))) 1 1 (z_add (m 1 1) 1), 14, [(2, 1), (0, x1), (0, z_add x2 (-8))], []) else none :=
  have hK : kt_at 15 = kt_15 := rfl
  (z_R_run hK (n := 1) (g' := (m, 15, [(2, 1), (0, x1), (0, x2)], [(0, x2)])) rfl).trans (z_R_if hK (c := x2 < 0) (p1 := 51) (p2 := 18) rfl rfl rfl ((z_R_run hK (n := 1) (g' := (m, 52, [(2, 1), (0, x1), (0, x2)], [(0, 1)])) rfl).trans (z_R_ret hK rfl rfl rfl)) ((z_R_run hK (n := 2) (g' := (m, 22, [(2, 1), (0, x1), (0, x2)], [(2, 2)])) rfl).trans ((z_R_run hK (n := 8) (g' := (m, 34, [(2, 1), (0, x1), (0, x2)], [(0, z_i2c (z_and (z_ush x1 x2) 255)), (0, m 1 1), (2, 2)])) rfl).trans (z_R_ix hK (i := m 1 1) (n := 80) (g' := (z_up m 2 (m 1 1).toNat (z_ch (z_i2c (z_and (z_ush x1 x2) 255))), 35, [(2, 1), (0, x1), (0, x2)], [])) rfl rfl rfl ((z_R_run hK (n := 8) (g' := (z_up (z_up m 2 (m 1 1).toNat (z_ch (z_i2c (z_and (z_ush x1 x2) 255)))) 1 1 (z_add (m 1 1) 1), 14, [(2, 1), (0, x1), (0, z_add x2 (-8))], [])) rfl).trans rfl)))))
theorem s_cut_0 (m : z_M) (a : Int) : z_R 17 (m, 0, [(2, 1), (0, a)], []) = if a < 0 then some (m, some (0, 0)) else if a ≤ m 1 1 then some (z_up m 1 1 a, some (0, 1)) else some (m, some (0, 0)) :=
  have hK : kt_at 17 = kt_17 := rfl
  (z_R_run hK (n := 1) (g' := (m, 1, [(2, 1), (0, a)], [(0, a)])) rfl).trans (z_R_if hK (c := a < 0) (p1 := 12) (p2 := 4) rfl rfl rfl ((z_R_run hK (n := 1) (g' := (m, 13, [(2, 1), (0, a)], [(0, 0)])) rfl).trans (z_R_ret hK rfl rfl rfl)) ((z_R_run hK (n := 3) (g' := (m, 9, [(2, 1), (0, a)], [(0, m 1 1), (0, a)])) rfl).trans (z_R_if hK (c := a ≤ m 1 1) (p1 := 14) (p2 := 12) rfl rfl rfl ((z_R_run hK (n := 4) (g' := (z_up m 1 1 a, 20, [(2, 1), (0, a)], [(0, 1)])) rfl).trans (z_R_ret hK rfl rfl rfl)) ((z_R_run hK (n := 1) (g' := (m, 13, [(2, 1), (0, a)], [(0, 0)])) rfl).trans (z_R_ret hK rfl rfl rfl)))))
theorem s_end_0 (m : z_M) (a : Int) : z_R 16 (m, 0, [(2, 0), (0, a)], []) = (z_R 17 (m, 0, [(2, 1), (0, a)], [])).bind fun r => z_R 16 (r.1, 8, [(2, 0), (0, a)], r.2.toList ++ []) :=
  have hK : kt_at 16 = kt_16 := rfl
  (z_R_run hK (n := 2) (g' := (m, 4, [(2, 0), (0, a)], [(2, 1)])) rfl).trans ((z_R_run hK (n := 1) (g' := (m, 5, [(2, 0), (0, a)], [(0, a), (2, 1)])) rfl).trans (z_R_call hK rfl rfl rfl rfl rfl))
theorem s_end_8 (m : z_M) (x1 : Int) (u : Int) : z_R 16 (m, 8, [(2, 0), (0, x1)], [(0, u)]) = some (m, some (0, u)) :=
  have hK : kt_at 16 = kt_16 := rfl
  z_R_ret hK rfl rfl rfl
theorem t_sign_0 (m : z_M) (a : Int) : z_R 160 (m, 0, [(2, 251), (0, a), (9, 0)], []) = if z_add (m 251 8) 4 ≤ 80 then z_R 160 (z_up m 251 11 0, 20, [(2, 251), (0, a), (0, 3)], []) else some (z_up m 251 11 0, some (0, (-1))) :=
  have hK : kt_at 160 = kt_160 := rfl
  (z_R_run hK (n := 8) (g' := (z_up m 251 11 0, 13, [(2, 251), (0, a), (9, 0)], [(0, 80), (0, z_add (m 251 8) 4)])) rfl).trans (z_R_if hK (c := z_add (m 251 8) 4 ≤ 80) (p1 := 18) (p2 := 16) rfl rfl rfl ((z_R_run hK (n := 2) (g' := (z_up m 251 11 0, 20, [(2, 251), (0, a), (0, 3)], [])) rfl).trans rfl) ((z_R_run hK (n := 1) (g' := (z_up m 251 11 0, 17, [(2, 251), (0, a), (9, 0)], [(0, (-1))])) rfl).trans (z_R_ret hK rfl rfl rfl)))
theorem t_sign_20 (m : z_M) (x1 : Int) (x2 : Int) : z_R 160 (m, 20, [(2, 251), (0, x1), (0, x2)], []) = if x2 < 0 then some (m, some (0, m 251 8)) else if 0 ≤ m 251 8 ∧ m 251 8 < ((80 : Nat) : Int) then z_R 160 (z_up (z_up m 251 8 (z_add (m 251 8) 1)) 254 (m 251 8).toNat (z_by (z_i2b (z_shr x1 (z_mul 8 x2)))), 20, [(2, 251), (0, x1), (0, z_add x2 (-1))], []) else none :=
  have hK : kt_at 160 = kt_160 := rfl
  (z_R_run hK (n := 1) (g' := (m, 21, [(2, 251), (0, x1), (0, x2)], [(0, x2)])) rfl).trans (z_R_if hK (c := x2 < 0) (p1 := 53) (p2 := 24) rfl rfl rfl ((z_R_run hK (n := 2) (g' := (m, 57, [(2, 251), (0, x1), (0, x2)], [(0, m 251 8)])) rfl).trans (z_R_ret hK rfl rfl rfl)) ((z_R_run hK (n := 2) (g' := (m, 28, [(2, 251), (0, x1), (0, x2)], [(2, 254)])) rfl).trans ((z_R_run hK (n := 12) (g' := (z_up m 251 8 (z_add (m 251 8) 1), 45, [(2, 251), (0, x1), (0, x2)], [(0, z_shr x1 (z_mul 8 x2)), (0, m 251 8), (2, 254)])) rfl).trans ((z_R_run hK (n := 1) (g' := (z_up m 251 8 (z_add (m 251 8) 1), 46, [(2, 251), (0, x1), (0, x2)], [(0, z_i2b (z_shr x1 (z_mul 8 x2))), (0, m 251 8), (2, 254)])) rfl).trans (z_R_ix hK (i := m 251 8) (n := 80) (g' := (z_up (z_up m 251 8 (z_add (m 251 8) 1)) 254 (m 251 8).toNat (z_by (z_i2b (z_shr x1 (z_mul 8 x2)))), 47, [(2, 251), (0, x1), (0, x2)], [])) rfl rfl rfl ((z_R_run hK (n := 2) (g' := (z_up (z_up m 251 8 (z_add (m 251 8) 1)) 254 (m 251 8).toNat (z_by (z_i2b (z_shr x1 (z_mul 8 x2)))), 20, [(2, 251), (0, x1), (0, z_add x2 (-1))], [])) rfl).trans rfl))))))
theorem t_end_0 (m : z_M) (a : Int) : z_R 161 (m, 0, [(2, 251), (0, a)], []) = (z_R 162 (z_up m 251 11 0, 0, [(0, a), (0, 0), (0, m 251 8)], [])).bind fun r => z_R 161 (r.1, 14, [(2, 251), (0, a)], r.2.toList ++ []) :=
  have hK : kt_at 161 = kt_161 := rfl
  (z_R_run hK (n := 7) (g' := (z_up m 251 11 0, 11, [(2, 251), (0, a)], [(0, m 251 8), (0, 0), (0, a)])) rfl).trans (z_R_call hK rfl rfl rfl rfl rfl)
theorem t_end_14 (m : z_M) (x1 : Int) (u : Int) : z_R 161 (m, 14, [(2, 251), (0, x1)], [(0, u)]) = if u = 0 then some (m, some (0, 0)) else some (z_up m 251 8 x1, some (0, 1)) :=
  have hK : kt_at 161 = kt_161 := rfl
  z_R_ifn hK (c := u = 0) (p1 := 19) (p2 := 17) rfl rfl rfl ((z_R_run hK (n := 4) (g' := (z_up m 251 8 x1, 25, [(2, 251), (0, x1)], [(0, 1)])) rfl).trans (z_R_ret hK rfl rfl rfl)) ((z_R_run hK (n := 1) (g' := (m, 18, [(2, 251), (0, x1)], [(0, 0)])) rfl).trans (z_R_ret hK rfl rfl rfl))
theorem t_in_0 (m : z_M) (a : Int) (b : Int) (c : Int) : z_R 162 (m, 0, [(0, a), (0, b), (0, c)], []) = if a < b then some (m, some (0, 0)) else if c < a then some (m, some (0, 0)) else some (m, some (0, 1)) :=
  have hK : kt_at 162 = kt_162 := rfl
  (z_R_run hK (n := 2) (g' := (m, 2, [(0, a), (0, b), (0, c)], [(0, b), (0, a)])) rfl).trans (z_R_if hK (c := a < b) (p1 := 14) (p2 := 5) rfl rfl rfl ((z_R_run hK (n := 1) (g' := (m, 15, [(0, a), (0, b), (0, c)], [(0, 0)])) rfl).trans (z_R_ret hK rfl rfl rfl)) ((z_R_run hK (n := 2) (g' := (m, 7, [(0, a), (0, b), (0, c)], [(0, c), (0, a)])) rfl).trans (z_R_if hK (c := c < a) (p1 := 14) (p2 := 10) rfl rfl rfl ((z_R_run hK (n := 1) (g' := (m, 15, [(0, a), (0, b), (0, c)], [(0, 0)])) rfl).trans (z_R_ret hK rfl rfl rfl)) ((z_R_run hK (n := 2) (g' := (m, 15, [(0, a), (0, b), (0, c)], [(0, 1)])) rfl).trans (z_R_ret hK rfl rfl rfl)))))
end
section
/-! ONE INSTRUCTION over what is known: numbers, the frame, the stack, jumps -/
noncomputable def g_any {α : Type} (p : α → Bool) (l : List α) : Bool := @List.rec α (fun _ => Bool) false (fun a _ ih => @Bool.rec (fun _ => Bool) ih true (p a)) l
theorem g_any_eq {α : Type} (p : α → Bool) : ∀ l : List α, g_any p l = l.any p
  | [] => rfl
  | a :: l => by
    have e : g_any p (a :: l) = @Bool.rec (fun _ => Bool) (g_any p l) true (p a) := rfl
    rw [e, List.any_cons, ← g_any_eq p l]
    cases p a <;> rfl
noncomputable def g_all {α : Type} (p : α → Bool) (l : List α) : Bool := @List.rec α (fun _ => Bool) true (fun a _ ih => @Bool.rec (fun _ => Bool) false ih (p a)) l
theorem g_all_eq {α : Type} (p : α → Bool) : ∀ l : List α, g_all p l = l.all p
  | [] => rfl
  | a :: l => by
    have e : g_all p (a :: l) = @Bool.rec (fun _ => Bool) false (g_all p l) (p a) := rfl
    rw [e, List.all_cons, ← g_all_eq p l]
    cases p a <;> rfl
noncomputable def g_fil {α : Type} (p : α → Bool) (l : List α) : List α := @List.rec α (fun _ => List α) [] (fun a _ ih => @Bool.rec (fun _ => List α) ih (a :: ih) (p a)) l
theorem g_fil_eq {α : Type} (p : α → Bool) : ∀ l : List α, g_fil p l = l.filter p
  | [] => rfl
  | a :: l => by
    have e : g_fil p (a :: l) = @Bool.rec (fun _ => List α) (g_fil p l) (a :: g_fil p l) (p a) := rfl
    rw [e, List.filter_cons, g_fil_eq p l]
    cases p a <;> rfl
noncomputable def c_le (E : A_E) (F : A_F) (a b : A_V) (k : Int) : List (A_E × A_F) := match a_asm E F a b k with
  | some q => [q]
  | none => []
def c_ok (B : Int) (ρ : List Int) (C : List (A_E × A_F)) : Prop := ∃ q ∈ C, e_ok B q.1 ρ ∧ f_ok q.2 ρ
theorem c_le_ok {B : Int} {E : A_E} {F : A_F} {ρ : List Int} (e : e_ok B E ρ) (f : f_ok F ρ) {a b : A_V} {x y k : Int} (ha : a_ev ρ a = some x) (hb : a_ev ρ b = some y) (h : x ≤ y + k) : c_ok B ρ (c_le E F a b k) := by
  obtain ⟨q, h1, h2, h3⟩ := a_asm_ok e f ha hb h
  unfold c_le
  rw [h1]
  exact ⟨q, List.mem_cons_self, h2, h3⟩
noncomputable def c_eq (E : A_E) (F : A_F) (a b : A_V) : List (A_E × A_F) := match a_asm E F a b 0 with
  | some q => c_le q.1 q.2 b a 0
  | none => []
theorem c_eq_ok {B : Int} {E : A_E} {F : A_F} {ρ : List Int} (e : e_ok B E ρ) (f : f_ok F ρ) {a b : A_V} {x y : Int} (ha : a_ev ρ a = some x) (hb : a_ev ρ b = some y) (h : x = y) : c_ok B ρ (c_eq E F a b) := by
  obtain ⟨q, h1, h2, h3⟩ := a_asm_ok e f ha hb (k := 0) (by omega)
  unfold c_eq
  rw [h1]
  exact c_le_ok h2 h3 hb ha (by omega)
noncomputable def i_eq (a b : Int) : Bool := i_le a b && i_le b a
theorem i_eq_iff {a b : Int} : i_eq a b = true ↔ a = b := by
  unfold i_eq
  constructor
  · intro h
    obtain ⟨h1, h2⟩ := Bool.and_eq_true _ _ |>.mp h
    have := i_le_iff.mp h1
    have := i_le_iff.mp h2
    omega
  · intro h
    exact Bool.and_eq_true _ _ |>.mpr ⟨i_le_iff.mpr (by omega), i_le_iff.mpr (by omega)⟩
noncomputable def c_ne (z : Bool) (E : A_E) (F : A_F) (a b : A_V) : List (A_E × A_F) :=
  bif a_cst a && a_cst b then (bif i_eq a.2.2 b.2.2 then [] else [(E, F)]) else
  bif !a_cst a && !a_cst b && Nat.beq a.2.1 b.2.1 then (bif i_eq a.2.2 b.2.2 then [] else [(E, F)]) else
  bif a_leq E F a b 0 then c_le E F a b (-1) else bif a_leq E F b a 0 then c_le E F b a (-1) else
  bif z then c_le E F a b (-1) ++ c_le E F b a (-1) else [(E, F)]
theorem c_ok_l {B : Int} {ρ : List Int} {C D : List (A_E × A_F)} (h : c_ok B ρ C) : c_ok B ρ (C ++ D) := by
  obtain ⟨q, h1, h2⟩ := h
  exact ⟨q, List.mem_append_left _ h1, h2⟩
theorem c_ok_r {B : Int} {ρ : List Int} {C D : List (A_E × A_F)} (h : c_ok B ρ D) : c_ok B ρ (C ++ D) := by
  obtain ⟨q, h1, h2⟩ := h
  exact ⟨q, List.mem_append_right _ h1, h2⟩
theorem c_ne_ok {B : Int} {E : A_E} {F : A_F} {ρ : List Int} (e : e_ok B E ρ) (f : f_ok F ρ) {z : Bool} {a b : A_V} {x y : Int} (ha : a_ev ρ a = some x) (hb : a_ev ρ b = some y) (h : ¬ x = y) : c_ok B ρ (c_ne z E F a b) := by
  have self : c_ok B ρ [(E, F)] := ⟨_, List.mem_cons_self, e, f⟩
  unfold c_ne
  cases c1 : a_cst a && a_cst b
  · simp only [cond_false]
    cases c2 : !a_cst a && !a_cst b && Nat.beq a.2.1 b.2.1
    · simp only [cond_false]
      cases c3 : a_leq E F a b 0
      · simp only [cond_false]
        cases c4 : a_leq E F b a 0
        · simp only [cond_false]
          cases z
          · exact self
          · simp only [cond_true]
            rcases (by omega : x < y ∨ y < x) with q | q
            · exact c_ok_l (c_le_ok e f ha hb (by omega))
            · exact c_ok_r (c_le_ok e f hb ha (by omega))
        · simp only [cond_true]
          have := a_leq_ok e f hb ha c4
          exact c_le_ok e f hb ha (by omega)
      · simp only [cond_true]
        have := a_leq_ok e f ha hb c3
        exact c_le_ok e f ha hb (by omega)
    · simp only [cond_true]
      obtain ⟨d1, d2⟩ := Bool.and_eq_true _ _ |>.mp c2
      obtain ⟨d3, d4⟩ := Bool.and_eq_true _ _ |>.mp d1
      obtain ⟨r, r1, h1⟩ := a_ev_var ha (by simpa using d3)
      obtain ⟨r', r2, h2⟩ := a_ev_var hb (by simpa using d4)
      have hv := Nat.eq_of_beq_eq_true d2
      rw [hv] at r1
      have : r = r' := Option.some.inj (r1.symm.trans r2)
      cases c5 : i_eq a.2.2 b.2.2
      · exact self
      · have := i_eq_iff.mp c5
        omega
  · simp only [cond_true]
    obtain ⟨d1, d2⟩ := Bool.and_eq_true _ _ |>.mp c1
    have h1 := a_ev_cst ha d1
    have h2 := a_ev_cst hb d2
    cases c5 : i_eq a.2.2 b.2.2
    · exact self
    · have := i_eq_iff.mp c5
      omega
noncomputable def c_if (t z : Bool) (cn : Jvm.ClassFile.Cond) (E : A_E) (F : A_F) (a b : A_V) : List (A_E × A_F) := match cn with
  | .eq => bif t then c_eq E F a b else c_ne z E F a b
  | .ne => bif t then c_ne z E F a b else c_eq E F a b
  | .lt => bif t then c_le E F a b (-1) else c_le E F b a 0
  | .ge => bif t then c_le E F b a 0 else c_le E F a b (-1)
  | .gt => bif t then c_le E F b a (-1) else c_le E F a b 0
  | .le => bif t then c_le E F a b 0 else c_le E F b a (-1)
/-- the frame -/
noncomputable def l_get (j : Nat) (ls : List (Nat × A_V)) : Option A_V := @List.rec (Nat × A_V) (fun _ => Option A_V) none (fun q _ ih => @Bool.rec (fun _ => Option A_V) ih (some q.2) (Nat.beq q.1 j)) ls
theorem l_get_in {j : Nat} {a : A_V} : ∀ {ls : List (Nat × A_V)}, l_get j ls = some a → (j, a) ∈ ls
  | [], h => by cases h
  | q :: ls, h => by
    have h : @Bool.rec (fun _ => Option A_V) (l_get j ls) (some q.2) (Nat.beq q.1 j) = some a := h
    cases hb : Nat.beq q.1 j with
    | false => rw [hb] at h; exact List.mem_cons_of_mem _ (l_get_in h)
    | true =>
      rw [hb] at h
      have := Nat.eq_of_beq_eq_true hb
      cases h; subst this; exact List.mem_cons_self
def a_isR (a : A_V) : Bool := Nat.beq a.1 2
def a_c1 (a : A_V) : Bool := a_isI a || a_isR a
theorem v_ref {ρ : List Int} {a : A_V} {v : Value} (h : v_ok ρ a v) (hr : a_isR a = true) : v = .ref a.2.1 := by
  obtain ⟨t, n, c⟩ := a
  have : t = 2 := Nat.eq_of_beq_eq_true hr
  subst this
  exact h
theorem v_cat1 {ρ : List Int} {a : A_V} {v : Value} (h : v_ok ρ a v) (hc : a_c1 a = true) : v.category = 1 := by
  rcases Bool.or_eq_true _ _ |>.mp hc with h1 | h1
  · obtain ⟨x, rfl, _⟩ := v_int h h1; rfl
  · rw [v_ref h h1]; rfl
theorem v_cat2 {ρ : List Int} {a : A_V} {v : Value} (h : v_ok ρ a v) (hc : a_isL a = true) : v.category = 2 := by
  obtain ⟨x, rfl, _⟩ := v_long h hc; rfl
def l_kp (j : Nat) (w : Bool) (q : Nat × A_V) : Bool := !(Nat.beq q.1 j) && (!(w && Nat.beq q.1 (j + 1)) && (!(Nat.beq (q.1 + 1) j) || a_c1 q.2))
noncomputable def l_kpR (j : Nat) (w : Bool) (q : Nat × A_V) : Bool := @Bool.rec (fun _ => Bool) (@Bool.rec (fun _ => Bool) (@Bool.rec (fun _ => Bool) true (a_c1 q.2) (Nat.beq (q.1 + 1) j)) (@Bool.rec (fun _ => Bool) (@Bool.rec (fun _ => Bool) true (a_c1 q.2) (Nat.beq (q.1 + 1) j)) false (Nat.beq q.1 (j + 1))) w) false (Nat.beq q.1 j)
theorem l_kpR_eq (j : Nat) (w : Bool) (q : Nat × A_V) : l_kpR j w q = l_kp j w q := by
  unfold l_kpR l_kp
  cases Nat.beq q.1 j <;> cases w <;> cases Nat.beq q.1 (j + 1) <;> cases Nat.beq (q.1 + 1) j <;> rfl
noncomputable def l_put (j : Nat) (a : A_V) (w : Bool) (ls : List (Nat × A_V)) : List (Nat × A_V) := (j, a) :: g_fil (l_kpR j w) ls
theorem l_put_eq (j : Nat) (a : A_V) (w : Bool) (ls : List (Nat × A_V)) : l_put j a w ls = (j, a) :: ls.filter (l_kp j w) := by
  have e : l_kpR j w = l_kp j w := funext (l_kpR_eq j w)
  show (j, a) :: g_fil (l_kpR j w) ls = _
  rw [g_fil_eq, e]
theorem find_filter {α : Type} {f g : α → Bool} : ∀ {l : List α} {a : α}, l.find? f = some a → g a = true → (l.filter g).find? f = some a
  | [], a, h, _ => by cases h
  | b :: l, a, h, hg => by
    simp only [List.find?_cons] at h
    cases hb : f b
    · rw [hb] at h
      simp only at h
      have ih := find_filter h hg
      simp only [List.filter_cons]
      split
      · simp [hb, ih]
      · exact ih
    · rw [hb] at h
      simp only [Option.some.injEq] at h
      subst h
      simp [List.filter_cons, hg, hb]
theorem m_ld_keep {i j : Nat} {v u : Value} {f : Nat × Value → Bool} {ls : List (Nat × Value)} (h : m_ld i ls = some v) (hij : ¬ i = j) (hf : f (i, v) = true) : m_ld i ((j, u) :: ls.filter f) = some v := by
  unfold m_ld at h ⊢
  obtain ⟨q, h1, h2⟩ := Option.map_eq_some_iff.mp h
  have hq : q = (i, v) := by
    have := List.find?_some h1
    have h3 : q.1 = i := by simpa using this
    obtain ⟨q1, q2⟩ := q
    simp only at h2 h3
    rw [h2, h3]
  subst hq
  have h4 : (((j, u) : Nat × Value).1 == i) = false := by simpa using Ne.symm hij
  rw [List.find?_cons, h4]
  simp only
  rw [find_filter h1 hf]; rfl
theorem m_ld_self {j : Nat} {u : Value} {ls : List (Nat × Value)} : m_ld j ((j, u) :: ls) = some u := by
  unfold m_ld; simp
theorem l_put_ok1 {ρ : List Int} {j : Nat} {a : A_V} {v : Value} {ls : List (Nat × A_V)} {vs : List (Nat × Value)} (h : l_ok ρ ls vs) (hv : v_ok ρ a v) : l_ok ρ (l_put j a false ls) (m_st1 j v vs) := by
  rw [l_put_eq]
  intro q hq
  rcases List.mem_cons.mp hq with rfl | hq
  · exact ⟨v, m_ld_self, hv⟩
  · obtain ⟨h1, h2⟩ := List.mem_filter.mp hq
    obtain ⟨u, h3, h4⟩ := h q h1
    obtain ⟨g1, g2⟩ := Bool.and_eq_true _ _ |>.mp h2
    obtain ⟨g2, g3⟩ := Bool.and_eq_true _ _ |>.mp g2
    have hne : ¬ q.1 = j := fun z => by rw [z] at g1; simp at g1
    refine ⟨u, m_ld_keep h3 hne ?_, h4⟩
    simp only [Bool.and_eq_true, Bool.not_eq_true', beq_eq_false_iff_ne, ne_eq]
    refine ⟨hne, ?_⟩
    rcases Bool.or_eq_true _ _ |>.mp g3 with g | g
    · have : ¬ q.1 + 1 = j := fun z => by rw [z] at g; simp at g
      simp [this]
    · have := v_cat1 h4 g
      simp [this]
theorem l_put_ok2 {ρ : List Int} {j : Nat} {a : A_V} {v : Value} {ls : List (Nat × A_V)} {vs : List (Nat × Value)} (h : l_ok ρ ls vs) (hv : v_ok ρ a v) : l_ok ρ (l_put j a true ls) (m_st2 j v vs) := by
  rw [l_put_eq]
  intro q hq
  rcases List.mem_cons.mp hq with rfl | hq
  · exact ⟨v, m_ld_self, hv⟩
  · obtain ⟨h1, h2⟩ := List.mem_filter.mp hq
    obtain ⟨u, h3, h4⟩ := h q h1
    obtain ⟨g1, g2⟩ := Bool.and_eq_true _ _ |>.mp h2
    obtain ⟨g2, g3⟩ := Bool.and_eq_true _ _ |>.mp g2
    have hne : ¬ q.1 = j := fun z => by rw [z] at g1; simp at g1
    have hne2 : ¬ q.1 = j + 1 := fun z => by rw [z] at g2; simp at g2
    refine ⟨u, m_ld_keep h3 hne ?_, h4⟩
    simp only [Bool.and_eq_true, Bool.not_eq_true', beq_eq_false_iff_ne, ne_eq]
    refine ⟨hne, hne2, ?_⟩
    rcases Bool.or_eq_true _ _ |>.mp g3 with g | g
    · have : ¬ q.1 + 1 = j := fun z => by rw [z] at g; simp at g
      simp [this]
    · have := v_cat1 h4 g
      simp [this]
theorem lv_st1 {j : Nat} {v : Value} {vs : List (Nat × Value)} (h : ∀ q ∈ vs, m_vOk h_N q.2) (hv : m_vOk h_N v) : ∀ q ∈ m_st1 j v vs, m_vOk h_N q.2 := fun q hq => by
  rcases List.mem_cons.mp hq with rfl | hq
  · exact hv
  · exact h q (List.mem_filter.mp hq).1
theorem lv_st2 {j : Nat} {v : Value} {vs : List (Nat × Value)} (h : ∀ q ∈ vs, m_vOk h_N q.2) (hv : m_vOk h_N v) : ∀ q ∈ m_st2 j v vs, m_vOk h_N q.2 := fun q hq => by
  rcases List.mem_cons.mp hq with rfl | hq
  · exact hv
  · exact h q (List.mem_filter.mp hq).1
/-- the stack -/
theorem s_one {ρ : List Int} {a : A_V} {r : List A_V} {stC : List Value} (h : s_ok ρ (a :: r) stC) : ∃ v stC', stC = v :: stC' ∧ v_ok ρ a v ∧ s_ok ρ r stC' := by
  cases stC with
  | nil => exact absurd h id
  | cons v t => exact ⟨v, t, rfl, h.1, h.2⟩
theorem s_int {ρ : List Int} {a : A_V} {r : List A_V} {stC : List Value} (h : s_ok ρ (a :: r) stC) (ia : a_isI a = true) : ∃ x stC', stC = .int x :: stC' ∧ a_ev ρ a = some x.toInt ∧ s_ok ρ r stC' := by
  obtain ⟨v, t, h1, h2, h3⟩ := s_one h
  obtain ⟨x, rfl, h4⟩ := v_int h2 ia
  exact ⟨x, t, h1, h4, h3⟩
theorem s_long {ρ : List Int} {a : A_V} {r : List A_V} {stC : List Value} (h : s_ok ρ (a :: r) stC) (ia : a_isL a = true) : ∃ x stC', stC = .long x :: stC' ∧ a_ev ρ a = some x.toInt ∧ s_ok ρ r stC' := by
  obtain ⟨v, t, h1, h2, h3⟩ := s_one h
  obtain ⟨x, rfl, h4⟩ := v_long h2 ia
  exact ⟨x, t, h1, h4, h3⟩
theorem s_ref {ρ : List Int} {a : A_V} {r : List A_V} {stC : List Value} (h : s_ok ρ (a :: r) stC) (ia : a_isR a = true) : ∃ stC', stC = .ref a.2.1 :: stC' ∧ s_ok ρ r stC' := by
  obtain ⟨v, t, h1, h2, h3⟩ := s_one h
  exact ⟨t, by rw [h1, v_ref h2 ia], h3⟩
theorem s_two {ρ : List Int} {a b : A_V} {r : List A_V} {stC : List Value} (h : s_ok ρ (b :: a :: r) stC) (ia : a_isI a = true) (ib : a_isI b = true) : ∃ x y stC', stC = .int y :: .int x :: stC' ∧ a_ev ρ a = some x.toInt ∧ a_ev ρ b = some y.toInt ∧ s_ok ρ r stC' := by
  obtain ⟨y, t, h1, h2, h3⟩ := s_int h ib
  obtain ⟨x, t', h4, h5, h6⟩ := s_int h3 ia
  exact ⟨x, y, t', by rw [h1, h4], h5, h2, h6⟩
theorem sv_tl {v : Value} {t : List Value} (h : ∀ u ∈ v :: t, m_vOk h_N u) : ∀ u ∈ t, m_vOk h_N u := fun u hu => h u (List.mem_cons_of_mem _ hu)
theorem sv_cons {v : Value} {t : List Value} (hv : m_vOk h_N v) (h : ∀ u ∈ t, m_vOk h_N u) : ∀ u ∈ v :: t, m_vOk h_N u := fun u hu => by
  rcases List.mem_cons.mp hu with rfl | hu
  · exact hv
  · exact h u hu
section ST
variable {p : Program} {l : Launch} {e : Env} {R : Room} {s : State} {m : MethodId} {args : Array Value} {below : List Frame} {meth : Method} {c : Code} {QQ : z_Q → State → Prop} {dC : Nat → ClassId} {dI : Nat → Nat → Nat} {aC : Nat → ClassId} {A : Nat → Prop} {n0 : Nat} {ad0 xa : Nat → Nat} {nL : Nat} {cc : ByteArray} {own : String} {X : Nat → Option (List Int32)} {Y : (Nat → Prop) → State → Heap → Prop}
variable {K : List (List a_K)} {Z : z_G → z_Q → Prop} {aux : List Nat}
variable {T fv B : Int} {ρ0 ρ : List Int} {σ0 σ : m_H} {md : A_D} {ce sl pc : Nat} {lsC : List (Nat × Value)} {stC : List Value} {E : A_E} {F : A_F} {ls : List (Nat × A_V)} {st : List A_V} {ov : A_O} {bu ph : A_L} {L : List A_S}
/-- two ints to one -/
def st_bin (g : A_E → A_F → A_V → A_V → A_R) (pc : Nat) (E : A_E) (F : A_F) (ls : List (Nat × A_V)) (st : List A_V) (ov : A_O) (bu ph : A_L) : Option (List A_S) := match st with
  | b :: a :: r => bif a_isI a && a_isI b then some [s_put (pc + 1) (g E F a b) ls r ov bu ph] else none
  | _ => none
theorem st_bin_ok (hg : g_ok T fv ρ0 σ0 md B ρ (pc, E, F, ls, st, ov, bu, ph) (σ, ce, sl, pc, lsC, stC)) {g : A_E → A_F → A_V → A_V → A_R} {f : Int32 → Int32 → Int32} (hs : st_bin g pc E F ls st ov bu ph = some L)
    (hf : ∀ (a b : A_V) (x y : Int32), a_isI a = true → a_isI b = true → a_ev ρ a = some x.toInt → a_ev ρ b = some y.toInt → r_ok B ρ (g E F a b) (f x y))
    (row : ∀ (x y : Int32) (t : List Value), mW K Z p l e R s m args below meth c QQ dC dI aC A n0 ad0 xa nL (σ, ce, sl, pc + 1, lsC, .int (f x y) :: t) → mW K Z p l e R s m args below meth c QQ dC dI aC A n0 ad0 xa nL (σ, ce, sl, pc, lsC, .int y :: .int x :: t)) (k : ∀ S ∈ L, ∀ (B : Int) (ρ : List Int) (g : m_G), g_ok T fv ρ0 σ0 md B ρ S g → mW K Z p l e R s m args below meth c QQ dC dI aC A n0 ad0 xa nL g) : mW K Z p l e R s m args below meth c QQ dC dI aC A n0 ad0 xa nL (σ, ce, sl, pc, lsC, stC) := by
  unfold st_bin at hs
  split at hs
  · rename_i b a r
    cases hc : a_isI a && a_isI b
    · rw [hc] at hs; cases hs
    · rw [hc] at hs
      cases hs
      obtain ⟨ia, ib⟩ := Bool.and_eq_true _ _ |>.mp hc
      obtain ⟨x, y, t, rfl, ha, hb, ht⟩ := s_two hg.s ia ib
      obtain ⟨ρ', hg'⟩ := g_put (pc' := pc + 1) hg (hf a b x y ia ib ha hb) ht (sv_tl (sv_tl hg.sv))
      exact row x y t (k _ List.mem_cons_self _ _ _ hg')
  · cases hs
def st_un (g : A_E → A_F → A_V → A_R) (pc : Nat) (E : A_E) (F : A_F) (ls : List (Nat × A_V)) (st : List A_V) (ov : A_O) (bu ph : A_L) : Option (List A_S) := match st with
  | a :: r => bif a_isI a then some [s_put (pc + 1) (g E F a) ls r ov bu ph] else none
  | _ => none
theorem st_un_ok (hg : g_ok T fv ρ0 σ0 md B ρ (pc, E, F, ls, st, ov, bu, ph) (σ, ce, sl, pc, lsC, stC)) {g : A_E → A_F → A_V → A_R} {f : Int32 → Int32} (hs : st_un g pc E F ls st ov bu ph = some L)
    (hf : ∀ (a : A_V) (x : Int32), a_isI a = true → a_ev ρ a = some x.toInt → r_ok B ρ (g E F a) (f x))
    (row : ∀ (x : Int32) (t : List Value), mW K Z p l e R s m args below meth c QQ dC dI aC A n0 ad0 xa nL (σ, ce, sl, pc + 1, lsC, .int (f x) :: t) → mW K Z p l e R s m args below meth c QQ dC dI aC A n0 ad0 xa nL (σ, ce, sl, pc, lsC, .int x :: t)) (k : ∀ S ∈ L, ∀ (B : Int) (ρ : List Int) (g : m_G), g_ok T fv ρ0 σ0 md B ρ S g → mW K Z p l e R s m args below meth c QQ dC dI aC A n0 ad0 xa nL g) : mW K Z p l e R s m args below meth c QQ dC dI aC A n0 ad0 xa nL (σ, ce, sl, pc, lsC, stC) := by
  unfold st_un at hs
  split at hs
  · rename_i a r
    cases ia : a_isI a
    · rw [ia] at hs; cases hs
    · rw [ia] at hs
      cases hs
      obtain ⟨x, t, rfl, ha, ht⟩ := s_int hg.s ia
      obtain ⟨ρ', hg'⟩ := g_put (pc' := pc + 1) hg (hf a x ia ha) ht (sv_tl hg.sv)
      exact row x t (k _ List.mem_cons_self _ _ _ hg')
  · cases hs
/-- a value that nothing else hangs on comes on the stack -/
def st_push (pc : Nat) (a : A_V) (E : A_E) (F : A_F) (ls : List (Nat × A_V)) (st : List A_V) (ov : A_O) (bu ph : A_L) : List A_S := [(pc, E, F, ls, a :: st, ov, bu, ph)]
theorem st_push_ok (hg : g_ok T fv ρ0 σ0 md B ρ (pc, E, F, ls, st, ov, bu, ph) (σ, ce, sl, pc, lsC, stC)) {pc' : Nat} {a : A_V} {v : Value} (hv : v_ok ρ a v) (hm : m_vOk h_N v) (hL : st_push pc' a E F ls st ov bu ph = L)
    (row : mW K Z p l e R s m args below meth c QQ dC dI aC A n0 ad0 xa nL (σ, ce, sl, pc', lsC, v :: stC) → mW K Z p l e R s m args below meth c QQ dC dI aC A n0 ad0 xa nL (σ, ce, sl, pc, lsC, stC)) (k : ∀ S ∈ L, ∀ (B : Int) (ρ : List Int) (g : m_G), g_ok T fv ρ0 σ0 md B ρ S g → mW K Z p l e R s m args below meth c QQ dC dI aC A n0 ad0 xa nL g) : mW K Z p l e R s m args below meth c QQ dC dI aC A n0 ad0 xa nL (σ, ce, sl, pc, lsC, stC) := by
  subst hL
  refine row (k _ List.mem_cons_self B ρ _ (hg.to r_ext.rf hg.e hg.f hg.l hg.lv ⟨hv, hg.s⟩ (sv_cons hm hg.sv) hg.o))
/-- loads and stores of the frame -/
noncomputable def st_ld (t : Nat) (j pc n : Nat) (E : A_E) (F : A_F) (ls : List (Nat × A_V)) (st : List A_V) (ov : A_O) (bu ph : A_L) : Option (List A_S) := match l_get j ls with
  | some a => bif (match t with | 0 => a_isI a | 1 => a_isL a | _ => a_isR a) then some [(pc + n, E, F, ls, a :: st, ov, bu, ph)] else none
  | none => none
theorem m_ld_mem {i : Nat} {v : Value} {ls : List (Nat × Value)} (h : m_ld i ls = some v) : ∃ q ∈ ls, q.2 = v := by
  unfold m_ld at h
  obtain ⟨q, h1, h2⟩ := Option.map_eq_some_iff.mp h
  exact ⟨q, List.mem_of_find?_eq_some h1, h2⟩
theorem st_ld_ok (hg : g_ok T fv ρ0 σ0 md B ρ (pc, E, F, ls, st, ov, bu, ph) (σ, ce, sl, pc, lsC, stC)) {t j n : Nat} (hs : st_ld t j pc n E F ls st ov bu ph = some L)
    (row : ∀ v, m_ld j lsC = some v → (match t with | 0 => ∃ x, v = .int x | 1 => ∃ x, v = .long x | _ => ∃ x, v = .ref x) → mW K Z p l e R s m args below meth c QQ dC dI aC A n0 ad0 xa nL (σ, ce, sl, pc + n, lsC, v :: stC) → mW K Z p l e R s m args below meth c QQ dC dI aC A n0 ad0 xa nL (σ, ce, sl, pc, lsC, stC)) (k : ∀ S ∈ L, ∀ (B : Int) (ρ : List Int) (g : m_G), g_ok T fv ρ0 σ0 md B ρ S g → mW K Z p l e R s m args below meth c QQ dC dI aC A n0 ad0 xa nL g) : mW K Z p l e R s m args below meth c QQ dC dI aC A n0 ad0 xa nL (σ, ce, sl, pc, lsC, stC) := by
  unfold st_ld at hs
  split at hs
  · rename_i a ha
    obtain ⟨v, h1, h2⟩ := hg.l _ (l_get_in ha)
    obtain ⟨q, q1, q2⟩ := m_ld_mem h1
    have hm : m_vOk h_N v := by rw [← q2]; exact hg.lv q q1
    cases hc : (match t with | 0 => a_isI a | 1 => a_isL a | _ => a_isR a)
    · rw [hc] at hs; cases hs
    · rw [hc] at hs
      cases hs
      refine row v h1 ?_ (k _ List.mem_cons_self B ρ _ (hg.to r_ext.rf hg.e hg.f hg.l hg.lv ⟨h2, hg.s⟩ (sv_cons hm hg.sv) hg.o))
      match t, hc with
      | 0, hc => obtain ⟨x, h3, _⟩ := v_int h2 hc; exact ⟨x, h3⟩
      | 1, hc => obtain ⟨x, h3, _⟩ := v_long h2 hc; exact ⟨x, h3⟩
      | t + 2, hc => exact ⟨_, v_ref h2 hc⟩
  · cases hs
noncomputable def st_st (t : Nat) (j nL pc n : Nat) (E : A_E) (F : A_F) (ls : List (Nat × A_V)) (st : List A_V) (ov : A_O) (bu ph : A_L) : Option (List A_S) := match st with
  | a :: r => bif (match t with | 0 => a_isI a && Nat.blt j nL | 1 => a_isL a && Nat.blt (j + 1) nL | _ => a_isR a && Nat.blt j nL) then some [(pc + n, E, F, l_put j a (Nat.beq t 1) ls, r, ov, bu, ph)] else none
  | _ => none
theorem st_st_ok (hg : g_ok T fv ρ0 σ0 md B ρ (pc, E, F, ls, st, ov, bu, ph) (σ, ce, sl, pc, lsC, stC)) {t j n nL0 : Nat} (hs : st_st t j nL0 pc n E F ls st ov bu ph = some L)
    (r0 : t = 0 → j < nL0 → ∀ (x : Int32) (r : List Value), mW K Z p l e R s m args below meth c QQ dC dI aC A n0 ad0 xa nL (σ, ce, sl, pc + n, m_st1 j (.int x) lsC, r) → mW K Z p l e R s m args below meth c QQ dC dI aC A n0 ad0 xa nL (σ, ce, sl, pc, lsC, .int x :: r))
    (r1 : t = 1 → j + 1 < nL0 → ∀ (x : Int64) (r : List Value), mW K Z p l e R s m args below meth c QQ dC dI aC A n0 ad0 xa nL (σ, ce, sl, pc + n, m_st2 j (.long x) lsC, r) → mW K Z p l e R s m args below meth c QQ dC dI aC A n0 ad0 xa nL (σ, ce, sl, pc, lsC, .long x :: r))
    (r2 : 2 ≤ t → j < nL0 → ∀ (x : Nat) (r : List Value), mW K Z p l e R s m args below meth c QQ dC dI aC A n0 ad0 xa nL (σ, ce, sl, pc + n, m_st1 j (.ref x) lsC, r) → mW K Z p l e R s m args below meth c QQ dC dI aC A n0 ad0 xa nL (σ, ce, sl, pc, lsC, .ref x :: r)) (k : ∀ S ∈ L, ∀ (B : Int) (ρ : List Int) (g : m_G), g_ok T fv ρ0 σ0 md B ρ S g → mW K Z p l e R s m args below meth c QQ dC dI aC A n0 ad0 xa nL g) : mW K Z p l e R s m args below meth c QQ dC dI aC A n0 ad0 xa nL (σ, ce, sl, pc, lsC, stC) := by
  unfold st_st at hs
  split at hs
  · rename_i a r
    obtain ⟨v, t', e1, h2, h3⟩ := s_one hg.s
    subst e1
    have hm : m_vOk h_N v := hg.sv v List.mem_cons_self
    cases hc : (match t with | 0 => a_isI a && Nat.blt j nL0 | 1 => a_isL a && Nat.blt (j + 1) nL0 | _ => a_isR a && Nat.blt j nL0)
    · rw [hc] at hs; cases hs
    · rw [hc] at hs
      cases hs
      have one : Nat.beq t 1 = false → mW K Z p l e R s m args below meth c QQ dC dI aC A n0 ad0 xa nL (σ, ce, sl, pc + n, m_st1 j v lsC, t') := fun z => by
        rw [z] at k
        exact k _ List.mem_cons_self B ρ _ (hg.to r_ext.rf hg.e hg.f (l_put_ok1 hg.l h2) (lv_st1 hg.lv hm) h3 (sv_tl hg.sv) hg.o)
      match t, hc, one with
      | 0, hc, one =>
        obtain ⟨c1, c2⟩ := Bool.and_eq_true _ _ |>.mp hc
        obtain ⟨x, rfl, _⟩ := v_int h2 c1
        exact r0 rfl (Nat.le_of_ble_eq_true c2) x t' (one rfl)
      | 1, hc, one =>
        obtain ⟨c1, c2⟩ := Bool.and_eq_true _ _ |>.mp hc
        obtain ⟨x, rfl, _⟩ := v_long h2 c1
        exact r1 rfl (Nat.le_of_ble_eq_true c2) x t' (k _ List.mem_cons_self B ρ _ (hg.to r_ext.rf hg.e hg.f (l_put_ok2 hg.l h2) (lv_st2 hg.lv hm) h3 (sv_tl hg.sv) hg.o))
      | t + 2, hc, one =>
        obtain ⟨c1, c2⟩ := Bool.and_eq_true _ _ |>.mp hc
        have := v_ref h2 c1
        subst this
        exact r2 (by omega) (Nat.le_of_ble_eq_true c2) _ t' (one rfl)
  · cases hs
noncomputable def st_inc (j : Nat) (n : Int) (nL pc : Nat) (E : A_E) (F : A_F) (ls : List (Nat × A_V)) (st : List A_V) (ov : A_O) (bu ph : A_L) : Option (List A_S) := match l_get j ls with
  | some a => bif a_isI a && Nat.blt j nL then (match a_addF E F a n with | (E', F', a') => some [(pc + 3, E', F', l_put j a' false ls, st, ov, bu, ph)]) else none
  | none => none
theorem st_inc_ok (hg : g_ok T fv ρ0 σ0 md B ρ (pc, E, F, ls, st, ov, bu, ph) (σ, ce, sl, pc, lsC, stC)) {j nL0 : Nat} {n : Int} (hs : st_inc j n nL0 pc E F ls st ov bu ph = some L)
    (row : j < nL0 → ∀ x : Int32, m_ld j lsC = some (.int x) → mW K Z p l e R s m args below meth c QQ dC dI aC A n0 ad0 xa nL (σ, ce, sl, pc + 3, m_st1 j (.int (x + Int32.ofInt n)) lsC, stC) → mW K Z p l e R s m args below meth c QQ dC dI aC A n0 ad0 xa nL (σ, ce, sl, pc, lsC, stC)) (k : ∀ S ∈ L, ∀ (B : Int) (ρ : List Int) (g : m_G), g_ok T fv ρ0 σ0 md B ρ S g → mW K Z p l e R s m args below meth c QQ dC dI aC A n0 ad0 xa nL g) : mW K Z p l e R s m args below meth c QQ dC dI aC A n0 ad0 xa nL (σ, ce, sl, pc, lsC, stC) := by
  unfold st_inc at hs
  split at hs
  · rename_i a ha
    obtain ⟨v, h1, h2⟩ := hg.l _ (l_get_in ha)
    cases hc : a_isI a && Nat.blt j nL0
    · rw [hc] at hs; cases hs
    · rw [hc] at hs
      cases hs
      obtain ⟨c1, c2⟩ := Bool.and_eq_true _ _ |>.mp hc
      obtain ⟨x, rfl, h3⟩ := v_int h2 c1
      obtain ⟨ρ', g1, g2, g3, g4, g5⟩ := r_addk hg.e hg.f (k := n) c1 h3
      exact row (Nat.le_of_ble_eq_true c2) x h1 (k _ List.mem_cons_self B ρ' _ (hg.to g1 g2 g3 (l_put_ok1 (l_ok_ext g1 hg.l) (v_of_int g5 g4)) (lv_st1 hg.lv trivial) (s_ok_ext g1 _ _ hg.s) hg.sv (o_ok_ext g1 hg.o)))
  · cases hs
end ST
end
section
/-! JUMPS, LONGS, the stack's shuffles -/
theorem i32_eqz {x : Int32} : x = 0 ↔ x.toInt = 0 := by rw [← Int32.toInt_inj]; rfl
theorem i32_eq {x y : Int32} : x = y ↔ x.toInt = y.toInt := Int32.toInt_inj.symm
theorem i32_lt {x y : Int32} : x < y ↔ x.toInt < y.toInt := Int32.lt_iff_toInt_lt
theorem i32_le {x y : Int32} : x ≤ y ↔ x.toInt ≤ y.toInt := Int32.le_iff_toInt_le
theorem i32_0 : (0 : Int32).toInt = 0 := rfl
/-- what a comparison says of two numbers -/
def c_say (cn : Jvm.ClassFile.Cond) (x y : Int) : Prop := match cn with
  | .eq => x = y
  | .ne => ¬ x = y
  | .lt => x < y
  | .ge => y ≤ x
  | .gt => y < x
  | .le => x ≤ y
theorem c_if_ok {B : Int} {E : A_E} {F : A_F} {ρ : List Int} (e : e_ok B E ρ) (f : f_ok F ρ) {z : Bool} {cn : Jvm.ClassFile.Cond} {a b : A_V} {x y : Int} (ha : a_ev ρ a = some x) (hb : a_ev ρ b = some y) :
    (c_say cn x y → c_ok B ρ (c_if true z cn E F a b)) ∧ (¬ c_say cn x y → c_ok B ρ (c_if false z cn E F a b)) := by
  cases cn <;> simp only [c_say, c_if, cond_true, cond_false]
  · exact ⟨fun h => c_eq_ok e f ha hb h, fun h => c_ne_ok e f ha hb h⟩
  · exact ⟨fun h => c_ne_ok e f ha hb h, fun h => c_eq_ok e f ha hb (by omega)⟩
  · exact ⟨fun h => c_le_ok e f ha hb (by omega), fun h => c_le_ok e f hb ha (by omega)⟩
  · exact ⟨fun h => c_le_ok e f hb ha (by omega), fun h => c_le_ok e f ha hb (by omega)⟩
  · exact ⟨fun h => c_le_ok e f hb ha (by omega), fun h => c_le_ok e f ha hb (by omega)⟩
  · exact ⟨fun h => c_le_ok e f ha hb (by omega), fun h => c_le_ok e f hb ha (by omega)⟩
def c_to (pc : Nat) (ls : List (Nat × A_V)) (st : List A_V) (ov : A_O) (bu ph : A_L) (C : List (A_E × A_F)) : List A_S := C.map fun q => (pc, q.1, q.2, ls, st, ov, bu, ph)
noncomputable def j_to (pc : Nat) (off : Int) : Option Nat := bif i_le 0 ((pc : Int) + off) then some ((pc : Int) + off).toNat else none
theorem j_to_ok {pc t : Nat} {off : Int} (h : j_to pc off = some t) : (pc : Int) + off = (t : Int) := by
  unfold j_to at h
  cases hc : i_le 0 ((pc : Int) + off)
  · rw [hc] at h; cases h
  · rw [hc] at h
    have := i_le_iff.mp hc
    simp only [cond_true, Option.some.injEq] at h
    omega
section JP
variable {p : Program} {l : Launch} {e : Env} {R : Room} {s : State} {m : MethodId} {args : Array Value} {below : List Frame} {meth : Method} {c : Code} {QQ : z_Q → State → Prop} {dC : Nat → ClassId} {dI : Nat → Nat → Nat} {aC : Nat → ClassId} {A : Nat → Prop} {n0 : Nat} {ad0 xa : Nat → Nat} {nL : Nat} {cc : ByteArray} {own : String} {X : Nat → Option (List Int32)} {Y : (Nat → Prop) → State → Heap → Prop}
variable {K : List (List a_K)} {Z : z_G → z_Q → Prop} {aux : List Nat}
variable {T fv B : Int} {ρ0 ρ : List Int} {σ0 σ : m_H} {md : A_D} {ce sl pc : Nat} {lsC : List (Nat × Value)} {stC : List Value} {E : A_E} {F : A_F} {ls : List (Nat × A_V)} {st : List A_V} {ov : A_O} {bu ph : A_L} {L : List A_S}
noncomputable def st_cmp (z : Bool) (cn : Jvm.ClassFile.Cond) (tgt pc : Nat) (a b : A_V) (E : A_E) (F : A_F) (ls : List (Nat × A_V)) (st : List A_V) (ov : A_O) (bu ph : A_L) : List A_S :=
  c_to tgt ls st ov bu ph (c_if true z cn E F a b) ++ c_to (pc + 3) ls st ov bu ph (c_if false z cn E F a b)
theorem st_to_ok (hg : g_ok T fv ρ0 σ0 md B ρ (pc, E, F, ls, st, ov, bu, ph) (σ, ce, sl, pc, lsC, stC)) {pc' : Nat} {sa : List A_V} {sc : List Value} {C : List (A_E × A_F)} (hC2 : c_ok B ρ C) (hs : s_ok ρ sa sc) (hsv : ∀ v ∈ sc, m_vOk h_N v) (hL : ∀ S ∈ c_to pc' ls sa ov bu ph C, S ∈ L) (k : ∀ S ∈ L, ∀ (B : Int) (ρ : List Int) (g : m_G), g_ok T fv ρ0 σ0 md B ρ S g → mW K Z p l e R s m args below meth c QQ dC dI aC A n0 ad0 xa nL g) : mW K Z p l e R s m args below meth c QQ dC dI aC A n0 ad0 xa nL (σ, ce, sl, pc', lsC, sc) := by
  obtain ⟨q, h1, h2, h3⟩ := hC2
  exact k _ (hL _ (List.mem_map.mpr ⟨q, h1, rfl⟩)) B ρ _ (hg.to r_ext.rf h2 h3 hg.l hg.lv hs hsv hg.o)
noncomputable def st_if (z : Bool) (cn : Jvm.ClassFile.Cond) (off : Int) (pc : Nat) (E : A_E) (F : A_F) (ls : List (Nat × A_V)) (st : List A_V) (ov : A_O) (bu ph : A_L) : Option (List A_S) := match st, j_to pc off with
  | a :: r, some tgt => bif a_isI a then some (st_cmp z cn tgt pc a (0, 0, 0) E F ls r ov bu ph) else none
  | _, _ => none
theorem st_if_ok (hC : m_Ctx p s m args meth c cc nL own dC dI aC A xa X Y) (hg : g_ok T fv ρ0 σ0 md B ρ (pc, E, F, ls, st, ov, bu, ph) (σ, ce, sl, pc, lsC, stC)) {z : Bool} {cn : Jvm.ClassFile.Cond} {off : Int} (hd : z_dx K cc pc (.ifCond cn off) 3 aux) (hs : st_if z cn off pc E F ls st ov bu ph = some L) (k : ∀ S ∈ L, ∀ (B : Int) (ρ : List Int) (g : m_G), g_ok T fv ρ0 σ0 md B ρ S g → mW K Z p l e R s m args below meth c QQ dC dI aC A n0 ad0 xa nL g) : mW K Z p l e R s m args below meth c QQ dC dI aC A n0 ad0 xa nL (σ, ce, sl, pc, lsC, stC) := by
  unfold st_if at hs
  split at hs
  · rename_i a r tgt hj
    cases ia : a_isI a
    · rw [ia] at hs; cases hs
    · rw [ia] at hs
      cases hs
      obtain ⟨x, t, rfl, ha, ht⟩ := s_int hg.s ia
      have hv := sv_tl hg.sv
      have hz : a_ev ρ ((0, 0, 0) : A_V) = some 0 := rfl
      obtain ⟨g1, g2⟩ := c_if_ok hg.e hg.f (z := z) (cn := cn) ha hz
      have kt : c_say cn x.toInt 0 → mW K Z p l e R s m args below meth c QQ dC dI aC A n0 ad0 xa nL (σ, ce, sl, tgt, lsC, t) := fun q => st_to_ok hg (g1 q) ht hv (fun S hS => List.mem_append_left _ hS) k
      have kf : ¬ c_say cn x.toInt 0 → mW K Z p l e R s m args below meth c QQ dC dI aC A n0 ad0 xa nL (σ, ce, sl, pc + 3, lsC, t) := fun q => st_to_ok hg (g2 q) ht hv (fun S hS => List.mem_append_right _ hS) k
      have hj := j_to_ok hj
      cases cn
      · exact mW_if_eq hC hd hj (fun q => kt (i32_eqz.mp q)) (fun q => kf (fun z => q (i32_eqz.mpr z)))
      · exact mW_if_ne hC hd hj (fun q => kt (fun z => q (i32_eqz.mpr z))) (fun q => kf (fun z => z (i32_eqz.mp q)))
      · exact mW_if_lt hC hd hj (fun q => kt (i32_lt.mp q)) (fun q => kf (fun z => q (i32_lt.mpr z)))
      · exact mW_if_ge hC hd hj (fun q => kt (i32_le.mp q)) (fun q => kf (fun z => q (i32_le.mpr z)))
      · exact mW_if_gt hC hd hj (fun q => kt (i32_lt.mp q)) (fun q => kf (fun z => q (i32_lt.mpr z)))
      · exact mW_if_le hC hd hj (fun q => kt (i32_le.mp q)) (fun q => kf (fun z => q (i32_le.mpr z)))
  · cases hs
noncomputable def st_ic (z : Bool) (cn : Jvm.ClassFile.Cond) (off : Int) (pc : Nat) (E : A_E) (F : A_F) (ls : List (Nat × A_V)) (st : List A_V) (ov : A_O) (bu ph : A_L) : Option (List A_S) := match st, j_to pc off with
  | b :: a :: r, some tgt => bif a_isI a && a_isI b then some (st_cmp z cn tgt pc a b E F ls r ov bu ph) else none
  | _, _ => none
theorem st_ic_ok (hC : m_Ctx p s m args meth c cc nL own dC dI aC A xa X Y) (hg : g_ok T fv ρ0 σ0 md B ρ (pc, E, F, ls, st, ov, bu, ph) (σ, ce, sl, pc, lsC, stC)) {z : Bool} {cn : Jvm.ClassFile.Cond} {off : Int} (hd : z_dx K cc pc (.if_icmp cn off) 3 aux) (hs : st_ic z cn off pc E F ls st ov bu ph = some L) (k : ∀ S ∈ L, ∀ (B : Int) (ρ : List Int) (g : m_G), g_ok T fv ρ0 σ0 md B ρ S g → mW K Z p l e R s m args below meth c QQ dC dI aC A n0 ad0 xa nL g) : mW K Z p l e R s m args below meth c QQ dC dI aC A n0 ad0 xa nL (σ, ce, sl, pc, lsC, stC) := by
  unfold st_ic at hs
  split at hs
  · rename_i b a r tgt hj
    cases hc : a_isI a && a_isI b
    · rw [hc] at hs; cases hs
    · rw [hc] at hs
      cases hs
      obtain ⟨ia, ib⟩ := Bool.and_eq_true _ _ |>.mp hc
      obtain ⟨x, y, t, rfl, ha, hb, ht⟩ := s_two hg.s ia ib
      have hv := sv_tl (sv_tl hg.sv)
      obtain ⟨g1, g2⟩ := c_if_ok hg.e hg.f (z := z) (cn := cn) ha hb
      have kt : c_say cn x.toInt y.toInt → mW K Z p l e R s m args below meth c QQ dC dI aC A n0 ad0 xa nL (σ, ce, sl, tgt, lsC, t) := fun q => st_to_ok hg (g1 q) ht hv (fun S hS => List.mem_append_left _ hS) k
      have kf : ¬ c_say cn x.toInt y.toInt → mW K Z p l e R s m args below meth c QQ dC dI aC A n0 ad0 xa nL (σ, ce, sl, pc + 3, lsC, t) := fun q => st_to_ok hg (g2 q) ht hv (fun S hS => List.mem_append_right _ hS) k
      have hj := j_to_ok hj
      cases cn
      · exact mW_icmp_eq hC hd hj (fun q => kt (i32_eq.mp q)) (fun q => kf (fun z => q (i32_eq.mpr z)))
      · exact mW_icmp_ne hC hd hj (fun q => kt (fun z => q (i32_eq.mpr z))) (fun q => kf (fun z => z (i32_eq.mp q)))
      · exact mW_icmp_lt hC hd hj (fun q => kt (i32_lt.mp q)) (fun q => kf (fun z => q (i32_lt.mpr z)))
      · exact mW_icmp_ge hC hd hj (fun q => kt (i32_le.mp q)) (fun q => kf (fun z => q (i32_le.mpr z)))
      · exact mW_icmp_gt hC hd hj (fun q => kt (i32_lt.mp q)) (fun q => kf (fun z => q (i32_lt.mpr z)))
      · exact mW_icmp_le hC hd hj (fun q => kt (i32_le.mp q)) (fun q => kf (fun z => q (i32_le.mpr z)))
  · cases hs
noncomputable def st_goto (off : Int) (pc : Nat) (E : A_E) (F : A_F) (ls : List (Nat × A_V)) (st : List A_V) (ov : A_O) (bu ph : A_L) : Option (List A_S) := match j_to pc off with
  | some tgt => some [(tgt, E, F, ls, st, ov, bu, ph)]
  | none => none
theorem st_goto_ok (hC : m_Ctx p s m args meth c cc nL own dC dI aC A xa X Y) (hg : g_ok T fv ρ0 σ0 md B ρ (pc, E, F, ls, st, ov, bu, ph) (σ, ce, sl, pc, lsC, stC)) {off : Int} (hd : z_dx K cc pc (.goto off) 3 aux) (hs : st_goto off pc E F ls st ov bu ph = some L) (k : ∀ S ∈ L, ∀ (B : Int) (ρ : List Int) (g : m_G), g_ok T fv ρ0 σ0 md B ρ S g → mW K Z p l e R s m args below meth c QQ dC dI aC A n0 ad0 xa nL g) : mW K Z p l e R s m args below meth c QQ dC dI aC A n0 ad0 xa nL (σ, ce, sl, pc, lsC, stC) := by
  unfold st_goto at hs
  split at hs
  · rename_i tgt hj
    cases hs
    exact mW_goto hC hd (j_to_ok hj) (k _ List.mem_cons_self B ρ _ (hg.to r_ext.rf hg.e hg.f hg.l hg.lv hg.s hg.sv hg.o))
  · cases hs
/-- switches -/
def o_all : List (Option (List A_S)) → Option (List A_S)
  | [] => some []
  | some a :: l => match o_all l with
    | some b => some (a ++ b)
    | none => none
  | none :: _ => none
theorem o_all_ok {l : List (Option (List A_S))} {M : List A_S} (h : o_all l = some M) : ∀ o ∈ l, ∃ a, o = some a ∧ ∀ S ∈ a, S ∈ M := by
  induction l generalizing M with
  | nil => intro o ho; cases ho
  | cons q l ih =>
    cases q with
    | none => cases h
    | some a =>
      unfold o_all at h
      split at h
      · rename_i b hb
        cases h
        intro o ho
        rcases List.mem_cons.mp ho with rfl | ho
        · exact ⟨a, rfl, fun S hS => List.mem_append_left _ hS⟩
        · obtain ⟨c, c1, c2⟩ := ih hb o ho
          exact ⟨c, c1, fun S hS => List.mem_append_right _ (c2 S hS)⟩
      · cases h
noncomputable def st_key (pc : Nat) (a : A_V) (E : A_E) (F : A_F) (ls : List (Nat × A_V)) (r : List A_V) (ov : A_O) (bu ph : A_L) (q : Int × Int) : Option (List A_S) := match c_eq E F a (0, 0, q.1) with
  | [] => some []
  | C => match j_to pc q.2 with
    | some tgt => some (c_to tgt ls r ov bu ph C)
    | none => none
noncomputable def st_lk (dflt : Int) (ps : List (Int × Int)) (pc : Nat) (E : A_E) (F : A_F) (ls : List (Nat × A_V)) (st : List A_V) (ov : A_O) (bu ph : A_L) : Option (List A_S) := match st with
  | a :: r => bif a_isI a && (ps.zip (ps.drop 1)).all (fun q => decide (q.1.1 < q.2.1)) then
      (bif a_cst a && ps.any (fun q => i_eq q.1 a.2.2) then o_all (ps.map (st_key pc a E F ls r ov bu ph)) else match j_to pc dflt with
        | some tgt => o_all (some [(tgt, E, F, ls, r, ov, bu, ph)] :: ps.map (st_key pc a E F ls r ov bu ph))
        | none => none) else none
  | _ => none
theorem lk_in {ps : List (Int × Int)} {dflt x : Int} : (∃ q ∈ ps, q.1 = x ∧ Op.lookupswitch.offset ps dflt x = q.2) ∨ (Op.lookupswitch.offset ps dflt x = dflt ∧ ∀ q ∈ ps, ¬ q.1 = x) := by
  induction ps with
  | nil => exact Or.inr ⟨rfl, fun q h => by cases h⟩
  | cons q ps ih =>
    obtain ⟨u, o⟩ := q
    rw [Op.lookupswitch.offset_cons]
    by_cases h : u = x
    · exact Or.inl ⟨(u, o), List.mem_cons_self, h, by rw [if_pos h]⟩
    · rw [if_neg h]
      rcases ih with ⟨q, h1, h2, h3⟩ | ⟨h1, h2⟩
      · exact Or.inl ⟨q, List.mem_cons_of_mem _ h1, h2, h3⟩
      · refine Or.inr ⟨h1, fun q hq => ?_⟩
        rcases List.mem_cons.mp hq with rfl | hq
        · exact h
        · exact h2 q hq
theorem st_key_ok (hg : g_ok T fv ρ0 σ0 md B ρ (pc, E, F, ls, st, ov, bu, ph) (σ, ce, sl, pc, lsC, stC)) {a : A_V} {r : List A_V} {t : List Value} {x : Int32} {q : Int × Int} {o : List A_S} (ha : a_ev ρ a = some x.toInt) (ht : s_ok ρ r t) (hv : ∀ v ∈ t, m_vOk h_N v) (hq : q.1 = x.toInt) (ho : st_key pc a E F ls r ov bu ph q = some o) (hL : ∀ S ∈ o, S ∈ L) (k : ∀ S ∈ L, ∀ (B : Int) (ρ : List Int) (g : m_G), g_ok T fv ρ0 σ0 md B ρ S g → mW K Z p l e R s m args below meth c QQ dC dI aC A n0 ad0 xa nL g) : ∃ tgt : Nat, (pc : Int) + q.2 = (tgt : Int) ∧ mW K Z p l e R s m args below meth c QQ dC dI aC A n0 ad0 xa nL (σ, ce, sl, tgt, lsC, t) := by
  have hc := c_eq_ok hg.e hg.f (b := (0, 0, q.1)) ha rfl hq.symm
  unfold st_key at ho
  split at ho
  · rename_i h0
    rw [h0] at hc
    obtain ⟨z, z1, _⟩ := hc
    cases z1
  · split at ho
    · rename_i tgt hj
      cases ho
      exact ⟨tgt, j_to_ok hj, st_to_ok hg hc ht hv hL k⟩
    · cases ho
theorem st_lk_ok (hC : m_Ctx p s m args meth c cc nL own dC dI aC A xa X Y) (hg : g_ok T fv ρ0 σ0 md B ρ (pc, E, F, ls, st, ov, bu, ph) (σ, ce, sl, pc, lsC, stC)) {dflt : Int} {ps : Array (Int × Int)} {len : Nat} (hd : z_dx K cc pc (.lookupswitch dflt ps) len aux) (hs : st_lk dflt ps.toList pc E F ls st ov bu ph = some L) (k : ∀ S ∈ L, ∀ (B : Int) (ρ : List Int) (g : m_G), g_ok T fv ρ0 σ0 md B ρ S g → mW K Z p l e R s m args below meth c QQ dC dI aC A n0 ad0 xa nL g) : mW K Z p l e R s m args below meth c QQ dC dI aC A n0 ad0 xa nL (σ, ce, sl, pc, lsC, stC) := by
  unfold st_lk at hs
  split at hs
  · rename_i a r
    cases hc : a_isI a && (ps.toList.zip (ps.toList.drop 1)).all (fun q => decide (q.1.1 < q.2.1))
    · rw [hc] at hs; cases hs
    · rw [hc] at hs
      simp only [cond_true] at hs
      obtain ⟨ia, hp⟩ := Bool.and_eq_true _ _ |>.mp hc
      obtain ⟨x, t, rfl, ha, ht⟩ := s_int hg.s ia
      have hv := sv_tl hg.sv
      have fin : ∀ tgt : Nat, (pc : Int) + Op.lookupswitch.offset ps.toList dflt x.toInt = (tgt : Int) → mW K Z p l e R s m args below meth c QQ dC dI aC A n0 ad0 xa nL (σ, ce, sl, tgt, lsC, t) → mW K Z p l e R s m args below meth c QQ dC dI aC A n0 ad0 xa nL (σ, ce, sl, pc, lsC, .int x :: t) := fun tgt h1 h2 => mW_lookup hC hd hp rfl h1 h2
      have hkey : ∀ (q : Int × Int), q.1 = x.toInt → (∃ o, st_key pc a E F ls r ov bu ph q = some o ∧ ∀ S ∈ o, S ∈ L) → Op.lookupswitch.offset ps.toList dflt x.toInt = q.2 → mW K Z p l e R s m args below meth c QQ dC dI aC A n0 ad0 xa nL (σ, ce, sl, pc, lsC, .int x :: t) := fun q h1 ⟨o, h2, h3⟩ h4 => by
        obtain ⟨tgt, g1, g2⟩ := st_key_ok hg ha ht hv h1 h2 h3 k
        exact fin tgt (by rw [h4]; exact g1) g2
      cases hz : a_cst a && ps.toList.any (fun q => i_eq q.1 a.2.2)
      · rw [hz] at hs
        simp only [cond_false] at hs
        split at hs
        · rename_i tgt hj
          have hall := o_all_ok hs
          rcases lk_in (ps := ps.toList) (dflt := dflt) (x := x.toInt) with ⟨q, h1, h2, h3⟩ | ⟨h1, h2⟩
          · exact hkey q h2 (hall _ (List.mem_cons_of_mem _ (List.mem_map.mpr ⟨q, h1, rfl⟩))) h3
          · obtain ⟨o, h3, h4⟩ := hall _ List.mem_cons_self
            cases h3
            exact fin tgt (by rw [h1]; exact j_to_ok hj) (k _ (h4 _ List.mem_cons_self) B ρ _ (hg.to r_ext.rf hg.e hg.f hg.l hg.lv ht hv hg.o))
        · cases hs
      · rw [hz] at hs
        simp only [cond_true] at hs
        obtain ⟨z1, z2⟩ := Bool.and_eq_true _ _ |>.mp hz
        have hx := a_ev_cst ha z1
        have hall := o_all_ok hs
        rcases lk_in (ps := ps.toList) (dflt := dflt) (x := x.toInt) with ⟨q, h1, h2, h3⟩ | ⟨h1, h2⟩
        · exact hkey q h2 (hall _ (List.mem_map.mpr ⟨q, h1, rfl⟩)) h3
        · obtain ⟨q, q1, q2⟩ := List.any_eq_true.mp z2
          have := i_eq_iff.mp q2
          exact absurd (this.trans hx.symm) (h2 q q1)
  · cases hs
noncomputable def st_tb (dflt lo hi : Int) (offs : List Int) (pc : Nat) (E : A_E) (F : A_F) (ls : List (Nat × A_V)) (st : List A_V) (ov : A_O) (bu ph : A_L) : Option (List A_S) := match st with
  | a :: r => bif a_isI a then (match j_to pc dflt with
      | some tgt => o_all (some (c_to tgt ls r ov bu ph (c_le E F a (0, 0, lo) (-1) ++ c_le E F (0, 0, hi) a (-1))) :: (List.range (hi - lo + 1).toNat).map (fun (j : Nat) => match offs[j]? with
        | some o => st_key pc a E F ls r ov bu ph (lo + (j : Int), o)
        | none => none))
      | none => none) else none
  | _ => none
theorem st_tb_ok (hC : m_Ctx p s m args meth c cc nL own dC dI aC A xa X Y) (hg : g_ok T fv ρ0 σ0 md B ρ (pc, E, F, ls, st, ov, bu, ph) (σ, ce, sl, pc, lsC, stC)) {dflt lo hi : Int} {offs : Array Int} {len : Nat} (hd : z_dx K cc pc (.tableswitch dflt lo hi offs) len aux) (hs : st_tb dflt lo hi offs.toList pc E F ls st ov bu ph = some L) (k : ∀ S ∈ L, ∀ (B : Int) (ρ : List Int) (g : m_G), g_ok T fv ρ0 σ0 md B ρ S g → mW K Z p l e R s m args below meth c QQ dC dI aC A n0 ad0 xa nL g) : mW K Z p l e R s m args below meth c QQ dC dI aC A n0 ad0 xa nL (σ, ce, sl, pc, lsC, stC) := by
  unfold st_tb at hs
  split at hs
  · rename_i a r
    cases ia : a_isI a
    · rw [ia] at hs; cases hs
    · rw [ia] at hs
      simp only [cond_true] at hs
      obtain ⟨x, t, rfl, ha, ht⟩ := s_int hg.s ia
      have hv := sv_tl hg.sv
      split at hs
      · rename_i tgt hj
        have hall := o_all_ok hs
        by_cases hin : x.toInt < lo ∨ hi < x.toInt
        · obtain ⟨o, h3, h4⟩ := hall _ List.mem_cons_self
          cases h3
          refine mW_tableOut hC hd hin (j_to_ok hj) (st_to_ok hg (C := c_le E F a (0, 0, lo) (-1) ++ c_le E F (0, 0, hi) a (-1)) ?_ ht hv h4 k)
          rcases hin with q | q
          · exact c_ok_l (c_le_ok hg.e hg.f (y := lo) ha rfl (by omega))
          · exact c_ok_r (c_le_ok hg.e hg.f (x := hi) rfl ha (by omega))
        · have h1 : ¬ x.toInt < lo := fun z => hin (Or.inl z)
          have h2 : ¬ hi < x.toInt := fun z => hin (Or.inr z)
          obtain ⟨o, h3, h4⟩ := hall _ (List.mem_cons_of_mem _ (List.mem_map.mpr ⟨(x.toInt - lo).toNat, List.mem_range.mpr (by omega), rfl⟩))
          split at h3
          · rename_i off ho
            obtain ⟨tgt2, g1, g2⟩ := st_key_ok hg ha ht hv (q := (lo + ((x.toInt - lo).toNat : Int), off)) (by show lo + ((x.toInt - lo).toNat : Int) = _; omega) h3 h4 k
            exact mW_tableIn hC hd h1 h2 (by simpa using ho) g1 g2
          · cases h3
      · cases hs
  · cases hs
/-- longs -/
theorem g_putL {a : A_V} {E' : A_E} {ρ' : List Int} {sa : List A_V} {sc : List Value} {x : Int64} {pc' : Nat} (hg : g_ok T fv ρ0 σ0 md B ρ (pc, E, F, ls, st, ov, bu, ph) (σ, ce, sl, pc, lsC, stC)) (g1 : r_ext ρ ρ') (g2 : e_ok B E' ρ') (g3 : a_ev ρ' a = some x.toInt) (g4 : a_isL a = true) (hs : s_ok ρ sa sc) (hsv : ∀ v ∈ sc, m_vOk h_N v) :
    g_ok T fv ρ0 σ0 md B ρ' (pc', E', F, ls, a :: sa, ov, bu, ph) (σ, ce, sl, pc', lsC, .long x :: sc) :=
  hg.to g1 g2 (f_ok_ext g1 hg.f) (l_ok_ext g1 hg.l) hg.lv ⟨v_of_long g4 g3, s_ok_ext g1 _ _ hs⟩ (sv_cons trivial hsv) (o_ok_ext g1 hg.o)
/-- what comes of longs is any long, but of two numbers a number -/
noncomputable def st_lb (g : Int64 → Int64 → Int64) (nz : Bool) (pc : Nat) (E : A_E) (F : A_F) (ls : List (Nat × A_V)) (st : List A_V) (ov : A_O) (bu ph : A_L) : Option (List A_S) := match st with
  | b :: a :: r => bif a_isL a && (a_isL b && (!nz || (i_le 1 (a_lo E F b) || i_le (a_hi E F b) (-1)))) then
      (bif a_cst a && a_cst b then some [(pc + 1, E, F, ls, (3, 0, (g (Int64.ofInt a.2.2) (Int64.ofInt b.2.2)).toInt) :: r, ov, bu, ph)] else match a_mkL E l_m l_M with | (E', v) => some [(pc + 1, E', F, ls, v :: r, ov, bu, ph)]) else none
  | _ => none
theorem st_lb_ok (hg : g_ok T fv ρ0 σ0 md B ρ (pc, E, F, ls, st, ov, bu, ph) (σ, ce, sl, pc, lsC, stC)) {g : Int64 → Int64 → Int64} {nz : Bool} (hs : st_lb g nz pc E F ls st ov bu ph = some L)
    (row : ∀ (x y : Int64) (t : List Value), (nz = true → ¬ y = 0) → mW K Z p l e R s m args below meth c QQ dC dI aC A n0 ad0 xa nL (σ, ce, sl, pc + 1, lsC, .long (g x y) :: t) → mW K Z p l e R s m args below meth c QQ dC dI aC A n0 ad0 xa nL (σ, ce, sl, pc, lsC, .long y :: .long x :: t)) (k : ∀ S ∈ L, ∀ (B : Int) (ρ : List Int) (g : m_G), g_ok T fv ρ0 σ0 md B ρ S g → mW K Z p l e R s m args below meth c QQ dC dI aC A n0 ad0 xa nL g) : mW K Z p l e R s m args below meth c QQ dC dI aC A n0 ad0 xa nL (σ, ce, sl, pc, lsC, stC) := by
  unfold st_lb at hs
  split at hs
  · rename_i b a r
    cases hc : a_isL a && (a_isL b && (!nz || (i_le 1 (a_lo E F b) || i_le (a_hi E F b) (-1))))
    · rw [hc] at hs; cases hs
    · rw [hc] at hs
      simp only [cond_true] at hs
      obtain ⟨ia, hc⟩ := Bool.and_eq_true _ _ |>.mp hc
      obtain ⟨ib, hz⟩ := Bool.and_eq_true _ _ |>.mp hc
      obtain ⟨y, t1, e1, hb, ht1⟩ := s_long hg.s ib
      obtain ⟨x, t, e2, ha, ht⟩ := s_long ht1 ia
      subst e1
      subst e2
      have hv := sv_tl (sv_tl hg.sv)
      have hne : nz = true → ¬ y = 0 := fun n0 y0 => by
        subst n0
        subst y0
        have u1 : a_lo E F b ≤ _ := a_lo_ok hg.e hg.f hb
        have u2 : _ ≤ a_hi E F b := a_hi_ok hg.e hg.f hb
        have h0 : (0 : Int64).toInt = 0 := rfl
        rcases Bool.or_eq_true _ _ |>.mp hz with z | z
        · cases z
        · rcases Bool.or_eq_true _ _ |>.mp z with z | z <;> (have := i_le_iff.mp z; omega)
      cases hcc : a_cst a && a_cst b
      · rw [hcc] at hs
        cases hs
        obtain ⟨ρ', g1, g2, g3, g4⟩ := a_mkL_ok hg.e (g x y) (i64_rng _)
        exact row x y t hne (k _ List.mem_cons_self B ρ' _ (g_putL hg g1 g2 g3 g4 ht hv))
      · rw [hcc] at hs
        cases hs
        obtain ⟨d1, d2⟩ := Bool.and_eq_true _ _ |>.mp hcc
        have hx := a_ev_cst ha d1
        have hy := a_ev_cst hb d2
        refine row x y t hne (k _ List.mem_cons_self B ρ _ (g_putL hg r_ext.rf hg.e ?_ rfl ht hv))
        rw [← hx, ← hy, i64_of, i64_of]; rfl
  · cases hs
/-- shifts of longs -/
noncomputable def st_lsh (pc : Nat) (E : A_E) (F : A_F) (ls : List (Nat × A_V)) (st : List A_V) (ov : A_O) (bu ph : A_L) : Option (List A_S) := match st with
  | b :: a :: r => bif a_isL a && a_isI b then (match a_mkL E l_m l_M with | (E', v) => some [(pc + 1, E', F, ls, v :: r, ov, bu, ph)]) else none
  | _ => none
theorem st_lsh_ok (hg : g_ok T fv ρ0 σ0 md B ρ (pc, E, F, ls, st, ov, bu, ph) (σ, ce, sl, pc, lsC, stC)) {g : Int64 → Int32 → Int64} (hs : st_lsh pc E F ls st ov bu ph = some L)
    (row : ∀ (x : Int64) (y : Int32) (t : List Value), mW K Z p l e R s m args below meth c QQ dC dI aC A n0 ad0 xa nL (σ, ce, sl, pc + 1, lsC, .long (g x y) :: t) → mW K Z p l e R s m args below meth c QQ dC dI aC A n0 ad0 xa nL (σ, ce, sl, pc, lsC, .int y :: .long x :: t)) (k : ∀ S ∈ L, ∀ (B : Int) (ρ : List Int) (g : m_G), g_ok T fv ρ0 σ0 md B ρ S g → mW K Z p l e R s m args below meth c QQ dC dI aC A n0 ad0 xa nL g) : mW K Z p l e R s m args below meth c QQ dC dI aC A n0 ad0 xa nL (σ, ce, sl, pc, lsC, stC) := by
  unfold st_lsh at hs
  split at hs
  · rename_i b a r
    cases hc : a_isL a && a_isI b
    · rw [hc] at hs; cases hs
    · rw [hc] at hs
      obtain ⟨ia, ib⟩ := Bool.and_eq_true _ _ |>.mp hc
      obtain ⟨y, t1, e1, hb, ht1⟩ := s_int hg.s ib
      obtain ⟨x, t, e2, ha, ht⟩ := s_long ht1 ia
      subst e1
      subst e2
      cases hs
      obtain ⟨ρ', g1, g2, g3, g4⟩ := a_mkL_ok hg.e (g x y) (i64_rng _)
      exact row x y t (k _ List.mem_cons_self B ρ' _ (g_putL hg g1 g2 g3 g4 ht (sv_tl (sv_tl hg.sv))))
  · cases hs
noncomputable def st_lc (pc : Nat) (E : A_E) (F : A_F) (ls : List (Nat × A_V)) (st : List A_V) (ov : A_O) (bu ph : A_L) : Option (List A_S) := match st with
  | b :: a :: r => bif a_isL a && a_isL b then some (c_to (pc + 1) ls ((0, 0, -1) :: r) ov bu ph (c_le E F a b (-1)) ++ (c_to (pc + 1) ls ((0, 0, 0) :: r) ov bu ph (c_eq E F a b) ++ c_to (pc + 1) ls ((0, 0, 1) :: r) ov bu ph (c_le E F b a (-1)))) else none
  | _ => none
theorem st_lc_ok (hC : m_Ctx p s m args meth c cc nL own dC dI aC A xa X Y) (hg : g_ok T fv ρ0 σ0 md B ρ (pc, E, F, ls, st, ov, bu, ph) (σ, ce, sl, pc, lsC, stC)) (hd : z_dx K cc pc (.lcmp) 1 aux) (hs : st_lc pc E F ls st ov bu ph = some L) (k : ∀ S ∈ L, ∀ (B : Int) (ρ : List Int) (g : m_G), g_ok T fv ρ0 σ0 md B ρ S g → mW K Z p l e R s m args below meth c QQ dC dI aC A n0 ad0 xa nL g) : mW K Z p l e R s m args below meth c QQ dC dI aC A n0 ad0 xa nL (σ, ce, sl, pc, lsC, stC) := by
  unfold st_lc at hs
  split at hs
  · rename_i b a r
    cases hc : a_isL a && a_isL b
    · rw [hc] at hs; cases hs
    · rw [hc] at hs
      cases hs
      obtain ⟨ia, ib⟩ := Bool.and_eq_true _ _ |>.mp hc
      obtain ⟨y, t1, e1, hb, ht1⟩ := s_long hg.s ib
      obtain ⟨x, t, e2, ha, ht⟩ := s_long ht1 ia
      subst e1
      subst e2
      have hv := sv_tl (sv_tl hg.sv)
      refine mW_lcmp hC hd ?_
      unfold lg_cmp
      by_cases h1 : x > y
      · rw [if_pos h1]
        have h1 : y.toInt < x.toInt := Int64.lt_iff_toInt_lt.mp h1
        exact st_to_ok hg (C := c_le E F b a (-1)) (c_le_ok hg.e hg.f hb ha (by omega)) (sa := (0, 0, 1) :: r) ⟨⟨1, rfl, rfl⟩, ht⟩ (sv_cons trivial hv) (fun S hS => List.mem_append_right _ (List.mem_append_right _ hS)) k
      · rw [if_neg h1]
        have h1 : ¬ y.toInt < x.toInt := fun z => h1 (Int64.lt_iff_toInt_lt.mpr z)
        by_cases h2 : x = y
        · rw [if_pos h2]
          exact st_to_ok hg (C := c_eq E F a b) (c_eq_ok hg.e hg.f ha hb (by rw [h2])) (sa := (0, 0, 0) :: r) ⟨⟨0, rfl, rfl⟩, ht⟩ (sv_cons trivial hv) (fun S hS => List.mem_append_right _ (List.mem_append_left _ hS)) k
        · rw [if_neg h2]
          have h2 : ¬ x.toInt = y.toInt := fun z => h2 (Int64.toInt_inj.mp z)
          exact st_to_ok hg (C := c_le E F a b (-1)) (c_le_ok hg.e hg.f ha hb (by omega)) (sa := (0, 0, -1) :: r) ⟨⟨-1, rfl, rfl⟩, ht⟩ (sv_cons trivial hv) (fun S hS => List.mem_append_left _ hS) k
  · cases hs
def st_il (pc : Nat) (E : A_E) (F : A_F) (ls : List (Nat × A_V)) (st : List A_V) (ov : A_O) (bu ph : A_L) : Option (List A_S) := match st with
  | a :: r => bif a_isI a then some [(pc + 1, E, F, ls, (a.1 + 3, a.2.1, a.2.2) :: r, ov, bu, ph)] else none
  | _ => none
theorem st_il_ok (hC : m_Ctx p s m args meth c cc nL own dC dI aC A xa X Y) (hg : g_ok T fv ρ0 σ0 md B ρ (pc, E, F, ls, st, ov, bu, ph) (σ, ce, sl, pc, lsC, stC)) (hd : z_dx K cc pc (.i2l) 1 aux) (hs : st_il pc E F ls st ov bu ph = some L) (k : ∀ S ∈ L, ∀ (B : Int) (ρ : List Int) (g : m_G), g_ok T fv ρ0 σ0 md B ρ S g → mW K Z p l e R s m args below meth c QQ dC dI aC A n0 ad0 xa nL g) : mW K Z p l e R s m args below meth c QQ dC dI aC A n0 ad0 xa nL (σ, ce, sl, pc, lsC, stC) := by
  unfold st_il at hs
  split at hs
  · rename_i a r
    cases ia : a_isI a
    · rw [ia] at hs; cases hs
    · rw [ia] at hs
      cases hs
      obtain ⟨x, t, e1, ha, ht⟩ := s_int hg.s ia
      subst e1
      have hx : x.toInt64.toInt = x.toInt := Int32.toInt_toInt64 x
      refine mW_i2l hC hd (k _ List.mem_cons_self B ρ _ (g_putL hg r_ext.rf hg.e ?_ ?_ ht (sv_tl hg.sv)))
      · rw [hx, ← ha]
        obtain ⟨u, n, c⟩ := a
        rcases a_isI_cases ia with h | h <;> (simp only at h; subst h; rfl)
      · rcases a_isI_cases ia with h | h <;> (rw [h]; rfl)
  · cases hs
noncomputable def st_li (pc : Nat) (E : A_E) (F : A_F) (ls : List (Nat × A_V)) (st : List A_V) (ov : A_O) (bu ph : A_L) : Option (List A_S) := match st with
  | a :: r => bif a_isL a then (bif i_le i_m (a_lo E F a) && i_le (a_hi E F a) i_M then some [(pc + 1, E, F, ls, (a.1 - 3, a.2.1, a.2.2) :: r, ov, bu, ph)] else some [s_put (pc + 1) (a_mkF E F i_m i_M) ls r ov bu ph]) else none
  | _ => none
theorem st_li_ok (hC : m_Ctx p s m args meth c cc nL own dC dI aC A xa X Y) (hg : g_ok T fv ρ0 σ0 md B ρ (pc, E, F, ls, st, ov, bu, ph) (σ, ce, sl, pc, lsC, stC)) (hd : z_dx K cc pc (.l2i) 1 aux) (hs : st_li pc E F ls st ov bu ph = some L) (k : ∀ S ∈ L, ∀ (B : Int) (ρ : List Int) (g : m_G), g_ok T fv ρ0 σ0 md B ρ S g → mW K Z p l e R s m args below meth c QQ dC dI aC A n0 ad0 xa nL g) : mW K Z p l e R s m args below meth c QQ dC dI aC A n0 ad0 xa nL (σ, ce, sl, pc, lsC, stC) := by
  unfold st_li at hs
  split at hs
  · rename_i a r
    cases ia : a_isL a
    · rw [ia] at hs; cases hs
    · rw [ia] at hs
      simp only [cond_true] at hs
      obtain ⟨x, t, e1, ha, ht⟩ := s_long hg.s ia
      subst e1
      cases hz : i_le i_m (a_lo E F a) && i_le (a_hi E F a) i_M
      · rw [hz] at hs
        cases hs
        obtain ⟨ρ', hg'⟩ := g_put (pc' := pc + 1) hg (r_any hg.e hg.f x.toInt32) ht (sv_tl hg.sv)
        exact mW_l2i hC hd (k _ List.mem_cons_self _ _ _ hg')
      · rw [hz] at hs
        cases hs
        obtain ⟨b1, b2⟩ := Bool.and_eq_true _ _ |>.mp hz
        have b1 := i_le_iff.mp b1
        have b2 := i_le_iff.mp b2
        have u1 : a_lo E F a ≤ _ := a_lo_ok hg.e hg.f ha
        have u2 : _ ≤ a_hi E F a := a_hi_ok hg.e hg.f ha
        have hx : x.toInt32.toInt = x.toInt := by rw [Int64.toInt_toInt32]; exact i32_bm (by omega) (by omega)
        refine mW_l2i hC hd (k _ List.mem_cons_self B ρ _ (hg.to r_ext.rf hg.e hg.f hg.l hg.lv ⟨v_of_int ?_ ?_, ht⟩ (sv_cons trivial (sv_tl hg.sv)) hg.o))
        · rcases a_isL_cases ia with h | h <;> (rw [h]; rfl)
        · rw [hx, ← ha]
          obtain ⟨u, n, c⟩ := a
          rcases a_isL_cases ia with h | h <;> (simp only at h; subst h; rfl)
  · cases hs
/-- shuffles -/
def st_sh (i : Jvm.ClassFile.Instr) (pc : Nat) (E : A_E) (F : A_F) (ls : List (Nat × A_V)) (st : List A_V) (ov : A_O) (bu ph : A_L) : Option (List A_S) := match i, st with
  | .dup, a :: r => bif a_c1 a then some [(pc + 1, E, F, ls, a :: a :: r, ov, bu, ph)] else none
  | .pop, a :: r => bif a_c1 a then some [(pc + 1, E, F, ls, r, ov, bu, ph)] else none
  | .pop2, a :: r => bif a_isL a then some [(pc + 1, E, F, ls, r, ov, bu, ph)] else none
  | .dup_x1, a :: b :: r => bif a_c1 a && a_c1 b then some [(pc + 1, E, F, ls, a :: b :: a :: r, ov, bu, ph)] else none
  | .dup2, a :: r => bif a_isL a then some [(pc + 1, E, F, ls, a :: a :: r, ov, bu, ph)] else match r with
    | b :: r => bif a_c1 a && a_c1 b then some [(pc + 1, E, F, ls, a :: b :: a :: b :: r, ov, bu, ph)] else none
    | _ => none
  | _, _ => none
theorem st_sh_ok (hC : m_Ctx p s m args meth c cc nL own dC dI aC A xa X Y) (hg : g_ok T fv ρ0 σ0 md B ρ (pc, E, F, ls, st, ov, bu, ph) (σ, ce, sl, pc, lsC, stC)) {i : Jvm.ClassFile.Instr} (hd : z_dx K cc pc (i) 1 aux) (hs : st_sh i pc E F ls st ov bu ph = some L) (k : ∀ S ∈ L, ∀ (B : Int) (ρ : List Int) (g : m_G), g_ok T fv ρ0 σ0 md B ρ S g → mW K Z p l e R s m args below meth c QQ dC dI aC A n0 ad0 xa nL g) : mW K Z p l e R s m args below meth c QQ dC dI aC A n0 ad0 xa nL (σ, ce, sl, pc, lsC, stC) := by
  have push : ∀ {sa : List A_V} {sc : List Value}, L = [(pc + 1, E, F, ls, sa, ov, bu, ph)] → s_ok ρ sa sc → (∀ v ∈ sc, m_vOk h_N v) → mW K Z p l e R s m args below meth c QQ dC dI aC A n0 ad0 xa nL (σ, ce, sl, pc + 1, lsC, sc) := fun h1 h2 h3 => by
    subst h1
    exact k _ List.mem_cons_self B ρ _ (hg.to r_ext.rf hg.e hg.f hg.l hg.lv h2 h3 hg.o)
  unfold st_sh at hs
  split at hs
  · rename_i a r
    cases h : a_c1 a
    · rw [h] at hs; cases hs
    · rw [h] at hs
      obtain ⟨v, t, e1, h1, h2⟩ := s_one hg.s
      subst e1
      have hv := hg.sv
      exact mW_dup hC hd (v_cat1 h1 h) (push (Option.some.inj hs).symm ⟨h1, h1, h2⟩ (sv_cons (hv _ List.mem_cons_self) hv))
  · rename_i a r
    cases h : a_c1 a
    · rw [h] at hs; cases hs
    · rw [h] at hs
      obtain ⟨v, t, e1, h1, h2⟩ := s_one hg.s
      subst e1
      exact mW_pop hC hd (v_cat1 h1 h) (push (Option.some.inj hs).symm h2 (sv_tl hg.sv))
  · rename_i a r
    cases h : a_isL a
    · rw [h] at hs; cases hs
    · rw [h] at hs
      obtain ⟨v, t, e1, h1, h2⟩ := s_one hg.s
      subst e1
      exact mW_pop2w hC hd (v_cat2 h1 h) (push (Option.some.inj hs).symm h2 (sv_tl hg.sv))
  · rename_i a b r
    cases h : a_c1 a && a_c1 b
    · rw [h] at hs; cases hs
    · rw [h] at hs
      obtain ⟨ca, cb⟩ := Bool.and_eq_true _ _ |>.mp h
      obtain ⟨v, t, e1, h1, h2⟩ := s_one hg.s
      obtain ⟨u, t', e2, h3, h4⟩ := s_one h2
      subst e1
      subst e2
      have hv := hg.sv
      have m1 := hv _ List.mem_cons_self
      have m2 := sv_tl hv _ List.mem_cons_self
      exact mW_dup_x1 hC hd (v_cat1 h1 ca) (v_cat1 h3 cb) (push (Option.some.inj hs).symm ⟨h1, h3, h1, h4⟩ (sv_cons m1 (sv_cons m2 (sv_cons m1 (sv_tl (sv_tl hv))))))
  · rename_i a r
    cases h : a_isL a
    · rw [h] at hs
      simp only [cond_false] at hs
      split at hs
      · rename_i b r
        cases h : a_c1 a && a_c1 b
        · rw [h] at hs; cases hs
        · rw [h] at hs
          obtain ⟨ca, cb⟩ := Bool.and_eq_true _ _ |>.mp h
          obtain ⟨v, t, e1, h1, h2⟩ := s_one hg.s
          obtain ⟨u, t', e2, h3, h4⟩ := s_one h2
          subst e1
          subst e2
          have hv := hg.sv
          have m1 := hv _ List.mem_cons_self
          have m2 := sv_tl hv _ List.mem_cons_self
          exact mW_dup2 hC hd (v_cat1 h1 ca) (v_cat1 h3 cb) (push (Option.some.inj hs).symm ⟨h1, h3, h1, h3, h4⟩ (sv_cons m1 (sv_cons m2 hv)))
      · cases hs
    · rw [h] at hs
      obtain ⟨v, t, e1, h1, h2⟩ := s_one hg.s
      subst e1
      have hv := hg.sv
      exact mW_dup2w hC hd (v_cat2 h1 h) (push (Option.some.inj hs).symm ⟨h1, h1, h2⟩ (sv_cons (hv _ List.mem_cons_self) hv))
  · cases hs
/-- the top of the stack by each of its numbers; the place stays: only what is known becomes more -/
def v_nr (v : Nat) (c : Int) (a : A_V) : A_V := bif Nat.beq a.1 1 && Nat.beq a.2.1 v then (0, 0, c + a.2.2) else bif Nat.beq a.1 4 && Nat.beq a.2.1 v then (3, 0, c + a.2.2) else a
end JP
end
section
/-! THE CELLS: reads, writes, rows of numbers -/
noncomputable def o_get (p k : Nat) (ov : A_O) : Option A_V := @List.rec ((Nat × Nat) × A_V) (fun _ => Option A_V) none (fun q _ ih => @Bool.rec (fun _ => Option A_V) ih (@Bool.rec (fun _ => Option A_V) ih (some q.2) (Nat.beq q.1.1 p)) (Nat.beq q.1.2 k)) ov
theorem o_get_in {p k : Nat} {a : A_V} : ∀ {ov : A_O}, o_get p k ov = some a → ((p, k), a) ∈ ov
  | [], h => by cases h
  | q :: ov, h => by
    have h : @Bool.rec (fun _ => Option A_V) (o_get p k ov) (@Bool.rec (fun _ => Option A_V) (o_get p k ov) (some q.2) (Nat.beq q.1.1 p)) (Nat.beq q.1.2 k) = some a := h
    cases h1 : Nat.beq q.1.2 k with
    | false => rw [h1] at h; exact List.mem_cons_of_mem _ (o_get_in h)
    | true =>
      rw [h1] at h
      have h : @Bool.rec (fun _ => Option A_V) (o_get p k ov) (some q.2) (Nat.beq q.1.1 p) = some a := h
      cases h2 : Nat.beq q.1.1 p with
      | false => rw [h2] at h; exact List.mem_cons_of_mem _ (o_get_in h)
      | true =>
        rw [h2] at h
        have e1 := Nat.eq_of_beq_eq_true h1
        have e2 := Nat.eq_of_beq_eq_true h2
        obtain ⟨⟨q1, q2⟩, a'⟩ := q
        simp only at e1 e2
        cases h; subst e1; subst e2; exact List.mem_cons_self
/-- the value at a place of a cell: known, or by the place's type -/
noncomputable def a_new (t : Nat × Int × Int) (E : A_E) : Option (A_E × A_V × Bool) := match t with
  | (0, lo, hi) => bif i_le hi lo then some (E, (0, 0, lo), false) else some (g_push E (lo, hi, false), (1, E.length, 0), true)
  | (1, q, _) => some (E, (2, q.toNat, 0), false)
  | (2, _, _) => some (g_push E (l_m, l_M, false), (4, E.length, 0), true)
  | (3, _, _) => some (g_push E (0, 1073741824, true), (1, E.length, 0), true)
  | _ => none
theorem a_new_ok {B : Int} {E E' : A_E} {ρ : List Int} {t : Nat × Int × Int} {a : A_V} {z : Bool} {v : Value} (hB : B ≤ 1073741824) (e : e_ok B E ρ) (hv : t_ok B t v) (h : a_new t E = some (E', a, z)) : ∃ ρ', r_ext ρ ρ' ∧ e_ok B E' ρ' ∧ v_ok ρ' a v := by
  obtain ⟨n, lo, hi⟩ := t
  unfold a_new at h
  split at h
  · rename_i lo hi heq
    cases heq
    obtain ⟨x, rfl, h1, h2⟩ := hv
    simp only at h1 h2
    cases hz : i_le hi lo
    · rw [hz] at h
      cases h
      exact ⟨ρ ++ [x.toInt], r_ext.push _, e_ok_pushG e ⟨h1, h2, fun z => by cases z⟩, ⟨x, x.toInt, rfl, r_at_push _ e, by simp⟩⟩
    · rw [hz] at h
      cases h
      have := i_le_iff.mp hz
      exact ⟨ρ, r_ext.rf, e, ⟨x, rfl, by show x.toInt = lo; omega⟩⟩
  · rename_i q _ heq
    cases heq
    cases h
    exact ⟨ρ, r_ext.rf, e, hv⟩
  · rename_i _ _ heq
    cases heq
    obtain ⟨x, rfl⟩ := hv
    cases h
    exact ⟨ρ ++ [x.toInt], r_ext.push _, e_ok_pushG e ⟨(i64_rng x).1, (i64_rng x).2, fun z => by cases z⟩, ⟨x, x.toInt, rfl, r_at_push _ e, by simp⟩⟩
  · rename_i _ _ heq
    cases heq
    obtain ⟨x, rfl, h1, h2⟩ := hv
    cases h
    exact ⟨ρ ++ [x.toInt], r_ext.push _, e_ok_pushG e ⟨h1, by show x.toInt ≤ 1073741824; omega, fun _ => ⟨h1, h2⟩⟩, ⟨x, x.toInt, rfl, r_at_push _ e, by simp⟩⟩
  · cases h
noncomputable def a_rd (E : A_E) (ov : A_O) (p k : Nat) : Option (A_E × A_O × A_V) := match o_get p k ov with
  | some a => some (E, ov, a)
  | none => match a_new (h_ty p k) E with
    | some (E', a, z) => some (E', bif z then ((p, k), a) :: ov else ov, a)
    | none => none
theorem a_rd_ok {B : Int} {E E' : A_E} {ρ : List Int} {ov ov' : A_O} {σ : m_H} {p k : Nat} {a : A_V} {v : Value} (hB : B ≤ 1073741824) (e : e_ok B E ρ) (o : o_ok ρ ov σ) (hv : t_ok B (h_ty p k) v) (hc : c_at σ p k = some v) (h : a_rd E ov p k = some (E', ov', a)) : ∃ ρ', r_ext ρ ρ' ∧ e_ok B E' ρ' ∧ o_ok ρ' ov' σ ∧ v_ok ρ' a v := by
  unfold a_rd at h
  split at h
  · rename_i b hb
    cases h
    obtain ⟨u, h1, h2⟩ := o _ (o_get_in hb)
    simp only at h1 h2
    rw [hc] at h1
    cases h1
    exact ⟨ρ, r_ext.rf, e, o, h2⟩
  · split at h
    · rename_i E2 b z hn
      cases h
      obtain ⟨ρ', g1, g2, g3⟩ := a_new_ok hB e hv hn
      refine ⟨ρ', g1, g2, ?_, g3⟩
      cases z
      · exact o_ok_ext g1 o
      · intro q hq
        rcases List.mem_cons.mp hq with rfl | hq
        · exact ⟨v, hc, g3⟩
        · exact o_ok_ext g1 o q hq
    · cases h
/-- bounds of the budget -/
noncomputable def l_lo1 (E : A_E) : List (Int × Nat) → Int
  | [] => 0
  | (c, v) :: l => (bif i_le 0 c then c * (e_at E v).1 else c * (e_at E v).2.1) + l_lo1 E l
noncomputable def l_lo (E : A_E) (L : A_L) : Int := L.1 + l_lo1 E L.2
theorem l_lo1_ok {B : Int} {E : A_E} {ρ : List Int} (e : e_ok B E ρ) : ∀ (l : List (Int × Nat)) (s : Int), l_ev1 ρ l = some s → l_lo1 E l ≤ s
  | [], s, h => by cases h; exact Int.le_refl _
  | (c, v) :: l, s, h => by
    unfold l_ev1 at h
    split at h
    · rename_i r t h1 h2
      cases h
      have ih := l_lo1_ok e l t h2
      have hr := e_at_ok e h1
      unfold l_lo1
      cases hc : i_le 0 c
      · have hc := i_le_f.mp hc
        have := Int.mul_le_mul_of_nonpos_left (a := c) (by omega) hr.2.1
        simp only [cond_false]; omega
      · have hc := i_le_iff.mp hc
        have := Int.mul_le_mul_of_nonneg_left hr.1 hc
        simp only [cond_true]; omega
    · cases h
theorem l_lo_ok {B : Int} {E : A_E} {ρ : List Int} (e : e_ok B E ρ) {L : A_L} {s : Int} (h : l_ev ρ L = some s) : l_lo E L ≤ s := by
  unfold l_ev at h
  obtain ⟨t, h1, h2⟩ := Option.map_eq_some_iff.mp h
  have := l_lo1_ok e _ _ h1
  unfold l_lo
  omega
/-- may a value be put at a place of this type; how many ticks it takes -/
noncomputable def t_fit (t : Nat × Int × Int) (E : A_E) (F : A_F) (a : A_V) : Option Int := match t with
  | (0, lo, hi) => bif a_isI a && (i_le lo (a_lo E F a) && i_le (a_hi E F a) hi) then some 0 else none
  | (1, q, _) => bif a_isR a && Nat.beq a.2.1 q.toNat then some 0 else none
  | (2, _, _) => bif a_isL a then some 0 else none
  | (3, _, _) => bif Nat.beq a.1 0 && i_eq a.2.2 0 then some 0 else bif Nat.beq a.1 1 && ((e_at E a.2.1).2.2 && i_le 0 a.2.2) then some a.2.2 else none
  | (4, _, _) => bif a_isR a then some 0 else none
  | _ => none
theorem t_fit_ok {B : Int} {E : A_E} {F : A_F} {ρ : List Int} {t : Nat × Int × Int} {a : A_V} {v : Value} {c : Int} (hB : 0 ≤ B) (e : e_ok B E ρ) (f : f_ok F ρ) (hv : v_ok ρ a v) (h : t_fit t E F a = some c) : 0 ≤ c ∧ t_ok (B + c) t v := by
  unfold t_fit at h
  split at h
  · rename_i lo hi
    cases hc : a_isI a && (i_le lo (a_lo E F a) && i_le (a_hi E F a) hi)
    · rw [hc] at h; cases h
    · rw [hc] at h
      cases h
      obtain ⟨h1, h2⟩ := Bool.and_eq_true _ _ |>.mp hc
      obtain ⟨h2, h3⟩ := Bool.and_eq_true _ _ |>.mp h2
      obtain ⟨x, rfl, h4⟩ := v_int hv h1
      have u1 := a_lo_ok e f h4
      have u2 := a_hi_ok e f h4
      have h2 := i_le_iff.mp h2
      have h3 := i_le_iff.mp h3
      exact ⟨Int.le_refl _, ⟨x, rfl, by show lo ≤ _; omega, by show _ ≤ hi; omega⟩⟩
  · rename_i q _
    cases hc : a_isR a && Nat.beq a.2.1 q.toNat
    · rw [hc] at h; cases h
    · rw [hc] at h
      cases h
      obtain ⟨h1, h2⟩ := Bool.and_eq_true _ _ |>.mp hc
      have h2 := Nat.eq_of_beq_eq_true h2
      exact ⟨Int.le_refl _, by rw [v_ref hv h1, h2]; rfl⟩
  · cases hc : a_isL a
    · rw [hc] at h; cases h
    · rw [hc] at h
      cases h
      obtain ⟨x, rfl, _⟩ := v_long hv hc
      exact ⟨Int.le_refl _, ⟨x, rfl⟩⟩
  · cases hc : Nat.beq a.1 0 && i_eq a.2.2 0
    · rw [hc] at h
      simp only [cond_false] at h
      cases hd : Nat.beq a.1 1 && ((e_at E a.2.1).2.2 && i_le 0 a.2.2)
      · rw [hd] at h; cases h
      · rw [hd] at h
        cases h
        obtain ⟨h1, h2⟩ := Bool.and_eq_true _ _ |>.mp hd
        obtain ⟨h2, h3⟩ := Bool.and_eq_true _ _ |>.mp h2
        have h1 := Nat.eq_of_beq_eq_true h1
        have h3 := i_le_iff.mp h3
        obtain ⟨t, n, c⟩ := a
        simp only at h1
        subst h1
        obtain ⟨x, r, rfl, h4, h5⟩ := hv
        have := (e_at_ok e h4).2.2 h2
        simp only at h3 h5 ⊢
        exact ⟨h3, ⟨x, rfl, by omega, by omega⟩⟩
    · rw [hc] at h
      cases h
      obtain ⟨h1, h2⟩ := Bool.and_eq_true _ _ |>.mp hc
      have h1 := Nat.eq_of_beq_eq_true h1
      have h2 := i_eq_iff.mp h2
      obtain ⟨t, n, c⟩ := a
      simp only at h1 h2
      subst h1
      obtain ⟨x, rfl, h5⟩ := hv
      simp only at h5
      exact ⟨Int.le_refl _, ⟨x, rfl, by omega, by omega⟩⟩
  · cases hc : a_isR a
    · rw [hc] at h; cases h
    · rw [hc] at h
      cases h
      exact ⟨Int.le_refl _, Or.inr ⟨_, v_ref hv hc⟩⟩
  · cases h
/-- the cells that may change hold these -/
noncomputable def d_has (md : A_D) (p lo hi : Nat) : Bool := @List.rec (Nat × Nat × Nat) (fun _ => Bool) false (fun q _ ih => @Bool.rec (fun _ => Bool) ih (@Bool.rec (fun _ => Bool) ih (@Bool.rec (fun _ => Bool) ih true (Nat.ble hi q.2.2)) (Nat.ble q.2.1 lo)) (Nat.beq q.1 p)) md
theorem d_has_eq (p lo hi : Nat) : ∀ md : A_D, d_has md p lo hi = md.any fun q => Nat.beq q.1 p && (Nat.ble q.2.1 lo && Nat.ble hi q.2.2)
  | [] => rfl
  | q :: md => by
    have e : d_has (q :: md) p lo hi = @Bool.rec (fun _ => Bool) (d_has md p lo hi) (@Bool.rec (fun _ => Bool) (d_has md p lo hi) (@Bool.rec (fun _ => Bool) (d_has md p lo hi) true (Nat.ble hi q.2.2)) (Nat.ble q.2.1 lo)) (Nat.beq q.1 p) := rfl
    rw [e, List.any_cons, ← d_has_eq p lo hi md]
    cases Nat.beq q.1 p <;> cases Nat.ble q.2.1 lo <;> cases Nat.ble hi q.2.2 <;> rfl
theorem d_has_ok {md : A_D} {p lo hi k : Nat} (h : d_has md p lo hi = true) (h1 : lo ≤ k) (h2 : k ≤ hi) : d_in md p k := by
  rw [d_has_eq] at h
  obtain ⟨q, hq, h⟩ := List.any_eq_true.mp h
  obtain ⟨g1, g2⟩ := Bool.and_eq_true _ _ |>.mp h
  obtain ⟨g2, g3⟩ := Bool.and_eq_true _ _ |>.mp g2
  have e1 := Nat.eq_of_beq_eq_true g1
  have e2 := Nat.le_of_ble_eq_true g2
  have e3 := Nat.le_of_ble_eq_true g3
  exact ⟨q, hq, e1, by omega, by omega⟩
theorem h_fr_set {md : A_D} {σ0 σ : m_H} {p k : Nat} {kd : Nat ⊕ Nat} {vs : List Value} {v : Value} (h : h_fr md σ0 σ) (hσ : σ[p]? = some (kd, vs)) (hd : d_in md p k) : h_fr md σ0 (σ.set p (kd, vs.set k v)) := by
  intro p' k' hn
  rw [c_at_set hσ, if_neg (fun z => hn (by rw [z.1, z.2.1]; exact hd))]
  exact h p' k' hn
noncomputable def o_cut (p lo hi : Nat) (ov : A_O) : A_O := g_fil (fun q => !(Nat.beq q.1.1 p && (Nat.ble lo q.1.2 && Nat.ble q.1.2 hi))) ov
theorem o_cut_eq (p lo hi : Nat) (ov : A_O) : o_cut p lo hi ov = ov.filter fun q => !(Nat.beq q.1.1 p && (Nat.ble lo q.1.2 && Nat.ble q.1.2 hi)) := g_fil_eq _ ov
theorem o_cut_ok {ρ : List Int} {ov : A_O} {σ : m_H} {p k lo hi : Nat} {kd : Nat ⊕ Nat} {vs : List Value} {v : Value} (o : o_ok ρ ov σ) (hσ : σ[p]? = some (kd, vs)) (h1 : lo ≤ k) (h2 : k ≤ hi) : o_ok ρ (o_cut p lo hi ov) (σ.set p (kd, vs.set k v)) := by
  rw [o_cut_eq]
  intro q hq
  obtain ⟨g1, g2⟩ := List.mem_filter.mp hq
  obtain ⟨u, g3, g4⟩ := o q g1
  refine ⟨u, ?_, g4⟩
  rw [c_at_set hσ, if_neg]
  · exact g3
  · rintro ⟨z1, z2, -⟩
    have e1 : Nat.beq q.1.1 p = true := by rw [z1]; exact Nat.beq_refl p
    have e2 : Nat.ble lo q.1.2 = true := Nat.ble_eq.mpr (by omega)
    have e3 : Nat.ble q.1.2 hi = true := Nat.ble_eq.mpr (by omega)
    rw [e1, e2, e3] at g2
    cases g2
theorem o_put_ok {ρ : List Int} {ov : A_O} {σ : m_H} {p k : Nat} {kd : Nat ⊕ Nat} {vs : List Value} {a : A_V} {v : Value} (o : o_ok ρ ov σ) (hσ : σ[p]? = some (kd, vs)) (hk : k < vs.length) (hv : v_ok ρ a v) : o_ok ρ (((p, k), a) :: o_cut p k k ov) (σ.set p (kd, vs.set k v)) := by
  intro q hq
  rcases List.mem_cons.mp hq with rfl | hq
  · exact ⟨v, by rw [c_at_set hσ, if_pos ⟨rfl, rfl, hk⟩], hv⟩
  · exact o_cut_ok o hσ (Nat.le_refl _) (Nat.le_refl _) q hq
theorem h_cell {B : Int} {σ : m_H} (h : h_ok B σ) {p : Nat} (hp : p < h_N) : ∃ vs, σ[p]? = some (h_kd p, vs) ∧ vs.length = h_ln p ∧ ∀ k, k < h_ln p → ∃ v, vs[k]? = some v ∧ t_ok B (h_ty p k) v ∧ m_vOk h_N v := by
  obtain ⟨vs, h1, h2, h3⟩ := h.2 p hp
  refine ⟨vs, h1, h2, fun k hk => ?_⟩
  have he : vs[k]? = some vs[k] := List.getElem?_eq_getElem (by omega)
  exact ⟨vs[k], he, h3 k _ he⟩
def l_take (bu : A_L) (c : Int) : A_L := (bu.1 - c, bu.2)
theorem l_take_ok {ρ : List Int} {bu : A_L} {c z : Int} (h : l_ev ρ bu = some z) : l_ev ρ (l_take bu c) = some (z - c) := by
  unfold l_ev l_take at *
  obtain ⟨t, h1, h2⟩ := Option.map_eq_some_iff.mp h
  simp only
  rw [h1]
  simp only [Option.map_some, Option.some.injEq]
  omega
/-- the union of the types from a place on -/
noncomputable def t_uni (p : Nat) (lo : Nat) : Nat → Option (Int × Int)
  | 0 => match h_ty p lo with
    | (0, a, b) => some (a, b)
    | _ => none
  | n + 1 => match h_ty p (lo + (n + 1)), t_uni p lo n with
    | (0, a, b), some (c, d) => some (i_min a c, i_max b d)
    | _, _ => none
theorem t_uni_ok {B : Int} {p lo : Nat} : ∀ {n : Nat} {a b : Int}, t_uni p lo n = some (a, b) → ∀ (k : Nat) (v : Value), lo ≤ k → k ≤ lo + n → t_ok B (h_ty p k) v → ∃ x : Int32, v = .int x ∧ a ≤ x.toInt ∧ x.toInt ≤ b
  | 0, a, b, h, k, v, h1, h2, hv => by
    have : k = lo := by omega
    subst this
    unfold t_uni at h
    split at h
    · rename_i a' b' ht
      cases h
      rw [ht] at hv
      exact hv
    · cases h
  | n + 1, a, b, h, k, v, h1, h2, hv => by
    unfold t_uni at h
    split at h
    · rename_i a' b' c d ht hu
      cases h
      have m1 := @min_le a' c
      have m2 := @le_max b' d
      by_cases hk : k = lo + (n + 1)
      · subst hk
        rw [ht] at hv
        obtain ⟨x, h3, h4, h5⟩ := hv
        simp only at h4 h5
        exact ⟨x, h3, by omega, by omega⟩
      · obtain ⟨x, h3, h4, h5⟩ := t_uni_ok hu k v h1 (by omega) hv
        exact ⟨x, h3, by omega, by omega⟩
    · cases h
/-- all the places from lo on take the value, and no tick -/
noncomputable def t_all (p lo : Nat) (E : A_E) (F : A_F) (a : A_V) : Nat → Bool
  | 0 => match t_fit (h_ty p lo) E F a with
    | some c => i_eq c 0
    | none => false
  | n + 1 => (match t_fit (h_ty p (lo + (n + 1))) E F a with
    | some c => i_eq c 0
    | none => false) && t_all p lo E F a n
theorem t_all_ok {B : Int} {E : A_E} {F : A_F} {ρ : List Int} {p lo : Nat} {a : A_V} {v : Value} (hB : 0 ≤ B) (e : e_ok B E ρ) (f : f_ok F ρ) (hv : v_ok ρ a v) : ∀ {n : Nat}, t_all p lo E F a n = true → ∀ k : Nat, lo ≤ k → k ≤ lo + n → t_ok B (h_ty p k) v := by
  have one : ∀ k : Nat, (match t_fit (h_ty p k) E F a with | some c => i_eq c 0 | none => false) = true → t_ok B (h_ty p k) v := by
    intro k h
    split at h
    · rename_i c hc
      have h := i_eq_iff.mp h
      subst h
      have := (t_fit_ok hB e f hv hc).2
      rwa [Int.add_zero] at this
    · cases h
  intro n
  induction n with
  | zero =>
    intro h k h1 h2
    have : k = lo := by omega
    subst this
    exact one k h
  | succ n ih =>
    intro h k h1 h2
    unfold t_all at h
    obtain ⟨g1, g2⟩ := Bool.and_eq_true _ _ |>.mp h
    by_cases hk : k = lo + (n + 1)
    · subst hk; exact one _ g1
    · exact ih g2 k h1 (by omega)
theorem ix_of {i : Int32} {n : Nat} (h1 : 0 ≤ i.toInt) (h2 : i.toInt < n) : vp_in i n ∧ i.toNatClampNeg = i.toInt.toNat := by
  have e : i.toNatClampNeg = i.toInt.toNat := rfl
  refine ⟨fun z => ?_, e⟩
  rcases z with z | z
  · have := i32_lt.mp z
    rw [i32_0] at this
    omega
  · rw [e] at z
    omega
end
section
/-! FIELDS AND ROWS in one instruction -/
noncomputable def n_ok (ft : FieldType) (t : Nat × Int × Int) : Bool := match ft, t with
  | .int, (0, _, _) => true
  | .int, (3, _, _) => true
  | .boolean, (0, lo, hi) => i_le 0 lo && i_le hi 1
  | .long, (2, _, _) => true
  | .object _, (1, _, _) => true
  | .array _, (1, _, _) => true
  | .array _, (4, _, _) => true
  | _, _ => false
theorem bool01 {x : Int32} (h1 : 0 ≤ x.toInt) (h2 : x.toInt ≤ 1) : x = 0 ∨ x = 1 := by
  rcases (by omega : x.toInt = 0 ∨ x.toInt = 1) with h | h
  · exact Or.inl (Int32.toInt_inj.mp h)
  · exact Or.inr (Int32.toInt_inj.mp h)
theorem n_ok_ok {B : Int} {ft : FieldType} {t : Nat × Int × Int} {v : Value} (h : n_ok ft t = true) (hv : t_ok B t v) : narrow ft v = v ∧ fits ft v = true := by
  unfold n_ok at h
  split at h
  · obtain ⟨x, rfl, _⟩ := hv; exact ⟨rfl, rfl⟩
  · obtain ⟨x, rfl, _⟩ := hv; exact ⟨rfl, rfl⟩
  · obtain ⟨x, rfl, h1, h2⟩ := hv
    obtain ⟨g1, g2⟩ := Bool.and_eq_true _ _ |>.mp h
    have g1 := i_le_iff.mp g1
    have g2 := i_le_iff.mp g2
    simp only at h1 h2
    rcases bool01 (x := x) (by omega) (by omega) with rfl | rfl <;> exact ⟨rfl, rfl⟩
  · obtain ⟨x, rfl⟩ := hv; exact ⟨rfl, rfl⟩
  · have : v = .ref _ := hv
    subst this; exact ⟨rfl, rfl⟩
  · have : v = .ref _ := hv
    subst this; exact ⟨rfl, rfl⟩
  · have hv : v = .null ∨ ∃ k, v = .ref k := hv
    rcases hv with rfl | ⟨k, rfl⟩ <;> exact ⟨rfl, rfl⟩
  · cases h
theorem kd_inr {q ci : Nat} (h : decide (h_kd q = .inr ci) = true) : h_kd q = .inr ci := of_decide_eq_true h
section CE
variable {p : Program} {l : Launch} {e : Env} {R : Room} {s : State} {m : MethodId} {args : Array Value} {below : List Frame} {meth : Method} {c : Code} {QQ : z_Q → State → Prop} {dC : Nat → ClassId} {dI : Nat → Nat → Nat} {aC : Nat → ClassId} {A : Nat → Prop} {n0 : Nat} {ad0 xa : Nat → Nat} {nL : Nat} {cc : ByteArray} {own : String} {X : Nat → Option (List Int32)} {Y : (Nat → Prop) → State → Heap → Prop}
variable {K : List (List a_K)} {Z : z_G → z_Q → Prop} {aux : List Nat}
variable {T fv B : Int} {ρ0 ρ : List Int} {σ0 σ : m_H} {md : A_D} {ce sl pc : Nat} {lsC : List (Nat × Value)} {stC : List Value} {E : A_E} {F : A_F} {ls : List (Nat × A_V)} {st : List A_V} {ov : A_O} {bu ph : A_L} {L : List A_S}
/-- a value from a cell comes on the stack -/
theorem g_read {p0 k0 pc' : Nat} {E' : A_E} {ov' : A_O} {a : A_V} {v : Value} {sa : List A_V} {sc : List Value} (hg : g_ok T fv ρ0 σ0 md B ρ (pc, E, F, ls, st, ov, bu, ph) (σ, ce, sl, pc, lsC, stC)) (hB : B ≤ 1073741824) (hr : a_rd E ov p0 k0 = some (E', ov', a)) (hv : t_ok B (h_ty p0 k0) v) (hm : m_vOk h_N v) (hc : c_at σ p0 k0 = some v) (hs : s_ok ρ sa sc) (hsv : ∀ u ∈ sc, m_vOk h_N u) :
    ∃ ρ', g_ok T fv ρ0 σ0 md B ρ' (pc', E', F, ls, a :: sa, ov', bu, ph) (σ, ce, sl, pc', lsC, v :: sc) := by
  obtain ⟨ρ', g1, g2, g3, g4⟩ := a_rd_ok hB hg.e hg.o hv hc hr
  exact ⟨ρ', hg.to g1 g2 (f_ok_ext g1 hg.f) (l_ok_ext g1 hg.l) hg.lv ⟨g4, s_ok_ext g1 _ _ hs⟩ (sv_cons hm hsv) g3⟩
/-- a value goes into a cell -/
theorem g_write {p0 k0 pc' : Nat} {E' : A_E} {F' : A_F} {ρ' : List Int} {vs : List Value} {a : A_V} {v : Value} {sa : List A_V} {sc : List Value} {c : Int} (hg : g_ok T fv ρ0 σ0 md B ρ (pc, E, F, ls, st, ov, bu, ph) (σ, ce, sl, pc, lsC, stC)) (hB0 : 0 ≤ B) (hx : r_ext ρ ρ') (he : e_ok B E' ρ') (hf : f_ok F' ρ') (hσ : σ[p0]? = some (h_kd p0, vs)) (hk : k0 < vs.length) (ht : 0 ≤ c ∧ t_ok (B + c) (h_ty p0 k0) v) (hv : v_ok ρ' a v) (hm : m_vOk h_N v) (hd : d_has md p0 k0 k0 = true) (hz : (i_le c (l_lo E' bu) || i_eq c 0) = true) (hs : s_ok ρ sa sc) (hsv : ∀ u ∈ sc, m_vOk h_N u) :
    g_ok T fv ρ0 σ0 md (B + c) ρ' (pc', E', F', ls, sa, ((p0, k0), a) :: o_cut p0 k0 k0 ov, l_take bu c, ph) (σ.set p0 (h_kd p0, vs.set k0 v), ce, sl, pc', lsC, sc) := by
  refine ⟨hg.x0.tr hx, e_ok_mono (by omega) he, hf, ?_, l_ev_ext hx hg.ph, h_set (h_ok_mono (by omega) hg.h) hσ ht.2 hm, hg.ce, hg.sl, rfl, l_ok_ext hx hg.l, hg.lv, s_ok_ext hx _ _ hs, hsv, o_put_ok (o_ok_ext hx hg.o) hσ hk hv, h_fr_set hg.fr hσ (d_has_ok hd (Nat.le_refl _) (Nat.le_refl _))⟩
  obtain ⟨z0, z, z1, z2, z3⟩ := hg.bu
  have u : l_lo E' bu ≤ z := l_lo_ok he (l_ev_ext hx z1)
  refine ⟨by omega, z - c, l_take_ok (l_ev_ext hx z1), ?_, by omega⟩
  rcases Bool.or_eq_true _ _ |>.mp hz with w | w
  · have := i_le_iff.mp w
    omega
  · have := i_eq_iff.mp w
    omega
noncomputable def st_gf (ci kk pc : Nat) (E : A_E) (F : A_F) (ls : List (Nat × A_V)) (st : List A_V) (ov : A_O) (bu ph : A_L) : Option (List A_S) := match st with
  | a :: r => bif a_isR a && (Nat.blt a.2.1 h_N && (decide (h_kd a.2.1 = .inr ci) && Nat.blt kk (h_ln a.2.1))) then (match a_rd E ov a.2.1 kk with
    | some (E', ov', v) => some [(pc + 3, E', F, ls, v :: r, ov', bu, ph)]
    | none => none) else none
  | _ => none
theorem st_gf_ok (hg : g_ok T fv ρ0 σ0 md B ρ (pc, E, F, ls, st, ov, bu, ph) (σ, ce, sl, pc, lsC, stC)) (hB : B ≤ 1073741824) {ci kk : Nat} (hs : st_gf ci kk pc E F ls st ov bu ph = some L)
    (row : ∀ (q : Nat) (fs : List Value) (v : Value) (t : List Value), σ[q]? = some (.inr ci, fs) → fs[kk]? = some v → mW K Z p l e R s m args below meth c QQ dC dI aC A n0 ad0 xa nL (σ, ce, sl, pc + 3, lsC, v :: t) → mW K Z p l e R s m args below meth c QQ dC dI aC A n0 ad0 xa nL (σ, ce, sl, pc, lsC, .ref q :: t)) (k : ∀ S ∈ L, ∀ (B : Int) (ρ : List Int) (g : m_G), g_ok T fv ρ0 σ0 md B ρ S g → mW K Z p l e R s m args below meth c QQ dC dI aC A n0 ad0 xa nL g) : mW K Z p l e R s m args below meth c QQ dC dI aC A n0 ad0 xa nL (σ, ce, sl, pc, lsC, stC) := by
  unfold st_gf at hs
  split at hs
  · rename_i a r
    cases hc : a_isR a && (Nat.blt a.2.1 h_N && (decide (h_kd a.2.1 = .inr ci) && Nat.blt kk (h_ln a.2.1)))
    · rw [hc] at hs; cases hs
    · rw [hc] at hs
      simp only [cond_true] at hs
      obtain ⟨c1, c2⟩ := Bool.and_eq_true _ _ |>.mp hc
      obtain ⟨c2, c3⟩ := Bool.and_eq_true _ _ |>.mp c2
      obtain ⟨c3, c4⟩ := Bool.and_eq_true _ _ |>.mp c3
      have c2 : a.2.1 < h_N := Nat.le_of_ble_eq_true c2
      have c3 := kd_inr c3
      have c4 : kk < h_ln a.2.1 := Nat.le_of_ble_eq_true c4
      obtain ⟨t, e1, ht⟩ := s_ref hg.s c1
      subst e1
      obtain ⟨vs, h1, h2, h3⟩ := h_cell hg.h c2
      obtain ⟨v, h4, h5, h6⟩ := h3 kk c4
      split at hs
      · rename_i E' ov' b hr
        cases hs
        obtain ⟨ρ', g'⟩ := g_read (pc' := pc + 3) hg hB hr h5 h6 (by rw [c_at_eq h1]; exact h4) ht (sv_tl hg.sv)
        exact row _ vs v t (by rw [h1, c3]) h4 (k _ List.mem_cons_self _ _ _ g')
      · cases hs
  · cases hs
noncomputable def st_pf (ci kk pc : Nat) (md : A_D) (E : A_E) (F : A_F) (ls : List (Nat × A_V)) (st : List A_V) (ov : A_O) (bu ph : A_L) : Option (List A_S) := match st with
  | b :: a :: r => bif a_isR a && (Nat.blt a.2.1 h_N && (decide (h_kd a.2.1 = .inr ci) && (Nat.blt kk (h_ln a.2.1) && (d_has md a.2.1 kk kk && n_ok (a_ty ci kk) (h_ty a.2.1 kk))))) then (match t_fit (h_ty a.2.1 kk) E F b with
    | some c => bif i_le c (l_lo E bu) || i_eq c 0 then some [(pc + 3, E, F, ls, r, ((a.2.1, kk), b) :: o_cut a.2.1 kk kk ov, l_take bu c, ph)] else none
    | none => none) else none
  | _ => none
theorem st_pf_ok (hg : g_ok T fv ρ0 σ0 md B ρ (pc, E, F, ls, st, ov, bu, ph) (σ, ce, sl, pc, lsC, stC)) (hB0 : 0 ≤ B) {ci kk : Nat} (hs : st_pf ci kk pc md E F ls st ov bu ph = some L)
    (row : ∀ (q : Nat) (fs : List Value) (v : Value) (t : List Value), σ[q]? = some (.inr ci, fs) → kk < fs.length → narrow (a_ty ci kk) v = v → fits (a_ty ci kk) v = true → mW K Z p l e R s m args below meth c QQ dC dI aC A n0 ad0 xa nL (σ.set q (.inr ci, fs.set kk v), ce, sl, pc + 3, lsC, t) → mW K Z p l e R s m args below meth c QQ dC dI aC A n0 ad0 xa nL (σ, ce, sl, pc, lsC, v :: .ref q :: t)) (k : ∀ S ∈ L, ∀ (B : Int) (ρ : List Int) (g : m_G), g_ok T fv ρ0 σ0 md B ρ S g → mW K Z p l e R s m args below meth c QQ dC dI aC A n0 ad0 xa nL g) : mW K Z p l e R s m args below meth c QQ dC dI aC A n0 ad0 xa nL (σ, ce, sl, pc, lsC, stC) := by
  unfold st_pf at hs
  split at hs
  · rename_i b a r
    cases hc : a_isR a && (Nat.blt a.2.1 h_N && (decide (h_kd a.2.1 = .inr ci) && (Nat.blt kk (h_ln a.2.1) && (d_has md a.2.1 kk kk && n_ok (a_ty ci kk) (h_ty a.2.1 kk)))))
    · rw [hc] at hs; cases hs
    · rw [hc] at hs
      simp only [cond_true] at hs
      obtain ⟨c1, c2⟩ := Bool.and_eq_true _ _ |>.mp hc
      obtain ⟨c2, c3⟩ := Bool.and_eq_true _ _ |>.mp c2
      obtain ⟨c3, c4⟩ := Bool.and_eq_true _ _ |>.mp c3
      obtain ⟨c4, c5⟩ := Bool.and_eq_true _ _ |>.mp c4
      obtain ⟨c5, c6⟩ := Bool.and_eq_true _ _ |>.mp c5
      have c2 : a.2.1 < h_N := Nat.le_of_ble_eq_true c2
      have c3 := kd_inr c3
      have c4 : kk < h_ln a.2.1 := Nat.le_of_ble_eq_true c4
      obtain ⟨v, t1, e1, hv, ht1⟩ := s_one hg.s
      obtain ⟨t, e2, ht⟩ := s_ref ht1 c1
      subst e1
      subst e2
      have hm : m_vOk h_N v := hg.sv v List.mem_cons_self
      obtain ⟨vs, h1, h2, h3⟩ := h_cell hg.h c2
      split at hs
      · rename_i c hf
        cases hz : i_le c (l_lo E bu) || i_eq c 0
        · rw [hz] at hs; cases hs
        · rw [hz] at hs
          cases hs
          have hfit := t_fit_ok hB0 hg.e hg.f hv hf
          obtain ⟨n1, n2⟩ := n_ok_ok c6 hfit.2
          have g' := g_write (pc' := pc + 3) hg hB0 r_ext.rf hg.e hg.f h1 (by omega) hfit hv hm c5 hz ht (sv_tl (sv_tl hg.sv))
          have kk' := k _ List.mem_cons_self _ _ _ g'
          rw [c3] at kk'
          exact row _ vs v t (by rw [h1, c3]) (by omega) n1 n2 kk'
      · cases hs
  · cases hs
/-- loads of rows: t the kind -/
theorem x_tab2 : ∀ {j : Nat}, 2 ≤ j → x_tab j = []
  | _ + 2, _ => rfl
theorem x_tab3 : ∀ {j : Nat}, j < 2 → ∀ z ∈ x_tab j, i_m ≤ z ∧ z ≤ i_M
  | 0, _, z, hz => by
    have : z = 1 ∨ z = 5 ∨ z = 25 := by simpa [x_tab] using hz
    unfold i_m i_M; omega
  | 1, _, z, hz => by
    have : z = -3 ∨ z = -1 ∨ z = 0 ∨ z = 1 ∨ z = 3 := by simpa [x_tab] using hz
    unfold i_m i_M; omega
noncomputable def x_uni (L : List Int) (lo : Nat) : Nat → Option (Int × Int)
  | 0 => match L[lo]? with
    | some a => some (a, a)
    | none => none
  | n + 1 => match L[lo + (n + 1)]?, x_uni L lo n with
    | some a, some (c, d) => some (i_min a c, i_max a d)
    | _, _ => none
theorem x_uni_ok {L : List Int} {lo : Nat} : ∀ {n : Nat} {a b : Int}, x_uni L lo n = some (a, b) → ∀ k : Nat, lo ≤ k → k ≤ lo + n → ∃ x : Int, L[k]? = some x ∧ a ≤ x ∧ x ≤ b
  | 0, a, b, h, k, h1, h2 => by
    have : k = lo := by omega
    subst this
    unfold x_uni at h
    split at h
    · rename_i x hx
      cases h
      exact ⟨_, hx, Int.le_refl _, Int.le_refl _⟩
    · cases h
  | n + 1, a, b, h, k, h1, h2 => by
    unfold x_uni at h
    split at h
    · rename_i x c d hx hu
      cases h
      have m1 := @min_le x c
      have m2 := @le_max x d
      by_cases hk : k = lo + (n + 1)
      · subst hk
        exact ⟨x, hx, by omega, by omega⟩
      · obtain ⟨y, h3, h4, h5⟩ := x_uni_ok hu k h1 (by omega)
        exact ⟨y, h3, by omega, by omega⟩
    · cases h
/-- the row and the place in it: from lo to hi -/
noncomputable def ix_rng (E : A_E) (F : A_F) (i : A_V) (n : Nat) : Option (Nat × Nat) := bif a_isI i && (i_le 0 (a_lo E F i) && i_le (a_hi E F i + 1) n) then some ((a_lo E F i).toNat, (a_hi E F i).toNat) else none
theorem ix_rng_ok {i : A_V} {n lo hi : Nat} {x : Int32} (e : e_ok B E ρ) (f : f_ok F ρ) (h : ix_rng E F i n = some (lo, hi)) (hx : a_ev ρ i = some x.toInt) : vp_in x n ∧ x.toNatClampNeg = x.toInt.toNat ∧ lo ≤ x.toInt.toNat ∧ x.toInt.toNat ≤ hi ∧ hi < n ∧ 0 ≤ x.toInt := by
  unfold ix_rng at h
  cases hc : a_isI i && (i_le 0 (a_lo E F i) && i_le (a_hi E F i + 1) n)
  · rw [hc] at h; cases h
  · rw [hc] at h
    cases h
    obtain ⟨h1, h2⟩ := Bool.and_eq_true _ _ |>.mp hc
    obtain ⟨h2, h3⟩ := Bool.and_eq_true _ _ |>.mp h2
    have h2 := i_le_iff.mp h2
    have h3 := i_le_iff.mp h3
    have u1 := a_lo_ok e f hx
    have u2 := a_hi_ok e f hx
    obtain ⟨g1, g2⟩ := ix_of (i := x) (n := n) (by omega) (by omega)
    exact ⟨g1, g2, by omega, by omega, by omega, by omega⟩
theorem ix_isI {i : A_V} {n : Nat} {q : Nat × Nat} (h : ix_rng E F i n = some q) : a_isI i = true := by
  unfold ix_rng at h
  cases hc : a_isI i && (i_le 0 (a_lo E F i) && i_le (a_hi E F i + 1) n)
  · rw [hc] at h; cases h
  · exact (Bool.and_eq_true _ _ |>.mp hc).1
/-- ints, bytes, signs, bits -/
noncomputable def st_al (t pc : Nat) (E : A_E) (F : A_F) (ls : List (Nat × A_V)) (st : List A_V) (ov : A_O) (bu ph : A_L) : Option (List A_S) := match st with
  | i :: a :: r => bif a_isR a then (bif Nat.blt a.2.1 h_N then (bif decide (h_kd a.2.1 = .inl t) then (match ix_rng E F i (h_ln a.2.1) with
      | some (lo, hi) => bif Nat.beq lo hi then (match a_rd E ov a.2.1 lo with
          | some (E', ov', v) => bif Nat.beq (h_ty a.2.1 lo).1 0 || Nat.beq (h_ty a.2.1 lo).1 3 then some [(pc + 1, E', F, ls, v :: r, ov', bu, ph)] else none
          | none => none) else (match t_uni a.2.1 lo (hi - lo) with
          | some (x, y) => some [s_put (pc + 1) (a_mkF E F x y) ls r ov bu ph]
          | none => none)
      | none => none) else none) else (bif Nat.beq t 0 then (match ix_rng E F i (x_tab (a.2.1 - m_X0)).length with
      | some (lo, hi) => match x_uni (x_tab (a.2.1 - m_X0)) lo (hi - lo) with
          | some (x, y) => bif Nat.ble m_X0 a.2.1 then some [s_put (pc + 1) (a_mkF E F x y) ls r ov bu ph] else none
          | none => none
      | none => none) else none)) else none
  | _ => none
theorem st_al_ok (hg : g_ok T fv ρ0 σ0 md B ρ (pc, E, F, ls, st, ov, bu, ph) (σ, ce, sl, pc, lsC, stC)) (hB : B ≤ 1073741824) (hX : ∀ i, i < 2 → X i = some ((x_tab i).map Int32.ofInt)) {t : Nat} (hs : st_al t pc E F ls st ov bu ph = some L)
    (row : ∀ (q : Nat) (i x : Int32) (vs : List Value) (tl : List Value), σ[q]? = some (.inl t, vs) → vp_in i vs.length → vs[i.toNatClampNeg]? = some (.int x) → mW K Z p l e R s m args below meth c QQ dC dI aC A n0 ad0 xa nL (σ, ce, sl, pc + 1, lsC, .int x :: tl) → mW K Z p l e R s m args below meth c QQ dC dI aC A n0 ad0 xa nL (σ, ce, sl, pc, lsC, .int i :: .ref q :: tl))
    (rowX : t = 0 → ∀ (i0 : Nat) (i : Int32) (L : List Int32) (tl : List Value), X i0 = some L → vp_in i L.length → ((i0 < 2 ∧ L = (x_tab i0).map Int32.ofInt) ∨ ∀ g r, Z g r) → mW K Z p l e R s m args below meth c QQ dC dI aC A n0 ad0 xa nL (σ, ce, sl, pc + 1, lsC, .int (L.getD i.toNatClampNeg 0) :: tl) → mW K Z p l e R s m args below meth c QQ dC dI aC A n0 ad0 xa nL (σ, ce, sl, pc, lsC, .int i :: .ref (m_X0 + i0) :: tl)) (k : ∀ S ∈ L, ∀ (B : Int) (ρ : List Int) (g : m_G), g_ok T fv ρ0 σ0 md B ρ S g → mW K Z p l e R s m args below meth c QQ dC dI aC A n0 ad0 xa nL g) : mW K Z p l e R s m args below meth c QQ dC dI aC A n0 ad0 xa nL (σ, ce, sl, pc, lsC, stC) := by
  unfold st_al at hs
  split at hs
  · rename_i i a r
    cases hr : a_isR a
    · rw [hr] at hs; cases hs
    · rw [hr] at hs
      simp only [cond_true] at hs
      cases hN : Nat.blt a.2.1 h_N
      · rw [hN] at hs
        simp only [cond_false] at hs
        cases h0 : Nat.beq t 0
        · rw [h0] at hs; cases hs
        · rw [h0] at hs
          simp only [cond_true] at hs
          have h0 := Nat.eq_of_beq_eq_true h0
          split at hs
          · rename_i lo hi hix
            obtain ⟨v1, t1, e1, hv1, ht1⟩ := s_one hg.s
            obtain ⟨x, rfl, hx⟩ := v_int hv1 (ix_isI hix)
            obtain ⟨tl, e2, ht⟩ := s_ref ht1 hr
            subst e1
            subst e2
            obtain ⟨g1, g2, g3, g4, g5, g6⟩ := ix_rng_ok hg.e hg.f hix hx
            split at hs
            · rename_i u w hu
              cases hb : Nat.ble m_X0 a.2.1
              · rw [hb] at hs; cases hs
              · rw [hb] at hs
                cases hs
                have hb := Nat.le_of_ble_eq_true hb
                obtain ⟨j, hj⟩ := Nat.exists_eq_add_of_le hb
                have hj3 : a.2.1 - m_X0 = j := by omega
                rw [hj3] at g1 g5 hu
                rw [hj]
                have hj2 : j < 2 := by
                  refine Nat.lt_of_not_le (fun z => ?_)
                  have := x_tab2 z
                  rw [this] at g5
                  exact absurd g5 (by simp)
                obtain ⟨y, y1, y2, y3⟩ := x_uni_ok hu x.toInt.toNat g3 (by omega)
                have hrng := x_tab3 hj2
                have hyr := hrng y (List.mem_of_getElem? y1)
                have hval : (((x_tab j).map Int32.ofInt).getD x.toNatClampNeg 0).toInt = y := by
                  rw [g2, List.getD_eq_getElem?_getD, List.getElem?_map, y1]
                  show (Int32.ofInt y).toInt = y
                  rw [Int32.toInt_ofInt]
                  exact i32_bm hyr.1 hyr.2
                obtain ⟨ρ', g'⟩ := g_put (pc' := pc + 1) hg (r_mk hg.e hg.f (lo := u) (hi := w) (((x_tab j).map Int32.ofInt).getD x.toNatClampNeg 0) (fun _ _ => by rw [hval]; exact ⟨y2, y3⟩)) ht (sv_tl (sv_tl hg.sv))
                exact rowX h0 j x _ tl (hX j hj2) (by simpa using g1) (Or.inl ⟨hj2, rfl⟩) (k _ List.mem_cons_self _ _ _ g')
            · cases hs
          · cases hs
      · rw [hN] at hs
        simp only [cond_true] at hs
        have hN : a.2.1 < h_N := Nat.le_of_ble_eq_true hN
        cases hk : decide (h_kd a.2.1 = .inl t)
        · rw [hk] at hs; cases hs
        · rw [hk] at hs
          simp only [cond_true] at hs
          have hk : h_kd a.2.1 = .inl t := of_decide_eq_true hk
          split at hs
          · rename_i lo hi hix
            obtain ⟨v1, t1, e1, hv1, ht1⟩ := s_one hg.s
            obtain ⟨x, rfl, hx⟩ := v_int hv1 (ix_isI hix)
            obtain ⟨tl, e2, ht⟩ := s_ref ht1 hr
            subst e1
            subst e2
            obtain ⟨g1, g2, g3, g4, g5, g6⟩ := ix_rng_ok hg.e hg.f hix hx
            obtain ⟨vs, h1, h2, h3⟩ := h_cell hg.h hN
            obtain ⟨v, h4, h5, h6⟩ := h3 x.toInt.toNat (by omega)
            have hσ : σ[a.2.1]? = some (.inl t, vs) := by rw [h1, hk]
            cases hlh : Nat.beq lo hi
            · rw [hlh] at hs
              simp only [cond_false] at hs
              split at hs
              · rename_i u w hu
                cases hs
                obtain ⟨y, rfl, y1, y2⟩ := t_uni_ok hu x.toInt.toNat v g3 (by omega) h5
                obtain ⟨ρ', g'⟩ := g_put (pc' := pc + 1) hg (r_mk hg.e hg.f (lo := u) (hi := w) y (fun _ _ => ⟨y1, y2⟩)) ht (sv_tl (sv_tl hg.sv))
                exact row _ x y vs tl hσ (by rw [h2]; exact g1) (by rw [g2]; exact h4) (k _ List.mem_cons_self _ _ _ g')
              · cases hs
            · rw [hlh] at hs
              simp only [cond_true] at hs
              have hlh := Nat.eq_of_beq_eq_true hlh
              have hlo : x.toInt.toNat = lo := by omega
              rw [hlo] at h4 h5
              split at hs
              · rename_i E' ov' b hrd
                cases hty : Nat.beq (h_ty a.2.1 lo).1 0 || Nat.beq (h_ty a.2.1 lo).1 3
                · rw [hty] at hs; cases hs
                · rw [hty] at hs
                  cases hs
                  have hint : ∃ y : Int32, v = .int y := by
                    unfold t_ok at h5
                    rcases Bool.or_eq_true _ _ |>.mp hty with z | z <;> (have z := Nat.eq_of_beq_eq_true z; rw [z] at h5; obtain ⟨y, h7, _⟩ := h5; exact ⟨y, h7⟩)
                  obtain ⟨y, rfl⟩ := hint
                  obtain ⟨ρ', g'⟩ := g_read (pc' := pc + 1) hg hB hrd h5 trivial (by rw [c_at_eq h1]; exact h4) ht (sv_tl (sv_tl hg.sv))
                  exact row _ x y vs tl hσ (by rw [h2]; exact g1) (by rw [g2, hlo]; exact h4) (k _ List.mem_cons_self _ _ _ g')
              · cases hs
          · cases hs
  · cases hs
end CE
end
section
/-! ROWS of objects and longs; writes into rows -/
theorem nar_z (x : Int32) : (0 ≤ (x &&& 1).toInt ∧ (x &&& 1).toInt ≤ 1) ∧ (0 ≤ x.toInt → x.toInt ≤ 1 → (x &&& 1).toInt = x.toInt) := by
  have h1 : (1 : Int32).toInt = 1 := rfl
  have := i32_and_r (x := x) (y := 1) (by rw [h1]; decide)
  rw [h1] at this
  refine ⟨this, fun g1 g2 => ?_⟩
  rcases bool01 g1 g2 with rfl | rfl <;> rfl
theorem nar_c2 (x : Int32) : (0 ≤ (x.toUInt32.toUInt16.toUInt32.toInt32).toInt ∧ (x.toUInt32.toUInt16.toUInt32.toInt32).toInt ≤ 65535) ∧ (0 ≤ x.toInt → x.toInt ≤ 65535 → (x.toUInt32.toUInt16.toUInt32.toInt32).toInt = x.toInt) := by
  have hv : (x.toUInt32.toUInt16.toUInt32.toInt32).toBitVec.toNat = x.toBitVec.toNat % 65536 := by
    show (x.toUInt32.toUInt16.toUInt32).toNat = _
    rw [UInt16.toNat_toUInt32, UInt32.toNat_toUInt16]; rfl
  have hl : x.toBitVec.toNat % 65536 < 65536 := Nat.mod_lt _ (by decide)
  rw [i32_ofNat (by omega)]
  refine ⟨⟨by omega, by omega⟩, fun g1 g2 => ?_⟩
  obtain ⟨h1, h2⟩ := i32_nat g1
  rw [hv, h1, Nat.mod_eq_of_lt (by omega)]
/-- what a row of this kind keeps of a number -/
noncomputable def a_kp (t : Nat) (E : A_E) (F : A_F) (a : A_V) : A_R := match t with
  | 1 => a_nar (-128) 127 E F a
  | 2 => a_nar 0 65535 E F a
  | 3 => a_nar 0 1 E F a
  | _ => (E, F, a)
def j_kp (t : Nat) (x : Int32) : Int32 := match t with
  | 1 => vp_nar .byte x
  | 2 => vp_nar .char x
  | 3 => vp_nar .boolean x
  | _ => x
theorem a_kp_ok {B : Int} {E : A_E} {F : A_F} {ρ : List Int} (e : e_ok B E ρ) (f : f_ok F ρ) {t : Nat} {a : A_V} {x : Int32} (ia : a_isI a = true) (ha : a_ev ρ a = some x.toInt) : r_ok B ρ (a_kp t E F a) (j_kp t x) := by
  unfold a_kp j_kp
  split
  · rw [vp_nar_byte]; exact a_nar_ok e f ia ha (nar_b x).1 (nar_b x).2
  · rw [vp_nar_char]; exact a_nar_ok e f ia ha (nar_c2 x).1 (nar_c2 x).2
  · have : vp_nar .boolean x = x &&& 1 := rfl
    rw [this]; exact a_nar_ok e f ia ha (nar_z x).1 (nar_z x).2
  · exact r_same e f ia ha rfl
section RW
variable {p : Program} {l : Launch} {e : Env} {R : Room} {s : State} {m : MethodId} {args : Array Value} {below : List Frame} {meth : Method} {c : Code} {QQ : z_Q → State → Prop} {dC : Nat → ClassId} {dI : Nat → Nat → Nat} {aC : Nat → ClassId} {A : Nat → Prop} {n0 : Nat} {ad0 xa : Nat → Nat} {nL : Nat} {cc : ByteArray} {own : String} {X : Nat → Option (List Int32)} {Y : (Nat → Prop) → State → Heap → Prop}
variable {K : List (List a_K)} {Z : z_G → z_Q → Prop} {aux : List Nat}
variable {T fv B : Int} {ρ0 ρ : List Int} {σ0 σ : m_H} {md : A_D} {ce sl pc : Nat} {lsC : List (Nat × Value)} {stC : List Value} {E : A_E} {F : A_F} {ls : List (Nat × A_V)} {st : List A_V} {ov : A_O} {bu ph : A_L} {L : List A_S}
noncomputable def w_at (q lo hi pc : Nat) (md : A_D) (a : A_V) (E : A_E) (F : A_F) (ls : List (Nat × A_V)) (r : List A_V) (ov : A_O) (bu ph : A_L) : Option (List A_S) :=
  bif Nat.beq lo hi then (match t_fit (h_ty q lo) E F a with
    | some c => bif (i_le c (l_lo E bu) || i_eq c 0) && d_has md q lo lo then some [(pc, E, F, ls, r, ((q, lo), a) :: o_cut q lo lo ov, l_take bu c, ph)] else none
    | none => none)
  else bif t_all q lo E F a (hi - lo) && d_has md q lo hi then some [(pc, E, F, ls, r, o_cut q lo hi ov, bu, ph)] else none
theorem w_at_ok (hg : g_ok T fv ρ0 σ0 md B ρ (pc, E, F, ls, st, ov, bu, ph) (σ, ce, sl, pc, lsC, stC)) (hB0 : 0 ≤ B) {q lo hi j pc' : Nat} {E' : A_E} {F' : A_F} {ρ' : List Int} {vs : List Value} {a : A_V} {v : Value} {sa : List A_V} {sc : List Value} (hx : r_ext ρ ρ') (he : e_ok B E' ρ') (hf : f_ok F' ρ') (hσ : σ[q]? = some (h_kd q, vs)) (hk : j < vs.length) (h1 : lo ≤ j) (h2 : j ≤ hi) (hv : v_ok ρ' a v) (hm : m_vOk h_N v) (hs : s_ok ρ sa sc) (hsv : ∀ u ∈ sc, m_vOk h_N u)
    (hw : w_at q lo hi pc' md a E' F' ls sa ov bu ph = some L) (k : ∀ S ∈ L, ∀ (B : Int) (ρ : List Int) (g : m_G), g_ok T fv ρ0 σ0 md B ρ S g → mW K Z p l e R s m args below meth c QQ dC dI aC A n0 ad0 xa nL g) : mW K Z p l e R s m args below meth c QQ dC dI aC A n0 ad0 xa nL (σ.set q (h_kd q, vs.set j v), ce, sl, pc', lsC, sc) := by
  unfold w_at at hw
  cases hlh : Nat.beq lo hi
  · rw [hlh] at hw
    simp only [cond_false] at hw
    cases hc : t_all q lo E' F' a (hi - lo) && d_has md q lo hi
    · rw [hc] at hw; cases hw
    · rw [hc] at hw
      cases hw
      obtain ⟨c1, c2⟩ := Bool.and_eq_true _ _ |>.mp hc
      have ht := t_all_ok hB0 he hf hv c1 j h1 (by omega)
      refine k _ List.mem_cons_self B ρ' _ ⟨hg.x0.tr hx, he, hf, ?_, l_ev_ext hx hg.ph, h_set hg.h hσ ht hm, hg.ce, hg.sl, rfl, l_ok_ext hx hg.l, hg.lv, s_ok_ext hx _ _ hs, hsv, o_cut_ok (o_ok_ext hx hg.o) hσ h1 h2, h_fr_set hg.fr hσ (d_has_ok c2 h1 h2)⟩
      obtain ⟨z0, z, z1, z2⟩ := hg.bu
      exact ⟨z0, z, l_ev_ext hx z1, z2⟩
  · rw [hlh] at hw
    simp only [cond_true] at hw
    have hlh := Nat.eq_of_beq_eq_true hlh
    have hj : j = lo := by omega
    subst hj
    split at hw
    · rename_i c hft
      cases hc : (i_le c (l_lo E' bu) || i_eq c 0) && d_has md q j j
      · rw [hc] at hw; cases hw
      · rw [hc] at hw
        cases hw
        obtain ⟨c1, c2⟩ := Bool.and_eq_true _ _ |>.mp hc
        exact k _ List.mem_cons_self _ _ _ (g_write hg hB0 hx he hf hσ hk (t_fit_ok hB0 he hf hv hft) hv hm c2 c1 hs hsv)
    · cases hw
noncomputable def st_as (t pc : Nat) (md : A_D) (E : A_E) (F : A_F) (ls : List (Nat × A_V)) (st : List A_V) (ov : A_O) (bu ph : A_L) : Option (List A_S) := match st with
  | b :: i :: a :: r => bif a_isR a && (a_isI b && (Nat.blt a.2.1 h_N && decide (h_kd a.2.1 = .inl t))) then (match ix_rng E F i (h_ln a.2.1) with
      | some (lo, hi) => match a_kp t E F b with
        | (E', F', b') => w_at a.2.1 lo hi (pc + 1) md b' E' F' ls r ov bu ph
      | none => none) else none
  | _ => none
theorem st_as_ok (hg : g_ok T fv ρ0 σ0 md B ρ (pc, E, F, ls, st, ov, bu, ph) (σ, ce, sl, pc, lsC, stC)) (hB0 : 0 ≤ B) {t : Nat} (hs : st_as t pc md E F ls st ov bu ph = some L)
    (row : ∀ (q : Nat) (i x : Int32) (vs : List Value) (tl : List Value), σ[q]? = some (.inl t, vs) → vp_in i vs.length → mW K Z p l e R s m args below meth c QQ dC dI aC A n0 ad0 xa nL (σ.set q (.inl t, vs.set i.toNatClampNeg (.int (j_kp t x))), ce, sl, pc + 1, lsC, tl) → mW K Z p l e R s m args below meth c QQ dC dI aC A n0 ad0 xa nL (σ, ce, sl, pc, lsC, .int x :: .int i :: .ref q :: tl)) (k : ∀ S ∈ L, ∀ (B : Int) (ρ : List Int) (g : m_G), g_ok T fv ρ0 σ0 md B ρ S g → mW K Z p l e R s m args below meth c QQ dC dI aC A n0 ad0 xa nL g) : mW K Z p l e R s m args below meth c QQ dC dI aC A n0 ad0 xa nL (σ, ce, sl, pc, lsC, stC) := by
  unfold st_as at hs
  split at hs
  · rename_i b i a r
    cases hc : a_isR a && (a_isI b && (Nat.blt a.2.1 h_N && decide (h_kd a.2.1 = .inl t)))
    · rw [hc] at hs; cases hs
    · rw [hc] at hs
      simp only [cond_true] at hs
      obtain ⟨c1, c2⟩ := Bool.and_eq_true _ _ |>.mp hc
      obtain ⟨c2, c3⟩ := Bool.and_eq_true _ _ |>.mp c2
      obtain ⟨c3, c4⟩ := Bool.and_eq_true _ _ |>.mp c3
      have c3 : a.2.1 < h_N := Nat.le_of_ble_eq_true c3
      have c4 : h_kd a.2.1 = .inl t := of_decide_eq_true c4
      split at hs
      · rename_i lo hi hix
        obtain ⟨y, t0, e0, hy, ht0⟩ := s_int hg.s c2
        obtain ⟨v1, t1, e1, hv1, ht1⟩ := s_one ht0
        obtain ⟨x, rfl, hx⟩ := v_int hv1 (ix_isI hix)
        obtain ⟨tl, e2, ht⟩ := s_ref ht1 c1
        subst e0
        subst e1
        subst e2
        obtain ⟨g1, g2, g3, g4, g5, g6⟩ := ix_rng_ok hg.e hg.f hix hx
        obtain ⟨vs, h1, h2, h3⟩ := h_cell hg.h c3
        obtain ⟨ρ', r1, r2, r3, r4, r5⟩ := a_kp_ok (t := t) hg.e hg.f c2 hy
        have kk := w_at_ok (v := .int (j_kp t y)) hg hB0 r1 r2 r3 h1 (j := x.toInt.toNat) (by omega) g3 g4 (v_of_int r5 r4) trivial ht (sv_tl (sv_tl (sv_tl hg.sv))) hs k
        rw [c4] at kk
        exact row _ x y vs tl (by rw [h1, c4]) (by rw [h2]; exact g1) (by rw [g2]; exact kk)
      · cases hs
  · cases hs
noncomputable def st_sl (pc : Nat) (md : A_D) (E : A_E) (F : A_F) (ls : List (Nat × A_V)) (st : List A_V) (ov : A_O) (bu ph : A_L) : Option (List A_S) := match st with
  | b :: i :: a :: r => bif a_isR a && (a_isL b && (Nat.blt a.2.1 h_N && decide (h_kd a.2.1 = .inl 4))) then (match ix_rng E F i (h_ln a.2.1) with
      | some (lo, hi) => w_at a.2.1 lo hi (pc + 1) md b E F ls r ov bu ph
      | none => none) else none
  | _ => none
theorem st_sl_ok (hC : m_Ctx p s m args meth c cc nL own dC dI aC A xa X Y) (hg : g_ok T fv ρ0 σ0 md B ρ (pc, E, F, ls, st, ov, bu, ph) (σ, ce, sl, pc, lsC, stC)) (hB0 : 0 ≤ B) (hd : z_dx K cc pc (.lastore) 1 aux) (hs : st_sl pc md E F ls st ov bu ph = some L) (k : ∀ S ∈ L, ∀ (B : Int) (ρ : List Int) (g : m_G), g_ok T fv ρ0 σ0 md B ρ S g → mW K Z p l e R s m args below meth c QQ dC dI aC A n0 ad0 xa nL g) : mW K Z p l e R s m args below meth c QQ dC dI aC A n0 ad0 xa nL (σ, ce, sl, pc, lsC, stC) := by
  unfold st_sl at hs
  split at hs
  · rename_i b i a r
    cases hc : a_isR a && (a_isL b && (Nat.blt a.2.1 h_N && decide (h_kd a.2.1 = .inl 4)))
    · rw [hc] at hs; cases hs
    · rw [hc] at hs
      simp only [cond_true] at hs
      obtain ⟨c1, c2⟩ := Bool.and_eq_true _ _ |>.mp hc
      obtain ⟨c2, c3⟩ := Bool.and_eq_true _ _ |>.mp c2
      obtain ⟨c3, c4⟩ := Bool.and_eq_true _ _ |>.mp c3
      have c3 : a.2.1 < h_N := Nat.le_of_ble_eq_true c3
      have c4 : h_kd a.2.1 = .inl 4 := of_decide_eq_true c4
      split at hs
      · rename_i lo hi hix
        obtain ⟨y, t0, e0, hy, ht0⟩ := s_long hg.s c2
        obtain ⟨v1, t1, e1, hv1, ht1⟩ := s_one ht0
        obtain ⟨x, rfl, hx⟩ := v_int hv1 (ix_isI hix)
        obtain ⟨tl, e2, ht⟩ := s_ref ht1 c1
        subst e0
        subst e1
        subst e2
        obtain ⟨g1, g2, g3, g4, g5, g6⟩ := ix_rng_ok hg.e hg.f hix hx
        obtain ⟨vs, h1, h2, h3⟩ := h_cell hg.h c3
        have kk := w_at_ok (v := .long y) hg hB0 r_ext.rf hg.e hg.f h1 (j := x.toInt.toNat) (by omega) g3 g4 (v_of_long c2 hy) trivial ht (sv_tl (sv_tl (sv_tl hg.sv))) hs k
        rw [c4] at kk
        exact mW_lastore hC hd (by rw [h1, c4]) (by rw [h2]; exact g1) (by rw [g2]; exact kk)
      · cases hs
  · cases hs
noncomputable def st_ll (pc : Nat) (E : A_E) (F : A_F) (ls : List (Nat × A_V)) (st : List A_V) (ov : A_O) (bu ph : A_L) : Option (List A_S) := match st with
  | i :: a :: r => bif a_isR a && (Nat.blt a.2.1 h_N && (decide (h_kd a.2.1 = .inl 4) && decide ((h_at a.2.1).2.2 = [(2, 0, 0)]))) then (match ix_rng E F i (h_ln a.2.1) with
      | some (lo, hi) => bif Nat.beq lo hi then (match a_rd E ov a.2.1 lo with
          | some (E', ov', v) => some [(pc + 1, E', F, ls, v :: r, ov', bu, ph)]
          | none => none) else (match a_mkL E l_m l_M with | (E', v) => some [(pc + 1, E', F, ls, v :: r, ov, bu, ph)])
      | none => none) else none
  | _ => none
theorem st_ll_ok (hC : m_Ctx p s m args meth c cc nL own dC dI aC A xa X Y) (hg : g_ok T fv ρ0 σ0 md B ρ (pc, E, F, ls, st, ov, bu, ph) (σ, ce, sl, pc, lsC, stC)) (hB : B ≤ 1073741824) (hd : z_dx K cc pc (.laload) 1 aux) (hs : st_ll pc E F ls st ov bu ph = some L) (k : ∀ S ∈ L, ∀ (B : Int) (ρ : List Int) (g : m_G), g_ok T fv ρ0 σ0 md B ρ S g → mW K Z p l e R s m args below meth c QQ dC dI aC A n0 ad0 xa nL g) : mW K Z p l e R s m args below meth c QQ dC dI aC A n0 ad0 xa nL (σ, ce, sl, pc, lsC, stC) := by
  unfold st_ll at hs
  split at hs
  · rename_i i a r
    cases hc : a_isR a && (Nat.blt a.2.1 h_N && (decide (h_kd a.2.1 = .inl 4) && decide ((h_at a.2.1).2.2 = [(2, 0, 0)])))
    · rw [hc] at hs; cases hs
    · rw [hc] at hs
      simp only [cond_true] at hs
      obtain ⟨c1, c2⟩ := Bool.and_eq_true _ _ |>.mp hc
      obtain ⟨c2, c3⟩ := Bool.and_eq_true _ _ |>.mp c2
      obtain ⟨c3, c4⟩ := Bool.and_eq_true _ _ |>.mp c3
      have c2 : a.2.1 < h_N := Nat.le_of_ble_eq_true c2
      have c3 : h_kd a.2.1 = .inl 4 := of_decide_eq_true c3
      have c4 : (h_at a.2.1).2.2 = [(2, 0, 0)] := of_decide_eq_true c4
      have hty : ∀ j, h_ty a.2.1 j = (2, 0, 0) := fun j => by
        unfold h_ty t_at
        rw [c4]
        simp [Nat.mod_one]
      split at hs
      · rename_i lo hi hix
        obtain ⟨v1, t1, e1, hv1, ht1⟩ := s_one hg.s
        obtain ⟨x, rfl, hx⟩ := v_int hv1 (ix_isI hix)
        obtain ⟨tl, e2, ht⟩ := s_ref ht1 c1
        subst e1
        subst e2
        obtain ⟨g1, g2, g3, g4, g5, g6⟩ := ix_rng_ok hg.e hg.f hix hx
        obtain ⟨vs, h1, h2, h3⟩ := h_cell hg.h c2
        obtain ⟨v, h4, h5, h6⟩ := h3 x.toInt.toNat (by omega)
        have hlg : ∃ y : Int64, v = .long y := by
          have h5 := h5
          rw [hty] at h5; exact h5
        obtain ⟨y, rfl⟩ := hlg
        have fin : mW K Z p l e R s m args below meth c QQ dC dI aC A n0 ad0 xa nL (σ, ce, sl, pc + 1, lsC, .long y :: tl) → mW K Z p l e R s m args below meth c QQ dC dI aC A n0 ad0 xa nL (σ, ce, sl, pc, lsC, .int x :: .ref a.2.1 :: tl) := fun z => mW_laload hC hd (by rw [h1, c3]) (by rw [h2]; exact g1) (by rw [g2]; exact h4) z
        cases hlh : Nat.beq lo hi
        · rw [hlh] at hs
          cases hs
          obtain ⟨ρ', g1, g2, g3, g4⟩ := a_mkL_ok hg.e y (i64_rng _)
          exact fin (k _ List.mem_cons_self B ρ' _ (g_putL hg g1 g2 g3 g4 ht (sv_tl (sv_tl hg.sv))))
        · rw [hlh] at hs
          simp only [cond_true] at hs
          have hlh := Nat.eq_of_beq_eq_true hlh
          have hlo : x.toInt.toNat = lo := by omega
          rw [hlo] at h4 h5
          split at hs
          · rename_i E' ov' b hrd
            cases hs
            obtain ⟨ρ', g'⟩ := g_read (pc' := pc + 1) hg hB hrd h5 trivial (by rw [c_at_eq h1]; exact h4) ht (sv_tl (sv_tl hg.sv))
            exact fin (k _ List.mem_cons_self _ _ _ g')
          · cases hs
      · cases hs
  · cases hs
/-- objects out of a row: one state for each -/
noncomputable def st_aa (pc : Nat) (E : A_E) (F : A_F) (ls : List (Nat × A_V)) (st : List A_V) (ov : A_O) (bu ph : A_L) : Option (List A_S) := match st with
  | i :: a :: r => bif a_isR a && (Nat.blt a.2.1 h_N && decide (h_kd a.2.1 = .inl 5)) then (match ix_rng E F i (h_ln a.2.1) with
      | some (lo, hi) => o_all ((List.range (hi - lo + 1)).map fun (j : Nat) => match h_ty a.2.1 (lo + j) with
          | (1, q, _) => some (c_to (pc + 1) ls ((2, q.toNat, 0) :: r) ov bu ph (c_eq E F i (0, 0, ((lo + j : Nat) : Int))))
          | _ => none)
      | none => none) else none
  | _ => none
theorem st_aa_ok (hC : m_Ctx p s m args meth c cc nL own dC dI aC A xa X Y) (hg : g_ok T fv ρ0 σ0 md B ρ (pc, E, F, ls, st, ov, bu, ph) (σ, ce, sl, pc, lsC, stC)) (hd : z_dx K cc pc (.aaload) 1 aux) (hs : st_aa pc E F ls st ov bu ph = some L) (k : ∀ S ∈ L, ∀ (B : Int) (ρ : List Int) (g : m_G), g_ok T fv ρ0 σ0 md B ρ S g → mW K Z p l e R s m args below meth c QQ dC dI aC A n0 ad0 xa nL g) : mW K Z p l e R s m args below meth c QQ dC dI aC A n0 ad0 xa nL (σ, ce, sl, pc, lsC, stC) := by
  unfold st_aa at hs
  split at hs
  · rename_i i a r
    cases hc : a_isR a && (Nat.blt a.2.1 h_N && decide (h_kd a.2.1 = .inl 5))
    · rw [hc] at hs; cases hs
    · rw [hc] at hs
      simp only [cond_true] at hs
      obtain ⟨c1, c2⟩ := Bool.and_eq_true _ _ |>.mp hc
      obtain ⟨c2, c3⟩ := Bool.and_eq_true _ _ |>.mp c2
      have c2 : a.2.1 < h_N := Nat.le_of_ble_eq_true c2
      have c3 : h_kd a.2.1 = .inl 5 := of_decide_eq_true c3
      split at hs
      · rename_i lo hi hix
        obtain ⟨v1, t1, e1, hv1, ht1⟩ := s_one hg.s
        obtain ⟨x, rfl, hx⟩ := v_int hv1 (ix_isI hix)
        obtain ⟨tl, e2, ht⟩ := s_ref ht1 c1
        subst e1
        subst e2
        obtain ⟨g1, g2, g3, g4, g5, g6⟩ := ix_rng_ok hg.e hg.f hix hx
        obtain ⟨vs, h1, h2, h3⟩ := h_cell hg.h c2
        obtain ⟨v, h4, h5, h6⟩ := h3 x.toInt.toNat (by omega)
        obtain ⟨o, o1, o2⟩ := o_all_ok hs _ (List.mem_map.mpr ⟨x.toInt.toNat - lo, List.mem_range.mpr (by omega), rfl⟩)
        have hj : lo + (x.toInt.toNat - lo) = x.toInt.toNat := by omega
        rw [hj] at o1
        split at o1
        · rename_i q w hty
          cases o1
          rw [hty] at h5
          have h5 : v = .ref q.toNat := h5
          subst h5
          have hcq := c_eq_ok hg.e hg.f (a := i) (b := (0, 0, ((x.toInt.toNat : Nat) : Int))) hx rfl (show x.toInt = ((x.toInt.toNat : Nat) : Int) by omega)
          exact mW_aaload hC hd (by rw [h1, c3]) (by rw [h2]; exact g1) (by rw [g2]; exact h4) (st_to_ok hg hcq (sa := (2, q.toNat, 0) :: r) ⟨rfl, ht⟩ (sv_cons h6 (sv_tl (sv_tl hg.sv))) o2 k)
        · cases o1
      · cases hs
  · cases hs
noncomputable def st_len (pc : Nat) (E : A_E) (F : A_F) (ls : List (Nat × A_V)) (st : List A_V) (ov : A_O) (bu ph : A_L) : Option (List A_S) := match st with
  | a :: r => bif a_isR a then (bif Nat.blt a.2.1 h_N then (match h_kd a.2.1 with
      | .inl t => bif Nat.ble t 5 then some [(pc + 1, E, F, ls, (0, 0, (Int32.ofNat (h_ln a.2.1)).toInt) :: r, ov, bu, ph)] else none
      | .inr _ => none) else bif Nat.ble m_X0 a.2.1 && Nat.blt (a.2.1 - m_X0) 2 then some [(pc + 1, E, F, ls, (0, 0, (Int32.ofNat (x_tab (a.2.1 - m_X0)).length).toInt) :: r, ov, bu, ph)] else none) else none
  | _ => none
theorem st_len_ok (hC : m_Ctx p s m args meth c cc nL own dC dI aC A xa X Y) (hg : g_ok T fv ρ0 σ0 md B ρ (pc, E, F, ls, st, ov, bu, ph) (σ, ce, sl, pc, lsC, stC)) (hX : ∀ i, i < 2 → X i = some ((x_tab i).map Int32.ofInt)) (hd : z_dx K cc pc (.arraylength) 1 aux) (hs : st_len pc E F ls st ov bu ph = some L) (k : ∀ S ∈ L, ∀ (B : Int) (ρ : List Int) (g : m_G), g_ok T fv ρ0 σ0 md B ρ S g → mW K Z p l e R s m args below meth c QQ dC dI aC A n0 ad0 xa nL g) : mW K Z p l e R s m args below meth c QQ dC dI aC A n0 ad0 xa nL (σ, ce, sl, pc, lsC, stC) := by
  unfold st_len at hs
  split at hs
  · rename_i a r
    cases hr : a_isR a
    · rw [hr] at hs; cases hs
    · rw [hr] at hs
      simp only [cond_true] at hs
      obtain ⟨tl, e2, ht⟩ := s_ref hg.s hr
      subst e2
      cases hN : Nat.blt a.2.1 h_N
      · rw [hN] at hs
        simp only [cond_false] at hs
        cases hb : Nat.ble m_X0 a.2.1 && Nat.blt (a.2.1 - m_X0) 2
        · rw [hb] at hs; cases hs
        · rw [hb] at hs
          cases hs
          obtain ⟨b1, b2⟩ := Bool.and_eq_true _ _ |>.mp hb
          have b1 := Nat.le_of_ble_eq_true b1
          have b2 : a.2.1 - m_X0 < 2 := Nat.le_of_ble_eq_true b2
          obtain ⟨j, hj⟩ := Nat.exists_eq_add_of_le b1
          have hj3 : a.2.1 - m_X0 = j := by omega
          rw [hj3] at b2 k
          rw [hj]
          refine mW_xalen hC hd (hX j b2) (Or.inl ⟨b2, rfl⟩) (k _ List.mem_cons_self B ρ _ (hg.to r_ext.rf hg.e hg.f hg.l hg.lv ⟨⟨_, rfl, ?_⟩, ht⟩ (sv_cons trivial (sv_tl hg.sv)) hg.o))
          rw [List.length_map]
      · rw [hN] at hs
        simp only [cond_true] at hs
        have hN : a.2.1 < h_N := Nat.le_of_ble_eq_true hN
        split at hs
        · rename_i t hk
          cases h5 : Nat.ble t 5
          · rw [h5] at hs; cases hs
          · rw [h5] at hs
            cases hs
            obtain ⟨vs, h1, h2, h3⟩ := h_cell hg.h hN
            refine mW_alen hC hd (t := t) (vs := vs) (by rw [h1, hk]) (Nat.le_of_ble_eq_true h5) (k _ List.mem_cons_self B ρ _ (hg.to r_ext.rf hg.e hg.f hg.l hg.lv ⟨⟨_, rfl, ?_⟩, ht⟩ (sv_cons trivial (sv_tl hg.sv)) hg.o))
            rw [h2]
        · cases hs
  · cases hs
end RW
end
