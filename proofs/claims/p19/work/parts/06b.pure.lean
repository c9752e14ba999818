/-! THE SAME IN PLAIN NUMBERS: memory by place and cell, frames of tagged numbers (0 an int, 1 a long, 2 a place) -/
abbrev z_V : Type := Nat × Int
abbrev z_M : Type := Nat → Nat → Int
abbrev z_L : Type := List z_V
abbrev z_G : Type := z_M × Nat × z_L × List z_V
abbrev z_Q : Type := z_M × Option z_V
def x_tab (i : Nat) : List Int := match i with
  | 0 => [1, 5, 25]
  | 1 => [-3, -1, 0, 1, 3]
  | _ => []
def z_vt : Value → Nat
  | .int _ => 0
  | .long _ => 1
  | .ref _ => 2
  | .null => 2
  | .double _ => 1
  | _ => 9
def z_vn : Value → Int
  | .int x => x.toInt
  | .long x => x.toInt
  | .ref k => (k : Int)
  | _ => -1
def z_v (v : Value) : z_V := (z_vt v, z_vn v)
/-- the frame: place by place -/
def z_lr (nL : Nat) (zl : z_L) (ls : List (Nat × Value)) : Prop := nL ≤ zl.length ∧ ∀ q ∈ ls, zl[q.1]? = some (z_v q.2)
def z_s (st : List Value) : List z_V := st.map z_v
def z_m (σ : m_H) : z_M := fun p k => match c_at σ p k with
  | some v => z_vn v
  | none => 0
def z_g (zl : z_L) (g : m_G) : z_G := (z_m g.1, g.2.2.2.1, zl, z_s g.2.2.2.2.2)
def z_ft : FieldType → Nat
  | .long => 1
  | .object _ => 2
  | .array _ => 2
  | .float => 9
  | .double => 1
  | _ => 0
def z_tt (p k : Nat) : Nat := match h_kd p with
  | .inl t => if t = 4 then 1 else if t = 5 then 2 else 0
  | .inr ci => z_ft (a_ty ci k)
def z_ok (σ : m_H) : Prop := σ.length = h_N ∧ ∀ p, p < h_N → ∃ vs, σ[p]? = some (h_kd p, vs) ∧ vs.length = h_ln p ∧ ∀ (k : Nat) (v : Value), vs[k]? = some v → z_vt v = z_tt p k ∧ ((h_ty p k).1 = 1 → v = .ref (h_ty p k).2.1.toNat)
/-! what the instructions compute -/
def z_add (x y : Int) : Int := (Int32.ofInt x + Int32.ofInt y).toInt
def z_sub (x y : Int) : Int := (Int32.ofInt x - Int32.ofInt y).toInt
def z_mul (x y : Int) : Int := (Int32.ofInt x * Int32.ofInt y).toInt
def z_and (x y : Int) : Int := (Int32.ofInt x &&& Int32.ofInt y).toInt
def z_or (x y : Int) : Int := (Int32.ofInt x ||| Int32.ofInt y).toInt
def z_xor (x y : Int) : Int := (Int32.ofInt x ^^^ Int32.ofInt y).toInt
def z_shl (x y : Int) : Int := (Int32.ofInt x <<< (Int32.ofInt y &&& 31)).toInt
def z_shr (x y : Int) : Int := (Int32.ofInt x >>> (Int32.ofInt y &&& 31)).toInt
def z_ush (x y : Int) : Int := (j_ushr (Int32.ofInt x) (Int32.ofInt y)).toInt
def z_div (x y : Int) : Int := (Int32.ofInt x / Int32.ofInt y).toInt
def z_rem (x y : Int) : Int := (Int32.ofInt x - Int32.ofInt x / Int32.ofInt y * Int32.ofInt y).toInt
def z_neg (x : Int) : Int := (-(Int32.ofInt x)).toInt
def z_i2b (x : Int) : Int := (Int32.ofInt x).toInt8.toInt32.toInt
def z_i2s (x : Int) : Int := (Int32.ofInt x).toInt16.toInt32.toInt
def z_i2c (x : Int) : Int := ((Int32.ofInt x).toUInt32 % 65536).toInt32.toInt
def z_i2l (x : Int) : Int := (Int32.ofInt x).toInt64.toInt
def z_l2i (x : Int) : Int := (Int64.ofInt x).toInt32.toInt
def z_ladd (x y : Int) : Int := (Int64.ofInt x + Int64.ofInt y).toInt
def z_lsub (x y : Int) : Int := (Int64.ofInt x - Int64.ofInt y).toInt
def z_lmul (x y : Int) : Int := (Int64.ofInt x * Int64.ofInt y).toInt
def z_land (x y : Int) : Int := (Int64.ofInt x &&& Int64.ofInt y).toInt
def z_lor (x y : Int) : Int := (Int64.ofInt x ||| Int64.ofInt y).toInt
def z_ldiv (x y : Int) : Int := (Int64.ofInt x / Int64.ofInt y).toInt
def z_lrem (x y : Int) : Int := (Int64.ofInt x - Int64.ofInt x / Int64.ofInt y * Int64.ofInt y).toInt
def z_lshl (x y : Int) : Int := (Int64.ofInt x <<< ((Int32.ofInt y).toInt64 &&& 63)).toInt
def z_lush (x y : Int) : Int := ((Int64.ofInt x).toUInt64 >>> ((Int32.ofInt y).toInt64.toUInt64 &&& Int64.toUInt64 63)).toInt64.toInt
def z_lcmp (x y : Int) : Int := (lg_cmp (Int64.ofInt x) (Int64.ofInt y)).toInt
def z_by (x : Int) : Int := (vp_nar .byte (Int32.ofInt x)).toInt
def z_ch (x : Int) : Int := (vp_nar .char (Int32.ofInt x)).toInt
def z_bo (x : Int) : Int := (vp_nar .boolean (Int32.ofInt x)).toInt
/-- where a letter of the rule stands in "wiafynh" -/
def z_idx (x : Int) : Int := if x = 119 then 0 else if x = 105 then 1 else if x = 97 then 2 else if x = 102 then 3 else if x = 121 then 4 else if x = 110 then 5 else if x = 104 then 6 else -1
def z_cn (cn : Jvm.ClassFile.Cond) (x y : Int) : Bool := match cn with
  | .eq => decide (x = y)
  | .ne => !decide (x = y)
  | .lt => decide (x < y)
  | .ge => decide (y ≤ x)
  | .gt => decide (y < x)
  | .le => decide (x ≤ y)
def z_tgt (pc : Nat) (off : Int) : Nat := ((pc : Int) + off).toNat
def z_tbo (d lo hi : Int) (os : List Int) (x : Int) : Int := if lo ≤ x ∧ x ≤ hi then (os[(x - lo).toNat]?).getD d else d
def z_up (m : z_M) (p k : Nat) (v : Int) : z_M := fun p' k' => if p' = p ∧ k' = k then v else m p' k'
def z_cp (m : z_M) (p s q d n : Nat) : z_M := fun p' k' => if p' = q ∧ d ≤ k' ∧ k' < d + n then m p (s + (k' - d)) else m p' k'
def z_ln (q : Nat) : Nat := bif Nat.blt q h_N then h_ln q else (x_tab (q - m_X0)).length
def z_rd (m : z_M) (q k : Nat) : Int := bif Nat.blt q h_N then m q k else (x_tab (q - m_X0)).getD k 0
def z_ix (i : Int) (n : Nat) : Bool := decide (0 ≤ i) && decide (i < (n : Int))
/-- a field read: a place that never changes is known by the table -/
def z_gf (m : z_M) (q ci k : Nat) : z_V := bif Nat.beq (h_ty q k).1 1 then (2, ((h_ty q k).2.1.toNat : Int)) else (z_ft (a_ty ci k), m q k)
def z_ga (m : z_M) (q k : Nat) : z_V := bif Nat.beq (h_ty q k).1 1 then (2, ((h_ty q k).2.1.toNat : Int)) else (2, m q k)
def z_b2 : Jvm.ClassFile.Instr → Option (Int → Int → Int)
  | .iadd => some z_add
  | .isub => some z_sub
  | .imul => some z_mul
  | .iand => some z_and
  | .ior => some z_or
  | .ixor => some z_xor
  | .ishl => some z_shl
  | .ishr => some z_shr
  | .iushr => some z_ush
  | _ => none
def z_p1 (g : z_G) (n : Nat) (v : z_V) : Option z_G := some (g.1, g.2.1 + n, g.2.2.1, v :: g.2.2.2)
/-- one instruction that is no call and no return -/
def z_step (q : a_K) (g : z_G) : Option z_G := match g with
  | (m, pc, ls, st) => match q with
    | (_, i, _, _, aux) => match i with
      | .iconst k => some (m, pc + 1, ls, (0, (Int32.ofInt k).toInt) :: st)
      | .bipush k => some (m, pc + 2, ls, (0, (Int8.ofInt k).toInt32.toInt) :: st)
      | .sipush k => some (m, pc + 3, ls, (0, (Int16.ofInt k).toInt32.toInt) :: st)
      | .lconst k => some (m, pc + 1, ls, (1, (Int64.ofNat (k : Nat)).toInt) :: st)
      | .ldc _ => (match aux with
        | [v] => some (m, pc + 2, ls, (0, (Int32.ofInt ((v : Int) - 2147483648)).toInt) :: st)
        | [_, _] => some (m, pc + 2, ls, (2, 1000002) :: st)
        | _ => none)
      | .ldc_w _ => (match aux with
        | [v] => some (m, pc + 3, ls, (0, (Int32.ofInt ((v : Int) - 2147483648)).toInt) :: st)
        | _ => none)
      | .ldc2_w _ => (match aux with
        | [v] => some (m, pc + 3, ls, (1, (Int64.ofInt ((v : Int) - 9223372036854775808)).toInt) :: st)
        | _ => none)
      | .iload_n j => (match ls[(j : Nat)]? with | some (_, x) => some (m, pc + 1, ls, (0, x) :: st) | none => none)
      | .iload j => (match ls[j]? with | some (_, x) => some (m, pc + 2, ls, (0, x) :: st) | none => none)
      | .lload_n j => (match ls[(j : Nat)]? with | some (_, x) => some (m, pc + 1, ls, (1, x) :: st) | none => none)
      | .lload j => (match ls[j]? with | some (_, x) => some (m, pc + 2, ls, (1, x) :: st) | none => none)
      | .aload_n j => (match ls[(j : Nat)]? with | some (_, x) => some (m, pc + 1, ls, (2, x) :: st) | none => none)
      | .aload j => (match ls[j]? with | some (_, x) => some (m, pc + 2, ls, (2, x) :: st) | none => none)
      | .istore_n j => (match st with | (_, x) :: r => some (m, pc + 1, ls.set (j : Nat) (0, x), r) | _ => none)
      | .istore j => (match st with | (_, x) :: r => some (m, pc + 2, ls.set j (0, x), r) | _ => none)
      | .lstore_n j => (match st with | (_, x) :: r => some (m, pc + 1, ls.set (j : Nat) (1, x), r) | _ => none)
      | .lstore j => (match st with | (_, x) :: r => some (m, pc + 2, ls.set j (1, x), r) | _ => none)
      | .astore_n j => (match st with | (_, x) :: r => some (m, pc + 1, ls.set (j : Nat) (2, x), r) | _ => none)
      | .astore j => (match st with | (_, x) :: r => some (m, pc + 2, ls.set j (2, x), r) | _ => none)
      | .iinc j k => (match ls[j]? with | some (_, x) => some (m, pc + 3, ls.set j (0, z_add x k), st) | none => none)
      | .idiv => (match st with | (_, y) :: (_, x) :: r => if y = 0 then none else some (m, pc + 1, ls, (0, z_div x y) :: r) | _ => none)
      | .irem => (match st with | (_, y) :: (_, x) :: r => if y = 0 then none else some (m, pc + 1, ls, (0, z_rem x y) :: r) | _ => none)
      | .ineg => (match st with | (_, x) :: r => some (m, pc + 1, ls, (0, z_neg x) :: r) | _ => none)
      | .i2b => (match st with | (_, x) :: r => some (m, pc + 1, ls, (0, z_i2b x) :: r) | _ => none)
      | .i2s => (match st with | (_, x) :: r => some (m, pc + 1, ls, (0, z_i2s x) :: r) | _ => none)
      | .i2c => (match st with | (_, x) :: r => some (m, pc + 1, ls, (0, z_i2c x) :: r) | _ => none)
      | .i2l => (match st with | (_, x) :: r => some (m, pc + 1, ls, (1, z_i2l x) :: r) | _ => none)
      | .l2i => (match st with | (_, x) :: r => some (m, pc + 1, ls, (0, z_l2i x) :: r) | _ => none)
      | .ladd => (match st with | (_, y) :: (_, x) :: r => some (m, pc + 1, ls, (1, z_ladd x y) :: r) | _ => none)
      | .lsub => (match st with | (_, y) :: (_, x) :: r => some (m, pc + 1, ls, (1, z_lsub x y) :: r) | _ => none)
      | .lmul => (match st with | (_, y) :: (_, x) :: r => some (m, pc + 1, ls, (1, z_lmul x y) :: r) | _ => none)
      | .land => (match st with | (_, y) :: (_, x) :: r => some (m, pc + 1, ls, (1, z_land x y) :: r) | _ => none)
      | .lor => (match st with | (_, y) :: (_, x) :: r => some (m, pc + 1, ls, (1, z_lor x y) :: r) | _ => none)
      | .ldiv => (match st with | (_, y) :: (_, x) :: r => if y = 0 then none else some (m, pc + 1, ls, (1, z_ldiv x y) :: r) | _ => none)
      | .lrem => (match st with | (_, y) :: (_, x) :: r => if y = 0 then none else some (m, pc + 1, ls, (1, z_lrem x y) :: r) | _ => none)
      | .lshl => (match st with | (_, y) :: (_, x) :: r => some (m, pc + 1, ls, (1, z_lshl x y) :: r) | _ => none)
      | .lushr => (match st with | (_, y) :: (_, x) :: r => some (m, pc + 1, ls, (1, z_lush x y) :: r) | _ => none)
      | .lcmp => (match st with | (_, y) :: (_, x) :: r => some (m, pc + 1, ls, (0, z_lcmp x y) :: r) | _ => none)
      | .dup => (match st with | a :: r => some (m, pc + 1, ls, a :: a :: r) | _ => none)
      | .pop => (match st with | _ :: r => some (m, pc + 1, ls, r) | _ => none)
      | .pop2 => (match st with | _ :: r => some (m, pc + 1, ls, r) | _ => none)
      | .dup_x1 => (match st with | a :: b :: r => some (m, pc + 1, ls, a :: b :: a :: r) | _ => none)
      | .dup2 => (match st with
        | a :: r => bif a.1 == 1 then some (m, pc + 1, ls, a :: a :: r) else (match r with | b :: r => some (m, pc + 1, ls, a :: b :: a :: b :: r) | _ => none)
        | _ => none)
      | .ifCond cn off => (match st with | (_, x) :: r => some (m, bif z_cn cn x 0 then z_tgt pc off else pc + 3, ls, r) | _ => none)
      | .if_icmp cn off => (match st with | (_, y) :: (_, x) :: r => some (m, bif z_cn cn x y then z_tgt pc off else pc + 3, ls, r) | _ => none)
      | .goto off => some (m, z_tgt pc off, ls, st)
      | .lookupswitch d ps => (match st with | (_, x) :: r => some (m, z_tgt pc (Op.lookupswitch.offset ps.toList d x), ls, r) | _ => none)
      | .tableswitch d lo hi os => (match st with | (_, x) :: r => some (m, z_tgt pc (z_tbo d lo hi os.toList x), ls, r) | _ => none)
      | .getfield _ => (match aux with
        | [_, ci, k, _] => (match st with | (_, q) :: r => some (m, pc + 3, ls, z_gf m q.toNat ci k :: r) | _ => none)
        | _ => none)
      | .putfield _ => (match aux with
        | [_, _, k, _] => (match st with | (_, v) :: (_, q) :: r => some (z_up m q.toNat k v, pc + 3, ls, r) | _ => none)
        | _ => none)
      | .getstatic _ => (match aux with
        | [0] => some (m, pc + 3, ls, (2, 1000000) :: st)
        | [1] => some (m, pc + 3, ls, (2, 1000001) :: st)
        | _ => none)
      | .iaload => (match st with | (_, i) :: (_, q) :: r => bif z_ix i (z_ln q.toNat) then some (m, pc + 1, ls, (0, z_rd m q.toNat i.toNat) :: r) else none | _ => none)
      | .baload => (match st with | (_, i) :: (_, q) :: r => bif z_ix i (h_ln q.toNat) then some (m, pc + 1, ls, (0, m q.toNat i.toNat) :: r) else none | _ => none)
      | .caload => (match st with | (_, i) :: (_, q) :: r => bif z_ix i (h_ln q.toNat) then some (m, pc + 1, ls, (0, m q.toNat i.toNat) :: r) else none | _ => none)
      | .laload => (match st with | (_, i) :: (_, q) :: r => bif z_ix i (h_ln q.toNat) then some (m, pc + 1, ls, (1, m q.toNat i.toNat) :: r) else none | _ => none)
      | .aaload => (match st with | (_, i) :: (_, q) :: r => bif z_ix i (h_ln q.toNat) then some (m, pc + 1, ls, z_ga m q.toNat i.toNat :: r) else none | _ => none)
      | .iastore => (match st with | (_, v) :: (_, i) :: (_, q) :: r => bif z_ix i (h_ln q.toNat) then some (z_up m q.toNat i.toNat v, pc + 1, ls, r) else none | _ => none)
      | .castore => (match st with | (_, v) :: (_, i) :: (_, q) :: r => bif z_ix i (h_ln q.toNat) then some (z_up m q.toNat i.toNat (z_ch v), pc + 1, ls, r) else none | _ => none)
      | .lastore => (match st with | (_, v) :: (_, i) :: (_, q) :: r => bif z_ix i (h_ln q.toNat) then some (z_up m q.toNat i.toNat v, pc + 1, ls, r) else none | _ => none)
      | .bastore => (match st with
        | (_, v) :: (_, i) :: (_, q) :: r => bif z_ix i (h_ln q.toNat) then some (z_up m q.toNat i.toNat (match h_kd q.toNat with | .inl 1 => z_by v | _ => z_bo v), pc + 1, ls, r) else none
        | _ => none)
      | .arraylength => (match st with | (_, q) :: r => some (m, pc + 1, ls, (0, (Int32.ofNat (z_ln q.toNat)).toInt) :: r) | _ => none)
      | .invokestatic _ => (match aux with
        | [_, _] => (match st with
          | (_, n) :: (_, d) :: (_, b) :: (_, s) :: (_, a) :: r => bif decide (0 ≤ n) && (decide (0 ≤ d) && (decide (0 ≤ s) && (decide (s + n ≤ (h_ln a.toNat : Int)) && decide (d + n ≤ (h_ln b.toNat : Int))))) then some (z_cp m a.toNat s.toNat b.toNat d.toNat n.toNat, pc + 3, ls, r) else none
          | _ => none)
        | [kd, _, _] => (match kd, st with
          | 0, (_, y) :: (_, x) :: r => some (m, pc + 3, ls, (0, if x < y then y else x) :: r)
          | 1, (_, y) :: (_, x) :: r => some (m, pc + 3, ls, (0, if y < x then y else x) :: r)
          | 2, (_, x) :: r => some (m, pc + 3, ls, (0, if 0 ≤ x then x else z_sub 0 x) :: r)
          | 3, (_, y) :: (_, x) :: r => some (m, pc + 3, ls, (1, if y < x then x else y) :: r)
          | _, _ => none)
        | _ => none)
      | .invokevirtual _ => (match aux with
        | [_, _, _] => (match st with | (_, x) :: _ :: r => some (m, pc + 3, ls, (0, z_idx x) :: r) | _ => none)
        | _ => none)
      | i => (match z_b2 i with
        | some f => (match st with | (_, y) :: (_, x) :: r => some (m, pc + 1, ls, (0, f x y) :: r) | _ => none)
        | none => none)
/-- 0: as above, 1: a return, 2: a call -/
def z_kd (i : Jvm.ClassFile.Instr) (aux : List Nat) : Nat := match i with
  | .ireturn => 1
  | .lreturn => 1
  | .return_ => 1
  | .new _ => 1
  | .invokevirtual _ => (match aux with | [_, _, _, _] => 2 | _ => 0)
  | .invokestatic _ => (match aux with | [_, _, _, _] => 2 | _ => 0)
  | _ => 0
def z_ret (q : a_K) (g : z_G) : Option z_Q := match g with
  | (m, _, _, st) => match q.2.1 with
    | .return_ => some (m, none)
    | .new _ => some (m, some (9, 0))
    | .ireturn => (match st with | (_, x) :: _ => some (m, some (0, x)) | _ => none)
    | .lreturn => (match st with | (_, x) :: _ => some (m, some (1, x)) | _ => none)
    | _ => none
def z_np (y : Nat) : Nat := match a_mw[y]? with
  | some (_, _, _, _, _, _, _, _, np) => np
  | none => 0
/-- a call: the method, its arguments, what stays on the stack -/
def z_call (q : a_K) (st : List z_V) : Option (Nat × List z_V × List z_V) := match q.2.1 with
  | .invokevirtual _ => (match q.2.2.2.2 with
    | [_, y, _, _] => bif Nat.ble (z_np y + 1) st.length then some (y, (st.take (z_np y + 1)).reverse, st.drop (z_np y + 1)) else none
    | _ => none)
  | .invokestatic _ => (match q.2.2.2.2 with
    | [_, y, _, _] => bif Nat.ble (z_np y) st.length then some (y, (st.take (z_np y)).reverse, st.drop (z_np y)) else none
    | _ => none)
  | _ => none
def z_args : List z_V → z_L
  | [] => []
  | v :: l => bif v.1 == 1 then v :: (9, 0) :: z_args l else v :: z_args l
/-- the frame of a method at its start -/
def z_fr (y : Nat) (as : List z_V) : z_L := z_args as ++ List.replicate (z_nl y - (z_args as).length) (9, 0)
/-- a method run to its end -/
noncomputable def z_ex : Nat → Nat → z_G → Option z_Q
  | 0, _, _ => none
  | f + 1, y, g => match k_get (kt_at y) g.2.1 with
    | none => none
    | some q => match z_kd q.2.1 q.2.2.2.2 with
      | 0 => (match z_step q g with
        | some g' => z_ex f y g'
        | none => none)
      | 1 => z_ret q g
      | _ => (match z_call q g.2.2.2 with
        | some (y2, as, rest) => (match z_ex f y2 (g.1, 0, z_fr y2 as, []) with
          | some (m', v) => z_ex f y (m', g.2.1 + 3, g.2.2.1, v.toList ++ rest)
          | none => none)
        | none => none)
noncomputable def z_Ev (y : Nat) (g : z_G) (r : z_Q) : Prop := ∃ f, z_ex f y g = some r
theorem z_ex_mono : ∀ (f y : Nat) (g : z_G) (r : z_Q), z_ex f y g = some r → z_ex (f + 1) y g = some r := by
  intro f
  induction f with
  | zero => intro y g r h; cases h
  | succ f ih =>
    intro y g r h
    unfold z_ex at h ⊢
    cases hq : k_get (kt_at y) g.2.1 with
    | none =>
      rw [hq] at h
      cases h
    | some q =>
      rw [hq] at h
      simp only at h ⊢
      generalize z_kd q.2.1 q.2.2.2.2 = kd at h ⊢
      match kd, h with
      | 0, h =>
        simp only at h ⊢
        cases hs : z_step q g with
        | none =>
          rw [hs] at h
          cases h
        | some g' =>
          rw [hs] at h
          simp only at h ⊢
          exact ih _ _ _ h
      | 1, h => exact h
      | kk + 2, h =>
        simp only at h ⊢
        cases hc : z_call q g.2.2.2 with
        | none =>
          rw [hc] at h
          cases h
        | some t =>
          obtain ⟨y2, as, rest⟩ := t
          rw [hc] at h
          simp only at h ⊢
          cases hv : z_ex f y2 (g.1, 0, z_fr y2 as, []) with
          | none =>
            rw [hv] at h
            cases h
          | some u =>
            obtain ⟨m', v⟩ := u
            rw [hv] at h
            rw [ih _ _ _ hv]
            exact ih _ _ _ h
theorem z_ex_le {f f' y : Nat} {g : z_G} {r : z_Q} (h : z_ex f y g = some r) (hf : f ≤ f') : z_ex f' y g = some r := by
  obtain ⟨d, rfl⟩ := Nat.exists_eq_add_of_le hf
  clear hf
  induction d with
  | zero => exact h
  | succ d ih => exact z_ex_mono _ _ _ _ ih
theorem z_Ev_one {y : Nat} {g : z_G} {r r' : z_Q} (h : z_Ev y g r) (h' : z_Ev y g r') : r = r' := by
  obtain ⟨f, h⟩ := h
  obtain ⟨f', h'⟩ := h'
  have a := z_ex_le h (Nat.le_max_left f f')
  have b := z_ex_le h' (Nat.le_max_right f f')
  exact Option.some.inj (a.symm.trans b)
/-- what is known of a frame's ends, closed under its instructions -/
noncomputable def z_cl (K : List (List a_K)) (Z : z_G → z_Q → Prop) : Prop :=
  (∀ (q : a_K) (g g' : z_G), k_get K g.2.1 = some q → z_kd q.2.1 q.2.2.2.2 = 0 → z_step q g = some g' → ∀ r, Z g' r → Z g r) ∧
  (∀ (q : a_K) (g : z_G) (r : z_Q), k_get K g.2.1 = some q → z_kd q.2.1 q.2.2.2.2 = 1 → z_ret q g = some r → Z g r) ∧
  ∀ (q : a_K) (g : z_G) (y2 : Nat) (as rest : List z_V) (m' : z_M) (v : Option z_V), k_get K g.2.1 = some q → z_kd q.2.1 q.2.2.2.2 = 2 → z_call q g.2.2.2 = some (y2, as, rest) → z_Ev y2 (g.1, 0, z_fr y2 as, []) (m', v) → ∀ r, Z (m', g.2.1 + 3, g.2.2.1, v.toList ++ rest) r → Z g r
theorem z_cl_Ev (y : Nat) : z_cl (kt_at y) (z_Ev y) := by
  refine ⟨fun q g g' h1 h2 h3 r ⟨f, h⟩ => ⟨f + 1, ?_⟩, fun q g r h1 h2 h3 => ⟨1, ?_⟩, fun q g y2 as rest m' v h1 h2 h3 ⟨f1, h4⟩ r ⟨f2, h5⟩ => ⟨max f1 f2 + 1, ?_⟩⟩
  · unfold z_ex; simp only [h1, h2, h3]; exact h
  · unfold z_ex; simp only [h1, h2]; exact h3
  · unfold z_ex
    simp only [h1, h2, h3, z_ex_le h4 (Nat.le_max_left f1 f2)]
    exact z_ex_le h5 (Nat.le_max_right f1 f2)
theorem z_cl_T (K : List (List a_K)) : z_cl K (fun _ _ => True) := ⟨fun _ _ _ _ _ _ _ _ => trivial, fun _ _ _ _ _ _ => trivial, fun _ _ _ _ _ _ _ _ _ _ _ _ _ => trivial⟩
/-- what stands at pc, and that it is the table's -/
def z_dx (K : List (List a_K)) (cc : ByteArray) (pc : Nat) (i : Jvm.ClassFile.Instr) (n : Nat) (aux : List Nat) : Prop := decode cc pc = .ok (i, n) ∧ ∃ fl, k_get K pc = some (pc, i, n, fl, aux)
