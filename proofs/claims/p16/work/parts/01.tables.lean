/-- a look into a list -/
noncomputable def g_nth {α : Type} (l : List α) (n : Nat) : Option α := @List.rec α (fun _ => Nat → Option α) (fun _ => none) (fun a _ ih k => @Nat.rec (fun _ => Option α) (some a) (fun j _ => ih j) k) l n
theorem g_nth_eq {α : Type} : ∀ (l : List α) (n : Nat), g_nth l n = l[n]?
  | [], _ => List.getElem?_nil.symm
  | _ :: _, 0 => rfl
  | a :: l, n + 1 => by
    have e : g_nth (a :: l) (n + 1) = g_nth l n := rfl
    rw [e, g_nth_eq l n, List.getElem?_cons_succ]
def a_part : Nat → List Cond := fun k => match k with
  | 1 => tables_1_1
  | 2 => tables_1_2
  | 3 => tables_1_3
  | 4 => tables_1_4
  | 5 => tables_1_5
  | 6 => tables_1_6
  | 7 => tables_1_7
  | 8 => tables_1_8
  | _ => tables_1_9
theorem a_part_in (k : Nat) {w : Cond} (h : w ∈ a_part k) : w ∈ tables_1 := by
  unfold tables_1
  simp only [List.mem_append]
  unfold a_part at h
  split at h <;> simp [h]
noncomputable def g_nth2 {α : Type} (L : List (List α)) (j : Nat) : Option α := @Option.rec (List α) (fun _ => Option α) none (fun r => g_nth r (j % 16)) (g_nth L (j / 16))
theorem g_nth2_in {α : Type} {L : List (List α)} {j : Nat} {q : α} (h : g_nth2 L j = some q) : ∃ r ∈ L, q ∈ r := by
  unfold g_nth2 at h
  cases hr : g_nth L (j / 16) with
  | none =>
    rw [hr] at h
    cases h
  | some r =>
    rw [hr] at h
    have h : g_nth r (j % 16) = some q := h
    exact ⟨r, List.mem_of_getElem? ((g_nth_eq _ _).symm.trans hr), List.mem_of_getElem? ((g_nth_eq _ _).symm.trans h)⟩
-- ===== PART A: goes FIRST, ahead of the names: the tables' words, and 'selects' of the private methods out of them =====
/-- a private method of a class that the tables say can be made, by its rows of tables_1 -/
def lw_okq (q : MethodName × Nat) : Prop := (q.1.cls ≠ "java/lang/invoke/MethodHandle" ∧ q.1.cls ≠ "java/lang/invoke/VarHandle") ∧ Cond.instantiable q.1.cls q.2 ∈ tables_1 ∧ Cond.privateMethod q.1 ∈ tables_1 ∧ Cond.instanceMethod q.1 ∈ tables_1
theorem lw_p0 : lw_okq (⟨"LetByTheDegree$House", "readStorey", "(LLetByTheDegree$Signs;I)Z"⟩, 14) := ⟨⟨by decide +kernel, by decide +kernel⟩, a_part_in 1 (List.mem_of_getElem? (i := 59) (by decide +kernel)), a_part_in 3 (List.mem_of_getElem? (i := 86) (by decide +kernel)), a_part_in 3 (List.mem_of_getElem? (i := 87) (by decide +kernel))⟩
theorem lw_p1 : lw_okq (⟨"LetByTheDegree$House", "readLine", "(LLetByTheDegree$Signs;I)Z"⟩, 14) := ⟨⟨by decide +kernel, by decide +kernel⟩, a_part_in 1 (List.mem_of_getElem? (i := 59) (by decide +kernel)), a_part_in 3 (List.mem_of_getElem? (i := 149) (by decide +kernel)), a_part_in 3 (List.mem_of_getElem? (i := 150) (by decide +kernel))⟩
theorem lw_p2 : lw_okq (⟨"LetByTheDegree$RuleReader", "expression", "(I)Z"⟩, 3) := ⟨⟨by decide +kernel, by decide +kernel⟩, a_part_in 2 (List.mem_of_getElem? (i := 61) (by decide +kernel)), a_part_in 3 (List.mem_of_getElem? (i := 171) (by decide +kernel)), a_part_in 3 (List.mem_of_getElem? (i := 172) (by decide +kernel))⟩
theorem lw_p3 : lw_okq (⟨"LetByTheDegree$RuleReader", "chain", "(IZ)Z"⟩, 3) := ⟨⟨by decide +kernel, by decide +kernel⟩, a_part_in 2 (List.mem_of_getElem? (i := 61) (by decide +kernel)), a_part_in 3 (List.mem_of_getElem? (i := 175) (by decide +kernel)), a_part_in 3 (List.mem_of_getElem? (i := 176) (by decide +kernel))⟩
theorem lw_p4 : lw_okq (⟨"LetByTheDegree$RuleReader", "part", "(IZ)Z"⟩, 3) := ⟨⟨by decide +kernel, by decide +kernel⟩, a_part_in 2 (List.mem_of_getElem? (i := 61) (by decide +kernel)), a_part_in 3 (List.mem_of_getElem? (i := 179) (by decide +kernel)), a_part_in 3 (List.mem_of_getElem? (i := 180) (by decide +kernel))⟩
theorem lw_p5 : lw_okq (⟨"LetByTheDegree$RuleReader", "signed", "(I)Z"⟩, 3) := ⟨⟨by decide +kernel, by decide +kernel⟩, a_part_in 2 (List.mem_of_getElem? (i := 61) (by decide +kernel)), a_part_in 3 (List.mem_of_getElem? (i := 183) (by decide +kernel)), a_part_in 3 (List.mem_of_getElem? (i := 184) (by decide +kernel))⟩
theorem lw_p6 : lw_okq (⟨"LetByTheDegree$RuleReader", "thing", "(I)Z"⟩, 3) := ⟨⟨by decide +kernel, by decide +kernel⟩, a_part_in 2 (List.mem_of_getElem? (i := 61) (by decide +kernel)), a_part_in 3 (List.mem_of_getElem? (i := 188) (by decide +kernel)), a_part_in 3 (List.mem_of_getElem? (i := 189) (by decide +kernel))⟩
theorem lw_p7 : lw_okq (⟨"LetByTheDegree$RuleReader", "bracket", "(I)Z"⟩, 3) := ⟨⟨by decide +kernel, by decide +kernel⟩, a_part_in 2 (List.mem_of_getElem? (i := 61) (by decide +kernel)), a_part_in 3 (List.mem_of_getElem? (i := 193) (by decide +kernel)), a_part_in 3 (List.mem_of_getElem? (i := 194) (by decide +kernel))⟩
theorem lw_p8 : lw_okq (⟨"LetByTheDegree$RuleReader", "number", "()V"⟩, 3) := ⟨⟨by decide +kernel, by decide +kernel⟩, a_part_in 2 (List.mem_of_getElem? (i := 61) (by decide +kernel)), a_part_in 3 (List.mem_of_getElem? (i := 199) (by decide +kernel)), a_part_in 3 (List.mem_of_getElem? (i := 200) (by decide +kernel))⟩
theorem lw_p9 : lw_okq (⟨"LetByTheDegree$RuleReader", "emit", "(I)V"⟩, 3) := ⟨⟨by decide +kernel, by decide +kernel⟩, a_part_in 2 (List.mem_of_getElem? (i := 61) (by decide +kernel)), a_part_in 3 (List.mem_of_getElem? (i := 204) (by decide +kernel)), a_part_in 3 (List.mem_of_getElem? (i := 205) (by decide +kernel))⟩
theorem lw_p10 : lw_okq (⟨"LetByTheDegree", "moveAnswer", "(II)I"⟩, 14) := ⟨⟨by decide +kernel, by decide +kernel⟩, a_part_in 1 (List.mem_of_getElem? (i := 29) (by decide +kernel)), a_part_in 4 (List.mem_of_getElem? (i := 93) (by decide +kernel)), a_part_in 4 (List.mem_of_getElem? (i := 94) (by decide +kernel))⟩
theorem lw_p11 : lw_okq (⟨"LetByTheDegree", "stoveAnswer", "(I)I"⟩, 14) := ⟨⟨by decide +kernel, by decide +kernel⟩, a_part_in 1 (List.mem_of_getElem? (i := 29) (by decide +kernel)), a_part_in 4 (List.mem_of_getElem? (i := 111) (by decide +kernel)), a_part_in 4 (List.mem_of_getElem? (i := 112) (by decide +kernel))⟩
theorem lw_p12 : lw_okq (⟨"LetByTheDegree", "letPass", "(I)I"⟩, 14) := ⟨⟨by decide +kernel, by decide +kernel⟩, a_part_in 1 (List.mem_of_getElem? (i := 29) (by decide +kernel)), a_part_in 4 (List.mem_of_getElem? (i := 119) (by decide +kernel)), a_part_in 4 (List.mem_of_getElem? (i := 120) (by decide +kernel))⟩
theorem lw_p13 : lw_okq (⟨"LetByTheDegree$Course", "pass", "(LLetByTheDegree$State;I)V"⟩, 14) := ⟨⟨by decide +kernel, by decide +kernel⟩, a_part_in 1 (List.mem_of_getElem? (i := 213) (by decide +kernel)), a_part_in 4 (List.mem_of_getElem? (i := 131) (by decide +kernel)), a_part_in 4 (List.mem_of_getElem? (i := 132) (by decide +kernel))⟩
theorem lw_p14 : lw_okq (⟨"LetByTheDegree$Course", "gather", "(LLetByTheDegree$State;)V"⟩, 14) := ⟨⟨by decide +kernel, by decide +kernel⟩, a_part_in 1 (List.mem_of_getElem? (i := 213) (by decide +kernel)), a_part_in 4 (List.mem_of_getElem? (i := 135) (by decide +kernel)), a_part_in 4 (List.mem_of_getElem? (i := 136) (by decide +kernel))⟩
theorem lw_p15 : lw_okq (⟨"LetByTheDegree$Course", "drip", "(LLetByTheDegree$State;II)V"⟩, 14) := ⟨⟨by decide +kernel, by decide +kernel⟩, a_part_in 1 (List.mem_of_getElem? (i := 213) (by decide +kernel)), a_part_in 4 (List.mem_of_getElem? (i := 150) (by decide +kernel)), a_part_in 4 (List.mem_of_getElem? (i := 151) (by decide +kernel))⟩
def lw_privs_1 : List (MethodName × Nat) := [(⟨"LetByTheDegree$House", "readStorey", "(LLetByTheDegree$Signs;I)Z"⟩, 14), (⟨"LetByTheDegree$House", "readLine", "(LLetByTheDegree$Signs;I)Z"⟩, 14), (⟨"LetByTheDegree$RuleReader", "expression", "(I)Z"⟩, 3), (⟨"LetByTheDegree$RuleReader", "chain", "(IZ)Z"⟩, 3), (⟨"LetByTheDegree$RuleReader", "part", "(IZ)Z"⟩, 3), (⟨"LetByTheDegree$RuleReader", "signed", "(I)Z"⟩, 3), (⟨"LetByTheDegree$RuleReader", "thing", "(I)Z"⟩, 3), (⟨"LetByTheDegree$RuleReader", "bracket", "(I)Z"⟩, 3), (⟨"LetByTheDegree$RuleReader", "number", "()V"⟩, 3), (⟨"LetByTheDegree$RuleReader", "emit", "(I)V"⟩, 3), (⟨"LetByTheDegree", "moveAnswer", "(II)I"⟩, 14), (⟨"LetByTheDegree", "stoveAnswer", "(I)I"⟩, 14), (⟨"LetByTheDegree", "letPass", "(I)I"⟩, 14), (⟨"LetByTheDegree$Course", "pass", "(LLetByTheDegree$State;I)V"⟩, 14), (⟨"LetByTheDegree$Course", "gather", "(LLetByTheDegree$State;)V"⟩, 14), (⟨"LetByTheDegree$Course", "drip", "(LLetByTheDegree$State;II)V"⟩, 14)]
theorem lw_r1 : ∀ q ∈ lw_privs_1, lw_okq q := List.forall_mem_cons.mpr ⟨lw_p0, List.forall_mem_cons.mpr ⟨lw_p1, List.forall_mem_cons.mpr ⟨lw_p2, List.forall_mem_cons.mpr ⟨lw_p3, List.forall_mem_cons.mpr ⟨lw_p4, List.forall_mem_cons.mpr ⟨lw_p5, List.forall_mem_cons.mpr ⟨lw_p6, List.forall_mem_cons.mpr ⟨lw_p7, List.forall_mem_cons.mpr ⟨lw_p8, List.forall_mem_cons.mpr ⟨lw_p9, List.forall_mem_cons.mpr ⟨lw_p10, List.forall_mem_cons.mpr ⟨lw_p11, List.forall_mem_cons.mpr ⟨lw_p12, List.forall_mem_cons.mpr ⟨lw_p13, List.forall_mem_cons.mpr ⟨lw_p14, List.forall_mem_cons.mpr ⟨lw_p15, fun _ h => absurd h List.not_mem_nil⟩⟩⟩⟩⟩⟩⟩⟩⟩⟩⟩⟩⟩⟩⟩⟩
theorem lw_p16 : lw_okq (⟨"LetByTheDegree$Course", "freeze", "(LLetByTheDegree$State;I)V"⟩, 14) := ⟨⟨by decide +kernel, by decide +kernel⟩, a_part_in 1 (List.mem_of_getElem? (i := 213) (by decide +kernel)), a_part_in 4 (List.mem_of_getElem? (i := 155) (by decide +kernel)), a_part_in 4 (List.mem_of_getElem? (i := 156) (by decide +kernel))⟩
theorem lw_p17 : lw_okq (⟨"LetByTheDegree$Course", "drop", "(LLetByTheDegree$State;I)V"⟩, 14) := ⟨⟨by decide +kernel, by decide +kernel⟩, a_part_in 1 (List.mem_of_getElem? (i := 213) (by decide +kernel)), a_part_in 4 (List.mem_of_getElem? (i := 160) (by decide +kernel)), a_part_in 4 (List.mem_of_getElem? (i := 161) (by decide +kernel))⟩
theorem lw_p18 : lw_okq (⟨"LetByTheDegree", "tell", "(JJJ)V"⟩, 14) := ⟨⟨by decide +kernel, by decide +kernel⟩, a_part_in 1 (List.mem_of_getElem? (i := 29) (by decide +kernel)), a_part_in 4 (List.mem_of_getElem? (i := 164) (by decide +kernel)), a_part_in 4 (List.mem_of_getElem? (i := 165) (by decide +kernel))⟩
theorem lw_p19 : lw_okq (⟨"LetByTheDegree", "tell", "(JJ)V"⟩, 14) := ⟨⟨by decide +kernel, by decide +kernel⟩, a_part_in 1 (List.mem_of_getElem? (i := 29) (by decide +kernel)), a_part_in 4 (List.mem_of_getElem? (i := 168) (by decide +kernel)), a_part_in 4 (List.mem_of_getElem? (i := 169) (by decide +kernel))⟩
theorem lw_p20 : lw_okq (⟨"LetByTheDegree", "tell", "()V"⟩, 14) := ⟨⟨by decide +kernel, by decide +kernel⟩, a_part_in 1 (List.mem_of_getElem? (i := 29) (by decide +kernel)), a_part_in 4 (List.mem_of_getElem? (i := 172) (by decide +kernel)), a_part_in 4 (List.mem_of_getElem? (i := 173) (by decide +kernel))⟩
theorem lw_p21 : lw_okq (⟨"LetByTheDegree", "add", "(J)V"⟩, 14) := ⟨⟨by decide +kernel, by decide +kernel⟩, a_part_in 1 (List.mem_of_getElem? (i := 29) (by decide +kernel)), a_part_in 4 (List.mem_of_getElem? (i := 176) (by decide +kernel)), a_part_in 4 (List.mem_of_getElem? (i := 177) (by decide +kernel))⟩
theorem lw_p22 : lw_okq (⟨"LetByTheDegree$Winter", "act", "(I)Z"⟩, 5) := ⟨⟨by decide +kernel, by decide +kernel⟩, a_part_in 2 (List.mem_of_getElem? (i := 79) (by decide +kernel)), a_part_in 4 (List.mem_of_getElem? (i := 198) (by decide +kernel)), a_part_in 4 (List.mem_of_getElem? (i := 199) (by decide +kernel))⟩
theorem lw_p23 : lw_okq (⟨"LetByTheDegree$Winter", "place", "(I)Z"⟩, 5) := ⟨⟨by decide +kernel, by decide +kernel⟩, a_part_in 2 (List.mem_of_getElem? (i := 79) (by decide +kernel)), a_part_in 4 (List.mem_of_getElem? (i := 206) (by decide +kernel)), a_part_in 4 (List.mem_of_getElem? (i := 207) (by decide +kernel))⟩
theorem lw_p24 : lw_okq (⟨"LetByTheDegree", "perform", "(I)Z"⟩, 14) := ⟨⟨by decide +kernel, by decide +kernel⟩, a_part_in 1 (List.mem_of_getElem? (i := 29) (by decide +kernel)), a_part_in 4 (List.mem_of_getElem? (i := 212) (by decide +kernel)), a_part_in 4 (List.mem_of_getElem? (i := 213) (by decide +kernel))⟩
theorem lw_p25 : lw_okq (⟨"LetByTheDegree", "lookAhead", "(I)V"⟩, 14) := ⟨⟨by decide +kernel, by decide +kernel⟩, a_part_in 1 (List.mem_of_getElem? (i := 29) (by decide +kernel)), a_part_in 4 (List.mem_of_getElem? (i := 228) (by decide +kernel)), a_part_in 4 (List.mem_of_getElem? (i := 229) (by decide +kernel))⟩
theorem lw_p26 : lw_okq (⟨"LetByTheDegree$Lodging", "searchColumn", "(I)V"⟩, 14) := ⟨⟨by decide +kernel, by decide +kernel⟩, a_part_in 2 (List.mem_of_getElem? (i := 105) (by decide +kernel)), a_part_in 5 (List.mem_of_getElem? (i := 43) (by decide +kernel)), a_part_in 5 (List.mem_of_getElem? (i := 44) (by decide +kernel))⟩
theorem lw_p27 : lw_okq (⟨"LetByTheDegree$Lodging", "canLive", "(II)Z"⟩, 14) := ⟨⟨by decide +kernel, by decide +kernel⟩, a_part_in 2 (List.mem_of_getElem? (i := 105) (by decide +kernel)), a_part_in 5 (List.mem_of_getElem? (i := 47) (by decide +kernel)), a_part_in 5 (List.mem_of_getElem? (i := 48) (by decide +kernel))⟩
theorem lw_p28 : lw_okq (⟨"LetByTheDegree$Lodging", "place", "(II)V"⟩, 14) := ⟨⟨by decide +kernel, by decide +kernel⟩, a_part_in 2 (List.mem_of_getElem? (i := 105) (by decide +kernel)), a_part_in 5 (List.mem_of_getElem? (i := 57) (by decide +kernel)), a_part_in 5 (List.mem_of_getElem? (i := 58) (by decide +kernel))⟩
theorem lw_p29 : lw_okq (⟨"LetByTheDegree$Lodging", "weigh", "()V"⟩, 14) := ⟨⟨by decide +kernel, by decide +kernel⟩, a_part_in 2 (List.mem_of_getElem? (i := 105) (by decide +kernel)), a_part_in 5 (List.mem_of_getElem? (i := 61) (by decide +kernel)), a_part_in 5 (List.mem_of_getElem? (i := 62) (by decide +kernel))⟩
theorem lw_p30 : lw_okq (⟨"LetByTheDegree", "tellLodging", "()V"⟩, 14) := ⟨⟨by decide +kernel, by decide +kernel⟩, a_part_in 1 (List.mem_of_getElem? (i := 29) (by decide +kernel)), a_part_in 5 (List.mem_of_getElem? (i := 69) (by decide +kernel)), a_part_in 5 (List.mem_of_getElem? (i := 70) (by decide +kernel))⟩
theorem lw_p31 : lw_okq (⟨"LetByTheDegree$Silence", "choose", "(III)Z"⟩, 6) := ⟨⟨by decide +kernel, by decide +kernel⟩, a_part_in 2 (List.mem_of_getElem? (i := 160) (by decide +kernel)), a_part_in 5 (List.mem_of_getElem? (i := 87) (by decide +kernel)), a_part_in 5 (List.mem_of_getElem? (i := 88) (by decide +kernel))⟩
def lw_privs_2 : List (MethodName × Nat) := [(⟨"LetByTheDegree$Course", "freeze", "(LLetByTheDegree$State;I)V"⟩, 14), (⟨"LetByTheDegree$Course", "drop", "(LLetByTheDegree$State;I)V"⟩, 14), (⟨"LetByTheDegree", "tell", "(JJJ)V"⟩, 14), (⟨"LetByTheDegree", "tell", "(JJ)V"⟩, 14), (⟨"LetByTheDegree", "tell", "()V"⟩, 14), (⟨"LetByTheDegree", "add", "(J)V"⟩, 14), (⟨"LetByTheDegree$Winter", "act", "(I)Z"⟩, 5), (⟨"LetByTheDegree$Winter", "place", "(I)Z"⟩, 5), (⟨"LetByTheDegree", "perform", "(I)Z"⟩, 14), (⟨"LetByTheDegree", "lookAhead", "(I)V"⟩, 14), (⟨"LetByTheDegree$Lodging", "searchColumn", "(I)V"⟩, 14), (⟨"LetByTheDegree$Lodging", "canLive", "(II)Z"⟩, 14), (⟨"LetByTheDegree$Lodging", "place", "(II)V"⟩, 14), (⟨"LetByTheDegree$Lodging", "weigh", "()V"⟩, 14), (⟨"LetByTheDegree", "tellLodging", "()V"⟩, 14), (⟨"LetByTheDegree$Silence", "choose", "(III)Z"⟩, 6)]
theorem lw_r2 : ∀ q ∈ lw_privs_2, lw_okq q := List.forall_mem_cons.mpr ⟨lw_p16, List.forall_mem_cons.mpr ⟨lw_p17, List.forall_mem_cons.mpr ⟨lw_p18, List.forall_mem_cons.mpr ⟨lw_p19, List.forall_mem_cons.mpr ⟨lw_p20, List.forall_mem_cons.mpr ⟨lw_p21, List.forall_mem_cons.mpr ⟨lw_p22, List.forall_mem_cons.mpr ⟨lw_p23, List.forall_mem_cons.mpr ⟨lw_p24, List.forall_mem_cons.mpr ⟨lw_p25, List.forall_mem_cons.mpr ⟨lw_p26, List.forall_mem_cons.mpr ⟨lw_p27, List.forall_mem_cons.mpr ⟨lw_p28, List.forall_mem_cons.mpr ⟨lw_p29, List.forall_mem_cons.mpr ⟨lw_p30, List.forall_mem_cons.mpr ⟨lw_p31, fun _ h => absurd h List.not_mem_nil⟩⟩⟩⟩⟩⟩⟩⟩⟩⟩⟩⟩⟩⟩⟩⟩
theorem lw_p32 : lw_okq (⟨"LetByTheDegree$Silence", "matters", "(II)Z"⟩, 6) := ⟨⟨by decide +kernel, by decide +kernel⟩, a_part_in 2 (List.mem_of_getElem? (i := 160) (by decide +kernel)), a_part_in 5 (List.mem_of_getElem? (i := 93) (by decide +kernel)), a_part_in 5 (List.mem_of_getElem? (i := 94) (by decide +kernel))⟩
theorem lw_p33 : lw_okq (⟨"LetByTheDegree$Course", "warmthOf", "(LLetByTheDegree$State;II)I"⟩, 14) := ⟨⟨by decide +kernel, by decide +kernel⟩, a_part_in 1 (List.mem_of_getElem? (i := 213) (by decide +kernel)), a_part_in 5 (List.mem_of_getElem? (i := 118) (by decide +kernel)), a_part_in 5 (List.mem_of_getElem? (i := 119) (by decide +kernel))⟩
theorem lw_p34 : lw_okq (⟨"LetByTheDegree", "tellFraction", "(JJ)V"⟩, 14) := ⟨⟨by decide +kernel, by decide +kernel⟩, a_part_in 1 (List.mem_of_getElem? (i := 29) (by decide +kernel)), a_part_in 5 (List.mem_of_getElem? (i := 132) (by decide +kernel)), a_part_in 5 (List.mem_of_getElem? (i := 133) (by decide +kernel))⟩
theorem lw_p35 : lw_okq (⟨"LetByTheDegree$StoveWay", "goFrom", "(II)V"⟩, 7) := ⟨⟨by decide +kernel, by decide +kernel⟩, a_part_in 2 (List.mem_of_getElem? (i := 188) (by decide +kernel)), a_part_in 5 (List.mem_of_getElem? (i := 173) (by decide +kernel)), a_part_in 5 (List.mem_of_getElem? (i := 174) (by decide +kernel))⟩
theorem lw_p36 : lw_okq (⟨"LetByTheDegree$StoveWay", "goTo", "(III)V"⟩, 7) := ⟨⟨by decide +kernel, by decide +kernel⟩, a_part_in 2 (List.mem_of_getElem? (i := 188) (by decide +kernel)), a_part_in 5 (List.mem_of_getElem? (i := 178) (by decide +kernel)), a_part_in 5 (List.mem_of_getElem? (i := 179) (by decide +kernel))⟩
theorem lw_p37 : lw_okq (⟨"LetByTheDegree", "meltedWithStove", "(II)I"⟩, 14) := ⟨⟨by decide +kernel, by decide +kernel⟩, a_part_in 1 (List.mem_of_getElem? (i := 29) (by decide +kernel)), a_part_in 5 (List.mem_of_getElem? (i := 191) (by decide +kernel)), a_part_in 5 (List.mem_of_getElem? (i := 192) (by decide +kernel))⟩
theorem lw_p38 : lw_okq (⟨"LetByTheDegree", "gain", "(IIIII)I"⟩, 14) := ⟨⟨by decide +kernel, by decide +kernel⟩, a_part_in 1 (List.mem_of_getElem? (i := 29) (by decide +kernel)), a_part_in 5 (List.mem_of_getElem? (i := 199) (by decide +kernel)), a_part_in 5 (List.mem_of_getElem? (i := 200) (by decide +kernel))⟩
theorem lw_p39 : lw_okq (⟨"LetByTheDegree$Thaws", "goFrom", "(IJ)V"⟩, 8) := ⟨⟨by decide +kernel, by decide +kernel⟩, a_part_in 2 (List.mem_of_getElem? (i := 220) (by decide +kernel)), a_part_in 5 (List.mem_of_getElem? (i := 220) (by decide +kernel)), a_part_in 5 (List.mem_of_getElem? (i := 221) (by decide +kernel))⟩
theorem lw_p40 : lw_okq (⟨"LetByTheDegree$Thaws", "goTo", "(IIJ)V"⟩, 8) := ⟨⟨by decide +kernel, by decide +kernel⟩, a_part_in 2 (List.mem_of_getElem? (i := 220) (by decide +kernel)), a_part_in 5 (List.mem_of_getElem? (i := 224) (by decide +kernel)), a_part_in 5 (List.mem_of_getElem? (i := 225) (by decide +kernel))⟩
theorem lw_p41 : lw_okq (⟨"java/lang/Throwable", "fillInStackTrace", "(I)Ljava/lang/Throwable;"⟩, 6) := ⟨⟨by decide +kernel, by decide +kernel⟩, a_part_in 6 (List.mem_of_getElem? (i := 86) (by decide +kernel)), a_part_in 6 (List.mem_of_getElem? (i := 84) (by decide +kernel)), a_part_in 6 (List.mem_of_getElem? (i := 85) (by decide +kernel))⟩
theorem lw_p42 : lw_okq (⟨"LetByTheDegreeModel", "begin", "([BII)V"⟩, 56) := ⟨⟨by decide +kernel, by decide +kernel⟩, a_part_in 6 (List.mem_of_getElem? (i := 137) (by decide +kernel)), a_part_in 7 (List.mem_of_getElem? (i := 88) (by decide +kernel)), a_part_in 7 (List.mem_of_getElem? (i := 89) (by decide +kernel))⟩
theorem lw_p43 : lw_okq (⟨"LetByTheDegreeModel", "fine", "()Z"⟩, 56) := ⟨⟨by decide +kernel, by decide +kernel⟩, a_part_in 6 (List.mem_of_getElem? (i := 137) (by decide +kernel)), a_part_in 7 (List.mem_of_getElem? (i := 92) (by decide +kernel)), a_part_in 7 (List.mem_of_getElem? (i := 93) (by decide +kernel))⟩
theorem lw_p44 : lw_okq (⟨"LetByTheDegreeModel", "number", "(I)I"⟩, 56) := ⟨⟨by decide +kernel, by decide +kernel⟩, a_part_in 6 (List.mem_of_getElem? (i := 137) (by decide +kernel)), a_part_in 7 (List.mem_of_getElem? (i := 96) (by decide +kernel)), a_part_in 7 (List.mem_of_getElem? (i := 97) (by decide +kernel))⟩
theorem lw_p45 : lw_okq (⟨"LetByTheDegreeModel", "oneOf", "(CI)I"⟩, 56) := ⟨⟨by decide +kernel, by decide +kernel⟩, a_part_in 6 (List.mem_of_getElem? (i := 137) (by decide +kernel)), a_part_in 7 (List.mem_of_getElem? (i := 100) (by decide +kernel)), a_part_in 7 (List.mem_of_getElem? (i := 101) (by decide +kernel))⟩
theorem lw_p46 : lw_okq (⟨"LetByTheDegreeModel", "here", "()I"⟩, 56) := ⟨⟨by decide +kernel, by decide +kernel⟩, a_part_in 6 (List.mem_of_getElem? (i := 137) (by decide +kernel)), a_part_in 7 (List.mem_of_getElem? (i := 104) (by decide +kernel)), a_part_in 7 (List.mem_of_getElem? (i := 105) (by decide +kernel))⟩
theorem lw_p47 : lw_okq (⟨"LetByTheDegreeModel", "fault", "(I)V"⟩, 56) := ⟨⟨by decide +kernel, by decide +kernel⟩, a_part_in 6 (List.mem_of_getElem? (i := 137) (by decide +kernel)), a_part_in 7 (List.mem_of_getElem? (i := 108) (by decide +kernel)), a_part_in 7 (List.mem_of_getElem? (i := 109) (by decide +kernel))⟩
def lw_privs_3 : List (MethodName × Nat) := [(⟨"LetByTheDegree$Silence", "matters", "(II)Z"⟩, 6), (⟨"LetByTheDegree$Course", "warmthOf", "(LLetByTheDegree$State;II)I"⟩, 14), (⟨"LetByTheDegree", "tellFraction", "(JJ)V"⟩, 14), (⟨"LetByTheDegree$StoveWay", "goFrom", "(II)V"⟩, 7), (⟨"LetByTheDegree$StoveWay", "goTo", "(III)V"⟩, 7), (⟨"LetByTheDegree", "meltedWithStove", "(II)I"⟩, 14), (⟨"LetByTheDegree", "gain", "(IIIII)I"⟩, 14), (⟨"LetByTheDegree$Thaws", "goFrom", "(IJ)V"⟩, 8), (⟨"LetByTheDegree$Thaws", "goTo", "(IIJ)V"⟩, 8), (⟨"java/lang/Throwable", "fillInStackTrace", "(I)Ljava/lang/Throwable;"⟩, 6), (⟨"LetByTheDegreeModel", "begin", "([BII)V"⟩, 56), (⟨"LetByTheDegreeModel", "fine", "()Z"⟩, 56), (⟨"LetByTheDegreeModel", "number", "(I)I"⟩, 56), (⟨"LetByTheDegreeModel", "oneOf", "(CI)I"⟩, 56), (⟨"LetByTheDegreeModel", "here", "()I"⟩, 56), (⟨"LetByTheDegreeModel", "fault", "(I)V"⟩, 56)]
theorem lw_r3 : ∀ q ∈ lw_privs_3, lw_okq q := List.forall_mem_cons.mpr ⟨lw_p32, List.forall_mem_cons.mpr ⟨lw_p33, List.forall_mem_cons.mpr ⟨lw_p34, List.forall_mem_cons.mpr ⟨lw_p35, List.forall_mem_cons.mpr ⟨lw_p36, List.forall_mem_cons.mpr ⟨lw_p37, List.forall_mem_cons.mpr ⟨lw_p38, List.forall_mem_cons.mpr ⟨lw_p39, List.forall_mem_cons.mpr ⟨lw_p40, List.forall_mem_cons.mpr ⟨lw_p41, List.forall_mem_cons.mpr ⟨lw_p42, List.forall_mem_cons.mpr ⟨lw_p43, List.forall_mem_cons.mpr ⟨lw_p44, List.forall_mem_cons.mpr ⟨lw_p45, List.forall_mem_cons.mpr ⟨lw_p46, List.forall_mem_cons.mpr ⟨lw_p47, fun _ h => absurd h List.not_mem_nil⟩⟩⟩⟩⟩⟩⟩⟩⟩⟩⟩⟩⟩⟩⟩⟩
theorem lw_p48 : lw_okq (⟨"LetByTheDegreeModel", "passes", "(C)Z"⟩, 56) := ⟨⟨by decide +kernel, by decide +kernel⟩, a_part_in 6 (List.mem_of_getElem? (i := 137) (by decide +kernel)), a_part_in 7 (List.mem_of_getElem? (i := 112) (by decide +kernel)), a_part_in 7 (List.mem_of_getElem? (i := 113) (by decide +kernel))⟩
theorem lw_p49 : lw_okq (⟨"LetByTheDegreeModel", "isRoom", "(I)Z"⟩, 56) := ⟨⟨by decide +kernel, by decide +kernel⟩, a_part_in 6 (List.mem_of_getElem? (i := 137) (by decide +kernel)), a_part_in 7 (List.mem_of_getElem? (i := 116) (by decide +kernel)), a_part_in 7 (List.mem_of_getElem? (i := 117) (by decide +kernel))⟩
theorem lw_p50 : lw_okq (⟨"LetByTheDegreeModel", "readPerson", "(I)V"⟩, 56) := ⟨⟨by decide +kernel, by decide +kernel⟩, a_part_in 6 (List.mem_of_getElem? (i := 137) (by decide +kernel)), a_part_in 7 (List.mem_of_getElem? (i := 124) (by decide +kernel)), a_part_in 7 (List.mem_of_getElem? (i := 125) (by decide +kernel))⟩
theorem lw_p51 : lw_okq (⟨"LetByTheDegreeModel", "need", "(C)V"⟩, 56) := ⟨⟨by decide +kernel, by decide +kernel⟩, a_part_in 6 (List.mem_of_getElem? (i := 137) (by decide +kernel)), a_part_in 7 (List.mem_of_getElem? (i := 128) (by decide +kernel)), a_part_in 7 (List.mem_of_getElem? (i := 129) (by decide +kernel))⟩
theorem lw_p52 : lw_okq (⟨"LetByTheDegreeModel", "held", "(I)I"⟩, 56) := ⟨⟨by decide +kernel, by decide +kernel⟩, a_part_in 6 (List.mem_of_getElem? (i := 137) (by decide +kernel)), a_part_in 7 (List.mem_of_getElem? (i := 136) (by decide +kernel)), a_part_in 7 (List.mem_of_getElem? (i := 137) (by decide +kernel))⟩
theorem lw_p53 : lw_okq (⟨"LetByTheDegreeModel", "sum", "(I)I"⟩, 56) := ⟨⟨by decide +kernel, by decide +kernel⟩, a_part_in 6 (List.mem_of_getElem? (i := 137) (by decide +kernel)), a_part_in 7 (List.mem_of_getElem? (i := 140) (by decide +kernel)), a_part_in 7 (List.mem_of_getElem? (i := 141) (by decide +kernel))⟩
theorem lw_p54 : lw_okq (⟨"LetByTheDegreeModel", "product", "(I)I"⟩, 56) := ⟨⟨by decide +kernel, by decide +kernel⟩, a_part_in 6 (List.mem_of_getElem? (i := 137) (by decide +kernel)), a_part_in 7 (List.mem_of_getElem? (i := 144) (by decide +kernel)), a_part_in 7 (List.mem_of_getElem? (i := 145) (by decide +kernel))⟩
theorem lw_p55 : lw_okq (⟨"LetByTheDegreeModel", "thing", "(I)I"⟩, 56) := ⟨⟨by decide +kernel, by decide +kernel⟩, a_part_in 6 (List.mem_of_getElem? (i := 137) (by decide +kernel)), a_part_in 7 (List.mem_of_getElem? (i := 148) (by decide +kernel)), a_part_in 7 (List.mem_of_getElem? (i := 149) (by decide +kernel))⟩
theorem lw_p56 : lw_okq (⟨"LetByTheDegreeModel", "lost", "()I"⟩, 56) := ⟨⟨by decide +kernel, by decide +kernel⟩, a_part_in 6 (List.mem_of_getElem? (i := 137) (by decide +kernel)), a_part_in 7 (List.mem_of_getElem? (i := 159) (by decide +kernel)), a_part_in 7 (List.mem_of_getElem? (i := 160) (by decide +kernel))⟩
theorem lw_p57 : lw_okq (⟨"LetByTheDegreeModel", "peopleIn", "([II)I"⟩, 56) := ⟨⟨by decide +kernel, by decide +kernel⟩, a_part_in 6 (List.mem_of_getElem? (i := 137) (by decide +kernel)), a_part_in 7 (List.mem_of_getElem? (i := 163) (by decide +kernel)), a_part_in 7 (List.mem_of_getElem? (i := 164) (by decide +kernel))⟩
theorem lw_p58 : lw_okq (⟨"LetByTheDegreeModel", "warmthBy", "([III)I"⟩, 56) := ⟨⟨by decide +kernel, by decide +kernel⟩, a_part_in 6 (List.mem_of_getElem? (i := 137) (by decide +kernel)), a_part_in 7 (List.mem_of_getElem? (i := 167) (by decide +kernel)), a_part_in 7 (List.mem_of_getElem? (i := 168) (by decide +kernel))⟩
theorem lw_p59 : lw_okq (⟨"LetByTheDegreeModel", "warmOf", "([II)I"⟩, 56) := ⟨⟨by decide +kernel, by decide +kernel⟩, a_part_in 6 (List.mem_of_getElem? (i := 137) (by decide +kernel)), a_part_in 7 (List.mem_of_getElem? (i := 174) (by decide +kernel)), a_part_in 7 (List.mem_of_getElem? (i := 175) (by decide +kernel))⟩
theorem lw_p60 : lw_okq (⟨"LetByTheDegreeModel", "meltsNow", "([II)I"⟩, 56) := ⟨⟨by decide +kernel, by decide +kernel⟩, a_part_in 6 (List.mem_of_getElem? (i := 137) (by decide +kernel)), a_part_in 7 (List.mem_of_getElem? (i := 178) (by decide +kernel)), a_part_in 7 (List.mem_of_getElem? (i := 179) (by decide +kernel))⟩
theorem lw_p61 : lw_okq (⟨"LetByTheDegreeModel", "meltsBy", "([III)I"⟩, 56) := ⟨⟨by decide +kernel, by decide +kernel⟩, a_part_in 6 (List.mem_of_getElem? (i := 137) (by decide +kernel)), a_part_in 7 (List.mem_of_getElem? (i := 182) (by decide +kernel)), a_part_in 7 (List.mem_of_getElem? (i := 183) (by decide +kernel))⟩
theorem lw_p62 : lw_okq (⟨"LetByTheDegreeModel", "melts", "([IIII)I"⟩, 56) := ⟨⟨by decide +kernel, by decide +kernel⟩, a_part_in 6 (List.mem_of_getElem? (i := 137) (by decide +kernel)), a_part_in 7 (List.mem_of_getElem? (i := 187) (by decide +kernel)), a_part_in 7 (List.mem_of_getElem? (i := 188) (by decide +kernel))⟩
theorem lw_p63 : lw_okq (⟨"LetByTheDegreeModel", "isPerson", "(I)Z"⟩, 56) := ⟨⟨by decide +kernel, by decide +kernel⟩, a_part_in 6 (List.mem_of_getElem? (i := 137) (by decide +kernel)), a_part_in 7 (List.mem_of_getElem? (i := 197) (by decide +kernel)), a_part_in 7 (List.mem_of_getElem? (i := 198) (by decide +kernel))⟩
def lw_privs_4 : List (MethodName × Nat) := [(⟨"LetByTheDegreeModel", "passes", "(C)Z"⟩, 56), (⟨"LetByTheDegreeModel", "isRoom", "(I)Z"⟩, 56), (⟨"LetByTheDegreeModel", "readPerson", "(I)V"⟩, 56), (⟨"LetByTheDegreeModel", "need", "(C)V"⟩, 56), (⟨"LetByTheDegreeModel", "held", "(I)I"⟩, 56), (⟨"LetByTheDegreeModel", "sum", "(I)I"⟩, 56), (⟨"LetByTheDegreeModel", "product", "(I)I"⟩, 56), (⟨"LetByTheDegreeModel", "thing", "(I)I"⟩, 56), (⟨"LetByTheDegreeModel", "lost", "()I"⟩, 56), (⟨"LetByTheDegreeModel", "peopleIn", "([II)I"⟩, 56), (⟨"LetByTheDegreeModel", "warmthBy", "([III)I"⟩, 56), (⟨"LetByTheDegreeModel", "warmOf", "([II)I"⟩, 56), (⟨"LetByTheDegreeModel", "meltsNow", "([II)I"⟩, 56), (⟨"LetByTheDegreeModel", "meltsBy", "([III)I"⟩, 56), (⟨"LetByTheDegreeModel", "melts", "([IIII)I"⟩, 56), (⟨"LetByTheDegreeModel", "isPerson", "(I)Z"⟩, 56)]
theorem lw_r4 : ∀ q ∈ lw_privs_4, lw_okq q := List.forall_mem_cons.mpr ⟨lw_p48, List.forall_mem_cons.mpr ⟨lw_p49, List.forall_mem_cons.mpr ⟨lw_p50, List.forall_mem_cons.mpr ⟨lw_p51, List.forall_mem_cons.mpr ⟨lw_p52, List.forall_mem_cons.mpr ⟨lw_p53, List.forall_mem_cons.mpr ⟨lw_p54, List.forall_mem_cons.mpr ⟨lw_p55, List.forall_mem_cons.mpr ⟨lw_p56, List.forall_mem_cons.mpr ⟨lw_p57, List.forall_mem_cons.mpr ⟨lw_p58, List.forall_mem_cons.mpr ⟨lw_p59, List.forall_mem_cons.mpr ⟨lw_p60, List.forall_mem_cons.mpr ⟨lw_p61, List.forall_mem_cons.mpr ⟨lw_p62, List.forall_mem_cons.mpr ⟨lw_p63, fun _ h => absurd h List.not_mem_nil⟩⟩⟩⟩⟩⟩⟩⟩⟩⟩⟩⟩⟩⟩⟩⟩
theorem lw_p64 : lw_okq (⟨"LetByTheDegreeModel", "refusesMove", "(II)I"⟩, 56) := ⟨⟨by decide +kernel, by decide +kernel⟩, a_part_in 6 (List.mem_of_getElem? (i := 137) (by decide +kernel)), a_part_in 7 (List.mem_of_getElem? (i := 217) (by decide +kernel)), a_part_in 7 (List.mem_of_getElem? (i := 218) (by decide +kernel))⟩
theorem lw_p65 : lw_okq (⟨"LetByTheDegreeModel", "remember", "([I)V"⟩, 56) := ⟨⟨by decide +kernel, by decide +kernel⟩, a_part_in 6 (List.mem_of_getElem? (i := 137) (by decide +kernel)), a_part_in 7 (List.mem_of_getElem? (i := 221) (by decide +kernel)), a_part_in 7 (List.mem_of_getElem? (i := 222) (by decide +kernel))⟩
theorem lw_p66 : lw_okq (⟨"LetByTheDegreeModel", "goMove", "(II)I"⟩, 56) := ⟨⟨by decide +kernel, by decide +kernel⟩, a_part_in 6 (List.mem_of_getElem? (i := 137) (by decide +kernel)), a_part_in 7 (List.mem_of_getElem? (i := 228) (by decide +kernel)), a_part_in 7 (List.mem_of_getElem? (i := 229) (by decide +kernel))⟩
theorem lw_p67 : lw_okq (⟨"LetByTheDegreeModel", "refusesStove", "(I)I"⟩, 56) := ⟨⟨by decide +kernel, by decide +kernel⟩, a_part_in 6 (List.mem_of_getElem? (i := 137) (by decide +kernel)), a_part_in 7 (List.mem_of_getElem? (i := 239) (by decide +kernel)), a_part_in 8 (List.mem_of_getElem? (i := 0) (by decide +kernel))⟩
theorem lw_p68 : lw_okq (⟨"LetByTheDegreeModel", "goStove", "(I)I"⟩, 56) := ⟨⟨by decide +kernel, by decide +kernel⟩, a_part_in 6 (List.mem_of_getElem? (i := 137) (by decide +kernel)), a_part_in 8 (List.mem_of_getElem? (i := 3) (by decide +kernel)), a_part_in 8 (List.mem_of_getElem? (i := 4) (by decide +kernel))⟩
theorem lw_p69 : lw_okq (⟨"LetByTheDegreeModel", "beginHours", "()V"⟩, 56) := ⟨⟨by decide +kernel, by decide +kernel⟩, a_part_in 6 (List.mem_of_getElem? (i := 137) (by decide +kernel)), a_part_in 8 (List.mem_of_getElem? (i := 15) (by decide +kernel)), a_part_in 8 (List.mem_of_getElem? (i := 16) (by decide +kernel))⟩
theorem lw_p70 : lw_okq (⟨"LetByTheDegreeModel", "goHours", "([II)V"⟩, 56) := ⟨⟨by decide +kernel, by decide +kernel⟩, a_part_in 6 (List.mem_of_getElem? (i := 137) (by decide +kernel)), a_part_in 8 (List.mem_of_getElem? (i := 19) (by decide +kernel)), a_part_in 8 (List.mem_of_getElem? (i := 20) (by decide +kernel))⟩
theorem lw_p71 : lw_okq (⟨"LetByTheDegreeModel", "goHour", "([I)V"⟩, 56) := ⟨⟨by decide +kernel, by decide +kernel⟩, a_part_in 6 (List.mem_of_getElem? (i := 137) (by decide +kernel)), a_part_in 8 (List.mem_of_getElem? (i := 23) (by decide +kernel)), a_part_in 8 (List.mem_of_getElem? (i := 24) (by decide +kernel))⟩
theorem lw_p72 : lw_okq (⟨"LetByTheDegreeModel", "giveWay", "([II)V"⟩, 56) := ⟨⟨by decide +kernel, by decide +kernel⟩, a_part_in 6 (List.mem_of_getElem? (i := 137) (by decide +kernel)), a_part_in 8 (List.mem_of_getElem? (i := 27) (by decide +kernel)), a_part_in 8 (List.mem_of_getElem? (i := 28) (by decide +kernel))⟩
theorem lw_p73 : lw_okq (⟨"LetByTheDegreeModel", "tell", "(J)V"⟩, 56) := ⟨⟨by decide +kernel, by decide +kernel⟩, a_part_in 6 (List.mem_of_getElem? (i := 137) (by decide +kernel)), a_part_in 8 (List.mem_of_getElem? (i := 31) (by decide +kernel)), a_part_in 8 (List.mem_of_getElem? (i := 32) (by decide +kernel))⟩
theorem lw_p74 : lw_okq (⟨"LetByTheDegreeModel", "readAct", "(I)V"⟩, 56) := ⟨⟨by decide +kernel, by decide +kernel⟩, a_part_in 6 (List.mem_of_getElem? (i := 137) (by decide +kernel)), a_part_in 8 (List.mem_of_getElem? (i := 44) (by decide +kernel)), a_part_in 8 (List.mem_of_getElem? (i := 45) (by decide +kernel))⟩
theorem lw_p75 : lw_okq (⟨"LetByTheDegreeModel", "readRoom", "()I"⟩, 56) := ⟨⟨by decide +kernel, by decide +kernel⟩, a_part_in 6 (List.mem_of_getElem? (i := 137) (by decide +kernel)), a_part_in 8 (List.mem_of_getElem? (i := 48) (by decide +kernel)), a_part_in 8 (List.mem_of_getElem? (i := 49) (by decide +kernel))⟩
theorem lw_p76 : lw_okq (⟨"LetByTheDegreeModel", "act", "(III)Z"⟩, 56) := ⟨⟨by decide +kernel, by decide +kernel⟩, a_part_in 6 (List.mem_of_getElem? (i := 137) (by decide +kernel)), a_part_in 8 (List.mem_of_getElem? (i := 52) (by decide +kernel)), a_part_in 8 (List.mem_of_getElem? (i := 53) (by decide +kernel))⟩
theorem lw_p77 : lw_okq (⟨"LetByTheDegreeModel", "layThen", "()V"⟩, 56) := ⟨⟨by decide +kernel, by decide +kernel⟩, a_part_in 6 (List.mem_of_getElem? (i := 137) (by decide +kernel)), a_part_in 8 (List.mem_of_getElem? (i := 67) (by decide +kernel)), a_part_in 8 (List.mem_of_getElem? (i := 68) (by decide +kernel))⟩
theorem lw_p78 : lw_okq (⟨"LetByTheDegreeModel", "stands", "(I)I"⟩, 56) := ⟨⟨by decide +kernel, by decide +kernel⟩, a_part_in 6 (List.mem_of_getElem? (i := 137) (by decide +kernel)), a_part_in 8 (List.mem_of_getElem? (i := 75) (by decide +kernel)), a_part_in 8 (List.mem_of_getElem? (i := 76) (by decide +kernel))⟩
theorem lw_p79 : lw_okq (⟨"LetByTheDegreeModel", "iced", "()I"⟩, 56) := ⟨⟨by decide +kernel, by decide +kernel⟩, a_part_in 6 (List.mem_of_getElem? (i := 137) (by decide +kernel)), a_part_in 8 (List.mem_of_getElem? (i := 79) (by decide +kernel)), a_part_in 8 (List.mem_of_getElem? (i := 80) (by decide +kernel))⟩
def lw_privs_5 : List (MethodName × Nat) := [(⟨"LetByTheDegreeModel", "refusesMove", "(II)I"⟩, 56), (⟨"LetByTheDegreeModel", "remember", "([I)V"⟩, 56), (⟨"LetByTheDegreeModel", "goMove", "(II)I"⟩, 56), (⟨"LetByTheDegreeModel", "refusesStove", "(I)I"⟩, 56), (⟨"LetByTheDegreeModel", "goStove", "(I)I"⟩, 56), (⟨"LetByTheDegreeModel", "beginHours", "()V"⟩, 56), (⟨"LetByTheDegreeModel", "goHours", "([II)V"⟩, 56), (⟨"LetByTheDegreeModel", "goHour", "([I)V"⟩, 56), (⟨"LetByTheDegreeModel", "giveWay", "([II)V"⟩, 56), (⟨"LetByTheDegreeModel", "tell", "(J)V"⟩, 56), (⟨"LetByTheDegreeModel", "readAct", "(I)V"⟩, 56), (⟨"LetByTheDegreeModel", "readRoom", "()I"⟩, 56), (⟨"LetByTheDegreeModel", "act", "(III)Z"⟩, 56), (⟨"LetByTheDegreeModel", "layThen", "()V"⟩, 56), (⟨"LetByTheDegreeModel", "stands", "(I)I"⟩, 56), (⟨"LetByTheDegreeModel", "iced", "()I"⟩, 56)]
theorem lw_r5 : ∀ q ∈ lw_privs_5, lw_okq q := List.forall_mem_cons.mpr ⟨lw_p64, List.forall_mem_cons.mpr ⟨lw_p65, List.forall_mem_cons.mpr ⟨lw_p66, List.forall_mem_cons.mpr ⟨lw_p67, List.forall_mem_cons.mpr ⟨lw_p68, List.forall_mem_cons.mpr ⟨lw_p69, List.forall_mem_cons.mpr ⟨lw_p70, List.forall_mem_cons.mpr ⟨lw_p71, List.forall_mem_cons.mpr ⟨lw_p72, List.forall_mem_cons.mpr ⟨lw_p73, List.forall_mem_cons.mpr ⟨lw_p74, List.forall_mem_cons.mpr ⟨lw_p75, List.forall_mem_cons.mpr ⟨lw_p76, List.forall_mem_cons.mpr ⟨lw_p77, List.forall_mem_cons.mpr ⟨lw_p78, List.forall_mem_cons.mpr ⟨lw_p79, fun _ h => absurd h List.not_mem_nil⟩⟩⟩⟩⟩⟩⟩⟩⟩⟩⟩⟩⟩⟩⟩⟩
theorem lw_p80 : lw_okq (⟨"LetByTheDegreeModel", "thawed", "([I)I"⟩, 56) := ⟨⟨by decide +kernel, by decide +kernel⟩, a_part_in 6 (List.mem_of_getElem? (i := 137) (by decide +kernel)), a_part_in 8 (List.mem_of_getElem? (i := 83) (by decide +kernel)), a_part_in 8 (List.mem_of_getElem? (i := 84) (by decide +kernel))⟩
theorem lw_p81 : lw_okq (⟨"LetByTheDegreeModel", "findLodgers", "()V"⟩, 56) := ⟨⟨by decide +kernel, by decide +kernel⟩, a_part_in 6 (List.mem_of_getElem? (i := 137) (by decide +kernel)), a_part_in 8 (List.mem_of_getElem? (i := 103) (by decide +kernel)), a_part_in 8 (List.mem_of_getElem? (i := 104) (by decide +kernel))⟩
theorem lw_p82 : lw_okq (⟨"LetByTheDegreeModel", "lodgeAll", "(I)V"⟩, 56) := ⟨⟨by decide +kernel, by decide +kernel⟩, a_part_in 6 (List.mem_of_getElem? (i := 137) (by decide +kernel)), a_part_in 8 (List.mem_of_getElem? (i := 107) (by decide +kernel)), a_part_in 8 (List.mem_of_getElem? (i := 108) (by decide +kernel))⟩
theorem lw_p83 : lw_okq (⟨"LetByTheDegreeModel", "goLodge", "(III)V"⟩, 56) := ⟨⟨by decide +kernel, by decide +kernel⟩, a_part_in 6 (List.mem_of_getElem? (i := 137) (by decide +kernel)), a_part_in 8 (List.mem_of_getElem? (i := 111) (by decide +kernel)), a_part_in 8 (List.mem_of_getElem? (i := 112) (by decide +kernel))⟩
theorem lw_p84 : lw_okq (⟨"LetByTheDegreeModel", "tellRooms", "()V"⟩, 56) := ⟨⟨by decide +kernel, by decide +kernel⟩, a_part_in 6 (List.mem_of_getElem? (i := 137) (by decide +kernel)), a_part_in 8 (List.mem_of_getElem? (i := 115) (by decide +kernel)), a_part_in 8 (List.mem_of_getElem? (i := 116) (by decide +kernel))⟩
theorem lw_p85 : lw_okq (⟨"LetByTheDegreeModel", "isQuiet", "(IIII)Z"⟩, 56) := ⟨⟨by decide +kernel, by decide +kernel⟩, a_part_in 6 (List.mem_of_getElem? (i := 137) (by decide +kernel)), a_part_in 8 (List.mem_of_getElem? (i := 127) (by decide +kernel)), a_part_in 8 (List.mem_of_getElem? (i := 128) (by decide +kernel))⟩
theorem lw_p86 : lw_okq (⟨"LetByTheDegreeModel", "leaveOff", "(I)I"⟩, 56) := ⟨⟨by decide +kernel, by decide +kernel⟩, a_part_in 6 (List.mem_of_getElem? (i := 137) (by decide +kernel)), a_part_in 8 (List.mem_of_getElem? (i := 131) (by decide +kernel)), a_part_in 8 (List.mem_of_getElem? (i := 132) (by decide +kernel))⟩
theorem lw_p87 : lw_okq (⟨"LetByTheDegreeModel", "takeUp", "(II)V"⟩, 56) := ⟨⟨by decide +kernel, by decide +kernel⟩, a_part_in 6 (List.mem_of_getElem? (i := 137) (by decide +kernel)), a_part_in 8 (List.mem_of_getElem? (i := 135) (by decide +kernel)), a_part_in 8 (List.mem_of_getElem? (i := 136) (by decide +kernel))⟩
theorem lw_p88 : lw_okq (⟨"LetByTheDegreeModel", "tellQuiet", "(IIII)I"⟩, 56) := ⟨⟨by decide +kernel, by decide +kernel⟩, a_part_in 6 (List.mem_of_getElem? (i := 137) (by decide +kernel)), a_part_in 8 (List.mem_of_getElem? (i := 139) (by decide +kernel)), a_part_in 8 (List.mem_of_getElem? (i := 140) (by decide +kernel))⟩
theorem lw_p89 : lw_okq (⟨"LetByTheDegreeModel", "tellPart", "(JJ)V"⟩, 56) := ⟨⟨by decide +kernel, by decide +kernel⟩, a_part_in 6 (List.mem_of_getElem? (i := 137) (by decide +kernel)), a_part_in 8 (List.mem_of_getElem? (i := 151) (by decide +kernel)), a_part_in 8 (List.mem_of_getElem? (i := 152) (by decide +kernel))⟩
theorem lw_p90 : lw_okq (⟨"LetByTheDegreeModel", "goCarry", "(III)V"⟩, 56) := ⟨⟨by decide +kernel, by decide +kernel⟩, a_part_in 6 (List.mem_of_getElem? (i := 137) (by decide +kernel)), a_part_in 8 (List.mem_of_getElem? (i := 175) (by decide +kernel)), a_part_in 8 (List.mem_of_getElem? (i := 176) (by decide +kernel))⟩
theorem lw_p91 : lw_okq (⟨"LetByTheDegreeModel", "isBeside", "(II)Z"⟩, 56) := ⟨⟨by decide +kernel, by decide +kernel⟩, a_part_in 6 (List.mem_of_getElem? (i := 137) (by decide +kernel)), a_part_in 8 (List.mem_of_getElem? (i := 179) (by decide +kernel)), a_part_in 8 (List.mem_of_getElem? (i := 180) (by decide +kernel))⟩
theorem lw_p92 : lw_okq (⟨"LetByTheDegreeModel", "meltsWith", "(II)I"⟩, 56) := ⟨⟨by decide +kernel, by decide +kernel⟩, a_part_in 6 (List.mem_of_getElem? (i := 137) (by decide +kernel)), a_part_in 8 (List.mem_of_getElem? (i := 190) (by decide +kernel)), a_part_in 8 (List.mem_of_getElem? (i := 191) (by decide +kernel))⟩
theorem lw_p93 : lw_okq (⟨"LetByTheDegreeModel", "thaws", "(II)J"⟩, 56) := ⟨⟨by decide +kernel, by decide +kernel⟩, a_part_in 6 (List.mem_of_getElem? (i := 137) (by decide +kernel)), a_part_in 8 (List.mem_of_getElem? (i := 206) (by decide +kernel)), a_part_in 8 (List.mem_of_getElem? (i := 207) (by decide +kernel))⟩
def lw_privs_6 : List (MethodName × Nat) := [(⟨"LetByTheDegreeModel", "thawed", "([I)I"⟩, 56), (⟨"LetByTheDegreeModel", "findLodgers", "()V"⟩, 56), (⟨"LetByTheDegreeModel", "lodgeAll", "(I)V"⟩, 56), (⟨"LetByTheDegreeModel", "goLodge", "(III)V"⟩, 56), (⟨"LetByTheDegreeModel", "tellRooms", "()V"⟩, 56), (⟨"LetByTheDegreeModel", "isQuiet", "(IIII)Z"⟩, 56), (⟨"LetByTheDegreeModel", "leaveOff", "(I)I"⟩, 56), (⟨"LetByTheDegreeModel", "takeUp", "(II)V"⟩, 56), (⟨"LetByTheDegreeModel", "tellQuiet", "(IIII)I"⟩, 56), (⟨"LetByTheDegreeModel", "tellPart", "(JJ)V"⟩, 56), (⟨"LetByTheDegreeModel", "goCarry", "(III)V"⟩, 56), (⟨"LetByTheDegreeModel", "isBeside", "(II)Z"⟩, 56), (⟨"LetByTheDegreeModel", "meltsWith", "(II)I"⟩, 56), (⟨"LetByTheDegreeModel", "thaws", "(II)J"⟩, 56)]
theorem lw_r6 : ∀ q ∈ lw_privs_6, lw_okq q := List.forall_mem_cons.mpr ⟨lw_p80, List.forall_mem_cons.mpr ⟨lw_p81, List.forall_mem_cons.mpr ⟨lw_p82, List.forall_mem_cons.mpr ⟨lw_p83, List.forall_mem_cons.mpr ⟨lw_p84, List.forall_mem_cons.mpr ⟨lw_p85, List.forall_mem_cons.mpr ⟨lw_p86, List.forall_mem_cons.mpr ⟨lw_p87, List.forall_mem_cons.mpr ⟨lw_p88, List.forall_mem_cons.mpr ⟨lw_p89, List.forall_mem_cons.mpr ⟨lw_p90, List.forall_mem_cons.mpr ⟨lw_p91, List.forall_mem_cons.mpr ⟨lw_p92, List.forall_mem_cons.mpr ⟨lw_p93, fun _ h => absurd h List.not_mem_nil⟩⟩⟩⟩⟩⟩⟩⟩⟩⟩⟩⟩⟩⟩
def lw_privs : List (MethodName × Nat) := lw_privs_1 ++ (lw_privs_2 ++ (lw_privs_3 ++ (lw_privs_4 ++ (lw_privs_5 ++ (lw_privs_6)))))
def lw_tbl : List Cond := k2_sels lw_privs ++ tables_1
theorem lw_privs_ok : ∀ q ∈ lw_privs, lw_okq q := by
  show ∀ q ∈ lw_privs_1 ++ (lw_privs_2 ++ (lw_privs_3 ++ (lw_privs_4 ++ (lw_privs_5 ++ (lw_privs_6))))), lw_okq q
  exact List.forall_mem_append.mpr ⟨lw_r1, List.forall_mem_append.mpr ⟨lw_r2, List.forall_mem_append.mpr ⟨lw_r3, List.forall_mem_append.mpr ⟨lw_r4, List.forall_mem_append.mpr ⟨lw_r5, lw_r6⟩⟩⟩⟩⟩

def RX0 : String := "LetByTheDegree$Course"
def TX0 : u_T := fun k => match k with
  | 0 => ("LetByTheDegree$Course", "house", "LLetByTheDegree$House;", true)
  | 1 => ("LetByTheDegree$Course", "warmth", "[I", true)
  | 2 => ("LetByTheDegree$Course", "heads", "[I", true)
  | 3 => ("LetByTheDegree$Course", "given", "[I", true)
  | 4 => ("LetByTheDegree$Course", "feverish", "I", false)
  | 5 => ("LetByTheDegree$Course", "leftOff", "I", false)
  | 6 => ("LetByTheDegree$Course", "melted", "I", false)
  | 7 => ("LetByTheDegree$Course", "gave", "I", false)
  | 8 => ("LetByTheDegree$Course", "fallen", "I", false)
  | 9 => ("LetByTheDegree$Course", "falls", "I", false)
  | 10 => ("LetByTheDegree$Course", "gaveLast", "I", false)
  | 11 => ("LetByTheDegree$Course", "fallenLast", "I", false)
  | 12 => ("LetByTheDegree$Course", "unlikeMelts", "I", false)
  | _ => ("LetByTheDegree$Course", "greatestMelts", "I", false)
def tyX0 : Nat → FieldType := fun k => match k with
  | 0 => .object "LetByTheDegree$House"
  | 1 => .array .int
  | 2 => .array .int
  | 3 => .array .int
  | 4 => .int
  | 5 => .int
  | 6 => .int
  | 7 => .int
  | 8 => .int
  | 9 => .int
  | 10 => .int
  | 11 => .int
  | 12 => .int
  | _ => .int
abbrev wsX00 : List Cond := u_ws RX0 TX0 14
theorem nmX0 : ∀ a, a < 14 → ∀ b, b < 14 → a ≠ b → (TX0 a).2.1 ≠ (TX0 b).2.1 := by decide +kernel
theorem tyX0_ok : ∀ k, k < 14 → parseFieldDescriptor (TX0 k).2.2.1 = some (tyX0 k) := by decide +kernel
def RX1 : String := "LetByTheDegree$House"
def TX1 : u_T := fun k => match k with
  | 0 => ("LetByTheDegree$House", "rule", "LLetByTheDegree$Rule;", true)
  | 1 => ("LetByTheDegree$House", "doings", "[I", true)
  | 2 => ("LetByTheDegree$House", "toldIce", "[I", true)
  | 3 => ("LetByTheDegree$House", "toldRooms", "[I", true)
  | 4 => ("LetByTheDegree$House", "toldDoings", "[I", true)
  | 5 => ("LetByTheDegree$House", "toldColumns", "I", false)
  | 6 => ("LetByTheDegree$House", "toldStoreys", "I", false)
  | 7 => ("LetByTheDegree$House", "toldLines", "I", false)
  | 8 => ("LetByTheDegree$House", "columns", "I", false)
  | 9 => ("LetByTheDegree$House", "storeys", "I", false)
  | 10 => ("LetByTheDegree$House", "rooms", "I", false)
  | 11 => ("LetByTheDegree$House", "persons", "I", false)
  | 12 => ("LetByTheDegree$House", "heat", "I", false)
  | _ => ("LetByTheDegree$House", "price", "I", false)
def tyX1 : Nat → FieldType := fun k => match k with
  | 0 => .object "LetByTheDegree$Rule"
  | 1 => .array .int
  | 2 => .array .int
  | 3 => .array .int
  | 4 => .array .int
  | 5 => .int
  | 6 => .int
  | 7 => .int
  | 8 => .int
  | 9 => .int
  | 10 => .int
  | 11 => .int
  | 12 => .int
  | _ => .int
abbrev wsX10 : List Cond := u_ws RX1 TX1 14
theorem nmX1 : ∀ a, a < 14 → ∀ b, b < 14 → a ≠ b → (TX1 a).2.1 ≠ (TX1 b).2.1 := by decide +kernel
theorem tyX1_ok : ∀ k, k < 14 → parseFieldDescriptor (TX1 k).2.2.1 = some (tyX1 k) := by decide +kernel
def RX2 : String := "LetByTheDegree$Lodging"
def TX2 : u_T := fun k => match k with
  | 0 => ("LetByTheDegree$Lodging", "house", "LLetByTheDegree$House;", true)
  | 1 => ("LetByTheDegree$Lodging", "course", "LLetByTheDegree$Course;", true)
  | 2 => ("LetByTheDegree$Lodging", "base", "LLetByTheDegree$State;", true)
  | 3 => ("LetByTheDegree$Lodging", "scratch", "LLetByTheDegree$State;", true)
  | 4 => ("LetByTheDegree$Lodging", "lodgers", "[I", true)
  | 5 => ("LetByTheDegree$Lodging", "rooms", "[I", true)
  | 6 => ("LetByTheDegree$Lodging", "best", "[I", true)
  | 7 => ("LetByTheDegree$Lodging", "codes", "[I", true)
  | 8 => ("LetByTheDegree$Lodging", "hoursByCode", "[I", true)
  | 9 => ("LetByTheDegree$Lodging", "size", "I", false)
  | 10 => ("LetByTheDegree$Lodging", "limit", "I", false)
  | 11 => ("LetByTheDegree$Lodging", "all", "Z", false)
  | 12 => ("LetByTheDegree$Lodging", "ways", "I", false)
  | _ => ("LetByTheDegree$Lodging", "most", "I", false)
def tyX2 : Nat → FieldType := fun k => match k with
  | 0 => .object "LetByTheDegree$House"
  | 1 => .object "LetByTheDegree$Course"
  | 2 => .object "LetByTheDegree$State"
  | 3 => .object "LetByTheDegree$State"
  | 4 => .array .int
  | 5 => .array .int
  | 6 => .array .int
  | 7 => .array .int
  | 8 => .array .int
  | 9 => .int
  | 10 => .int
  | 11 => .boolean
  | 12 => .int
  | _ => .int
abbrev wsX20 : List Cond := u_ws RX2 TX2 14
theorem nmX2 : ∀ a, a < 14 → ∀ b, b < 14 → a ≠ b → (TX2 a).2.1 ≠ (TX2 b).2.1 := by decide +kernel
theorem tyX2_ok : ∀ k, k < 14 → parseFieldDescriptor (TX2 k).2.2.1 = some (tyX2 k) := by decide +kernel
def RX3 : String := "LetByTheDegree$Past"
def TX3 : u_T := fun k => match k with
  | 0 => ("LetByTheDegree$Past", "done", "[LLetByTheDegree$State;", true)
  | 1 => ("LetByTheDegree$Past", "kept", "[LLetByTheDegree$State;", true)
  | 2 => ("LetByTheDegree$Past", "keptPersons", "[I", true)
  | 3 => ("LetByTheDegree$Past", "next", "I", false)
  | _ => ("LetByTheDegree$Past", "size", "I", false)
def tyX3 : Nat → FieldType := fun k => match k with
  | 0 => .array (.object "LetByTheDegree$State")
  | 1 => .array (.object "LetByTheDegree$State")
  | 2 => .array .int
  | 3 => .int
  | _ => .int
abbrev wsX30 : List Cond := u_ws RX3 TX3 5
theorem nmX3 : ∀ a, a < 5 → ∀ b, b < 5 → a ≠ b → (TX3 a).2.1 ≠ (TX3 b).2.1 := by decide +kernel
theorem tyX3_ok : ∀ k, k < 5 → parseFieldDescriptor (TX3 k).2.2.1 = some (tyX3 k) := by decide +kernel
def RX4 : String := "LetByTheDegree$Rule"
def TX4 : u_T := fun k => match k with
  | 0 => ("LetByTheDegree$Rule", "code", "[I", true)
  | 1 => ("LetByTheDegree$Rule", "stack", "[I", true)
  | 2 => ("LetByTheDegree$Rule", "facts", "[I", true)
  | _ => ("LetByTheDegree$Rule", "size", "I", false)
def tyX4 : Nat → FieldType := fun k => match k with
  | 0 => .array .int
  | 1 => .array .int
  | 2 => .array .int
  | _ => .int
abbrev wsX40 : List Cond := u_ws RX4 TX4 4
theorem nmX4 : ∀ a, a < 4 → ∀ b, b < 4 → a ≠ b → (TX4 a).2.1 ≠ (TX4 b).2.1 := by decide +kernel
theorem tyX4_ok : ∀ k, k < 4 → parseFieldDescriptor (TX4 k).2.2.1 = some (tyX4 k) := by decide +kernel
def RX5 : String := "LetByTheDegree$RuleReader"
def TX5 : u_T := fun k => match k with
  | 0 => ("LetByTheDegree$RuleReader", "text", "LLetByTheDegree$Signs;", true)
  | 1 => ("LetByTheDegree$RuleReader", "code", "[I", true)
  | _ => ("LetByTheDegree$RuleReader", "size", "I", false)
def tyX5 : Nat → FieldType := fun k => match k with
  | 0 => .object "LetByTheDegree$Signs"
  | 1 => .array .int
  | _ => .int
abbrev wsX50 : List Cond := u_ws RX5 TX5 3
theorem nmX5 : ∀ a, a < 3 → ∀ b, b < 3 → a ≠ b → (TX5 a).2.1 ≠ (TX5 b).2.1 := by decide +kernel
theorem tyX5_ok : ∀ k, k < 3 → parseFieldDescriptor (TX5 k).2.2.1 = some (tyX5 k) := by decide +kernel
def RX6 : String := "LetByTheDegree$Signs"
def TX6 : u_T := fun k => match k with
  | 0 => ("LetByTheDegree$Signs", "signs", "[C", true)
  | 1 => ("LetByTheDegree$Signs", "length", "I", false)
  | 2 => ("LetByTheDegree$Signs", "at", "I", false)
  | _ => ("LetByTheDegree$Signs", "stop", "I", false)
def tyX6 : Nat → FieldType := fun k => match k with
  | 0 => .array .char
  | 1 => .int
  | 2 => .int
  | _ => .int
abbrev wsX60 : List Cond := u_ws RX6 TX6 4
theorem nmX6 : ∀ a, a < 4 → ∀ b, b < 4 → a ≠ b → (TX6 a).2.1 ≠ (TX6 b).2.1 := by decide +kernel
theorem tyX6_ok : ∀ k, k < 4 → parseFieldDescriptor (TX6 k).2.2.1 = some (tyX6 k) := by decide +kernel
def RX7 : String := "LetByTheDegree$Silence"
def TX7 : u_T := fun k => match k with
  | 0 => ("LetByTheDegree$Silence", "house", "LLetByTheDegree$House;", true)
  | 1 => ("LetByTheDegree$Silence", "course", "LLetByTheDegree$Course;", true)
  | 2 => ("LetByTheDegree$Silence", "base", "LLetByTheDegree$State;", true)
  | 3 => ("LetByTheDegree$Silence", "scratch", "LLetByTheDegree$State;", true)
  | 4 => ("LetByTheDegree$Silence", "hours", "I", false)
  | _ => ("LetByTheDegree$Silence", "leftOff", "I", false)
def tyX7 : Nat → FieldType := fun k => match k with
  | 0 => .object "LetByTheDegree$House"
  | 1 => .object "LetByTheDegree$Course"
  | 2 => .object "LetByTheDegree$State"
  | 3 => .object "LetByTheDegree$State"
  | 4 => .int
  | _ => .int
abbrev wsX70 : List Cond := u_ws RX7 TX7 6
theorem nmX7 : ∀ a, a < 6 → ∀ b, b < 6 → a ≠ b → (TX7 a).2.1 ≠ (TX7 b).2.1 := by decide +kernel
theorem tyX7_ok : ∀ k, k < 6 → parseFieldDescriptor (TX7 k).2.2.1 = some (tyX7 k) := by decide +kernel
def RX8 : String := "LetByTheDegree$State"
def TX8 : u_T := fun k => match k with
  | 0 => ("LetByTheDegree$State", "ice", "[I", true)
  | 1 => ("LetByTheDegree$State", "water", "[I", true)
  | 2 => ("LetByTheDegree$State", "where", "[I", true)
  | 3 => ("LetByTheDegree$State", "owes", "[I", true)
  | 4 => ("LetByTheDegree$State", "fell", "[I", true)
  | 5 => ("LetByTheDegree$State", "pond", "I", false)
  | 6 => ("LetByTheDegree$State", "stove", "I", false)
  | 7 => ("LetByTheDegree$State", "now", "I", false)
  | _ => ("LetByTheDegree$State", "frost", "I", false)
def tyX8 : Nat → FieldType := fun k => match k with
  | 0 => .array .int
  | 1 => .array .int
  | 2 => .array .int
  | 3 => .array .int
  | 4 => .array .int
  | 5 => .int
  | 6 => .int
  | 7 => .int
  | _ => .int
abbrev wsX80 : List Cond := u_ws RX8 TX8 9
theorem nmX8 : ∀ a, a < 9 → ∀ b, b < 9 → a ≠ b → (TX8 a).2.1 ≠ (TX8 b).2.1 := by decide +kernel
theorem tyX8_ok : ∀ k, k < 9 → parseFieldDescriptor (TX8 k).2.2.1 = some (tyX8 k) := by decide +kernel
def RX9 : String := "LetByTheDegree$StoveWay"
def TX9 : u_T := fun k => match k with
  | 0 => ("LetByTheDegree$StoveWay", "house", "LLetByTheDegree$House;", true)
  | 1 => ("LetByTheDegree$StoveWay", "course", "LLetByTheDegree$Course;", true)
  | 2 => ("LetByTheDegree$StoveWay", "states", "[LLetByTheDegree$State;", true)
  | 3 => ("LetByTheDegree$StoveWay", "rooms", "[I", true)
  | 4 => ("LetByTheDegree$StoveWay", "best", "[I", true)
  | 5 => ("LetByTheDegree$StoveWay", "size", "I", false)
  | _ => ("LetByTheDegree$StoveWay", "least", "I", false)
def tyX9 : Nat → FieldType := fun k => match k with
  | 0 => .object "LetByTheDegree$House"
  | 1 => .object "LetByTheDegree$Course"
  | 2 => .array (.object "LetByTheDegree$State")
  | 3 => .array .int
  | 4 => .array .int
  | 5 => .int
  | _ => .int
abbrev wsX90 : List Cond := u_ws RX9 TX9 7
theorem nmX9 : ∀ a, a < 7 → ∀ b, b < 7 → a ≠ b → (TX9 a).2.1 ≠ (TX9 b).2.1 := by decide +kernel
theorem tyX9_ok : ∀ k, k < 7 → parseFieldDescriptor (TX9 k).2.2.1 = some (tyX9 k) := by decide +kernel
def RX10 : String := "LetByTheDegree$Thaws"
def TX10 : u_T := fun k => match k with
  | 0 => ("LetByTheDegree$Thaws", "house", "LLetByTheDegree$House;", true)
  | 1 => ("LetByTheDegree$Thaws", "course", "LLetByTheDegree$Course;", true)
  | 2 => ("LetByTheDegree$Thaws", "states", "[LLetByTheDegree$State;", true)
  | 3 => ("LetByTheDegree$Thaws", "weights", "[J", true)
  | 4 => ("LetByTheDegree$Thaws", "size", "I", false)
  | 5 => ("LetByTheDegree$Thaws", "tenths", "I", false)
  | 6 => ("LetByTheDegree$Thaws", "frost", "I", false)
  | _ => ("LetByTheDegree$Thaws", "floors", "I", false)
def tyX10 : Nat → FieldType := fun k => match k with
  | 0 => .object "LetByTheDegree$House"
  | 1 => .object "LetByTheDegree$Course"
  | 2 => .array (.object "LetByTheDegree$State")
  | 3 => .array .long
  | 4 => .int
  | 5 => .int
  | 6 => .int
  | _ => .int
abbrev wsX100 : List Cond := u_ws RX10 TX10 8
theorem nmX10 : ∀ a, a < 8 → ∀ b, b < 8 → a ≠ b → (TX10 a).2.1 ≠ (TX10 b).2.1 := by decide +kernel
theorem tyX10_ok : ∀ k, k < 8 → parseFieldDescriptor (TX10 k).2.2.1 = some (tyX10 k) := by decide +kernel
def RX11 : String := "LetByTheDegree$Winter"
def TX11 : u_T := fun k => match k with
  | 0 => ("LetByTheDegree$Winter", "text", "LLetByTheDegree$Signs;", true)
  | 1 => ("LetByTheDegree$Winter", "kind", "[I", true)
  | 2 => ("LetByTheDegree$Winter", "who", "[I", true)
  | 3 => ("LetByTheDegree$Winter", "value", "[I", true)
  | _ => ("LetByTheDegree$Winter", "size", "I", false)
def tyX11 : Nat → FieldType := fun k => match k with
  | 0 => .object "LetByTheDegree$Signs"
  | 1 => .array .int
  | 2 => .array .int
  | 3 => .array .int
  | _ => .int
abbrev wsX110 : List Cond := u_ws RX11 TX11 5
theorem nmX11 : ∀ a, a < 5 → ∀ b, b < 5 → a ≠ b → (TX11 a).2.1 ≠ (TX11 b).2.1 := by decide +kernel
theorem tyX11_ok : ∀ k, k < 5 → parseFieldDescriptor (TX11 k).2.2.1 = some (tyX11 k) := by decide +kernel
def RX12 : String := "LetByTheDegree"
def TX12 : u_T := fun k => match k with
  | 0 => ("LetByTheDegree", "text", "LLetByTheDegree$Signs;", true)
  | 1 => ("LetByTheDegree", "house", "LLetByTheDegree$House;", true)
  | 2 => ("LetByTheDegree", "state", "LLetByTheDegree$State;", true)
  | 3 => ("LetByTheDegree", "scratch", "LLetByTheDegree$State;", true)
  | 4 => ("LetByTheDegree", "course", "LLetByTheDegree$Course;", true)
  | 5 => ("LetByTheDegree", "past", "LLetByTheDegree$Past;", true)
  | 6 => ("LetByTheDegree", "ruleReader", "LLetByTheDegree$RuleReader;", true)
  | 7 => ("LetByTheDegree", "acts", "LLetByTheDegree$Winter;", true)
  | 8 => ("LetByTheDegree", "lodging", "LLetByTheDegree$Lodging;", true)
  | 9 => ("LetByTheDegree", "silence", "LLetByTheDegree$Silence;", true)
  | 10 => ("LetByTheDegree", "stoveWay", "LLetByTheDegree$StoveWay;", true)
  | 11 => ("LetByTheDegree", "thaws", "LLetByTheDegree$Thaws;", true)
  | 12 => ("LetByTheDegree", "numbers", "[J", true)
  | _ => ("LetByTheDegree", "numbersTold", "I", false)
def tyX12 : Nat → FieldType := fun k => match k with
  | 0 => .object "LetByTheDegree$Signs"
  | 1 => .object "LetByTheDegree$House"
  | 2 => .object "LetByTheDegree$State"
  | 3 => .object "LetByTheDegree$State"
  | 4 => .object "LetByTheDegree$Course"
  | 5 => .object "LetByTheDegree$Past"
  | 6 => .object "LetByTheDegree$RuleReader"
  | 7 => .object "LetByTheDegree$Winter"
  | 8 => .object "LetByTheDegree$Lodging"
  | 9 => .object "LetByTheDegree$Silence"
  | 10 => .object "LetByTheDegree$StoveWay"
  | 11 => .object "LetByTheDegree$Thaws"
  | 12 => .array .long
  | _ => .int
abbrev wsX120 : List Cond := u_ws RX12 TX12 14
theorem nmX12 : ∀ a, a < 14 → ∀ b, b < 14 → a ≠ b → (TX12 a).2.1 ≠ (TX12 b).2.1 := by decide +kernel
theorem tyX12_ok : ∀ k, k < 14 → parseFieldDescriptor (TX12 k).2.2.1 = some (tyX12 k) := by decide +kernel
def RX13 : String := "LetByTheDegreeModel"
def TX13 : u_T := fun k => match k with
  | 0 => ("LetByTheDegreeModel", "now", "[I", true)
  | 1 => ("LetByTheDegreeModel", "columns", "I", false)
  | 2 => ("LetByTheDegreeModel", "storeys", "I", false)
  | 3 => ("LetByTheDegreeModel", "people", "I", false)
  | 4 => ("LetByTheDegreeModel", "warm", "[I", true)
  | 5 => ("LetByTheDegreeModel", "heat", "I", false)
  | 6 => ("LetByTheDegreeModel", "price", "I", false)
  | 7 => ("LetByTheDegreeModel", "text", "[B", true)
  | 8 => ("LetByTheDegreeModel", "typed", "I", false)
  | 9 => ("LetByTheDegreeModel", "row", "[J", true)
  | 10 => ("LetByTheDegreeModel", "rowMany", "I", false)
  | 11 => ("LetByTheDegreeModel", "thrown", "I", false)
  | 12 => ("LetByTheDegreeModel", "read", "[B", false)
  | 13 => ("LetByTheDegreeModel", "length", "I", false)
  | 14 => ("LetByTheDegreeModel", "top", "I", false)
  | 15 => ("LetByTheDegreeModel", "at", "I", false)
  | 16 => ("LetByTheDegreeModel", "wrong", "I", false)
  | 17 => ("LetByTheDegreeModel", "newIce", "[I", true)
  | 18 => ("LetByTheDegreeModel", "comes", "[I", true)
  | 19 => ("LetByTheDegreeModel", "rule", "[B", true)
  | 20 => ("LetByTheDegreeModel", "ruleSize", "I", false)
  | 21 => ("LetByTheDegreeModel", "isAsked", "Z", false)
  | 22 => ("LetByTheDegreeModel", "asked", "[I", true)
  | 23 => ("LetByTheDegreeModel", "fevered", "I", false)
  | 24 => ("LetByTheDegreeModel", "undos", "[I", true)
  | 25 => ("LetByTheDegreeModel", "undoMany", "I", false)
  | 26 => ("LetByTheDegreeModel", "aside", "[I", true)
  | 27 => ("LetByTheDegreeModel", "melted", "[I", true)
  | 28 => ("LetByTheDegreeModel", "meltedAll", "I", false)
  | 29 => ("LetByTheDegreeModel", "gave", "I", false)
  | 30 => ("LetByTheDegreeModel", "fell", "I", false)
  | 31 => ("LetByTheDegreeModel", "fellMany", "I", false)
  | 32 => ("LetByTheDegreeModel", "meltedLong", "I", false)
  | 33 => ("LetByTheDegreeModel", "gaveLong", "I", false)
  | 34 => ("LetByTheDegreeModel", "fellLong", "I", false)
  | 35 => ("LetByTheDegreeModel", "fellManyLong", "I", false)
  | 36 => ("LetByTheDegreeModel", "acts", "[I", true)
  | 37 => ("LetByTheDegreeModel", "then", "[I", true)
  | 38 => ("LetByTheDegreeModel", "lodgers", "[I", true)
  | 39 => ("LetByTheDegreeModel", "lodgerMany", "I", false)
  | 40 => ("LetByTheDegreeModel", "rooms", "[I", true)
  | 41 => ("LetByTheDegreeModel", "bestRooms", "[I", true)
  | 42 => ("LetByTheDegreeModel", "ways", "I", false)
  | 43 => ("LetByTheDegreeModel", "longestOne", "I", false)
  | 44 => ("LetByTheDegreeModel", "sums", "[I", true)
  | 45 => ("LetByTheDegreeModel", "isMelt", "[Z", true)
  | 46 => ("LetByTheDegreeModel", "carried", "[I", true)
  | 47 => ("LetByTheDegreeModel", "wayOf", "[I", true)
  | 48 => ("LetByTheDegreeModel", "bestWay", "[I", true)
  | 49 => ("LetByTheDegreeModel", "leastMelted", "I", false)
  | 50 => ("LetByTheDegreeModel", "gets", "[I", true)
  | 51 => ("LetByTheDegreeModel", "gaveOf", "[I", true)
  | 52 => ("LetByTheDegreeModel", "came", "I", false)
  | 53 => ("LetByTheDegreeModel", "kept", "[I", true)
  | 54 => ("LetByTheDegreeModel", "isKept", "[Z", true)
  | _ => ("LetByTheDegreeModel", "keptCame", "[I", true)
def tyX13 : Nat → FieldType := fun k => match k with
  | 0 => .array .int
  | 1 => .int
  | 2 => .int
  | 3 => .int
  | 4 => .array .int
  | 5 => .int
  | 6 => .int
  | 7 => .array .byte
  | 8 => .int
  | 9 => .array .long
  | 10 => .int
  | 11 => .int
  | 12 => .array .byte
  | 13 => .int
  | 14 => .int
  | 15 => .int
  | 16 => .int
  | 17 => .array .int
  | 18 => .array .int
  | 19 => .array .byte
  | 20 => .int
  | 21 => .boolean
  | 22 => .array .int
  | 23 => .int
  | 24 => .array .int
  | 25 => .int
  | 26 => .array .int
  | 27 => .array .int
  | 28 => .int
  | 29 => .int
  | 30 => .int
  | 31 => .int
  | 32 => .int
  | 33 => .int
  | 34 => .int
  | 35 => .int
  | 36 => .array .int
  | 37 => .array .int
  | 38 => .array .int
  | 39 => .int
  | 40 => .array .int
  | 41 => .array .int
  | 42 => .int
  | 43 => .int
  | 44 => .array .int
  | 45 => .array .boolean
  | 46 => .array .int
  | 47 => .array .int
  | 48 => .array .int
  | 49 => .int
  | 50 => .array .int
  | 51 => .array .int
  | 52 => .int
  | 53 => .array .int
  | 54 => .array .boolean
  | _ => .array .int
abbrev wsX130 : List Cond := u_ws RX13 TX13 56
theorem nmX13 : ∀ a, a < 56 → ∀ b, b < 56 → a ≠ b → (TX13 a).2.1 ≠ (TX13 b).2.1 := by decide +kernel
theorem tyX13_ok : ∀ k, k < 56 → parseFieldDescriptor (TX13 k).2.2.1 = some (tyX13 k) := by decide +kernel
abbrev vwCl : List vw_C := [(RX0, TX0, 14), (RX1, TX1, 14), (RX2, TX2, 14), (RX3, TX3, 5), (RX4, TX4, 4), (RX5, TX5, 3), (RX6, TX6, 4), (RX7, TX7, 6), (RX8, TX8, 9), (RX9, TX9, 7), (RX10, TX10, 8), (RX11, TX11, 5), (RX12, TX12, 14), (RX13, TX13, 56)]
/-- the words that stay whatever the heap holds -/
def a_tb : List Cond := lw_tbl.filter goodWord
/-- the words that speak of a nest: they hold from a state to any that comes of it, too -/
def a_isN : Cond → Bool
  | .fieldLinkNest .. => true
  | .methodLinkNest .. => true
  | _ => false
def a_nb : List Cond := lw_tbl.filter a_isN
theorem a_in {k i : Nat} {w : Cond} (h : (a_part k)[i]? = some w) (hg : goodWord w = true) : w ∈ a_tb := List.mem_filter.mpr ⟨List.mem_append_right _ (a_part_in k (List.mem_of_getElem? h)), hg⟩
theorem a_inN {k i : Nat} {w : Cond} (h : (a_part k)[i]? = some w) (hg : a_isN w = true) : w ∈ a_nb := List.mem_filter.mpr ⟨List.mem_append_right _ (a_part_in k (List.mem_of_getElem? h)), hg⟩
theorem a_inG {k i : Nat} {w : Cond} (h : g_nth (a_part k) i = some w) (hg : goodWord w = true) : w ∈ a_tb := a_in ((g_nth_eq _ _).symm.trans h) hg
theorem a_inNG {k i : Nat} {w : Cond} (h : g_nth (a_part k) i = some w) (hg : a_isN w = true) : w ∈ a_nb := a_inN ((g_nth_eq _ _).symm.trans h) hg
/-- where the words of the fields stand, by kinds of objects -/
def a_lay : List (List (Nat × Nat)) := [[(2, 5), (2, 7), (2, 9), (2, 11), (2, 13), (2, 15), (2, 17), (2, 19), (2, 21), (2, 23), (2, 25), (2, 27), (2, 29), (2, 31)],
  [(1, 122), (1, 124), (1, 126), (1, 128), (1, 130), (1, 132), (1, 134), (1, 136), (1, 138), (1, 140), (1, 142), (1, 144), (1, 146), (1, 148)],
  [(2, 130), (2, 132), (2, 134), (2, 136), (2, 138), (2, 140), (2, 142), (2, 144), (2, 146), (2, 148), (2, 150), (2, 152), (2, 154), (2, 156)],
  [(2, 49), (2, 51), (2, 53), (2, 55), (2, 57)],
  [(1, 78), (1, 80), (1, 82), (1, 84)],
  [(2, 71), (2, 73), (2, 75)],
  [(1, 48), (1, 50), (1, 52), (1, 54)],
  [(2, 174), (2, 176), (2, 178), (2, 180), (2, 182), (2, 184)],
  [(1, 193), (1, 195), (1, 197), (1, 199), (1, 201), (1, 203), (1, 205), (1, 207), (1, 209)],
  [(2, 204), (2, 206), (2, 208), (2, 210), (2, 212), (2, 214), (2, 216)],
  [(2, 236), (2, 238), (3, 0), (3, 2), (3, 4), (3, 6), (3, 8), (3, 10)],
  [(2, 93), (2, 95), (2, 97), (2, 99), (2, 101)],
  [(3, 28), (3, 30), (3, 32), (3, 34), (3, 36), (3, 38), (3, 40), (3, 42), (3, 44), (3, 46), (3, 48), (3, 50), (3, 52), (3, 54)],
  [(6, 198), (6, 200), (6, 202), (6, 204), (6, 206), (6, 208), (6, 210), (6, 212), (6, 214), (6, 216), (6, 218), (6, 220), (6, 222), (6, 224), (6, 226), (6, 228), (6, 230), (6, 232), (6, 234), (6, 236), (6, 238), (7, 0), (7, 2), (7, 4), (7, 6), (7, 8), (7, 10), (7, 12), (7, 14), (7, 16), (7, 18), (7, 20), (7, 22), (7, 24), (7, 26), (7, 28), (7, 30), (7, 32), (7, 34), (7, 36), (7, 38), (7, 40), (7, 42), (7, 44), (7, 46), (7, 48), (7, 50), (7, 52), (7, 54), (7, 56), (7, 58), (7, 60), (7, 62), (7, 64), (7, 66), (7, 68)]]
/-- the names of the classes by number -/
def a_R : Nat → String := fun k => match k with
  | 0 => RX0
  | 1 => RX1
  | 2 => RX2
  | 3 => RX3
  | 4 => RX4
  | 5 => RX5
  | 6 => RX6
  | 7 => RX7
  | 8 => RX8
  | 9 => RX9
  | 10 => RX10
  | 11 => RX11
  | 12 => RX12
  | 13 => RX13
  | 14 => "LetByTheDegreeLaw"
  | 15 => "java/lang/Math"
  | 16 => "java/lang/Integer"
  | _ => "java/lang/Long"
def y_pl : List (Nat × Nat) := [(1, 22), (1, 23), (1, 24), (1, 25), (1, 33), (1, 34), (1, 35), (1, 41), (1, 63), (1, 69), (1, 156), (1, 217), (2, 39), (2, 65), (2, 83), (2, 109), (2, 164), (2, 192), (2, 224), (6, 44), (6, 49), (6, 50), (6, 51), (6, 52), (6, 53), (6, 54), (6, 55), (6, 56), (6, 57), (6, 58), (6, 59), (6, 60), (6, 61), (6, 62), (6, 63), (6, 64), (6, 65), (6, 66), (6, 67), (6, 68), (6, 69), (6, 70), (6, 71), (6, 72), (6, 73), (6, 74), (6, 75), (6, 76), (6, 77), (6, 78), (6, 79), (6, 80), (6, 81), (6, 82), (6, 83), (6, 84), (6, 85), (6, 86), (6, 87), (6, 89), (6, 90), (6, 91), (6, 92), (6, 93), (6, 94), (6, 95), (6, 96), (6, 97), (6, 98), (6, 99), (6, 100), (6, 101), (6, 102), (6, 103), (6, 104), (6, 105), (6, 106), (6, 107), (6, 108), (6, 109), (6, 110), (6, 111), (6, 112), (6, 113), (6, 141), (9, 0), (9, 15), (9, 16)]
def a_ins : List (Nat × Nat) := [(1, 213), (1, 59), (2, 105), (2, 35), (1, 65), (2, 61), (1, 37), (2, 160), (1, 152), (2, 188), (2, 220), (2, 79), (1, 29), (6, 137)]
theorem a_ins_ok : (vwCl.zip a_ins).all (fun z => decide (g_nth (a_part z.2.1) z.2.2 = some (Cond.instantiable z.1.1 z.1.2.2)) && goodWord (Cond.instantiable z.1.1 z.1.2.2)) = true := by decide +kernel
theorem a_ins_in : ∀ r ∈ vwCl, Cond.instantiable r.1 r.2.2 ∈ a_tb := fun r hr => by
  obtain ⟨i, hi⟩ := List.mem_iff_getElem?.mp hr
  have hl : i < a_ins.length := (List.getElem?_eq_some_iff.mp hi).1
  have ha : a_ins[i]? = some a_ins[i] := List.getElem?_eq_getElem hl
  have hz0 : (vwCl.zip a_ins)[i]? = some (r, a_ins[i]) := List.getElem?_zip_eq_some.mpr ⟨hi, ha⟩
  have hz := List.all_eq_true.mp a_ins_ok _ (List.mem_of_getElem? hz0)
  obtain ⟨h1, h2⟩ := Bool.and_eq_true _ _ |>.mp hz
  exact a_inG (of_decide_eq_true h1) h2
/-- a field link: where its word stands, the class, the entry, the kind, the place of the field, by the nest or not -/
def a_fl_0 : List (Nat × Nat × Nat × Nat × Nat × Nat × Bool) := [(1, 42, 6, 11, 6, 0, false), (1, 43, 6, 15, 6, 1, false), (1, 46, 6, 19, 6, 2, false), (1, 47, 6, 22, 6, 3, false), (1, 74, 4, 9, 4, 0, false), (1, 75, 4, 13, 4, 1, false), (1, 76, 4, 16, 4, 2, false), (1, 77, 4, 22, 4, 3, false), (1, 88, 1, 12, 1, 0, false), (1, 91, 1, 18, 1, 1, false), (1, 95, 1, 22, 1, 2, false), (1, 96, 1, 25, 1, 3, false), (1, 97, 1, 28, 1, 4, false), (1, 98, 1, 78, 1, 5, false), (1, 99, 1, 81, 1, 6, false), (1, 101, 1, 111, 1, 7, false)]
def a_fl_1 : List (Nat × Nat × Nat × Nat × Nat × Nat × Bool) := [(1, 102, 1, 38, 1, 8, false), (1, 106, 1, 41, 1, 9, false), (1, 108, 1, 62, 1, 10, false), (1, 112, 1, 44, 1, 11, false), (1, 116, 1, 31, 1, 12, false), (1, 119, 1, 35, 1, 13, false), (1, 157, 8, 9, 8, 0, false), (1, 161, 8, 15, 8, 1, false), (1, 164, 8, 18, 8, 2, false), (1, 170, 8, 21, 8, 3, false), (1, 174, 8, 24, 8, 4, false), (1, 178, 8, 40, 8, 5, false), (1, 181, 8, 27, 8, 6, false), (1, 185, 8, 43, 8, 7, false), (1, 189, 8, 31, 8, 8, false), (1, 218, 0, 25, 0, 0, false)]
def a_fl_2 : List (Nat × Nat × Nat × Nat × Nat × Nat × Bool) := [(1, 219, 0, 9, 0, 1, false), (1, 220, 0, 15, 0, 2, false), (1, 221, 0, 18, 0, 3, false), (1, 223, 0, 21, 0, 4, false), (1, 226, 0, 41, 0, 5, false), (1, 227, 0, 29, 0, 6, false), (1, 230, 0, 32, 0, 7, false), (1, 232, 0, 35, 0, 8, false), (1, 234, 0, 38, 0, 9, false), (1, 237, 0, 137, 0, 10, false), (1, 239, 0, 148, 0, 11, false), (2, 1, 0, 120, 0, 12, false), (2, 3, 0, 107, 0, 13, false), (2, 43, 3, 13, 3, 0, false), (2, 44, 3, 17, 3, 1, false), (2, 45, 3, 20, 3, 2, false)]
def a_fl_3 : List (Nat × Nat × Nat × Nat × Nat × Nat × Bool) := [(2, 46, 3, 25, 3, 3, false), (2, 47, 3, 33, 3, 4, false), (2, 66, 5, 17, 5, 0, false), (2, 67, 5, 11, 5, 1, false), (2, 69, 5, 27, 5, 2, false), (2, 84, 11, 21, 11, 0, false), (2, 85, 11, 11, 11, 1, false), (2, 87, 11, 15, 11, 2, false), (2, 89, 11, 18, 11, 3, false), (2, 91, 11, 31, 11, 4, false), (2, 112, 2, 37, 2, 0, false), (2, 113, 2, 41, 2, 1, false), (2, 114, 2, 14, 2, 2, false), (2, 115, 2, 18, 2, 3, false), (2, 116, 2, 21, 2, 4, false), (2, 117, 2, 25, 2, 5, false)]
def a_fl_4 : List (Nat × Nat × Nat × Nat × Nat × Nat × Bool) := [(2, 118, 2, 28, 2, 6, false), (2, 120, 2, 31, 2, 7, false), (2, 121, 2, 34, 2, 8, false), (2, 122, 2, 49, 2, 9, false), (2, 124, 2, 61, 2, 10, false), (2, 125, 2, 64, 2, 11, false), (2, 126, 2, 68, 2, 12, false), (2, 128, 2, 71, 2, 13, false), (2, 167, 7, 21, 7, 0, false), (2, 168, 7, 25, 7, 1, false), (2, 169, 7, 12, 7, 2, false), (2, 170, 7, 18, 7, 3, false), (2, 171, 7, 33, 7, 4, false), (2, 172, 7, 37, 7, 5, false), (2, 195, 9, 24, 9, 0, false), (2, 196, 9, 28, 9, 1, false)]
def a_fl_5 : List (Nat × Nat × Nat × Nat × Nat × Nat × Bool) := [(2, 197, 9, 13, 9, 2, false), (2, 198, 9, 17, 9, 3, false), (2, 199, 9, 21, 9, 4, false), (2, 201, 9, 39, 9, 5, false), (2, 202, 9, 43, 9, 6, false), (2, 227, 10, 19, 10, 0, false), (2, 228, 10, 23, 10, 1, false), (2, 229, 10, 11, 10, 2, false), (2, 230, 10, 15, 10, 3, false), (2, 232, 10, 36, 10, 4, false), (2, 233, 10, 40, 10, 5, false), (2, 234, 10, 46, 10, 6, false), (2, 235, 10, 53, 10, 7, false), (3, 14, 12, 12, 12, 0, false), (3, 15, 12, 19, 12, 1, false), (3, 16, 12, 26, 12, 2, false)]
def a_fl_6 : List (Nat × Nat × Nat × Nat × Nat × Nat × Bool) := [(3, 17, 12, 30, 12, 3, false), (3, 18, 12, 38, 12, 4, false), (3, 19, 12, 45, 12, 5, false), (3, 20, 12, 54, 12, 6, false), (3, 21, 12, 61, 12, 7, false), (3, 22, 12, 70, 12, 8, false), (3, 23, 12, 77, 12, 9, false), (3, 24, 12, 84, 12, 10, false), (3, 25, 12, 91, 12, 11, false), (3, 26, 12, 95, 12, 12, false), (3, 27, 12, 453, 12, 13, false), (6, 142, 13, 9, 13, 0, false), (6, 143, 13, 111, 13, 1, false), (6, 144, 13, 114, 13, 2, false), (6, 145, 13, 117, 13, 3, false), (6, 146, 13, 13, 13, 4, false)]
def a_fl_7 : List (Nat × Nat × Nat × Nat × Nat × Nat × Bool) := [(6, 147, 13, 16, 13, 5, false), (6, 148, 13, 20, 13, 6, false), (6, 149, 13, 23, 13, 7, false), (6, 150, 13, 120, 13, 8, false), (6, 151, 13, 27, 13, 9, false), (6, 152, 13, 104, 13, 10, false), (6, 153, 13, 101, 13, 11, false), (6, 154, 13, 123, 13, 12, false), (6, 155, 13, 126, 13, 13, false), (6, 156, 13, 129, 13, 14, false), (6, 157, 13, 132, 13, 15, false), (6, 158, 13, 135, 13, 16, false), (6, 159, 13, 31, 13, 17, false), (6, 160, 13, 34, 13, 18, false), (6, 161, 13, 37, 13, 19, false), (6, 162, 13, 202, 13, 20, false)]
def a_fl_8 : List (Nat × Nat × Nat × Nat × Nat × Nat × Bool) := [(6, 163, 13, 198, 13, 21, false), (6, 164, 13, 40, 13, 22, false), (6, 165, 13, 43, 13, 23, false), (6, 166, 13, 46, 13, 24, false), (6, 167, 13, 170, 13, 25, false), (6, 168, 13, 49, 13, 26, false), (6, 169, 13, 52, 13, 27, false), (6, 170, 13, 273, 13, 28, false), (6, 171, 13, 276, 13, 29, false), (6, 172, 13, 279, 13, 30, false), (6, 173, 13, 282, 13, 31, false), (6, 174, 13, 289, 13, 32, false), (6, 175, 13, 292, 13, 33, false), (6, 176, 13, 295, 13, 34, false), (6, 177, 13, 298, 13, 35, false), (6, 178, 13, 55, 13, 36, false)]
def a_fl_9 : List (Nat × Nat × Nat × Nat × Nat × Nat × Bool) := [(6, 179, 13, 58, 13, 37, false), (6, 180, 13, 61, 13, 38, false), (6, 181, 13, 345, 13, 39, false), (6, 182, 13, 64, 13, 40, false), (6, 183, 13, 67, 13, 41, false), (6, 184, 13, 348, 13, 42, false), (6, 185, 13, 351, 13, 43, false), (6, 186, 13, 70, 13, 44, false), (6, 187, 13, 73, 13, 45, false), (6, 188, 13, 77, 13, 46, false), (6, 189, 13, 80, 13, 47, false), (6, 190, 13, 83, 13, 48, false), (6, 191, 13, 393, 13, 49, false), (6, 192, 13, 86, 13, 50, false), (6, 193, 13, 89, 13, 51, false), (6, 194, 13, 180, 13, 52, false)]
def a_fl_10 : List (Nat × Nat × Nat × Nat × Nat × Nat × Bool) := [(6, 195, 13, 92, 13, 53, false), (6, 196, 13, 95, 13, 54, false), (6, 197, 13, 98, 13, 55, false), (1, 44, 12, 103, 6, 1, true), (1, 45, 12, 117, 6, 2, true), (1, 89, 12, 140, 1, 0, true), (1, 90, 0, 88, 1, 0, true), (1, 92, 0, 44, 1, 1, true), (1, 93, 7, 72, 1, 1, true), (1, 94, 12, 231, 1, 1, true), (1, 100, 12, 133, 1, 7, true), (1, 103, 7, 40, 1, 8, true), (1, 104, 2, 74, 1, 8, true), (1, 105, 12, 349, 1, 8, true), (1, 107, 12, 352, 1, 9, true), (1, 109, 0, 123, 1, 10, true)]
def a_fl_11 : List (Nat × Nat × Nat × Nat × Nat × Nat × Bool) := [(1, 110, 12, 450, 1, 10, true), (1, 111, 2, 53, 1, 11, true), (1, 113, 7, 69, 1, 11, true), (1, 114, 0, 65, 1, 11, true), (1, 115, 12, 369, 1, 11, true), (1, 117, 0, 62, 1, 12, true), (1, 118, 12, 222, 1, 12, true), (1, 120, 12, 228, 1, 13, true), (1, 121, 0, 163, 1, 13, true), (1, 158, 12, 174, 8, 0, true), (1, 159, 1, 69, 8, 0, true), (1, 160, 0, 92, 8, 0, true), (1, 162, 12, 177, 8, 1, true), (1, 163, 0, 95, 8, 1, true), (1, 165, 2, 58, 8, 2, true), (1, 166, 7, 85, 8, 2, true)]
def a_fl_12 : List (Nat × Nat × Nat × Nat × Nat × Nat × Bool) := [(1, 167, 1, 47, 8, 2, true), (1, 168, 12, 200, 8, 2, true), (1, 169, 0, 157, 8, 2, true), (1, 171, 12, 203, 8, 3, true), (1, 172, 0, 160, 8, 3, true), (1, 173, 1, 120, 8, 3, true), (1, 175, 12, 206, 8, 4, true), (1, 176, 1, 123, 8, 4, true), (1, 177, 0, 176, 8, 4, true), (1, 179, 0, 170, 8, 5, true), (1, 180, 12, 270, 8, 5, true), (1, 182, 9, 60, 8, 6, true), (1, 183, 0, 57, 8, 6, true), (1, 184, 12, 190, 8, 6, true), (1, 186, 7, 76, 8, 7, true), (1, 187, 0, 68, 8, 7, true)]
def a_fl_13 : List (Nat × Nat × Nat × Nat × Nat × Nat × Bool) := [(1, 188, 12, 209, 8, 7, true), (1, 190, 10, 43, 8, 8, true), (1, 191, 0, 98, 8, 8, true), (1, 192, 12, 225, 8, 8, true), (1, 222, 12, 439, 0, 3, true), (1, 224, 12, 429, 0, 4, true), (1, 225, 7, 55, 0, 5, true), (1, 228, 9, 85, 0, 6, true), (1, 229, 12, 277, 0, 6, true), (1, 231, 12, 264, 0, 7, true), (1, 233, 12, 267, 0, 8, true), (1, 235, 12, 287, 0, 9, true), (1, 236, 10, 73, 0, 10, true), (1, 238, 12, 314, 0, 10, true), (2, 0, 12, 320, 0, 11, true), (2, 2, 12, 385, 0, 12, true)]
def a_fl_14 : List (Nat × Nat × Nat × Nat × Nat × Nat × Bool) := [(2, 4, 12, 388, 0, 13, true), (2, 48, 12, 303, 3, 4, true), (2, 68, 12, 153, 5, 1, true), (2, 70, 12, 157, 5, 2, true), (2, 86, 12, 296, 11, 1, true), (2, 88, 12, 290, 11, 2, true), (2, 90, 12, 293, 11, 3, true), (2, 92, 12, 283, 11, 4, true), (2, 119, 12, 342, 2, 6, true), (2, 123, 12, 341, 2, 9, true), (2, 127, 12, 335, 2, 12, true), (2, 129, 12, 355, 2, 13, true), (2, 173, 12, 361, 7, 5, true), (2, 200, 12, 393, 9, 4, true), (2, 203, 12, 394, 9, 6, true), (2, 231, 12, 411, 10, 3, true)]
def a_flC : List (List (Nat × Nat × Nat × Nat × Nat × Nat × Bool)) := [a_fl_0, a_fl_1, a_fl_2, a_fl_3, a_fl_4, a_fl_5, a_fl_6, a_fl_7, a_fl_8, a_fl_9, a_fl_10, a_fl_11, a_fl_12, a_fl_13, a_fl_14]
def a_flw (c i ci k : Nat) (ne : Bool) (T : u_T) : Cond := if ne then .fieldLinkNest (a_R c) i (a_R ci) (T k).2.1 (T k).2.2.1 "LetByTheDegree" else .fieldLink (a_R c) i (a_R ci) (T k).2.1 (T k).2.2.1
noncomputable def a_flok (q : Nat × Nat × Nat × Nat × Nat × Nat × Bool) : Bool := match q with
  | (a, b, c, i, ci, k, ne) => match vwCl[ci]? with
    | some (C, T, N) => decide (k < N) && decide ((T k).1 = C) && decide (C = a_R ci) && decide (g_nth (a_part a) b = some (a_flw c i ci k ne T)) && (if ne then a_isN (a_flw c i ci k ne T) else goodWord (a_flw c i ci k ne T))
    | none => false
set_option maxRecDepth 100000 in
set_option maxHeartbeats 4000000 in
theorem a_flC_ok : a_flC.all (fun r => r.all a_flok) = true := by decide +kernel

noncomputable def a_nmA : String := match ((a_part 3)[156]? : Option Jvm.Cond) with
  | some (Jvm.Cond.code m _ _ _) => m.name
  | _ => ""
/-- a method: its name, its bytes, its locals, what it gives -/
abbrev a_M : Type := MethodName × ByteArray × Nat × Option FieldType
def a_mIn (q : a_M) : Prop := Cond.code q.1 q.2.1 q.2.2.1 q.2.2.2 ∈ a_tb
def a_mt_0 : List a_M := [(⟨RX12, "<init>", "()V"⟩, prog_1_method_1_code, 1, none),
  (⟨RX6, "<init>", "()V"⟩, prog_8_method_1_code, 1, none),
  (⟨RX1, "<init>", "()V"⟩, prog_3_method_1_code, 1, none),
  (⟨RX4, "<init>", "()V"⟩, prog_6_method_1_code, 1, none),
  (⟨RX4, "becomeUntold", "()V"⟩, prog_6_method_2_code, 1, none),
  (⟨RX8, "<init>", "()V"⟩, prog_10_method_1_code, 1, none),
  (⟨RX0, "<init>", "(LLetByTheDegree$House;)V"⟩, prog_2_method_1_code, 2, none),
  (⟨RX3, "<init>", "()V"⟩, prog_5_method_1_code, 2, none),
  (⟨RX5, "<init>", "(LLetByTheDegree$Signs;)V"⟩, prog_7_method_1_code, 2, none),
  (⟨RX11, "<init>", "(LLetByTheDegree$Signs;)V"⟩, prog_13_method_1_code, 2, none),
  (⟨RX2, "<init>", "(LLetByTheDegree$House;LLetByTheDegree$Course;)V"⟩, prog_4_method_1_code, 3, none),
  (⟨RX7, "<init>", "(LLetByTheDegree$House;LLetByTheDegree$Course;)V"⟩, prog_9_method_1_code, 3, none),
  (⟨RX9, "<init>", "(LLetByTheDegree$House;LLetByTheDegree$Course;)V"⟩, prog_11_method_1_code, 4, none),
  (⟨RX10, "<init>", "(LLetByTheDegree$House;LLetByTheDegree$Course;)V"⟩, prog_12_method_1_code, 4, none),
  (⟨RX12, "sign", "(I)I"⟩, prog_1_method_2_code, 2, (some FieldType.int)),
  (⟨RX6, "append", "(I)Z"⟩, prog_8_method_2_code, 3, (some FieldType.boolean))]
theorem a_m0 : a_mIn (⟨RX12, "<init>", "()V"⟩, prog_1_method_1_code, 1, none) := a_in (k := 1) (i := 32) rfl rfl
theorem a_m1 : a_mIn (⟨RX6, "<init>", "()V"⟩, prog_8_method_1_code, 1, none) := a_in (k := 1) (i := 40) rfl rfl
theorem a_m2 : a_mIn (⟨RX1, "<init>", "()V"⟩, prog_3_method_1_code, 1, none) := a_in (k := 1) (i := 62) rfl rfl
theorem a_m3 : a_mIn (⟨RX4, "<init>", "()V"⟩, prog_6_method_1_code, 1, none) := a_in (k := 1) (i := 68) rfl rfl
theorem a_m4 : a_mIn (⟨RX4, "becomeUntold", "()V"⟩, prog_6_method_2_code, 1, none) := a_in (k := 1) (i := 73) rfl rfl
theorem a_m5 : a_mIn (⟨RX8, "<init>", "()V"⟩, prog_10_method_1_code, 1, none) := a_in (k := 1) (i := 155) rfl rfl
theorem a_m6 : a_mIn (⟨RX0, "<init>", "(LLetByTheDegree$House;)V"⟩, prog_2_method_1_code, 2, none) := a_in (k := 1) (i := 216) rfl rfl
theorem a_m7 : a_mIn (⟨RX3, "<init>", "()V"⟩, prog_5_method_1_code, 2, none) := a_in (k := 2) (i := 38) rfl rfl
theorem a_m8 : a_mIn (⟨RX5, "<init>", "(LLetByTheDegree$Signs;)V"⟩, prog_7_method_1_code, 2, none) := a_in (k := 2) (i := 64) rfl rfl
theorem a_m9 : a_mIn (⟨RX11, "<init>", "(LLetByTheDegree$Signs;)V"⟩, prog_13_method_1_code, 2, none) := a_in (k := 2) (i := 82) rfl rfl
theorem a_m10 : a_mIn (⟨RX2, "<init>", "(LLetByTheDegree$House;LLetByTheDegree$Course;)V"⟩, prog_4_method_1_code, 3, none) := a_in (k := 2) (i := 108) rfl rfl
theorem a_m11 : a_mIn (⟨RX7, "<init>", "(LLetByTheDegree$House;LLetByTheDegree$Course;)V"⟩, prog_9_method_1_code, 3, none) := a_in (k := 2) (i := 163) rfl rfl
theorem a_m12 : a_mIn (⟨RX9, "<init>", "(LLetByTheDegree$House;LLetByTheDegree$Course;)V"⟩, prog_11_method_1_code, 4, none) := a_in (k := 2) (i := 191) rfl rfl
theorem a_m13 : a_mIn (⟨RX10, "<init>", "(LLetByTheDegree$House;LLetByTheDegree$Course;)V"⟩, prog_12_method_1_code, 4, none) := a_in (k := 2) (i := 223) rfl rfl
theorem a_m14 : a_mIn (⟨RX12, "sign", "(I)I"⟩, prog_1_method_2_code, 2, (some FieldType.int)) := a_in (k := 3) (i := 60) rfl rfl
theorem a_m15 : a_mIn (⟨RX6, "append", "(I)Z"⟩, prog_8_method_2_code, 3, (some FieldType.boolean)) := a_in (k := 3) (i := 64) rfl rfl
theorem a_mc_0 : ∀ q ∈ a_mt_0, a_mIn q := List.forall_mem_cons.mpr ⟨a_m0, List.forall_mem_cons.mpr ⟨a_m1, List.forall_mem_cons.mpr ⟨a_m2, List.forall_mem_cons.mpr ⟨a_m3, List.forall_mem_cons.mpr ⟨a_m4, List.forall_mem_cons.mpr ⟨a_m5, List.forall_mem_cons.mpr ⟨a_m6, List.forall_mem_cons.mpr ⟨a_m7, List.forall_mem_cons.mpr ⟨a_m8, List.forall_mem_cons.mpr ⟨a_m9, List.forall_mem_cons.mpr ⟨a_m10, List.forall_mem_cons.mpr ⟨a_m11, List.forall_mem_cons.mpr ⟨a_m12, List.forall_mem_cons.mpr ⟨a_m13, List.forall_mem_cons.mpr ⟨a_m14, List.forall_mem_cons.mpr ⟨a_m15, fun _ h => absurd h List.not_mem_nil⟩⟩⟩⟩⟩⟩⟩⟩⟩⟩⟩⟩⟩⟩⟩⟩
def a_mt_1 : List a_M := [(⟨RX12, "end", "(I)Z"⟩, prog_1_method_3_code, 2, (some FieldType.boolean)),
  (⟨RX6, "cut", "(I)Z"⟩, prog_8_method_3_code, 2, (some FieldType.boolean)),
  (⟨RX12, "house", "()I"⟩, prog_1_method_4_code, 3, (some FieldType.int)),
  (⟨RX1, "readHouse", "(LLetByTheDegree$Signs;)Z"⟩, prog_3_method_9_code, 3, (some FieldType.boolean)),
  (⟨RX6, "begin", "(I)V"⟩, prog_8_method_5_code, 2, none),
  (⟨RX1, "readStorey", "(LLetByTheDegree$Signs;I)Z"⟩, prog_3_method_10_code, 5, (some FieldType.boolean)),
  (⟨RX1, "readIce", "(LLetByTheDegree$Signs;)I"⟩, prog_3_method_11_code, 3, (some FieldType.int)),
  (⟨RX6, "nextDigit", "()I"⟩, prog_8_method_7_code, 1, (some FieldType.int)),
  (⟨RX6, "next", "()I"⟩, prog_8_method_6_code, 1, (some FieldType.int)),
  (⟨RX12, "digitOf", "(I)I"⟩, prog_1_method_59_code, 1, (some FieldType.int)),
  (⟨RX6, "step", "(Z)Z"⟩, prog_8_method_8_code, 2, (some FieldType.boolean)),
  (⟨RX6, "stepOver", "(C)Z"⟩, prog_8_method_9_code, 2, (some FieldType.boolean)),
  (⟨RX6, "ended", "()Z"⟩, prog_8_method_10_code, 1, (some FieldType.boolean)),
  (⟨RX6, "empty", "()V"⟩, prog_8_method_4_code, 1, none),
  (⟨RX1, "build", "(LLetByTheDegree$State;)I"⟩, prog_3_method_12_code, 3, (some FieldType.int)),
  (⟨RX8, "clear", "()V"⟩, prog_10_method_3_code, 2, none)]
theorem a_m16 : a_mIn (⟨RX12, "end", "(I)Z"⟩, prog_1_method_3_code, 2, (some FieldType.boolean)) := a_in (k := 3) (i := 68) rfl rfl
theorem a_m17 : a_mIn (⟨RX6, "cut", "(I)Z"⟩, prog_8_method_3_code, 2, (some FieldType.boolean)) := a_in (k := 3) (i := 72) rfl rfl
theorem a_m18 : a_mIn (⟨RX12, "house", "()I"⟩, prog_1_method_4_code, 3, (some FieldType.int)) := a_in (k := 3) (i := 76) rfl rfl
theorem a_m19 : a_mIn (⟨RX1, "readHouse", "(LLetByTheDegree$Signs;)Z"⟩, prog_3_method_9_code, 3, (some FieldType.boolean)) := a_in (k := 3) (i := 80) rfl rfl
theorem a_m20 : a_mIn (⟨RX6, "begin", "(I)V"⟩, prog_8_method_5_code, 2, none) := a_in (k := 3) (i := 84) rfl rfl
theorem a_m21 : a_mIn (⟨RX1, "readStorey", "(LLetByTheDegree$Signs;I)Z"⟩, prog_3_method_10_code, 5, (some FieldType.boolean)) := a_in (k := 3) (i := 88) rfl rfl
theorem a_m22 : a_mIn (⟨RX1, "readIce", "(LLetByTheDegree$Signs;)I"⟩, prog_3_method_11_code, 3, (some FieldType.int)) := a_in (k := 3) (i := 91) rfl rfl
theorem a_m23 : a_mIn (⟨RX6, "nextDigit", "()I"⟩, prog_8_method_7_code, 1, (some FieldType.int)) := a_in (k := 3) (i := 95) rfl rfl
theorem a_m24 : a_mIn (⟨RX6, "next", "()I"⟩, prog_8_method_6_code, 1, (some FieldType.int)) := a_in (k := 3) (i := 99) rfl rfl
theorem a_m25 : a_mIn (⟨RX12, "digitOf", "(I)I"⟩, prog_1_method_59_code, 1, (some FieldType.int)) := a_in (k := 3) (i := 102) rfl rfl
theorem a_m26 : a_mIn (⟨RX6, "step", "(Z)Z"⟩, prog_8_method_8_code, 2, (some FieldType.boolean)) := a_in (k := 3) (i := 106) rfl rfl
theorem a_m27 : a_mIn (⟨RX6, "stepOver", "(C)Z"⟩, prog_8_method_9_code, 2, (some FieldType.boolean)) := a_in (k := 3) (i := 110) rfl rfl
theorem a_m28 : a_mIn (⟨RX6, "ended", "()Z"⟩, prog_8_method_10_code, 1, (some FieldType.boolean)) := a_in (k := 3) (i := 115) rfl rfl
theorem a_m29 : a_mIn (⟨RX6, "empty", "()V"⟩, prog_8_method_4_code, 1, none) := a_in (k := 3) (i := 119) rfl rfl
theorem a_m30 : a_mIn (⟨RX1, "build", "(LLetByTheDegree$State;)I"⟩, prog_3_method_12_code, 3, (some FieldType.int)) := a_in (k := 3) (i := 123) rfl rfl
theorem a_m31 : a_mIn (⟨RX8, "clear", "()V"⟩, prog_10_method_3_code, 2, none) := a_in (k := 3) (i := 127) rfl rfl
theorem a_mc_1 : ∀ q ∈ a_mt_1, a_mIn q := List.forall_mem_cons.mpr ⟨a_m16, List.forall_mem_cons.mpr ⟨a_m17, List.forall_mem_cons.mpr ⟨a_m18, List.forall_mem_cons.mpr ⟨a_m19, List.forall_mem_cons.mpr ⟨a_m20, List.forall_mem_cons.mpr ⟨a_m21, List.forall_mem_cons.mpr ⟨a_m22, List.forall_mem_cons.mpr ⟨a_m23, List.forall_mem_cons.mpr ⟨a_m24, List.forall_mem_cons.mpr ⟨a_m25, List.forall_mem_cons.mpr ⟨a_m26, List.forall_mem_cons.mpr ⟨a_m27, List.forall_mem_cons.mpr ⟨a_m28, List.forall_mem_cons.mpr ⟨a_m29, List.forall_mem_cons.mpr ⟨a_m30, List.forall_mem_cons.mpr ⟨a_m31, fun _ h => absurd h List.not_mem_nil⟩⟩⟩⟩⟩⟩⟩⟩⟩⟩⟩⟩⟩⟩⟩⟩
noncomputable def a_mt_2 : List a_M := [(⟨RX1, "has", "(I)Z"⟩, prog_3_method_2_code, 2, (some FieldType.boolean)),
  (⟨RX3, "forgetDone", "()V"⟩, prog_5_method_4_code, 1, none),
  (⟨RX3, "forgetKept", "()V"⟩, prog_5_method_5_code, 2, none),
  (⟨RX12, "people", "()I"⟩, prog_1_method_5_code, 2, (some FieldType.int)),
  (⟨RX1, "readPeople", "(LLetByTheDegree$Signs;)Z"⟩, prog_3_method_13_code, 3, (some FieldType.boolean)),
  (⟨RX1, "readLine", "(LLetByTheDegree$Signs;I)Z"⟩, prog_3_method_14_code, 7, (some FieldType.boolean)),
  (⟨RX1, a_nmA, "(LLetByTheDegree$State;)V"⟩, prog_3_method_15_code, 3, none),
  (⟨RX12, "rule", "()I"⟩, prog_1_method_6_code, 2, (some FieldType.int)),
  (⟨RX5, "read", "()Z"⟩, prog_7_method_2_code, 1, (some FieldType.boolean)),
  (⟨RX5, "expression", "(I)Z"⟩, prog_7_method_4_code, 4, (some FieldType.boolean)),
  (⟨RX5, "chain", "(IZ)Z"⟩, prog_7_method_5_code, 6, (some FieldType.boolean)),
  (⟨RX5, "part", "(IZ)Z"⟩, prog_7_method_6_code, 3, (some FieldType.boolean)),
  (⟨RX5, "signed", "(I)Z"⟩, prog_7_method_8_code, 4, (some FieldType.boolean)),
  (⟨RX5, "thing", "(I)Z"⟩, prog_7_method_9_code, 4, (some FieldType.boolean)),
  (⟨RX5, "bracket", "(I)Z"⟩, prog_7_method_10_code, 2, (some FieldType.boolean)),
  (⟨RX5, "number", "()V"⟩, prog_7_method_11_code, 4, none)]
theorem a_m32 : a_mIn (⟨RX1, "has", "(I)Z"⟩, prog_3_method_2_code, 2, (some FieldType.boolean)) := a_in (k := 3) (i := 131) rfl rfl
theorem a_m33 : a_mIn (⟨RX3, "forgetDone", "()V"⟩, prog_5_method_4_code, 1, none) := a_in (k := 3) (i := 135) rfl rfl
theorem a_m34 : a_mIn (⟨RX3, "forgetKept", "()V"⟩, prog_5_method_5_code, 2, none) := a_in (k := 3) (i := 139) rfl rfl
theorem a_m35 : a_mIn (⟨RX12, "people", "()I"⟩, prog_1_method_5_code, 2, (some FieldType.int)) := a_in (k := 3) (i := 143) rfl rfl
theorem a_m36 : a_mIn (⟨RX1, "readPeople", "(LLetByTheDegree$Signs;)Z"⟩, prog_3_method_13_code, 3, (some FieldType.boolean)) := a_in (k := 3) (i := 147) rfl rfl
theorem a_m37 : a_mIn (⟨RX1, "readLine", "(LLetByTheDegree$Signs;I)Z"⟩, prog_3_method_14_code, 7, (some FieldType.boolean)) := a_in (k := 3) (i := 151) rfl rfl
theorem a_m38 : a_mIn (⟨RX1, a_nmA, "(LLetByTheDegree$State;)V"⟩, prog_3_method_15_code, 3, none) := a_in (k := 3) (i := 156) rfl rfl
theorem a_m39 : a_mIn (⟨RX12, "rule", "()I"⟩, prog_1_method_6_code, 2, (some FieldType.int)) := a_in (k := 3) (i := 163) rfl rfl
theorem a_m40 : a_mIn (⟨RX5, "read", "()Z"⟩, prog_7_method_2_code, 1, (some FieldType.boolean)) := a_in (k := 3) (i := 168) rfl rfl
theorem a_m41 : a_mIn (⟨RX5, "expression", "(I)Z"⟩, prog_7_method_4_code, 4, (some FieldType.boolean)) := a_in (k := 3) (i := 173) rfl rfl
theorem a_m42 : a_mIn (⟨RX5, "chain", "(IZ)Z"⟩, prog_7_method_5_code, 6, (some FieldType.boolean)) := a_in (k := 3) (i := 177) rfl rfl
theorem a_m43 : a_mIn (⟨RX5, "part", "(IZ)Z"⟩, prog_7_method_6_code, 3, (some FieldType.boolean)) := a_in (k := 3) (i := 181) rfl rfl
theorem a_m44 : a_mIn (⟨RX5, "signed", "(I)Z"⟩, prog_7_method_8_code, 4, (some FieldType.boolean)) := a_in (k := 3) (i := 185) rfl rfl
theorem a_m45 : a_mIn (⟨RX5, "thing", "(I)Z"⟩, prog_7_method_9_code, 4, (some FieldType.boolean)) := a_in (k := 3) (i := 190) rfl rfl
theorem a_m46 : a_mIn (⟨RX5, "bracket", "(I)Z"⟩, prog_7_method_10_code, 2, (some FieldType.boolean)) := a_in (k := 3) (i := 195) rfl rfl
theorem a_m47 : a_mIn (⟨RX5, "number", "()V"⟩, prog_7_method_11_code, 4, none) := a_in (k := 3) (i := 201) rfl rfl
theorem a_mc_2 : ∀ q ∈ a_mt_2, a_mIn q := List.forall_mem_cons.mpr ⟨a_m32, List.forall_mem_cons.mpr ⟨a_m33, List.forall_mem_cons.mpr ⟨a_m34, List.forall_mem_cons.mpr ⟨a_m35, List.forall_mem_cons.mpr ⟨a_m36, List.forall_mem_cons.mpr ⟨a_m37, List.forall_mem_cons.mpr ⟨a_m38, List.forall_mem_cons.mpr ⟨a_m39, List.forall_mem_cons.mpr ⟨a_m40, List.forall_mem_cons.mpr ⟨a_m41, List.forall_mem_cons.mpr ⟨a_m42, List.forall_mem_cons.mpr ⟨a_m43, List.forall_mem_cons.mpr ⟨a_m44, List.forall_mem_cons.mpr ⟨a_m45, List.forall_mem_cons.mpr ⟨a_m46, List.forall_mem_cons.mpr ⟨a_m47, fun _ h => absurd h List.not_mem_nil⟩⟩⟩⟩⟩⟩⟩⟩⟩⟩⟩⟩⟩⟩⟩⟩
def a_mt_3 : List a_M := [(⟨RX5, "emit", "(I)V"⟩, prog_7_method_3_code, 2, none),
  (⟨"java/lang/Math", "max", "(II)I"⟩, prog_23_method_65_code, 2, (some FieldType.int)),
  (⟨"java/lang/Math", "min", "(II)I"⟩, prog_23_method_69_code, 2, (some FieldType.int)),
  (⟨RX5, "joins", "(IZ)Z"⟩, prog_7_method_7_code, 2, (some FieldType.boolean)),
  (⟨RX4, "become", "([II)V"⟩, prog_6_method_3_code, 3, none),
  (⟨RX12, "set", "(II)I"⟩, prog_1_method_9_code, 4, (some FieldType.int)),
  (⟨RX12, "doing", "(III)I"⟩, prog_1_method_10_code, 5, (some FieldType.int)),
  (⟨RX1, "knows", "(I)Z"⟩, prog_3_method_3_code, 2, (some FieldType.boolean)),
  (⟨RX12, "sheet", "(IIII)I"⟩, prog_1_method_11_code, 10, (some FieldType.int)),
  (⟨RX12, "entry", "(II)I"⟩, prog_1_method_12_code, 3, (some FieldType.int)),
  (⟨RX12, "move", "(II)I"⟩, prog_1_method_13_code, 4, (some FieldType.int)),
  (⟨RX12, "moveAnswer", "(II)I"⟩, prog_1_method_14_code, 4, (some FieldType.int)),
  (⟨RX3, "remember", "(LLetByTheDegree$State;)V"⟩, prog_5_method_2_code, 2, none),
  (⟨RX8, "become", "(LLetByTheDegree$State;)V"⟩, prog_10_method_2_code, 2, none),
  (⟨RX12, "stove", "(I)I"⟩, prog_1_method_15_code, 3, (some FieldType.int)),
  (⟨RX12, "stoveAnswer", "(I)I"⟩, prog_1_method_16_code, 2, (some FieldType.int))]
theorem a_m48 : a_mIn (⟨RX5, "emit", "(I)V"⟩, prog_7_method_3_code, 2, none) := a_in (k := 3) (i := 206) rfl rfl
theorem a_m49 : a_mIn (⟨"java/lang/Math", "max", "(II)I"⟩, prog_23_method_65_code, 2, (some FieldType.int)) := a_in (k := 3) (i := 238) rfl rfl
theorem a_m50 : a_mIn (⟨"java/lang/Math", "min", "(II)I"⟩, prog_23_method_69_code, 2, (some FieldType.int)) := a_in (k := 4) (i := 1) rfl rfl
theorem a_m51 : a_mIn (⟨RX5, "joins", "(IZ)Z"⟩, prog_7_method_7_code, 2, (some FieldType.boolean)) := a_in (k := 4) (i := 56) rfl rfl
theorem a_m52 : a_mIn (⟨RX4, "become", "([II)V"⟩, prog_6_method_3_code, 3, none) := a_in (k := 4) (i := 61) rfl rfl
theorem a_m53 : a_mIn (⟨RX12, "set", "(II)I"⟩, prog_1_method_9_code, 4, (some FieldType.int)) := a_in (k := 4) (i := 69) rfl rfl
theorem a_m54 : a_mIn (⟨RX12, "doing", "(III)I"⟩, prog_1_method_10_code, 5, (some FieldType.int)) := a_in (k := 4) (i := 73) rfl rfl
theorem a_m55 : a_mIn (⟨RX1, "knows", "(I)Z"⟩, prog_3_method_3_code, 2, (some FieldType.boolean)) := a_in (k := 4) (i := 77) rfl rfl
theorem a_m56 : a_mIn (⟨RX12, "sheet", "(IIII)I"⟩, prog_1_method_11_code, 10, (some FieldType.int)) := a_in (k := 4) (i := 81) rfl rfl
theorem a_m57 : a_mIn (⟨RX12, "entry", "(II)I"⟩, prog_1_method_12_code, 3, (some FieldType.int)) := a_in (k := 4) (i := 85) rfl rfl
theorem a_m58 : a_mIn (⟨RX12, "move", "(II)I"⟩, prog_1_method_13_code, 4, (some FieldType.int)) := a_in (k := 4) (i := 91) rfl rfl
theorem a_m59 : a_mIn (⟨RX12, "moveAnswer", "(II)I"⟩, prog_1_method_14_code, 4, (some FieldType.int)) := a_in (k := 4) (i := 95) rfl rfl
theorem a_m60 : a_mIn (⟨RX3, "remember", "(LLetByTheDegree$State;)V"⟩, prog_5_method_2_code, 2, none) := a_in (k := 4) (i := 99) rfl rfl
theorem a_m61 : a_mIn (⟨RX8, "become", "(LLetByTheDegree$State;)V"⟩, prog_10_method_2_code, 2, none) := a_in (k := 4) (i := 103) rfl rfl
theorem a_m62 : a_mIn (⟨RX12, "stove", "(I)I"⟩, prog_1_method_15_code, 3, (some FieldType.int)) := a_in (k := 4) (i := 109) rfl rfl
theorem a_m63 : a_mIn (⟨RX12, "stoveAnswer", "(I)I"⟩, prog_1_method_16_code, 2, (some FieldType.int)) := a_in (k := 4) (i := 113) rfl rfl
theorem a_mc_3 : ∀ q ∈ a_mt_3, a_mIn q := List.forall_mem_cons.mpr ⟨a_m48, List.forall_mem_cons.mpr ⟨a_m49, List.forall_mem_cons.mpr ⟨a_m50, List.forall_mem_cons.mpr ⟨a_m51, List.forall_mem_cons.mpr ⟨a_m52, List.forall_mem_cons.mpr ⟨a_m53, List.forall_mem_cons.mpr ⟨a_m54, List.forall_mem_cons.mpr ⟨a_m55, List.forall_mem_cons.mpr ⟨a_m56, List.forall_mem_cons.mpr ⟨a_m57, List.forall_mem_cons.mpr ⟨a_m58, List.forall_mem_cons.mpr ⟨a_m59, List.forall_mem_cons.mpr ⟨a_m60, List.forall_mem_cons.mpr ⟨a_m61, List.forall_mem_cons.mpr ⟨a_m62, List.forall_mem_cons.mpr ⟨a_m63, fun _ h => absurd h List.not_mem_nil⟩⟩⟩⟩⟩⟩⟩⟩⟩⟩⟩⟩⟩⟩⟩⟩
def a_mt_4 : List a_M := [(⟨RX12, "hour", "()I"⟩, prog_1_method_17_code, 1, (some FieldType.int)),
  (⟨RX12, "letPass", "(I)I"⟩, prog_1_method_19_code, 2, (some FieldType.int)),
  (⟨RX0, "begin", "()V"⟩, prog_2_method_2_code, 1, none),
  (⟨RX0, "goOn", "(LLetByTheDegree$State;I)V"⟩, prog_2_method_10_code, 4, none),
  (⟨RX0, "pass", "(LLetByTheDegree$State;I)V"⟩, prog_2_method_13_code, 6, none),
  (⟨RX0, "gather", "(LLetByTheDegree$State;)V"⟩, prog_2_method_14_code, 5, none),
  (⟨RX0, "warmOf", "(II)I"⟩, prog_2_method_3_code, 4, (some FieldType.int)),
  (⟨RX4, "melts", "(IIIIIII)I"⟩, prog_6_method_4_code, 11, (some FieldType.int)),
  (⟨RX4, "joined", "(III)I"⟩, prog_6_method_5_code, 3, (some FieldType.int)),
  (⟨RX0, "drip", "(LLetByTheDegree$State;II)V"⟩, prog_2_method_15_code, 5, none),
  (⟨RX0, "freeze", "(LLetByTheDegree$State;I)V"⟩, prog_2_method_16_code, 4, none),
  (⟨RX0, "drop", "(LLetByTheDegree$State;I)V"⟩, prog_2_method_17_code, 5, none),
  (⟨RX12, "tell", "(JJJ)V"⟩, prog_1_method_57_code, 7, none),
  (⟨RX12, "tell", "(JJ)V"⟩, prog_1_method_56_code, 5, none),
  (⟨RX12, "tell", "()V"⟩, prog_1_method_55_code, 1, none),
  (⟨RX12, "add", "(J)V"⟩, prog_1_method_58_code, 3, none)]
theorem a_m64 : a_mIn (⟨RX12, "hour", "()I"⟩, prog_1_method_17_code, 1, (some FieldType.int)) := a_in (k := 4) (i := 117) rfl rfl
theorem a_m65 : a_mIn (⟨RX12, "letPass", "(I)I"⟩, prog_1_method_19_code, 2, (some FieldType.int)) := a_in (k := 4) (i := 121) rfl rfl
theorem a_m66 : a_mIn (⟨RX0, "begin", "()V"⟩, prog_2_method_2_code, 1, none) := a_in (k := 4) (i := 125) rfl rfl
theorem a_m67 : a_mIn (⟨RX0, "goOn", "(LLetByTheDegree$State;I)V"⟩, prog_2_method_10_code, 4, none) := a_in (k := 4) (i := 129) rfl rfl
theorem a_m68 : a_mIn (⟨RX0, "pass", "(LLetByTheDegree$State;I)V"⟩, prog_2_method_13_code, 6, none) := a_in (k := 4) (i := 133) rfl rfl
theorem a_m69 : a_mIn (⟨RX0, "gather", "(LLetByTheDegree$State;)V"⟩, prog_2_method_14_code, 5, none) := a_in (k := 4) (i := 137) rfl rfl
theorem a_m70 : a_mIn (⟨RX0, "warmOf", "(II)I"⟩, prog_2_method_3_code, 4, (some FieldType.int)) := a_in (k := 4) (i := 141) rfl rfl
theorem a_m71 : a_mIn (⟨RX4, "melts", "(IIIIIII)I"⟩, prog_6_method_4_code, 11, (some FieldType.int)) := a_in (k := 4) (i := 145) rfl rfl
theorem a_m72 : a_mIn (⟨RX4, "joined", "(III)I"⟩, prog_6_method_5_code, 3, (some FieldType.int)) := a_in (k := 4) (i := 148) rfl rfl
theorem a_m73 : a_mIn (⟨RX0, "drip", "(LLetByTheDegree$State;II)V"⟩, prog_2_method_15_code, 5, none) := a_in (k := 4) (i := 152) rfl rfl
theorem a_m74 : a_mIn (⟨RX0, "freeze", "(LLetByTheDegree$State;I)V"⟩, prog_2_method_16_code, 4, none) := a_in (k := 4) (i := 157) rfl rfl
theorem a_m75 : a_mIn (⟨RX0, "drop", "(LLetByTheDegree$State;I)V"⟩, prog_2_method_17_code, 5, none) := a_in (k := 4) (i := 162) rfl rfl
theorem a_m76 : a_mIn (⟨RX12, "tell", "(JJJ)V"⟩, prog_1_method_57_code, 7, none) := a_in (k := 4) (i := 166) rfl rfl
theorem a_m77 : a_mIn (⟨RX12, "tell", "(JJ)V"⟩, prog_1_method_56_code, 5, none) := a_in (k := 4) (i := 170) rfl rfl
theorem a_m78 : a_mIn (⟨RX12, "tell", "()V"⟩, prog_1_method_55_code, 1, none) := a_in (k := 4) (i := 174) rfl rfl
theorem a_m79 : a_mIn (⟨RX12, "add", "(J)V"⟩, prog_1_method_58_code, 3, none) := a_in (k := 4) (i := 178) rfl rfl
theorem a_mc_4 : ∀ q ∈ a_mt_4, a_mIn q := List.forall_mem_cons.mpr ⟨a_m64, List.forall_mem_cons.mpr ⟨a_m65, List.forall_mem_cons.mpr ⟨a_m66, List.forall_mem_cons.mpr ⟨a_m67, List.forall_mem_cons.mpr ⟨a_m68, List.forall_mem_cons.mpr ⟨a_m69, List.forall_mem_cons.mpr ⟨a_m70, List.forall_mem_cons.mpr ⟨a_m71, List.forall_mem_cons.mpr ⟨a_m72, List.forall_mem_cons.mpr ⟨a_m73, List.forall_mem_cons.mpr ⟨a_m74, List.forall_mem_cons.mpr ⟨a_m75, List.forall_mem_cons.mpr ⟨a_m76, List.forall_mem_cons.mpr ⟨a_m77, List.forall_mem_cons.mpr ⟨a_m78, List.forall_mem_cons.mpr ⟨a_m79, fun _ h => absurd h List.not_mem_nil⟩⟩⟩⟩⟩⟩⟩⟩⟩⟩⟩⟩⟩⟩⟩⟩
def a_mt_5 : List a_M := [(⟨RX12, "hours", "(I)I"⟩, prog_1_method_18_code, 2, (some FieldType.int)),
  (⟨RX12, "pay", "(II)I"⟩, prog_1_method_20_code, 3, (some FieldType.int)),
  (⟨RX12, "winter", "()I"⟩, prog_1_method_21_code, 3, (some FieldType.int)),
  (⟨RX11, "read", "()Z"⟩, prog_13_method_2_code, 2, (some FieldType.boolean)),
  (⟨RX11, "act", "(I)Z"⟩, prog_13_method_3_code, 3, (some FieldType.boolean)),
  (⟨RX11, "place", "(I)Z"⟩, prog_13_method_4_code, 4, (some FieldType.boolean)),
  (⟨RX12, "perform", "(I)Z"⟩, prog_1_method_22_code, 4, (some FieldType.boolean)),
  (⟨RX12, "undo", "()I"⟩, prog_1_method_23_code, 1, (some FieldType.int)),
  (⟨RX3, "goBack", "(LLetByTheDegree$State;)Z"⟩, prog_5_method_3_code, 2, (some FieldType.boolean)),
  (⟨RX12, "thick", "(II)I"⟩, prog_1_method_24_code, 3, (some FieldType.int)),
  (⟨RX12, "lookAhead", "(I)V"⟩, prog_1_method_25_code, 2, none),
  (⟨RX12, "gives", "()I"⟩, prog_1_method_26_code, 4, (some FieldType.int)),
  (⟨RX1, "floors", "(LLetByTheDegree$State;)I"⟩, prog_3_method_8_code, 4, (some FieldType.int)),
  (⟨RX12, "firstOf", "(I)I"⟩, prog_1_method_27_code, 2, (some FieldType.int)),
  (⟨RX12, "drips", "(I)I"⟩, prog_1_method_28_code, 4, (some FieldType.int)),
  (⟨RX12, "coldest", "(I)I"⟩, prog_1_method_29_code, 3, (some FieldType.int))]
theorem a_m80 : a_mIn (⟨RX12, "hours", "(I)I"⟩, prog_1_method_18_code, 2, (some FieldType.int)) := a_in (k := 4) (i := 182) rfl rfl
theorem a_m81 : a_mIn (⟨RX12, "pay", "(II)I"⟩, prog_1_method_20_code, 3, (some FieldType.int)) := a_in (k := 4) (i := 186) rfl rfl
theorem a_m82 : a_mIn (⟨RX12, "winter", "()I"⟩, prog_1_method_21_code, 3, (some FieldType.int)) := a_in (k := 4) (i := 190) rfl rfl
theorem a_m83 : a_mIn (⟨RX11, "read", "()Z"⟩, prog_13_method_2_code, 2, (some FieldType.boolean)) := a_in (k := 4) (i := 194) rfl rfl
theorem a_m84 : a_mIn (⟨RX11, "act", "(I)Z"⟩, prog_13_method_3_code, 3, (some FieldType.boolean)) := a_in (k := 4) (i := 200) rfl rfl
theorem a_m85 : a_mIn (⟨RX11, "place", "(I)Z"⟩, prog_13_method_4_code, 4, (some FieldType.boolean)) := a_in (k := 4) (i := 208) rfl rfl
theorem a_m86 : a_mIn (⟨RX12, "perform", "(I)Z"⟩, prog_1_method_22_code, 4, (some FieldType.boolean)) := a_in (k := 4) (i := 214) rfl rfl
theorem a_m87 : a_mIn (⟨RX12, "undo", "()I"⟩, prog_1_method_23_code, 1, (some FieldType.int)) := a_in (k := 4) (i := 218) rfl rfl
theorem a_m88 : a_mIn (⟨RX3, "goBack", "(LLetByTheDegree$State;)Z"⟩, prog_5_method_3_code, 2, (some FieldType.boolean)) := a_in (k := 4) (i := 222) rfl rfl
theorem a_m89 : a_mIn (⟨RX12, "thick", "(II)I"⟩, prog_1_method_24_code, 3, (some FieldType.int)) := a_in (k := 4) (i := 226) rfl rfl
theorem a_m90 : a_mIn (⟨RX12, "lookAhead", "(I)V"⟩, prog_1_method_25_code, 2, none) := a_in (k := 4) (i := 230) rfl rfl
theorem a_m91 : a_mIn (⟨RX12, "gives", "()I"⟩, prog_1_method_26_code, 4, (some FieldType.int)) := a_in (k := 4) (i := 234) rfl rfl
theorem a_m92 : a_mIn (⟨RX1, "floors", "(LLetByTheDegree$State;)I"⟩, prog_3_method_8_code, 4, (some FieldType.int)) := a_in (k := 4) (i := 238) rfl rfl
theorem a_m93 : a_mIn (⟨RX12, "firstOf", "(I)I"⟩, prog_1_method_27_code, 2, (some FieldType.int)) := a_in (k := 5) (i := 1) rfl rfl
theorem a_m94 : a_mIn (⟨RX12, "drips", "(I)I"⟩, prog_1_method_28_code, 4, (some FieldType.int)) := a_in (k := 5) (i := 5) rfl rfl
theorem a_m95 : a_mIn (⟨RX12, "coldest", "(I)I"⟩, prog_1_method_29_code, 3, (some FieldType.int)) := a_in (k := 5) (i := 9) rfl rfl
theorem a_mc_5 : ∀ q ∈ a_mt_5, a_mIn q := List.forall_mem_cons.mpr ⟨a_m80, List.forall_mem_cons.mpr ⟨a_m81, List.forall_mem_cons.mpr ⟨a_m82, List.forall_mem_cons.mpr ⟨a_m83, List.forall_mem_cons.mpr ⟨a_m84, List.forall_mem_cons.mpr ⟨a_m85, List.forall_mem_cons.mpr ⟨a_m86, List.forall_mem_cons.mpr ⟨a_m87, List.forall_mem_cons.mpr ⟨a_m88, List.forall_mem_cons.mpr ⟨a_m89, List.forall_mem_cons.mpr ⟨a_m90, List.forall_mem_cons.mpr ⟨a_m91, List.forall_mem_cons.mpr ⟨a_m92, List.forall_mem_cons.mpr ⟨a_m93, List.forall_mem_cons.mpr ⟨a_m94, List.forall_mem_cons.mpr ⟨a_m95, fun _ h => absurd h List.not_mem_nil⟩⟩⟩⟩⟩⟩⟩⟩⟩⟩⟩⟩⟩⟩⟩⟩
def a_mt_6 : List a_M := [(⟨RX0, "standing", "(LLetByTheDegree$State;I)I"⟩, prog_2_method_11_code, 3, (some FieldType.int)),
  (⟨RX0, "standing", "(LLetByTheDegree$State;II)I"⟩, prog_2_method_12_code, 6, (some FieldType.int)),
  (⟨RX12, "lodge", "(I)I"⟩, prog_1_method_30_code, 2, (some FieldType.int)),
  (⟨RX1, "inRooms", "(LLetByTheDegree$State;)I"⟩, prog_3_method_6_code, 2, (some FieldType.int)),
  (⟨RX1, "bitsIn", "(LLetByTheDegree$State;I)I"⟩, prog_3_method_5_code, 5, (some FieldType.int)),
  (⟨"java/lang/Integer", "bitCount", "(I)I"⟩, prog_21_method_49_code, 1, (some FieldType.int)),
  (⟨RX2, "search", "(LLetByTheDegree$State;IZ)V"⟩, prog_4_method_2_code, 5, none),
  (⟨RX2, "searchColumn", "(I)V"⟩, prog_4_method_3_code, 3, none),
  (⟨RX2, "canLive", "(II)Z"⟩, prog_4_method_4_code, 6, (some FieldType.boolean)),
  (⟨RX1, "roomsOfColumn", "(I)I"⟩, prog_3_method_7_code, 2, (some FieldType.int)),
  (⟨RX2, "place", "(II)V"⟩, prog_4_method_5_code, 5, none),
  (⟨RX2, "weigh", "()V"⟩, prog_4_method_6_code, 4, none),
  (⟨RX12, "tellLodging", "()V"⟩, prog_1_method_31_code, 2, none),
  (⟨RX12, "longest", "()I"⟩, prog_1_method_32_code, 2, (some FieldType.int)),
  (⟨RX12, "quiet", "(I)I"⟩, prog_1_method_33_code, 3, (some FieldType.int)),
  (⟨RX7, "search", "(LLetByTheDegree$State;I)Z"⟩, prog_9_method_2_code, 7, (some FieldType.boolean))]
theorem a_m96 : a_mIn (⟨RX0, "standing", "(LLetByTheDegree$State;I)I"⟩, prog_2_method_11_code, 3, (some FieldType.int)) := a_in (k := 5) (i := 13) rfl rfl
theorem a_m97 : a_mIn (⟨RX0, "standing", "(LLetByTheDegree$State;II)I"⟩, prog_2_method_12_code, 6, (some FieldType.int)) := a_in (k := 5) (i := 17) rfl rfl
theorem a_m98 : a_mIn (⟨RX12, "lodge", "(I)I"⟩, prog_1_method_30_code, 2, (some FieldType.int)) := a_in (k := 5) (i := 22) rfl rfl
theorem a_m99 : a_mIn (⟨RX1, "inRooms", "(LLetByTheDegree$State;)I"⟩, prog_3_method_6_code, 2, (some FieldType.int)) := a_in (k := 5) (i := 26) rfl rfl
theorem a_m100 : a_mIn (⟨RX1, "bitsIn", "(LLetByTheDegree$State;I)I"⟩, prog_3_method_5_code, 5, (some FieldType.int)) := a_in (k := 5) (i := 30) rfl rfl
theorem a_m101 : a_mIn (⟨"java/lang/Integer", "bitCount", "(I)I"⟩, prog_21_method_49_code, 1, (some FieldType.int)) := a_in (k := 5) (i := 33) rfl rfl
theorem a_m102 : a_mIn (⟨RX2, "search", "(LLetByTheDegree$State;IZ)V"⟩, prog_4_method_2_code, 5, none) := a_in (k := 5) (i := 40) rfl rfl
theorem a_m103 : a_mIn (⟨RX2, "searchColumn", "(I)V"⟩, prog_4_method_3_code, 3, none) := a_in (k := 5) (i := 45) rfl rfl
theorem a_m104 : a_mIn (⟨RX2, "canLive", "(II)Z"⟩, prog_4_method_4_code, 6, (some FieldType.boolean)) := a_in (k := 5) (i := 49) rfl rfl
theorem a_m105 : a_mIn (⟨RX1, "roomsOfColumn", "(I)I"⟩, prog_3_method_7_code, 2, (some FieldType.int)) := a_in (k := 5) (i := 54) rfl rfl
theorem a_m106 : a_mIn (⟨RX2, "place", "(II)V"⟩, prog_4_method_5_code, 5, none) := a_in (k := 5) (i := 59) rfl rfl
theorem a_m107 : a_mIn (⟨RX2, "weigh", "()V"⟩, prog_4_method_6_code, 4, none) := a_in (k := 5) (i := 63) rfl rfl
theorem a_m108 : a_mIn (⟨RX12, "tellLodging", "()V"⟩, prog_1_method_31_code, 2, none) := a_in (k := 5) (i := 71) rfl rfl
theorem a_m109 : a_mIn (⟨RX12, "longest", "()I"⟩, prog_1_method_32_code, 2, (some FieldType.int)) := a_in (k := 5) (i := 75) rfl rfl
theorem a_m110 : a_mIn (⟨RX12, "quiet", "(I)I"⟩, prog_1_method_33_code, 3, (some FieldType.int)) := a_in (k := 5) (i := 79) rfl rfl
theorem a_m111 : a_mIn (⟨RX7, "search", "(LLetByTheDegree$State;I)Z"⟩, prog_9_method_2_code, 7, (some FieldType.boolean)) := a_in (k := 5) (i := 83) rfl rfl
theorem a_mc_6 : ∀ q ∈ a_mt_6, a_mIn q := List.forall_mem_cons.mpr ⟨a_m96, List.forall_mem_cons.mpr ⟨a_m97, List.forall_mem_cons.mpr ⟨a_m98, List.forall_mem_cons.mpr ⟨a_m99, List.forall_mem_cons.mpr ⟨a_m100, List.forall_mem_cons.mpr ⟨a_m101, List.forall_mem_cons.mpr ⟨a_m102, List.forall_mem_cons.mpr ⟨a_m103, List.forall_mem_cons.mpr ⟨a_m104, List.forall_mem_cons.mpr ⟨a_m105, List.forall_mem_cons.mpr ⟨a_m106, List.forall_mem_cons.mpr ⟨a_m107, List.forall_mem_cons.mpr ⟨a_m108, List.forall_mem_cons.mpr ⟨a_m109, List.forall_mem_cons.mpr ⟨a_m110, List.forall_mem_cons.mpr ⟨a_m111, fun _ h => absurd h List.not_mem_nil⟩⟩⟩⟩⟩⟩⟩⟩⟩⟩⟩⟩⟩⟩⟩⟩
def a_mt_7 : List a_M := [(⟨RX7, "choose", "(III)Z"⟩, prog_9_method_3_code, 5, (some FieldType.boolean)),
  (⟨RX7, "matters", "(II)Z"⟩, prog_9_method_4_code, 5, (some FieldType.boolean)),
  (⟨"java/lang/Math", "floorMod", "(II)I"⟩, prog_23_method_50_code, 3, (some FieldType.int)),
  (⟨RX12, "burden", "()I"⟩, prog_1_method_34_code, 5, (some FieldType.int)),
  (⟨RX12, "share", "(I)I"⟩, prog_1_method_35_code, 4, (some FieldType.int)),
  (⟨RX0, "meltsIn", "(LLetByTheDegree$State;I)I"⟩, prog_2_method_6_code, 3, (some FieldType.int)),
  (⟨RX0, "meltsBySet", "(LLetByTheDegree$State;II)I"⟩, prog_2_method_7_code, 4, (some FieldType.int)),
  (⟨RX0, "warmthOf", "(LLetByTheDegree$State;II)I"⟩, prog_2_method_5_code, 6, (some FieldType.int)),
  (⟨RX0, "meltsBy", "(LLetByTheDegree$State;III)I"⟩, prog_2_method_8_code, 5, (some FieldType.int)),
  (⟨RX0, "warmthIn", "(LLetByTheDegree$State;I)I"⟩, prog_2_method_4_code, 3, (some FieldType.int)),
  (⟨RX12, "tellFraction", "(JJ)V"⟩, prog_1_method_36_code, 12, none),
  (⟨RX12, "charges", "(I)I"⟩, prog_1_method_37_code, 5, (some FieldType.int)),
  (⟨"java/lang/Math", "max", "(JJ)J"⟩, prog_23_method_66_code, 4, (some FieldType.long)),
  (⟨RX12, "warm", "(II)I"⟩, prog_1_method_38_code, 7, (some FieldType.int)),
  (⟨RX12, "look", "()I"⟩, prog_1_method_39_code, 5, (some FieldType.int)),
  (⟨RX0, "countMelts", "(LLetByTheDegree$State;I)V"⟩, prog_2_method_9_code, 9, none)]
theorem a_m112 : a_mIn (⟨RX7, "choose", "(III)Z"⟩, prog_9_method_3_code, 5, (some FieldType.boolean)) := a_in (k := 5) (i := 89) rfl rfl
theorem a_m113 : a_mIn (⟨RX7, "matters", "(II)Z"⟩, prog_9_method_4_code, 5, (some FieldType.boolean)) := a_in (k := 5) (i := 95) rfl rfl
theorem a_m114 : a_mIn (⟨"java/lang/Math", "floorMod", "(II)I"⟩, prog_23_method_50_code, 3, (some FieldType.int)) := a_in (k := 5) (i := 98) rfl rfl
theorem a_m115 : a_mIn (⟨RX12, "burden", "()I"⟩, prog_1_method_34_code, 5, (some FieldType.int)) := a_in (k := 5) (i := 103) rfl rfl
theorem a_m116 : a_mIn (⟨RX12, "share", "(I)I"⟩, prog_1_method_35_code, 4, (some FieldType.int)) := a_in (k := 5) (i := 107) rfl rfl
theorem a_m117 : a_mIn (⟨RX0, "meltsIn", "(LLetByTheDegree$State;I)I"⟩, prog_2_method_6_code, 3, (some FieldType.int)) := a_in (k := 5) (i := 111) rfl rfl
theorem a_m118 : a_mIn (⟨RX0, "meltsBySet", "(LLetByTheDegree$State;II)I"⟩, prog_2_method_7_code, 4, (some FieldType.int)) := a_in (k := 5) (i := 116) rfl rfl
theorem a_m119 : a_mIn (⟨RX0, "warmthOf", "(LLetByTheDegree$State;II)I"⟩, prog_2_method_5_code, 6, (some FieldType.int)) := a_in (k := 5) (i := 120) rfl rfl
theorem a_m120 : a_mIn (⟨RX0, "meltsBy", "(LLetByTheDegree$State;III)I"⟩, prog_2_method_8_code, 5, (some FieldType.int)) := a_in (k := 5) (i := 125) rfl rfl
theorem a_m121 : a_mIn (⟨RX0, "warmthIn", "(LLetByTheDegree$State;I)I"⟩, prog_2_method_4_code, 3, (some FieldType.int)) := a_in (k := 5) (i := 130) rfl rfl
theorem a_m122 : a_mIn (⟨RX12, "tellFraction", "(JJ)V"⟩, prog_1_method_36_code, 12, none) := a_in (k := 5) (i := 134) rfl rfl
theorem a_m123 : a_mIn (⟨RX12, "charges", "(I)I"⟩, prog_1_method_37_code, 5, (some FieldType.int)) := a_in (k := 5) (i := 138) rfl rfl
theorem a_m124 : a_mIn (⟨"java/lang/Math", "max", "(JJ)J"⟩, prog_23_method_66_code, 4, (some FieldType.long)) := a_in (k := 5) (i := 141) rfl rfl
theorem a_m125 : a_mIn (⟨RX12, "warm", "(II)I"⟩, prog_1_method_38_code, 7, (some FieldType.int)) := a_in (k := 5) (i := 145) rfl rfl
theorem a_m126 : a_mIn (⟨RX12, "look", "()I"⟩, prog_1_method_39_code, 5, (some FieldType.int)) := a_in (k := 5) (i := 150) rfl rfl
theorem a_m127 : a_mIn (⟨RX0, "countMelts", "(LLetByTheDegree$State;I)V"⟩, prog_2_method_9_code, 9, none) := a_in (k := 5) (i := 154) rfl rfl
theorem a_mc_7 : ∀ q ∈ a_mt_7, a_mIn q := List.forall_mem_cons.mpr ⟨a_m112, List.forall_mem_cons.mpr ⟨a_m113, List.forall_mem_cons.mpr ⟨a_m114, List.forall_mem_cons.mpr ⟨a_m115, List.forall_mem_cons.mpr ⟨a_m116, List.forall_mem_cons.mpr ⟨a_m117, List.forall_mem_cons.mpr ⟨a_m118, List.forall_mem_cons.mpr ⟨a_m119, List.forall_mem_cons.mpr ⟨a_m120, List.forall_mem_cons.mpr ⟨a_m121, List.forall_mem_cons.mpr ⟨a_m122, List.forall_mem_cons.mpr ⟨a_m123, List.forall_mem_cons.mpr ⟨a_m124, List.forall_mem_cons.mpr ⟨a_m125, List.forall_mem_cons.mpr ⟨a_m126, List.forall_mem_cons.mpr ⟨a_m127, fun _ h => absurd h List.not_mem_nil⟩⟩⟩⟩⟩⟩⟩⟩⟩⟩⟩⟩⟩⟩⟩⟩
def a_mt_8 : List a_M := [(⟨"java/lang/Long", "bitCount", "(J)I"⟩, prog_22_method_50_code, 2, (some FieldType.int)),
  (⟨RX12, "carry", "(I)I"⟩, prog_1_method_40_code, 3, (some FieldType.int)),
  (⟨RX9, "search", "(LLetByTheDegree$State;I)V"⟩, prog_11_method_2_code, 3, none),
  (⟨RX9, "goFrom", "(II)V"⟩, prog_11_method_3_code, 8, none),
  (⟨RX9, "goTo", "(III)V"⟩, prog_11_method_4_code, 5, none),
  (⟨RX12, "hearth", "(I)I"⟩, prog_1_method_41_code, 6, (some FieldType.int)),
  (⟨RX12, "meltedWithStove", "(II)I"⟩, prog_1_method_42_code, 3, (some FieldType.int)),
  (⟨RX12, "rests", "(III)I"⟩, prog_1_method_43_code, 10, (some FieldType.int)),
  (⟨RX12, "gain", "(IIIII)I"⟩, prog_1_method_44_code, 10, (some FieldType.int)),
  (⟨RX12, "water", "()I"⟩, prog_1_method_45_code, 4, (some FieldType.int)),
  (⟨RX12, "thaw", "(II)I"⟩, prog_1_method_46_code, 3, (some FieldType.int)),
  (⟨RX10, "search", "(LLetByTheDegree$State;II)V"⟩, prog_12_method_3_code, 5, none),
  (⟨RX10, "goFrom", "(IJ)V"⟩, prog_12_method_4_code, 4, none),
  (⟨RX10, "goTo", "(IIJ)V"⟩, prog_12_method_5_code, 6, none),
  (⟨RX10, "whole", "(I)J"⟩, prog_12_method_2_code, 4, (some FieldType.long)),
  (⟨RX12, "leave", "(II)I"⟩, prog_1_method_47_code, 4, (some FieldType.int))]
theorem a_m128 : a_mIn (⟨"java/lang/Long", "bitCount", "(J)I"⟩, prog_22_method_50_code, 2, (some FieldType.int)) := a_in (k := 5) (i := 158) rfl rfl
theorem a_m129 : a_mIn (⟨RX12, "carry", "(I)I"⟩, prog_1_method_40_code, 3, (some FieldType.int)) := a_in (k := 5) (i := 165) rfl rfl
theorem a_m130 : a_mIn (⟨RX9, "search", "(LLetByTheDegree$State;I)V"⟩, prog_11_method_2_code, 3, none) := a_in (k := 5) (i := 169) rfl rfl
theorem a_m131 : a_mIn (⟨RX9, "goFrom", "(II)V"⟩, prog_11_method_3_code, 8, none) := a_in (k := 5) (i := 175) rfl rfl
theorem a_m132 : a_mIn (⟨RX9, "goTo", "(III)V"⟩, prog_11_method_4_code, 5, none) := a_in (k := 5) (i := 180) rfl rfl
theorem a_m133 : a_mIn (⟨RX12, "hearth", "(I)I"⟩, prog_1_method_41_code, 6, (some FieldType.int)) := a_in (k := 5) (i := 189) rfl rfl
theorem a_m134 : a_mIn (⟨RX12, "meltedWithStove", "(II)I"⟩, prog_1_method_42_code, 3, (some FieldType.int)) := a_in (k := 5) (i := 193) rfl rfl
theorem a_m135 : a_mIn (⟨RX12, "rests", "(III)I"⟩, prog_1_method_43_code, 10, (some FieldType.int)) := a_in (k := 5) (i := 197) rfl rfl
theorem a_m136 : a_mIn (⟨RX12, "gain", "(IIIII)I"⟩, prog_1_method_44_code, 10, (some FieldType.int)) := a_in (k := 5) (i := 201) rfl rfl
theorem a_m137 : a_mIn (⟨RX12, "water", "()I"⟩, prog_1_method_45_code, 4, (some FieldType.int)) := a_in (k := 5) (i := 207) rfl rfl
theorem a_m138 : a_mIn (⟨RX12, "thaw", "(II)I"⟩, prog_1_method_46_code, 3, (some FieldType.int)) := a_in (k := 5) (i := 211) rfl rfl
theorem a_m139 : a_mIn (⟨RX10, "search", "(LLetByTheDegree$State;II)V"⟩, prog_12_method_3_code, 5, none) := a_in (k := 5) (i := 215) rfl rfl
theorem a_m140 : a_mIn (⟨RX10, "goFrom", "(IJ)V"⟩, prog_12_method_4_code, 4, none) := a_in (k := 5) (i := 222) rfl rfl
theorem a_m141 : a_mIn (⟨RX10, "goTo", "(IIJ)V"⟩, prog_12_method_5_code, 6, none) := a_in (k := 5) (i := 226) rfl rfl
theorem a_m142 : a_mIn (⟨RX10, "whole", "(I)J"⟩, prog_12_method_2_code, 4, (some FieldType.long)) := a_in (k := 5) (i := 230) rfl rfl
theorem a_m143 : a_mIn (⟨RX12, "leave", "(II)I"⟩, prog_1_method_47_code, 4, (some FieldType.int)) := a_in (k := 5) (i := 235) rfl rfl
theorem a_mc_8 : ∀ q ∈ a_mt_8, a_mIn q := List.forall_mem_cons.mpr ⟨a_m128, List.forall_mem_cons.mpr ⟨a_m129, List.forall_mem_cons.mpr ⟨a_m130, List.forall_mem_cons.mpr ⟨a_m131, List.forall_mem_cons.mpr ⟨a_m132, List.forall_mem_cons.mpr ⟨a_m133, List.forall_mem_cons.mpr ⟨a_m134, List.forall_mem_cons.mpr ⟨a_m135, List.forall_mem_cons.mpr ⟨a_m136, List.forall_mem_cons.mpr ⟨a_m137, List.forall_mem_cons.mpr ⟨a_m138, List.forall_mem_cons.mpr ⟨a_m139, List.forall_mem_cons.mpr ⟨a_m140, List.forall_mem_cons.mpr ⟨a_m141, List.forall_mem_cons.mpr ⟨a_m142, List.forall_mem_cons.mpr ⟨a_m143, fun _ h => absurd h List.not_mem_nil⟩⟩⟩⟩⟩⟩⟩⟩⟩⟩⟩⟩⟩⟩⟩⟩
def a_mt_9 : List a_M := [(⟨RX12, "season", "(II)I"⟩, prog_1_method_48_code, 5, (some FieldType.int)),
  (⟨RX0, "forgetGiven", "()V"⟩, prog_2_method_18_code, 2, none),
  (⟨RX12, "next", "(I)I"⟩, prog_1_method_49_code, 1, (some FieldType.int)),
  (⟨RX12, "draw", "(II)I"⟩, prog_1_method_50_code, 2, (some FieldType.int)),
  (⟨RX0, "countGiven", "()V"⟩, prog_2_method_19_code, 2, none),
  (⟨RX0, "oftenestGiven", "()I"⟩, prog_2_method_20_code, 3, (some FieldType.int)),
  (⟨RX12, "keep", "(I)Z"⟩, prog_1_method_51_code, 2, (some FieldType.boolean)),
  (⟨RX3, "keepAs", "(ILLetByTheDegree$State;I)Z"⟩, prog_5_method_6_code, 4, (some FieldType.boolean)),
  (⟨RX12, "again", "(I)Z"⟩, prog_1_method_52_code, 2, (some FieldType.boolean)),
  (⟨RX3, "bringBack", "(ILLetByTheDegree$State;I)Z"⟩, prog_5_method_7_code, 4, (some FieldType.boolean)),
  (⟨RX12, "count", "(I)I"⟩, prog_1_method_53_code, 2, (some FieldType.int)),
  (⟨RX12, "room", "(II)I"⟩, prog_1_method_7_code, 3, (some FieldType.int)),
  (⟨RX12, "person", "(II)I"⟩, prog_1_method_8_code, 3, (some FieldType.int)),
  (⟨RX1, "wholeCycle", "(I)I"⟩, prog_3_method_4_code, 4, (some FieldType.int)),
  (⟨RX12, "row", "(I)J"⟩, prog_1_method_54_code, 2, (some FieldType.long)),
  (⟨RX13, "<init>", "()V"⟩, prog_15_method_1_code, 1, none)]
theorem a_m144 : a_mIn (⟨RX12, "season", "(II)I"⟩, prog_1_method_48_code, 5, (some FieldType.int)) := a_in (k := 6) (i := 0) rfl rfl
theorem a_m145 : a_mIn (⟨RX0, "forgetGiven", "()V"⟩, prog_2_method_18_code, 2, none) := a_in (k := 6) (i := 4) rfl rfl
theorem a_m146 : a_mIn (⟨RX12, "next", "(I)I"⟩, prog_1_method_49_code, 1, (some FieldType.int)) := a_in (k := 6) (i := 7) rfl rfl
theorem a_m147 : a_mIn (⟨RX12, "draw", "(II)I"⟩, prog_1_method_50_code, 2, (some FieldType.int)) := a_in (k := 6) (i := 11) rfl rfl
theorem a_m148 : a_mIn (⟨RX0, "countGiven", "()V"⟩, prog_2_method_19_code, 2, none) := a_in (k := 6) (i := 15) rfl rfl
theorem a_m149 : a_mIn (⟨RX0, "oftenestGiven", "()I"⟩, prog_2_method_20_code, 3, (some FieldType.int)) := a_in (k := 6) (i := 19) rfl rfl
theorem a_m150 : a_mIn (⟨RX12, "keep", "(I)Z"⟩, prog_1_method_51_code, 2, (some FieldType.boolean)) := a_in (k := 6) (i := 23) rfl rfl
theorem a_m151 : a_mIn (⟨RX3, "keepAs", "(ILLetByTheDegree$State;I)Z"⟩, prog_5_method_6_code, 4, (some FieldType.boolean)) := a_in (k := 6) (i := 27) rfl rfl
theorem a_m152 : a_mIn (⟨RX12, "again", "(I)Z"⟩, prog_1_method_52_code, 2, (some FieldType.boolean)) := a_in (k := 6) (i := 31) rfl rfl
theorem a_m153 : a_mIn (⟨RX3, "bringBack", "(ILLetByTheDegree$State;I)Z"⟩, prog_5_method_7_code, 4, (some FieldType.boolean)) := a_in (k := 6) (i := 35) rfl rfl
theorem a_m154 : a_mIn (⟨RX12, "count", "(I)I"⟩, prog_1_method_53_code, 2, (some FieldType.int)) := a_in (k := 6) (i := 40) rfl rfl
theorem a_m155 : a_mIn (⟨RX12, "room", "(II)I"⟩, prog_1_method_7_code, 3, (some FieldType.int)) := a_in (k := 6) (i := 48) rfl rfl
theorem a_m156 : a_mIn (⟨RX12, "person", "(II)I"⟩, prog_1_method_8_code, 3, (some FieldType.int)) := a_in (k := 6) (i := 121) rfl rfl
theorem a_m157 : a_mIn (⟨RX1, "wholeCycle", "(I)I"⟩, prog_3_method_4_code, 4, (some FieldType.int)) := a_in (k := 6) (i := 126) rfl rfl
theorem a_m158 : a_mIn (⟨RX12, "row", "(I)J"⟩, prog_1_method_54_code, 2, (some FieldType.long)) := a_in (k := 6) (i := 134) rfl rfl
theorem a_m159 : a_mIn (⟨RX13, "<init>", "()V"⟩, prog_15_method_1_code, 1, none) := a_in (k := 6) (i := 140) rfl rfl
theorem a_mc_9 : ∀ q ∈ a_mt_9, a_mIn q := List.forall_mem_cons.mpr ⟨a_m144, List.forall_mem_cons.mpr ⟨a_m145, List.forall_mem_cons.mpr ⟨a_m146, List.forall_mem_cons.mpr ⟨a_m147, List.forall_mem_cons.mpr ⟨a_m148, List.forall_mem_cons.mpr ⟨a_m149, List.forall_mem_cons.mpr ⟨a_m150, List.forall_mem_cons.mpr ⟨a_m151, List.forall_mem_cons.mpr ⟨a_m152, List.forall_mem_cons.mpr ⟨a_m153, List.forall_mem_cons.mpr ⟨a_m154, List.forall_mem_cons.mpr ⟨a_m155, List.forall_mem_cons.mpr ⟨a_m156, List.forall_mem_cons.mpr ⟨a_m157, List.forall_mem_cons.mpr ⟨a_m158, List.forall_mem_cons.mpr ⟨a_m159, fun _ h => absurd h List.not_mem_nil⟩⟩⟩⟩⟩⟩⟩⟩⟩⟩⟩⟩⟩⟩⟩⟩
def a_mt_10 : List a_M := [(⟨RX13, "sign", "(I)I"⟩, prog_15_method_9_code, 3, (some FieldType.int)),
  (⟨RX13, "end", "(I)Z"⟩, prog_15_method_10_code, 2, (some FieldType.boolean)),
  (⟨RX13, "in", "(III)Z"⟩, prog_15_method_3_code, 3, (some FieldType.boolean)),
  (⟨RX13, "house", "()I"⟩, prog_15_method_19_code, 6, (some FieldType.int)),
  (⟨RX13, "begin", "([BII)V"⟩, prog_15_method_11_code, 4, none),
  (⟨RX13, "fine", "()Z"⟩, prog_15_method_13_code, 1, (some FieldType.boolean)),
  (⟨RX13, "number", "(I)I"⟩, prog_15_method_18_code, 4, (some FieldType.int)),
  (⟨RX13, "oneOf", "(CI)I"⟩, prog_15_method_17_code, 3, (some FieldType.int)),
  (⟨RX13, "here", "()I"⟩, prog_15_method_12_code, 1, (some FieldType.int)),
  (⟨RX13, "fault", "(I)V"⟩, prog_15_method_14_code, 2, none),
  (⟨RX13, "passes", "(C)Z"⟩, prog_15_method_15_code, 2, (some FieldType.boolean)),
  (⟨RX13, "isRoom", "(I)Z"⟩, prog_15_method_7_code, 2, (some FieldType.boolean)),
  (⟨RX13, "people", "()I"⟩, prog_15_method_21_code, 6, (some FieldType.int)),
  (⟨RX13, "readPerson", "(I)V"⟩, prog_15_method_20_code, 4, none),
  (⟨RX13, "need", "(C)V"⟩, prog_15_method_16_code, 2, none),
  (⟨RX13, "rule", "()I"⟩, prog_15_method_27_code, 3, (some FieldType.int))]
theorem a_m160 : a_mIn (⟨RX13, "sign", "(I)I"⟩, prog_15_method_9_code, 3, (some FieldType.int)) := a_in (k := 7) (i := 75) rfl rfl
theorem a_m161 : a_mIn (⟨RX13, "end", "(I)Z"⟩, prog_15_method_10_code, 2, (some FieldType.boolean)) := a_in (k := 7) (i := 79) rfl rfl
theorem a_m162 : a_mIn (⟨RX13, "in", "(III)Z"⟩, prog_15_method_3_code, 3, (some FieldType.boolean)) := a_in (k := 7) (i := 82) rfl rfl
theorem a_m163 : a_mIn (⟨RX13, "house", "()I"⟩, prog_15_method_19_code, 6, (some FieldType.int)) := a_in (k := 7) (i := 86) rfl rfl
theorem a_m164 : a_mIn (⟨RX13, "begin", "([BII)V"⟩, prog_15_method_11_code, 4, none) := a_in (k := 7) (i := 90) rfl rfl
theorem a_m165 : a_mIn (⟨RX13, "fine", "()Z"⟩, prog_15_method_13_code, 1, (some FieldType.boolean)) := a_in (k := 7) (i := 94) rfl rfl
theorem a_m166 : a_mIn (⟨RX13, "number", "(I)I"⟩, prog_15_method_18_code, 4, (some FieldType.int)) := a_in (k := 7) (i := 98) rfl rfl
theorem a_m167 : a_mIn (⟨RX13, "oneOf", "(CI)I"⟩, prog_15_method_17_code, 3, (some FieldType.int)) := a_in (k := 7) (i := 102) rfl rfl
theorem a_m168 : a_mIn (⟨RX13, "here", "()I"⟩, prog_15_method_12_code, 1, (some FieldType.int)) := a_in (k := 7) (i := 106) rfl rfl
theorem a_m169 : a_mIn (⟨RX13, "fault", "(I)V"⟩, prog_15_method_14_code, 2, none) := a_in (k := 7) (i := 110) rfl rfl
theorem a_m170 : a_mIn (⟨RX13, "passes", "(C)Z"⟩, prog_15_method_15_code, 2, (some FieldType.boolean)) := a_in (k := 7) (i := 114) rfl rfl
theorem a_m171 : a_mIn (⟨RX13, "isRoom", "(I)Z"⟩, prog_15_method_7_code, 2, (some FieldType.boolean)) := a_in (k := 7) (i := 118) rfl rfl
theorem a_m172 : a_mIn (⟨RX13, "people", "()I"⟩, prog_15_method_21_code, 6, (some FieldType.int)) := a_in (k := 7) (i := 122) rfl rfl
theorem a_m173 : a_mIn (⟨RX13, "readPerson", "(I)V"⟩, prog_15_method_20_code, 4, none) := a_in (k := 7) (i := 126) rfl rfl
theorem a_m174 : a_mIn (⟨RX13, "need", "(C)V"⟩, prog_15_method_16_code, 2, none) := a_in (k := 7) (i := 130) rfl rfl
theorem a_m175 : a_mIn (⟨RX13, "rule", "()I"⟩, prog_15_method_27_code, 3, (some FieldType.int)) := a_in (k := 7) (i := 134) rfl rfl
theorem a_mc_10 : ∀ q ∈ a_mt_10, a_mIn q := List.forall_mem_cons.mpr ⟨a_m160, List.forall_mem_cons.mpr ⟨a_m161, List.forall_mem_cons.mpr ⟨a_m162, List.forall_mem_cons.mpr ⟨a_m163, List.forall_mem_cons.mpr ⟨a_m164, List.forall_mem_cons.mpr ⟨a_m165, List.forall_mem_cons.mpr ⟨a_m166, List.forall_mem_cons.mpr ⟨a_m167, List.forall_mem_cons.mpr ⟨a_m168, List.forall_mem_cons.mpr ⟨a_m169, List.forall_mem_cons.mpr ⟨a_m170, List.forall_mem_cons.mpr ⟨a_m171, List.forall_mem_cons.mpr ⟨a_m172, List.forall_mem_cons.mpr ⟨a_m173, List.forall_mem_cons.mpr ⟨a_m174, List.forall_mem_cons.mpr ⟨a_m175, fun _ h => absurd h List.not_mem_nil⟩⟩⟩⟩⟩⟩⟩⟩⟩⟩⟩⟩⟩⟩⟩⟩
def a_mt_11 : List a_M := [(⟨RX13, "held", "(I)I"⟩, prog_15_method_22_code, 3, (some FieldType.int)),
  (⟨RX13, "sum", "(I)I"⟩, prog_15_method_23_code, 5, (some FieldType.int)),
  (⟨RX13, "product", "(I)I"⟩, prog_15_method_24_code, 5, (some FieldType.int)),
  (⟨RX13, "thing", "(I)I"⟩, prog_15_method_26_code, 4, (some FieldType.int)),
  (⟨RX13, "letterOf", "(I)I"⟩, prog_15_method_25_code, 1, (some FieldType.int)),
  (⟨RX13, "room", "(II)I"⟩, prog_15_method_34_code, 3, (some FieldType.int)),
  (⟨RX13, "lost", "()I"⟩, prog_15_method_5_code, 1, (some FieldType.int)),
  (⟨RX13, "peopleIn", "([II)I"⟩, prog_15_method_30_code, 5, (some FieldType.int)),
  (⟨RX13, "warmthBy", "([III)I"⟩, prog_15_method_31_code, 6, (some FieldType.int)),
  (⟨RX13, "has", "(II)Z"⟩, prog_15_method_4_code, 2, (some FieldType.boolean)),
  (⟨RX13, "warmOf", "([II)I"⟩, prog_15_method_29_code, 3, (some FieldType.int)),
  (⟨RX13, "meltsNow", "([II)I"⟩, prog_15_method_33_code, 3, (some FieldType.int)),
  (⟨RX13, "meltsBy", "([III)I"⟩, prog_15_method_32_code, 4, (some FieldType.int)),
  (⟨RX13, "melts", "([IIII)I"⟩, prog_15_method_28_code, 6, (some FieldType.int)),
  (⟨RX13, "person", "(II)I"⟩, prog_15_method_35_code, 5, (some FieldType.int)),
  (⟨RX13, "isPerson", "(I)Z"⟩, prog_15_method_8_code, 2, (some FieldType.boolean))]
theorem a_m176 : a_mIn (⟨RX13, "held", "(I)I"⟩, prog_15_method_22_code, 3, (some FieldType.int)) := a_in (k := 7) (i := 138) rfl rfl
theorem a_m177 : a_mIn (⟨RX13, "sum", "(I)I"⟩, prog_15_method_23_code, 5, (some FieldType.int)) := a_in (k := 7) (i := 142) rfl rfl
theorem a_m178 : a_mIn (⟨RX13, "product", "(I)I"⟩, prog_15_method_24_code, 5, (some FieldType.int)) := a_in (k := 7) (i := 146) rfl rfl
theorem a_m179 : a_mIn (⟨RX13, "thing", "(I)I"⟩, prog_15_method_26_code, 4, (some FieldType.int)) := a_in (k := 7) (i := 150) rfl rfl
theorem a_m180 : a_mIn (⟨RX13, "letterOf", "(I)I"⟩, prog_15_method_25_code, 1, (some FieldType.int)) := a_in (k := 7) (i := 153) rfl rfl
theorem a_m181 : a_mIn (⟨RX13, "room", "(II)I"⟩, prog_15_method_34_code, 3, (some FieldType.int)) := a_in (k := 7) (i := 157) rfl rfl
theorem a_m182 : a_mIn (⟨RX13, "lost", "()I"⟩, prog_15_method_5_code, 1, (some FieldType.int)) := a_in (k := 7) (i := 161) rfl rfl
theorem a_m183 : a_mIn (⟨RX13, "peopleIn", "([II)I"⟩, prog_15_method_30_code, 5, (some FieldType.int)) := a_in (k := 7) (i := 165) rfl rfl
theorem a_m184 : a_mIn (⟨RX13, "warmthBy", "([III)I"⟩, prog_15_method_31_code, 6, (some FieldType.int)) := a_in (k := 7) (i := 169) rfl rfl
theorem a_m185 : a_mIn (⟨RX13, "has", "(II)Z"⟩, prog_15_method_4_code, 2, (some FieldType.boolean)) := a_in (k := 7) (i := 172) rfl rfl
theorem a_m186 : a_mIn (⟨RX13, "warmOf", "([II)I"⟩, prog_15_method_29_code, 3, (some FieldType.int)) := a_in (k := 7) (i := 176) rfl rfl
theorem a_m187 : a_mIn (⟨RX13, "meltsNow", "([II)I"⟩, prog_15_method_33_code, 3, (some FieldType.int)) := a_in (k := 7) (i := 180) rfl rfl
theorem a_m188 : a_mIn (⟨RX13, "meltsBy", "([III)I"⟩, prog_15_method_32_code, 4, (some FieldType.int)) := a_in (k := 7) (i := 184) rfl rfl
theorem a_m189 : a_mIn (⟨RX13, "melts", "([IIII)I"⟩, prog_15_method_28_code, 6, (some FieldType.int)) := a_in (k := 7) (i := 189) rfl rfl
theorem a_m190 : a_mIn (⟨RX13, "person", "(II)I"⟩, prog_15_method_35_code, 5, (some FieldType.int)) := a_in (k := 7) (i := 195) rfl rfl
theorem a_m191 : a_mIn (⟨RX13, "isPerson", "(I)Z"⟩, prog_15_method_8_code, 2, (some FieldType.boolean)) := a_in (k := 7) (i := 199) rfl rfl
theorem a_mc_11 : ∀ q ∈ a_mt_11, a_mIn q := List.forall_mem_cons.mpr ⟨a_m176, List.forall_mem_cons.mpr ⟨a_m177, List.forall_mem_cons.mpr ⟨a_m178, List.forall_mem_cons.mpr ⟨a_m179, List.forall_mem_cons.mpr ⟨a_m180, List.forall_mem_cons.mpr ⟨a_m181, List.forall_mem_cons.mpr ⟨a_m182, List.forall_mem_cons.mpr ⟨a_m183, List.forall_mem_cons.mpr ⟨a_m184, List.forall_mem_cons.mpr ⟨a_m185, List.forall_mem_cons.mpr ⟨a_m186, List.forall_mem_cons.mpr ⟨a_m187, List.forall_mem_cons.mpr ⟨a_m188, List.forall_mem_cons.mpr ⟨a_m189, List.forall_mem_cons.mpr ⟨a_m190, List.forall_mem_cons.mpr ⟨a_m191, fun _ h => absurd h List.not_mem_nil⟩⟩⟩⟩⟩⟩⟩⟩⟩⟩⟩⟩⟩⟩⟩⟩
def a_mt_12 : List a_M := [(⟨RX13, "set", "(II)I"⟩, prog_15_method_36_code, 4, (some FieldType.int)),
  (⟨RX13, "doing", "(III)I"⟩, prog_15_method_37_code, 5, (some FieldType.int)),
  (⟨RX13, "sheet", "(IIII)I"⟩, prog_15_method_38_code, 10, (some FieldType.int)),
  (⟨RX13, "move", "(II)I"⟩, prog_15_method_44_code, 4, (some FieldType.int)),
  (⟨RX13, "refusesMove", "(II)I"⟩, prog_15_method_42_code, 3, (some FieldType.int)),
  (⟨RX13, "remember", "([I)V"⟩, prog_15_method_40_code, 3, none),
  (⟨RX13, "lay", "([I[II)V"⟩, prog_15_method_39_code, 4, none),
  (⟨RX13, "goMove", "(II)I"⟩, prog_15_method_43_code, 4, (some FieldType.int)),
  (⟨RX13, "told", "(I)I"⟩, prog_15_method_41_code, 1, (some FieldType.int)),
  (⟨RX13, "stove", "(I)I"⟩, prog_15_method_47_code, 3, (some FieldType.int)),
  (⟨RX13, "refusesStove", "(I)I"⟩, prog_15_method_45_code, 2, (some FieldType.int)),
  (⟨RX13, "goStove", "(I)I"⟩, prog_15_method_46_code, 3, (some FieldType.int)),
  (⟨RX13, "hour", "()I"⟩, prog_15_method_52_code, 1, (some FieldType.int)),
  (⟨RX13, "hours", "(I)I"⟩, prog_15_method_53_code, 2, (some FieldType.int)),
  (⟨RX13, "beginHours", "()V"⟩, prog_15_method_50_code, 1, none),
  (⟨RX13, "goHours", "([II)V"⟩, prog_15_method_51_code, 4, none)]
theorem a_m192 : a_mIn (⟨RX13, "set", "(II)I"⟩, prog_15_method_36_code, 4, (some FieldType.int)) := a_in (k := 7) (i := 203) rfl rfl
theorem a_m193 : a_mIn (⟨RX13, "doing", "(III)I"⟩, prog_15_method_37_code, 5, (some FieldType.int)) := a_in (k := 7) (i := 207) rfl rfl
theorem a_m194 : a_mIn (⟨RX13, "sheet", "(IIII)I"⟩, prog_15_method_38_code, 10, (some FieldType.int)) := a_in (k := 7) (i := 211) rfl rfl
theorem a_m195 : a_mIn (⟨RX13, "move", "(II)I"⟩, prog_15_method_44_code, 4, (some FieldType.int)) := a_in (k := 7) (i := 215) rfl rfl
theorem a_m196 : a_mIn (⟨RX13, "refusesMove", "(II)I"⟩, prog_15_method_42_code, 3, (some FieldType.int)) := a_in (k := 7) (i := 219) rfl rfl
theorem a_m197 : a_mIn (⟨RX13, "remember", "([I)V"⟩, prog_15_method_40_code, 3, none) := a_in (k := 7) (i := 223) rfl rfl
theorem a_m198 : a_mIn (⟨RX13, "lay", "([I[II)V"⟩, prog_15_method_39_code, 4, none) := a_in (k := 7) (i := 226) rfl rfl
theorem a_m199 : a_mIn (⟨RX13, "goMove", "(II)I"⟩, prog_15_method_43_code, 4, (some FieldType.int)) := a_in (k := 7) (i := 230) rfl rfl
theorem a_m200 : a_mIn (⟨RX13, "told", "(I)I"⟩, prog_15_method_41_code, 1, (some FieldType.int)) := a_in (k := 7) (i := 233) rfl rfl
theorem a_m201 : a_mIn (⟨RX13, "stove", "(I)I"⟩, prog_15_method_47_code, 3, (some FieldType.int)) := a_in (k := 7) (i := 237) rfl rfl
theorem a_m202 : a_mIn (⟨RX13, "refusesStove", "(I)I"⟩, prog_15_method_45_code, 2, (some FieldType.int)) := a_in (k := 8) (i := 1) rfl rfl
theorem a_m203 : a_mIn (⟨RX13, "goStove", "(I)I"⟩, prog_15_method_46_code, 3, (some FieldType.int)) := a_in (k := 8) (i := 5) rfl rfl
theorem a_m204 : a_mIn (⟨RX13, "hour", "()I"⟩, prog_15_method_52_code, 1, (some FieldType.int)) := a_in (k := 8) (i := 9) rfl rfl
theorem a_m205 : a_mIn (⟨RX13, "hours", "(I)I"⟩, prog_15_method_53_code, 2, (some FieldType.int)) := a_in (k := 8) (i := 13) rfl rfl
theorem a_m206 : a_mIn (⟨RX13, "beginHours", "()V"⟩, prog_15_method_50_code, 1, none) := a_in (k := 8) (i := 17) rfl rfl
theorem a_m207 : a_mIn (⟨RX13, "goHours", "([II)V"⟩, prog_15_method_51_code, 4, none) := a_in (k := 8) (i := 21) rfl rfl
theorem a_mc_12 : ∀ q ∈ a_mt_12, a_mIn q := List.forall_mem_cons.mpr ⟨a_m192, List.forall_mem_cons.mpr ⟨a_m193, List.forall_mem_cons.mpr ⟨a_m194, List.forall_mem_cons.mpr ⟨a_m195, List.forall_mem_cons.mpr ⟨a_m196, List.forall_mem_cons.mpr ⟨a_m197, List.forall_mem_cons.mpr ⟨a_m198, List.forall_mem_cons.mpr ⟨a_m199, List.forall_mem_cons.mpr ⟨a_m200, List.forall_mem_cons.mpr ⟨a_m201, List.forall_mem_cons.mpr ⟨a_m202, List.forall_mem_cons.mpr ⟨a_m203, List.forall_mem_cons.mpr ⟨a_m204, List.forall_mem_cons.mpr ⟨a_m205, List.forall_mem_cons.mpr ⟨a_m206, List.forall_mem_cons.mpr ⟨a_m207, fun _ h => absurd h List.not_mem_nil⟩⟩⟩⟩⟩⟩⟩⟩⟩⟩⟩⟩⟩⟩⟩⟩
def a_mt_13 : List a_M := [(⟨RX13, "goHour", "([I)V"⟩, prog_15_method_48_code, 5, none),
  (⟨RX13, "giveWay", "([II)V"⟩, prog_15_method_49_code, 5, none),
  (⟨RX13, "tell", "(J)V"⟩, prog_15_method_6_code, 3, none),
  (⟨RX13, "pay", "(II)I"⟩, prog_15_method_54_code, 3, (some FieldType.int)),
  (⟨RX13, "winter", "()I"⟩, prog_15_method_55_code, 4, (some FieldType.int)),
  (⟨RX13, "readAct", "(I)V"⟩, prog_15_method_57_code, 3, none),
  (⟨RX13, "readRoom", "()I"⟩, prog_15_method_56_code, 2, (some FieldType.int)),
  (⟨RX13, "act", "(III)Z"⟩, prog_15_method_58_code, 4, (some FieldType.boolean)),
  (⟨RX13, "undo", "()I"⟩, prog_15_method_59_code, 2, (some FieldType.int)),
  (⟨RX13, "thick", "(II)I"⟩, prog_15_method_62_code, 3, (some FieldType.int)),
  (⟨RX13, "isLook", "(I)Z"⟩, prog_15_method_60_code, 1, (some FieldType.boolean)),
  (⟨RX13, "layThen", "()V"⟩, prog_15_method_61_code, 1, none),
  (⟨RX13, "gives", "()I"⟩, prog_15_method_66_code, 2, (some FieldType.int)),
  (⟨RX13, "stands", "(I)I"⟩, prog_15_method_65_code, 4, (some FieldType.int)),
  (⟨RX13, "iced", "()I"⟩, prog_15_method_63_code, 3, (some FieldType.int)),
  (⟨RX13, "thawed", "([I)I"⟩, prog_15_method_64_code, 4, (some FieldType.int))]
theorem a_m208 : a_mIn (⟨RX13, "goHour", "([I)V"⟩, prog_15_method_48_code, 5, none) := a_in (k := 8) (i := 25) rfl rfl
theorem a_m209 : a_mIn (⟨RX13, "giveWay", "([II)V"⟩, prog_15_method_49_code, 5, none) := a_in (k := 8) (i := 29) rfl rfl
theorem a_m210 : a_mIn (⟨RX13, "tell", "(J)V"⟩, prog_15_method_6_code, 3, none) := a_in (k := 8) (i := 33) rfl rfl
theorem a_m211 : a_mIn (⟨RX13, "pay", "(II)I"⟩, prog_15_method_54_code, 3, (some FieldType.int)) := a_in (k := 8) (i := 38) rfl rfl
theorem a_m212 : a_mIn (⟨RX13, "winter", "()I"⟩, prog_15_method_55_code, 4, (some FieldType.int)) := a_in (k := 8) (i := 42) rfl rfl
theorem a_m213 : a_mIn (⟨RX13, "readAct", "(I)V"⟩, prog_15_method_57_code, 3, none) := a_in (k := 8) (i := 46) rfl rfl
theorem a_m214 : a_mIn (⟨RX13, "readRoom", "()I"⟩, prog_15_method_56_code, 2, (some FieldType.int)) := a_in (k := 8) (i := 50) rfl rfl
theorem a_m215 : a_mIn (⟨RX13, "act", "(III)Z"⟩, prog_15_method_58_code, 4, (some FieldType.boolean)) := a_in (k := 8) (i := 54) rfl rfl
theorem a_m216 : a_mIn (⟨RX13, "undo", "()I"⟩, prog_15_method_59_code, 2, (some FieldType.int)) := a_in (k := 8) (i := 58) rfl rfl
theorem a_m217 : a_mIn (⟨RX13, "thick", "(II)I"⟩, prog_15_method_62_code, 3, (some FieldType.int)) := a_in (k := 8) (i := 62) rfl rfl
theorem a_m218 : a_mIn (⟨RX13, "isLook", "(I)Z"⟩, prog_15_method_60_code, 1, (some FieldType.boolean)) := a_in (k := 8) (i := 65) rfl rfl
theorem a_m219 : a_mIn (⟨RX13, "layThen", "()V"⟩, prog_15_method_61_code, 1, none) := a_in (k := 8) (i := 69) rfl rfl
theorem a_m220 : a_mIn (⟨RX13, "gives", "()I"⟩, prog_15_method_66_code, 2, (some FieldType.int)) := a_in (k := 8) (i := 73) rfl rfl
theorem a_m221 : a_mIn (⟨RX13, "stands", "(I)I"⟩, prog_15_method_65_code, 4, (some FieldType.int)) := a_in (k := 8) (i := 77) rfl rfl
theorem a_m222 : a_mIn (⟨RX13, "iced", "()I"⟩, prog_15_method_63_code, 3, (some FieldType.int)) := a_in (k := 8) (i := 81) rfl rfl
theorem a_m223 : a_mIn (⟨RX13, "thawed", "([I)I"⟩, prog_15_method_64_code, 4, (some FieldType.int)) := a_in (k := 8) (i := 85) rfl rfl
theorem a_mc_13 : ∀ q ∈ a_mt_13, a_mIn q := List.forall_mem_cons.mpr ⟨a_m208, List.forall_mem_cons.mpr ⟨a_m209, List.forall_mem_cons.mpr ⟨a_m210, List.forall_mem_cons.mpr ⟨a_m211, List.forall_mem_cons.mpr ⟨a_m212, List.forall_mem_cons.mpr ⟨a_m213, List.forall_mem_cons.mpr ⟨a_m214, List.forall_mem_cons.mpr ⟨a_m215, List.forall_mem_cons.mpr ⟨a_m216, List.forall_mem_cons.mpr ⟨a_m217, List.forall_mem_cons.mpr ⟨a_m218, List.forall_mem_cons.mpr ⟨a_m219, List.forall_mem_cons.mpr ⟨a_m220, List.forall_mem_cons.mpr ⟨a_m221, List.forall_mem_cons.mpr ⟨a_m222, List.forall_mem_cons.mpr ⟨a_m223, fun _ h => absurd h List.not_mem_nil⟩⟩⟩⟩⟩⟩⟩⟩⟩⟩⟩⟩⟩⟩⟩⟩
def a_mt_14 : List a_M := [(⟨"java/lang/Integer", "numberOfTrailingZeros", "(I)I"⟩, prog_21_method_48_code, 2, (some FieldType.int)),
  (⟨RX13, "drips", "(I)I"⟩, prog_15_method_67_code, 4, (some FieldType.int)),
  (⟨RX13, "coldest", "(I)I"⟩, prog_15_method_68_code, 3, (some FieldType.int)),
  (⟨RX13, "lodge", "(I)I"⟩, prog_15_method_73_code, 2, (some FieldType.int)),
  (⟨RX13, "findLodgers", "()V"⟩, prog_15_method_69_code, 2, none),
  (⟨RX13, "lodgeAll", "(I)V"⟩, prog_15_method_71_code, 2, none),
  (⟨RX13, "goLodge", "(III)V"⟩, prog_15_method_70_code, 6, none),
  (⟨RX13, "tellRooms", "()V"⟩, prog_15_method_72_code, 2, none),
  (⟨RX13, "longest", "()I"⟩, prog_15_method_74_code, 1, (some FieldType.int)),
  (⟨RX13, "quiet", "(I)I"⟩, prog_15_method_79_code, 6, (some FieldType.int)),
  (⟨RX13, "isQuiet", "(IIII)Z"⟩, prog_15_method_75_code, 9, (some FieldType.boolean)),
  (⟨RX13, "leaveOff", "(I)I"⟩, prog_15_method_76_code, 3, (some FieldType.int)),
  (⟨RX13, "takeUp", "(II)V"⟩, prog_15_method_77_code, 3, none),
  (⟨RX13, "tellQuiet", "(IIII)I"⟩, prog_15_method_78_code, 5, (some FieldType.int)),
  (⟨RX13, "burden", "()I"⟩, prog_15_method_80_code, 6, (some FieldType.int)),
  (⟨RX13, "share", "(I)I"⟩, prog_15_method_83_code, 4, (some FieldType.int))]
theorem a_m224 : a_mIn (⟨"java/lang/Integer", "numberOfTrailingZeros", "(I)I"⟩, prog_21_method_48_code, 2, (some FieldType.int)) := a_in (k := 8) (i := 88) rfl rfl
theorem a_m225 : a_mIn (⟨RX13, "drips", "(I)I"⟩, prog_15_method_67_code, 4, (some FieldType.int)) := a_in (k := 8) (i := 93) rfl rfl
theorem a_m226 : a_mIn (⟨RX13, "coldest", "(I)I"⟩, prog_15_method_68_code, 3, (some FieldType.int)) := a_in (k := 8) (i := 97) rfl rfl
theorem a_m227 : a_mIn (⟨RX13, "lodge", "(I)I"⟩, prog_15_method_73_code, 2, (some FieldType.int)) := a_in (k := 8) (i := 101) rfl rfl
theorem a_m228 : a_mIn (⟨RX13, "findLodgers", "()V"⟩, prog_15_method_69_code, 2, none) := a_in (k := 8) (i := 105) rfl rfl
theorem a_m229 : a_mIn (⟨RX13, "lodgeAll", "(I)V"⟩, prog_15_method_71_code, 2, none) := a_in (k := 8) (i := 109) rfl rfl
theorem a_m230 : a_mIn (⟨RX13, "goLodge", "(III)V"⟩, prog_15_method_70_code, 6, none) := a_in (k := 8) (i := 113) rfl rfl
theorem a_m231 : a_mIn (⟨RX13, "tellRooms", "()V"⟩, prog_15_method_72_code, 2, none) := a_in (k := 8) (i := 117) rfl rfl
theorem a_m232 : a_mIn (⟨RX13, "longest", "()I"⟩, prog_15_method_74_code, 1, (some FieldType.int)) := a_in (k := 8) (i := 121) rfl rfl
theorem a_m233 : a_mIn (⟨RX13, "quiet", "(I)I"⟩, prog_15_method_79_code, 6, (some FieldType.int)) := a_in (k := 8) (i := 125) rfl rfl
theorem a_m234 : a_mIn (⟨RX13, "isQuiet", "(IIII)Z"⟩, prog_15_method_75_code, 9, (some FieldType.boolean)) := a_in (k := 8) (i := 129) rfl rfl
theorem a_m235 : a_mIn (⟨RX13, "leaveOff", "(I)I"⟩, prog_15_method_76_code, 3, (some FieldType.int)) := a_in (k := 8) (i := 133) rfl rfl
theorem a_m236 : a_mIn (⟨RX13, "takeUp", "(II)V"⟩, prog_15_method_77_code, 3, none) := a_in (k := 8) (i := 137) rfl rfl
theorem a_m237 : a_mIn (⟨RX13, "tellQuiet", "(IIII)I"⟩, prog_15_method_78_code, 5, (some FieldType.int)) := a_in (k := 8) (i := 141) rfl rfl
theorem a_m238 : a_mIn (⟨RX13, "burden", "()I"⟩, prog_15_method_80_code, 6, (some FieldType.int)) := a_in (k := 8) (i := 145) rfl rfl
theorem a_m239 : a_mIn (⟨RX13, "share", "(I)I"⟩, prog_15_method_83_code, 4, (some FieldType.int)) := a_in (k := 8) (i := 149) rfl rfl
theorem a_mc_14 : ∀ q ∈ a_mt_14, a_mIn q := List.forall_mem_cons.mpr ⟨a_m224, List.forall_mem_cons.mpr ⟨a_m225, List.forall_mem_cons.mpr ⟨a_m226, List.forall_mem_cons.mpr ⟨a_m227, List.forall_mem_cons.mpr ⟨a_m228, List.forall_mem_cons.mpr ⟨a_m229, List.forall_mem_cons.mpr ⟨a_m230, List.forall_mem_cons.mpr ⟨a_m231, List.forall_mem_cons.mpr ⟨a_m232, List.forall_mem_cons.mpr ⟨a_m233, List.forall_mem_cons.mpr ⟨a_m234, List.forall_mem_cons.mpr ⟨a_m235, List.forall_mem_cons.mpr ⟨a_m236, List.forall_mem_cons.mpr ⟨a_m237, List.forall_mem_cons.mpr ⟨a_m238, List.forall_mem_cons.mpr ⟨a_m239, fun _ h => absurd h List.not_mem_nil⟩⟩⟩⟩⟩⟩⟩⟩⟩⟩⟩⟩⟩⟩⟩⟩
def a_mt_15 : List a_M := [(⟨RX13, "tellPart", "(JJ)V"⟩, prog_15_method_82_code, 7, none),
  (⟨RX13, "common", "(JJ)J"⟩, prog_15_method_81_code, 4, (some FieldType.long)),
  (⟨RX13, "charges", "(I)I"⟩, prog_15_method_84_code, 4, (some FieldType.int)),
  (⟨RX13, "warm", "(II)I"⟩, prog_15_method_85_code, 7, (some FieldType.int)),
  (⟨RX13, "look", "()I"⟩, prog_15_method_86_code, 9, (some FieldType.int)),
  (⟨RX13, "carry", "(I)I"⟩, prog_15_method_89_code, 3, (some FieldType.int)),
  (⟨RX13, "goCarry", "(III)V"⟩, prog_15_method_88_code, 8, none),
  (⟨RX13, "isBeside", "(II)Z"⟩, prog_15_method_87_code, 3, (some FieldType.boolean)),
  (⟨"java/lang/Math", "abs", "(I)I"⟩, prog_23_method_59_code, 1, (some FieldType.int)),
  (⟨RX13, "hearth", "(I)I"⟩, prog_15_method_91_code, 6, (some FieldType.int)),
  (⟨RX13, "meltsWith", "(II)I"⟩, prog_15_method_90_code, 3, (some FieldType.int)),
  (⟨RX13, "rests", "(III)I"⟩, prog_15_method_92_code, 10, (some FieldType.int)),
  (⟨RX13, "water", "()I"⟩, prog_15_method_93_code, 4, (some FieldType.int)),
  (⟨RX13, "thaw", "(II)I"⟩, prog_15_method_96_code, 3, (some FieldType.int)),
  (⟨RX13, "thaws", "(II)J"⟩, prog_15_method_95_code, 9, (some FieldType.long)),
  (⟨RX13, "power", "(JI)J"⟩, prog_15_method_94_code, 6, (some FieldType.long))]
theorem a_m240 : a_mIn (⟨RX13, "tellPart", "(JJ)V"⟩, prog_15_method_82_code, 7, none) := a_in (k := 8) (i := 153) rfl rfl
theorem a_m241 : a_mIn (⟨RX13, "common", "(JJ)J"⟩, prog_15_method_81_code, 4, (some FieldType.long)) := a_in (k := 8) (i := 156) rfl rfl
theorem a_m242 : a_mIn (⟨RX13, "charges", "(I)I"⟩, prog_15_method_84_code, 4, (some FieldType.int)) := a_in (k := 8) (i := 160) rfl rfl
theorem a_m243 : a_mIn (⟨RX13, "warm", "(II)I"⟩, prog_15_method_85_code, 7, (some FieldType.int)) := a_in (k := 8) (i := 164) rfl rfl
theorem a_m244 : a_mIn (⟨RX13, "look", "()I"⟩, prog_15_method_86_code, 9, (some FieldType.int)) := a_in (k := 8) (i := 168) rfl rfl
theorem a_m245 : a_mIn (⟨RX13, "carry", "(I)I"⟩, prog_15_method_89_code, 3, (some FieldType.int)) := a_in (k := 8) (i := 172) rfl rfl
theorem a_m246 : a_mIn (⟨RX13, "goCarry", "(III)V"⟩, prog_15_method_88_code, 8, none) := a_in (k := 8) (i := 177) rfl rfl
theorem a_m247 : a_mIn (⟨RX13, "isBeside", "(II)Z"⟩, prog_15_method_87_code, 3, (some FieldType.boolean)) := a_in (k := 8) (i := 181) rfl rfl
theorem a_m248 : a_mIn (⟨"java/lang/Math", "abs", "(I)I"⟩, prog_23_method_59_code, 1, (some FieldType.int)) := a_in (k := 8) (i := 184) rfl rfl
theorem a_m249 : a_mIn (⟨RX13, "hearth", "(I)I"⟩, prog_15_method_91_code, 6, (some FieldType.int)) := a_in (k := 8) (i := 188) rfl rfl
theorem a_m250 : a_mIn (⟨RX13, "meltsWith", "(II)I"⟩, prog_15_method_90_code, 3, (some FieldType.int)) := a_in (k := 8) (i := 192) rfl rfl
theorem a_m251 : a_mIn (⟨RX13, "rests", "(III)I"⟩, prog_15_method_92_code, 10, (some FieldType.int)) := a_in (k := 8) (i := 196) rfl rfl
theorem a_m252 : a_mIn (⟨RX13, "water", "()I"⟩, prog_15_method_93_code, 4, (some FieldType.int)) := a_in (k := 8) (i := 200) rfl rfl
theorem a_m253 : a_mIn (⟨RX13, "thaw", "(II)I"⟩, prog_15_method_96_code, 3, (some FieldType.int)) := a_in (k := 8) (i := 204) rfl rfl
theorem a_m254 : a_mIn (⟨RX13, "thaws", "(II)J"⟩, prog_15_method_95_code, 9, (some FieldType.long)) := a_in (k := 8) (i := 208) rfl rfl
theorem a_m255 : a_mIn (⟨RX13, "power", "(JI)J"⟩, prog_15_method_94_code, 6, (some FieldType.long)) := a_in (k := 8) (i := 211) rfl rfl
theorem a_mc_15 : ∀ q ∈ a_mt_15, a_mIn q := List.forall_mem_cons.mpr ⟨a_m240, List.forall_mem_cons.mpr ⟨a_m241, List.forall_mem_cons.mpr ⟨a_m242, List.forall_mem_cons.mpr ⟨a_m243, List.forall_mem_cons.mpr ⟨a_m244, List.forall_mem_cons.mpr ⟨a_m245, List.forall_mem_cons.mpr ⟨a_m246, List.forall_mem_cons.mpr ⟨a_m247, List.forall_mem_cons.mpr ⟨a_m248, List.forall_mem_cons.mpr ⟨a_m249, List.forall_mem_cons.mpr ⟨a_m250, List.forall_mem_cons.mpr ⟨a_m251, List.forall_mem_cons.mpr ⟨a_m252, List.forall_mem_cons.mpr ⟨a_m253, List.forall_mem_cons.mpr ⟨a_m254, List.forall_mem_cons.mpr ⟨a_m255, fun _ h => absurd h List.not_mem_nil⟩⟩⟩⟩⟩⟩⟩⟩⟩⟩⟩⟩⟩⟩⟩⟩
def a_mt_16 : List a_M := [(⟨RX13, "leave", "(II)I"⟩, prog_15_method_97_code, 4, (some FieldType.int)),
  (⟨RX13, "season", "(II)I"⟩, prog_15_method_98_code, 7, (some FieldType.int)),
  (⟨RX13, "keep", "(I)Z"⟩, prog_15_method_99_code, 2, (some FieldType.boolean)),
  (⟨RX13, "again", "(I)Z"⟩, prog_15_method_100_code, 3, (some FieldType.boolean)),
  (⟨RX13, "count", "(I)I"⟩, prog_15_method_101_code, 2, (some FieldType.int)),
  (⟨RX13, "row", "(I)J"⟩, prog_15_method_102_code, 2, (some FieldType.long))]
theorem a_m256 : a_mIn (⟨RX13, "leave", "(II)I"⟩, prog_15_method_97_code, 4, (some FieldType.int)) := a_in (k := 8) (i := 216) rfl rfl
theorem a_m257 : a_mIn (⟨RX13, "season", "(II)I"⟩, prog_15_method_98_code, 7, (some FieldType.int)) := a_in (k := 8) (i := 221) rfl rfl
theorem a_m258 : a_mIn (⟨RX13, "keep", "(I)Z"⟩, prog_15_method_99_code, 2, (some FieldType.boolean)) := a_in (k := 8) (i := 227) rfl rfl
theorem a_m259 : a_mIn (⟨RX13, "again", "(I)Z"⟩, prog_15_method_100_code, 3, (some FieldType.boolean)) := a_in (k := 8) (i := 231) rfl rfl
theorem a_m260 : a_mIn (⟨RX13, "count", "(I)I"⟩, prog_15_method_101_code, 2, (some FieldType.int)) := a_in (k := 8) (i := 235) rfl rfl
theorem a_m261 : a_mIn (⟨RX13, "row", "(I)J"⟩, prog_15_method_102_code, 2, (some FieldType.long)) := a_in (k := 8) (i := 239) rfl rfl
theorem a_mc_16 : ∀ q ∈ a_mt_16, a_mIn q := List.forall_mem_cons.mpr ⟨a_m256, List.forall_mem_cons.mpr ⟨a_m257, List.forall_mem_cons.mpr ⟨a_m258, List.forall_mem_cons.mpr ⟨a_m259, List.forall_mem_cons.mpr ⟨a_m260, List.forall_mem_cons.mpr ⟨a_m261, fun _ h => absurd h List.not_mem_nil⟩⟩⟩⟩⟩⟩
noncomputable def a_mt : List a_M := a_mt_0 ++ (a_mt_1 ++ (a_mt_2 ++ (a_mt_3 ++ (a_mt_4 ++ (a_mt_5 ++ (a_mt_6 ++ (a_mt_7 ++ (a_mt_8 ++ (a_mt_9 ++ (a_mt_10 ++ (a_mt_11 ++ (a_mt_12 ++ (a_mt_13 ++ (a_mt_14 ++ (a_mt_15 ++ (a_mt_16))))))))))))))))
noncomputable def a_mtL : List (List a_M) := [a_mt_0, a_mt_1, a_mt_2, a_mt_3, a_mt_4, a_mt_5, a_mt_6, a_mt_7, a_mt_8, a_mt_9, a_mt_10, a_mt_11, a_mt_12, a_mt_13, a_mt_14, a_mt_15, a_mt_16]
theorem a_mt_e : a_mt = a_mtL.flatten := by
  simp only [a_mtL, List.flatten_cons, List.flatten_nil, List.append_nil]
  rfl
theorem a_mt_c : ∀ (L : List (List a_M)) (k j : Nat) (l : List a_M) (q : a_M), (L.take k).all (fun r => Nat.beq r.length 16) = true → L[k]? = some l → l[j]? = some q → L.flatten[16 * k + j]? = some q
  | [], _, _, _, _, _, h, _ => by simp at h
  | l0 :: L, 0, j, l, q, _, h, hj => by
    obtain rfl : l0 = l := by simpa using h
    rw [List.flatten_cons, Nat.mul_zero, Nat.zero_add]
    exact (List.getElem?_append_left (List.getElem?_eq_some_iff.mp hj).1).trans hj
  | l0 :: L, k + 1, j, l, q, hl, h, hj => by
    rw [List.take_succ_cons, List.all_cons] at hl
    obtain ⟨h1, h2⟩ := Bool.and_eq_true _ _ |>.mp hl
    have e := Nat.eq_of_beq_eq_true h1
    rw [List.getElem?_cons_succ] at h
    rw [List.flatten_cons, List.getElem?_append_right (by omega)]
    rw [show 16 * (k + 1) + j - l0.length = 16 * k + j by omega]
    exact a_mt_c L k j l q h2 h hj
theorem a_mt_nth (k j y : Nat) (l : List a_M) (q : a_M) (hy : Nat.beq (16 * k + j) y = true) (h0 : (a_mtL.take k).all (fun r => Nat.beq r.length 16) = true) (h1 : a_mtL[k]? = some l) (h2 : l[j]? = some q) : a_mt[y]? = some q := by
  rw [← Nat.eq_of_beq_eq_true hy, a_mt_e]
  exact a_mt_c a_mtL k j l q h0 h1 h2
theorem a_mt_t : ∀ k, k < 17 → (a_mtL.take k).all (fun r => Nat.beq r.length 16) = true := by decide +kernel
theorem a_mt_n2 {y : Nat} {q : a_M} (h : g_nth2 a_mtL y = some q) : a_mt[y]? = some q := by
  unfold g_nth2 at h
  cases hr : g_nth a_mtL (y / 16) with
  | none =>
    rw [hr] at h
    cases h
  | some l =>
    rw [hr] at h
    have h : g_nth l (y % 16) = some q := h
    have h1 : a_mtL[y / 16]? = some l := (g_nth_eq _ _).symm.trans hr
    have hk : y / 16 < 17 := (List.getElem?_eq_some_iff.mp h1).1
    have e := a_mt_c a_mtL (y / 16) (y % 16) l q (a_mt_t (y / 16) hk) h1 ((g_nth_eq _ _).symm.trans h)
    rw [Nat.div_add_mod] at e
    rw [a_mt_e]
    exact e
theorem a_mt_t_0 : (a_mtL.take 0).all (fun r => Nat.beq r.length 16) = true := by decide +kernel
theorem a_mt_t_1 : (a_mtL.take 1).all (fun r => Nat.beq r.length 16) = true := by decide +kernel
theorem a_mt_t_2 : (a_mtL.take 2).all (fun r => Nat.beq r.length 16) = true := by decide +kernel
theorem a_mt_t_3 : (a_mtL.take 3).all (fun r => Nat.beq r.length 16) = true := by decide +kernel
theorem a_mt_t_4 : (a_mtL.take 4).all (fun r => Nat.beq r.length 16) = true := by decide +kernel
theorem a_mt_t_5 : (a_mtL.take 5).all (fun r => Nat.beq r.length 16) = true := by decide +kernel
theorem a_mt_t_6 : (a_mtL.take 6).all (fun r => Nat.beq r.length 16) = true := by decide +kernel
theorem a_mt_t_7 : (a_mtL.take 7).all (fun r => Nat.beq r.length 16) = true := by decide +kernel
theorem a_mt_t_8 : (a_mtL.take 8).all (fun r => Nat.beq r.length 16) = true := by decide +kernel
theorem a_mt_t_9 : (a_mtL.take 9).all (fun r => Nat.beq r.length 16) = true := by decide +kernel
theorem a_mt_t_10 : (a_mtL.take 10).all (fun r => Nat.beq r.length 16) = true := by decide +kernel
theorem a_mt_t_11 : (a_mtL.take 11).all (fun r => Nat.beq r.length 16) = true := by decide +kernel
theorem a_mt_t_12 : (a_mtL.take 12).all (fun r => Nat.beq r.length 16) = true := by decide +kernel
theorem a_mt_t_13 : (a_mtL.take 13).all (fun r => Nat.beq r.length 16) = true := by decide +kernel
theorem a_mt_t_14 : (a_mtL.take 14).all (fun r => Nat.beq r.length 16) = true := by decide +kernel
theorem a_mt_t_15 : (a_mtL.take 15).all (fun r => Nat.beq r.length 16) = true := by decide +kernel
theorem a_mt_t_16 : (a_mtL.take 16).all (fun r => Nat.beq r.length 16) = true := by decide +kernel
theorem a_mt_in : ∀ q ∈ a_mt, a_mIn q := by
  intro q h
  unfold a_mt at h
  simp only [List.mem_append] at h
  rcases h with h | h | h | h | h | h | h | h | h | h | h | h | h | h | h | h | h
  · exact a_mc_0 q h
  · exact a_mc_1 q h
  · exact a_mc_2 q h
  · exact a_mc_3 q h
  · exact a_mc_4 q h
  · exact a_mc_5 q h
  · exact a_mc_6 q h
  · exact a_mc_7 q h
  · exact a_mc_8 q h
  · exact a_mc_9 q h
  · exact a_mc_10 q h
  · exact a_mc_11 q h
  · exact a_mc_12 q h
  · exact a_mc_13 q h
  · exact a_mc_14 q h
  · exact a_mc_15 q h
  · exact a_mc_16 q h
