/-! A METHOD'S TABLE checked at once -/
def k_lc (c : Nat) (i : Jvm.ClassFile.Instr) (aux : List Nat) : Bool := match i, aux with
  | .invokevirtual x, [j, y, _, ne] => k_lchk c x j y ne
  | .invokestatic x, [j, y, _, ne] => k_lchk c x j y ne
  | .invokestatic x, [a, b] => decide ((a_part a)[b]? = some (.methodLink (a_R c) x arraycopyName)) && goodWord (.methodLink (a_R c) x arraycopyName)
  | .invokestatic x, [kd, a, b] => decide ((a_part a)[b]? = some (.methodLink (a_R c) x (nt_nm kd))) && goodWord (.methodLink (a_R c) x (nt_nm kd))
  | .invokevirtual x, [a, b, _] => decide ((a_part a)[b]? = some (.methodLink (a_R c) x ix_y)) && goodWord (.methodLink (a_R c) x ix_y)
  | .ldc x, [_, _] => decide (a_R c = "LetByTheDegree$RuleReader") && Nat.beq x 80
  | _, _ => true
theorem cp_words : Cond.native arraycopyName ∈ a_tb ∧ Cond.static arraycopyName ∈ a_tb ∧ Cond.initialized "java/lang/System" ∈ a_tb := ⟨a_in (k := 3) (i := 159) (by decide +kernel) (by decide +kernel), a_in (k := 3) (i := 158) (by decide +kernel) (by decide +kernel), a_in (k := 1) (i := 15) (by decide +kernel) (by decide +kernel)⟩
def k_one (c : Nat) (cc : ByteArray) (q : a_K) : Bool := k_dec cc q && (k_wchk c q.2.1 q.2.2.2.2 && k_lc c q.2.1 q.2.2.2.2)
theorem k_one_ok {c : Nat} {cc : ByteArray} {q : a_K} (h : k_one c cc q = true) : k_ok (a_R c) cc q := by
  obtain ⟨h1, h4⟩ := Bool.and_eq_true _ _ |>.mp h
  obtain ⟨h2, h3⟩ := Bool.and_eq_true _ _ |>.mp h4
  refine ⟨k_dec_ok h1, k_wchk_ok h2, fun x j y w ne hi ha => ?_, fun x a b hi ha => ?_, fun x kd a b hi ha => ?_, fun x a b w hi ha => ?_, fun x a b hi ha => ?_⟩
  · rw [ha] at h3
    rcases hi with hi | hi <;> (rw [hi] at h3; exact k_lchk_ok h3)
  · rw [ha, hi] at h3
    obtain ⟨g1, g2⟩ := Bool.and_eq_true _ _ |>.mp h3
    exact ⟨a_in (of_decide_eq_true g1) g2, cp_words⟩
  · rw [ha, hi] at h3
    obtain ⟨g1, g2⟩ := Bool.and_eq_true _ _ |>.mp h3
    exact a_in (of_decide_eq_true g1) g2
  · rw [ha, hi] at h3
    obtain ⟨g1, g2⟩ := Bool.and_eq_true _ _ |>.mp h3
    exact a_in (of_decide_eq_true g1) g2
  · rw [ha, hi] at h3
    obtain ⟨g1, g2⟩ := Bool.and_eq_true _ _ |>.mp h3
    exact ⟨of_decide_eq_true g1, Nat.eq_of_beq_eq_true g2⟩
theorem k_all_ok {c : Nat} {own : String} {cc : ByteArray} {code : List (List a_K)} (ho : own = a_R c) (h : code.all (fun r => r.all (k_one c cc)) = true) : ∀ r ∈ code, ∀ q ∈ r, k_ok own cc q := fun r hr q hq => by
  rw [ho]
  exact k_one_ok (List.all_eq_true.mp (List.all_eq_true.mp h r hr) q hq)
