/-! one of some signs -/
section HO
variable {l : Launch} {X : Nat → Option (List Int32)} {Y : (Nat → Prop) → State → Heap → Prop} {xa : Nat → Nat}
theorem e_oneOf (hY : m_Yok Y) {d : Nat} {σ : m_H} {fs vs : List Value} {w A L T fi mn x : Int32} {q : Nat} (hl : 251 < σ.length) (hfl : 16 < fs.length) (hσ : σ[251]? = some (.inr 13, fs)) (hw : fs[16]? = some (.int w)) (hA : fs[15]? = some (.int A)) (hL : fs[13]? = some (.int L)) (hT : fs[14]? = some (.int T)) (hq : fs[12]? = some (.ref q)) (hq2 : q < σ.length) (hqn : q ≠ 251) (hσ2 : σ[q]? = some (.inl 1, vs)) (hx : A < L → A < T → vp_in A vs.length ∧ vs[A.toNatClampNeg]? = some (.int x))
    (hA0 : 0 ≤ A.toInt) (hA1 : A.toInt ≤ 1000) (hfi : 0 ≤ fi.toInt) :
    e_K l X Y xa (d + 2) 167 σ [.ref 251, .int fi, .int mn] (fun r σ' => (r = some (.int 0) ∧ σ' = σ) ∨ (r = some (.int 0) ∧ σ' = σ.set 251 (.inr 13, fs.set 16 (.int A))) ∨
      (r = some (.int (x - fi)) ∧ σ' = σ.set 251 (.inr 13, fs.set 15 (.int (A + 1))) ∧ (fi ≤ (if A < L ∧ A < T then x &&& 255 else -1) ∧ (if A < L ∧ A < T then x &&& 255 else -1) ≤ fi + mn - 1))) := by
  intro qq hqq
  cases hqq
  refine m_K_of (K := kt_167) rfl (by decide +kernel) (Nat.le_of_ble_eq_true rfl) rfl (fun p e s m args below meth c dC dI aC ad sz hC hn hrt => ?_)
  have hk := k_all_ok (own := "LetByTheDegreeModel") rfl kt_167_ok
  have hls : ∀ u ∈ ([(0, .ref 251), (1, .int fi), (2, .int mn)] : List (Nat × Value)), m_vOk σ.length u.2 := fun u hu => by
    rcases List.mem_cons.mp hu with rfl | hu
    · exact vok_ref hl
    · rcases List.mem_cons.mp hu with rfl | hu
      · trivial
      · rcases List.mem_cons.mp hu with rfl | hu
        · trivial
        · cases hu
  refine mW_aload_n hC (kd hk (pc := 0) rfl).1 rfl ?_
  refine mW_invV hY hC (as := []) (st := []) (kd hk (pc := 1) rfl) rfl rfl rfl (e_fine (d := d + 1) hσ hw _ rfl) hσ (by decide) rfl m_rm_ok (Nat.zero_le _) (Nat.zero_le _) (Nat.zero_le _) (Nat.le_refl _) (fun v hv => by cases hv) hls (fun r σ' hQ => ?_)
  obtain ⟨rfl, rfl⟩ := hQ
  refine mW_if_ne hC (kd hk (pc := 4) rfl).1 (tgt := 9) rfl (fun h => ?_) (fun h => ?_)
  · refine mW_aload_n hC (kd hk (pc := 9) rfl).1 rfl ?_
    refine mW_invV hY hC (as := []) (st := []) (kd hk (pc := 10) rfl) rfl rfl rfl (e_here (d := d + 1) hσ hA hL hT hq hσ2 hx _ rfl) hσ (by decide) rfl m_rm_ok (Nat.zero_le _) (Nat.zero_le _) (Nat.zero_le _) (Nat.le_refl _) (fun v hv => by cases hv) hls (fun r σ' hQ => ?_)
    obtain ⟨rfl, rfl⟩ := hQ
    refine mW_iload_n hC (kd hk (pc := 13) rfl).1 rfl ?_
    refine mW_iload_n hC (kd hk (pc := 14) rfl).1 rfl ?_
    refine mW_iload_n hC (kd hk (pc := 15) rfl).1 rfl ?_
    refine mW_iadd hC (kd hk (pc := 16) rfl).1 ?_
    refine mW_iconst hC (kd hk (pc := 17) rfl).1 ?_
    refine mW_isub hC (kd hk (pc := 18) rfl).1 ?_
    refine mW_invS hY hC (as := [.int (if A < L ∧ A < T then x &&& 255 else -1), .int fi, .int (fi + mn - Int32.ofInt 1)]) (st := []) (kd hk (pc := 19) rfl) rfl rfl (e_in (d := d + 1) _ rfl) rfl m_rm_ok (Nat.zero_le _) (Nat.zero_le _) (Nat.zero_le _) (Nat.le_refl _) (fun v hv => by cases hv) hls (fun r σ' hQ => ?_)
    obtain ⟨rfl, rfl⟩ := hQ
    refine mW_if_ne hC (kd hk (pc := 22) rfl).1 (tgt := 35) rfl (fun h2 => ?_) (fun h2 => ?_)
    · refine mW_aload_n hC (kd hk (pc := 35) rfl).1 rfl ?_
      refine mW_dup hC (kd hk (pc := 36) rfl).1 rfl ?_
      refine mW_gf hC (kd hk (pc := 37) rfl) hσ hA ?_
      refine mW_iconst hC (kd hk (pc := 40) rfl).1 ?_
      refine mW_iadd hC (kd hk (pc := 41) rfl).1 ?_
      refine mW_pf hC (kd hk (pc := 42) rfl) hσ rfl rfl (by omega) ?_
      have g1 : (σ'.set 251 (.inr 13, fs.set 15 (.int (A + Int32.ofInt 1))))[251]? = some (.inr 13, fs.set 15 (.int (A + Int32.ofInt 1))) := List.getElem?_set_self hl
      have g2 : (fs.set 15 (Value.int (A + Int32.ofInt 1)))[12]? = some (.ref q) := by rw [List.getElem?_set_ne (by decide)]; exact hq
      have g3 : (fs.set 15 (Value.int (A + Int32.ofInt 1)))[15]? = some (.int (A + Int32.ofInt 1)) := List.getElem?_set_self (by omega)
      have g4 : (σ'.set 251 (.inr 13, fs.set 15 (.int (A + Int32.ofInt 1))))[q]? = some (.inl 1, vs) := by rw [List.getElem?_set_ne (Ne.symm hqn)]; exact hσ2
      have hAB : A + Int32.ofInt 1 - Int32.ofInt 1 = A := by
        apply Int32.toInt_inj.mp
        have e1 : (A + Int32.ofInt 1).toInt = A.toInt + 1 := i32_add (y := 1) (by show i_m ≤ A.toInt + 1; unfold i_m; omega) (by show A.toInt + 1 ≤ i_M; unfold i_M; omega)
        have e2 : (A + Int32.ofInt 1 - Int32.ofInt 1).toInt = (A + Int32.ofInt 1).toInt - 1 := i32_sub (y := 1) (by show i_m ≤ (A + Int32.ofInt 1).toInt - 1; rw [e1]; unfold i_m; omega) (by show (A + Int32.ofInt 1).toInt - 1 ≤ i_M; rw [e1]; unfold i_M; omega)
        rw [e2, e1]; omega
      have hin : fi ≤ (if A < L ∧ A < T then x &&& 255 else -1) ∧ (if A < L ∧ A < T then x &&& 255 else -1) ≤ fi + mn - 1 := by
        by_cases z : fi ≤ (if A < L ∧ A < T then x &&& 255 else -1) ∧ (if A < L ∧ A < T then x &&& 255 else -1) ≤ fi + mn - Int32.ofInt 1
        · exact z
        · rw [if_neg z] at h2; exact absurd rfl h2
      have hlt : A < L ∧ A < T := by
        by_cases z : A < L ∧ A < T
        · exact z
        · have := hin.1
          rw [if_neg z] at this
          have h9 := Int32.le_iff_toInt_le.mp this
          have h8 : (-1 : Int32).toInt = -1 := by decide
          omega
      obtain ⟨x1, x2⟩ := hx hlt.1 hlt.2
      refine mW_aload_n hC (kd hk (pc := 45) rfl).1 rfl ?_
      refine mW_gf hC (kd hk (pc := 46) rfl) g1 g2 ?_
      refine mW_aload_n hC (kd hk (pc := 49) rfl).1 rfl ?_
      refine mW_gf hC (kd hk (pc := 50) rfl) g1 g3 ?_
      refine mW_iconst hC (kd hk (pc := 53) rfl).1 ?_
      refine mW_isub hC (kd hk (pc := 54) rfl).1 ?_
      refine mW_baload hC (kd hk (pc := 55) rfl).1 g4 (i := A + Int32.ofInt 1 - Int32.ofInt 1) (by rw [hAB]; exact x1) (by rw [hAB]; exact x2) ?_
      refine mW_iload_n hC (kd hk (pc := 56) rfl).1 rfl ?_
      refine mW_isub hC (kd hk (pc := 57) rfl).1 ?_
      exact mW_iret hC (kd hk (pc := 58) rfl).1 hrt rfl (Or.inr (Or.inr ⟨rfl, rfl, hin⟩)) (Nat.le_refl _) (Nat.le_refl _)
    · refine mW_aload_n hC (kd hk (pc := 25) rfl).1 rfl ?_
      refine mW_aload_n hC (kd hk (pc := 26) rfl).1 rfl ?_
      refine mW_gf hC (kd hk (pc := 27) rfl) hσ hA ?_
      refine mW_invV hY hC (as := [.int A]) (st := []) (kd hk (pc := 30) rfl) rfl rfl rfl (e_fault hY (d := d) hl hfl hσ hw _ rfl) hσ (by decide) rfl m_rm_ok (Nat.zero_le _) (Nat.zero_le _) (Nat.zero_le _) (Nat.le_refl _) (fun v hv => by cases hv) hls (fun r σ'' hQ => ?_)
      obtain ⟨rfl, rfl⟩ := hQ
      refine mW_iconst hC (kd hk (pc := 33) rfl).1 ?_
      refine mW_iret hC (kd hk (pc := 34) rfl).1 hrt rfl ?_ (Nat.le_refl _) (Nat.le_refl _)
      by_cases hw1 : w = -1
      · rw [if_pos hw1]; exact Or.inr (Or.inl ⟨rfl, rfl⟩)
      · rw [if_neg hw1]; exact Or.inl ⟨rfl, rfl⟩
  · refine mW_iconst hC (kd hk (pc := 7) rfl).1 ?_
    exact mW_iret hC (kd hk (pc := 8) rfl).1 hrt rfl (Or.inl ⟨rfl, rfl⟩) (Nat.le_refl _) (Nat.le_refl _)
end HO
