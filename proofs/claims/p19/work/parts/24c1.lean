/-! one of some signs -/
section HO
variable {l : Launch} {X : Nat → Option (List Int32)} {Y : (Nat → Prop) → State → Heap → Prop} {xa : Nat → Nat}
theorem m_rm_ok {d mc ms : Nat} : d + 1 ≤ (m_rm (d + 1) mc ms).frames ∧ 40 * d + 40 ≤ (m_rm (d + 1) mc ms).locals := ⟨Nat.le_refl _, Nat.le_refl _⟩
theorem vok_ref {n k : Nat} (h : k < n) : m_vOk n (.ref k) := Or.inl h
theorem e_fault (hY : m_Yok Y) {d : Nat} {σ : m_H} {fs : List Value} {w x : Int32} (hl : 251 < σ.length) (hfl : 16 < fs.length) (hσ : σ[251]? = some (.inr 13, fs)) (hw : fs[16]? = some (.int w)) : e_K l X Y xa (d + 1) 169 σ [.ref 251, .int x] (fun r σ' => r = none ∧ σ' = (if w = -1 then σ.set 251 (.inr 13, fs.set 16 (.int x)) else σ)) := by
  intro q hq
  cases hq
  refine m_K_of (K := kt_169) rfl (by decide +kernel) (Nat.le_of_ble_eq_true rfl) rfl (fun p e s m args below meth c dC dI aC ad sz hC hn hrt => ?_)
  have hk := k_all_ok (own := "LetByTheDegreeModel") rfl kt_169_ok
  refine mW_aload_n hC (kd hk (pc := 0) rfl).1 rfl ?_
  refine mW_invV hY hC (as := []) (st := []) (kd hk (pc := 1) rfl) rfl rfl rfl (e_fine hσ hw _ rfl) hσ (by decide) rfl m_rm_ok (Nat.zero_le _) (Nat.zero_le _) (Nat.zero_le _) (Nat.le_refl _) (fun v hv => by cases hv) (fun u hu => ?_) (fun r σ' hQ => ?_)
  · rcases List.mem_cons.mp hu with rfl | hu
    · exact vok_ref hl
    · rcases List.mem_cons.mp hu with rfl | hu
      · trivial
      · cases hu
  · obtain ⟨rfl, rfl⟩ := hQ
    refine mW_if_eq hC (kd hk (pc := 4) rfl).1 (tgt := 12) rfl (fun h => ?_) (fun h => ?_)
    · have hw1 : ¬ w = -1 := fun z => by rw [if_pos z] at h; exact absurd h (by decide)
      exact mW_vret hC (kd hk (pc := 12) rfl).1 hrt ⟨rfl, by rw [if_neg hw1]⟩ (Nat.le_refl _) (Nat.le_refl _)
    · have hw1 : w = -1 := by
        by_cases z : w = -1
        · exact z
        · rw [if_neg z] at h; exact absurd rfl h
      refine mW_aload_n hC (kd hk (pc := 7) rfl).1 rfl ?_
      refine mW_iload_n hC (kd hk (pc := 8) rfl).1 rfl ?_
      refine mW_pf hC (kd hk (pc := 9) rfl) hσ rfl rfl hfl ?_
      exact mW_vret hC (kd hk (pc := 12) rfl).1 hrt ⟨rfl, by rw [if_pos hw1]⟩ (Nat.le_refl _) (Nat.le_refl _)
end HO
