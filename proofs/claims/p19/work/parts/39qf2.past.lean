/-! WHAT WAS: becoming, remembering, going back -/
theorem z_st_far {s t : Nat} (hs : z_st s) (ht : z_st t) (h : ¬ s = t) : s + 5 < t ∨ t + 5 < s := by
  have e : ∀ s ∈ z_stL, ∀ t ∈ z_stL, s = t ∨ (s + 5 < t ∨ t + 5 < s) := by decide
  exact (e s hs.1 t ht.1).resolve_left h
theorem c_become {s t : Nat} (hs : z_st s) (ht : z_st t) (hd : ¬ s = t) (m : z_M) : ∃ m', z_R 61 (m, 0, [(2, ((t : Nat) : Int)), (2, ((s : Nat) : Int))], []) = some (m', none) ∧ cR m' t = cR m s ∧ z_same (c_LB t) m m' := by
  have hf := z_st_far hs ht hd
  have ht2 := ht.2
  rw [s_bec_0 hs ht hf]
  refine ⟨_, rfl, ?_, ((((((((z_same.rf.cp (fun k h1 h2 => (by (try unfold c_LB); first | exact z_on_h rfl (by omega) (by omega) | exact z_on_t (z_on_h rfl (by omega) (by omega)) | exact z_on_t (z_on_t (z_on_h rfl (by omega) (by omega))) | exact z_on_t (z_on_t (z_on_t (z_on_h rfl (by omega) (by omega)))) | exact z_on_t (z_on_t (z_on_t (z_on_t (z_on_h rfl (by omega) (by omega))))) | exact z_on_t (z_on_t (z_on_t (z_on_t (z_on_t (z_on_h rfl (by omega) (by omega)))))) | exact z_on_t (z_on_t (z_on_t (z_on_t (z_on_t (z_on_t (z_on_h rfl (by omega) (by omega))))))) | exact z_on_t (z_on_t (z_on_t (z_on_t (z_on_t (z_on_t (z_on_t (z_on_h rfl (by omega) (by omega)))))))) | exact z_on_t (z_on_t (z_on_t (z_on_t (z_on_t (z_on_t (z_on_t (z_on_t (z_on_h rfl (by omega) (by omega))))))))) | exact z_on_t (z_on_t (z_on_t (z_on_t (z_on_t (z_on_t (z_on_t (z_on_t (z_on_t (z_on_h rfl (by omega) (by omega)))))))))) | exact z_on_t (z_on_t (z_on_t (z_on_t (z_on_t (z_on_t (z_on_t (z_on_t (z_on_t (z_on_t (z_on_h rfl (by omega) (by omega))))))))))) | exact z_on_t (z_on_t (z_on_t (z_on_t (z_on_t (z_on_t (z_on_t (z_on_t (z_on_t (z_on_t (z_on_t (z_on_h rfl (by omega) (by omega)))))))))))) | exact z_on_t (z_on_t (z_on_t (z_on_t (z_on_t (z_on_t (z_on_t (z_on_t (z_on_t (z_on_t (z_on_t (z_on_t (z_on_h rfl (by omega) (by omega)))))))))))))))).cp (fun k h1 h2 => (by (try unfold c_LB); first | exact z_on_h rfl (by omega) (by omega) | exact z_on_t (z_on_h rfl (by omega) (by omega)) | exact z_on_t (z_on_t (z_on_h rfl (by omega) (by omega))) | exact z_on_t (z_on_t (z_on_t (z_on_h rfl (by omega) (by omega)))) | exact z_on_t (z_on_t (z_on_t (z_on_t (z_on_h rfl (by omega) (by omega))))) | exact z_on_t (z_on_t (z_on_t (z_on_t (z_on_t (z_on_h rfl (by omega) (by omega)))))) | exact z_on_t (z_on_t (z_on_t (z_on_t (z_on_t (z_on_t (z_on_h rfl (by omega) (by omega))))))) | exact z_on_t (z_on_t (z_on_t (z_on_t (z_on_t (z_on_t (z_on_t (z_on_h rfl (by omega) (by omega)))))))) | exact z_on_t (z_on_t (z_on_t (z_on_t (z_on_t (z_on_t (z_on_t (z_on_t (z_on_h rfl (by omega) (by omega))))))))) | exact z_on_t (z_on_t (z_on_t (z_on_t (z_on_t (z_on_t (z_on_t (z_on_t (z_on_t (z_on_h rfl (by omega) (by omega)))))))))) | exact z_on_t (z_on_t (z_on_t (z_on_t (z_on_t (z_on_t (z_on_t (z_on_t (z_on_t (z_on_t (z_on_h rfl (by omega) (by omega))))))))))) | exact z_on_t (z_on_t (z_on_t (z_on_t (z_on_t (z_on_t (z_on_t (z_on_t (z_on_t (z_on_t (z_on_t (z_on_h rfl (by omega) (by omega)))))))))))) | exact z_on_t (z_on_t (z_on_t (z_on_t (z_on_t (z_on_t (z_on_t (z_on_t (z_on_t (z_on_t (z_on_t (z_on_t (z_on_h rfl (by omega) (by omega)))))))))))))))).cp (fun k h1 h2 => (by (try unfold c_LB); first | exact z_on_h rfl (by omega) (by omega) | exact z_on_t (z_on_h rfl (by omega) (by omega)) | exact z_on_t (z_on_t (z_on_h rfl (by omega) (by omega))) | exact z_on_t (z_on_t (z_on_t (z_on_h rfl (by omega) (by omega)))) | exact z_on_t (z_on_t (z_on_t (z_on_t (z_on_h rfl (by omega) (by omega))))) | exact z_on_t (z_on_t (z_on_t (z_on_t (z_on_t (z_on_h rfl (by omega) (by omega)))))) | exact z_on_t (z_on_t (z_on_t (z_on_t (z_on_t (z_on_t (z_on_h rfl (by omega) (by omega))))))) | exact z_on_t (z_on_t (z_on_t (z_on_t (z_on_t (z_on_t (z_on_t (z_on_h rfl (by omega) (by omega)))))))) | exact z_on_t (z_on_t (z_on_t (z_on_t (z_on_t (z_on_t (z_on_t (z_on_t (z_on_h rfl (by omega) (by omega))))))))) | exact z_on_t (z_on_t (z_on_t (z_on_t (z_on_t (z_on_t (z_on_t (z_on_t (z_on_t (z_on_h rfl (by omega) (by omega)))))))))) | exact z_on_t (z_on_t (z_on_t (z_on_t (z_on_t (z_on_t (z_on_t (z_on_t (z_on_t (z_on_t (z_on_h rfl (by omega) (by omega))))))))))) | exact z_on_t (z_on_t (z_on_t (z_on_t (z_on_t (z_on_t (z_on_t (z_on_t (z_on_t (z_on_t (z_on_t (z_on_h rfl (by omega) (by omega)))))))))))) | exact z_on_t (z_on_t (z_on_t (z_on_t (z_on_t (z_on_t (z_on_t (z_on_t (z_on_t (z_on_t (z_on_t (z_on_t (z_on_h rfl (by omega) (by omega)))))))))))))))).cp (fun k h1 h2 => (by (try unfold c_LB); first | exact z_on_h rfl (by omega) (by omega) | exact z_on_t (z_on_h rfl (by omega) (by omega)) | exact z_on_t (z_on_t (z_on_h rfl (by omega) (by omega))) | exact z_on_t (z_on_t (z_on_t (z_on_h rfl (by omega) (by omega)))) | exact z_on_t (z_on_t (z_on_t (z_on_t (z_on_h rfl (by omega) (by omega))))) | exact z_on_t (z_on_t (z_on_t (z_on_t (z_on_t (z_on_h rfl (by omega) (by omega)))))) | exact z_on_t (z_on_t (z_on_t (z_on_t (z_on_t (z_on_t (z_on_h rfl (by omega) (by omega))))))) | exact z_on_t (z_on_t (z_on_t (z_on_t (z_on_t (z_on_t (z_on_t (z_on_h rfl (by omega) (by omega)))))))) | exact z_on_t (z_on_t (z_on_t (z_on_t (z_on_t (z_on_t (z_on_t (z_on_t (z_on_h rfl (by omega) (by omega))))))))) | exact z_on_t (z_on_t (z_on_t (z_on_t (z_on_t (z_on_t (z_on_t (z_on_t (z_on_t (z_on_h rfl (by omega) (by omega)))))))))) | exact z_on_t (z_on_t (z_on_t (z_on_t (z_on_t (z_on_t (z_on_t (z_on_t (z_on_t (z_on_t (z_on_h rfl (by omega) (by omega))))))))))) | exact z_on_t (z_on_t (z_on_t (z_on_t (z_on_t (z_on_t (z_on_t (z_on_t (z_on_t (z_on_t (z_on_t (z_on_h rfl (by omega) (by omega)))))))))))) | exact z_on_t (z_on_t (z_on_t (z_on_t (z_on_t (z_on_t (z_on_t (z_on_t (z_on_t (z_on_t (z_on_t (z_on_t (z_on_h rfl (by omega) (by omega)))))))))))))))).cp (fun k h1 h2 => (by (try unfold c_LB); first | exact z_on_h rfl (by omega) (by omega) | exact z_on_t (z_on_h rfl (by omega) (by omega)) | exact z_on_t (z_on_t (z_on_h rfl (by omega) (by omega))) | exact z_on_t (z_on_t (z_on_t (z_on_h rfl (by omega) (by omega)))) | exact z_on_t (z_on_t (z_on_t (z_on_t (z_on_h rfl (by omega) (by omega))))) | exact z_on_t (z_on_t (z_on_t (z_on_t (z_on_t (z_on_h rfl (by omega) (by omega)))))) | exact z_on_t (z_on_t (z_on_t (z_on_t (z_on_t (z_on_t (z_on_h rfl (by omega) (by omega))))))) | exact z_on_t (z_on_t (z_on_t (z_on_t (z_on_t (z_on_t (z_on_t (z_on_h rfl (by omega) (by omega)))))))) | exact z_on_t (z_on_t (z_on_t (z_on_t (z_on_t (z_on_t (z_on_t (z_on_t (z_on_h rfl (by omega) (by omega))))))))) | exact z_on_t (z_on_t (z_on_t (z_on_t (z_on_t (z_on_t (z_on_t (z_on_t (z_on_t (z_on_h rfl (by omega) (by omega)))))))))) | exact z_on_t (z_on_t (z_on_t (z_on_t (z_on_t (z_on_t (z_on_t (z_on_t (z_on_t (z_on_t (z_on_h rfl (by omega) (by omega))))))))))) | exact z_on_t (z_on_t (z_on_t (z_on_t (z_on_t (z_on_t (z_on_t (z_on_t (z_on_t (z_on_t (z_on_t (z_on_h rfl (by omega) (by omega)))))))))))) | exact z_on_t (z_on_t (z_on_t (z_on_t (z_on_t (z_on_t (z_on_t (z_on_t (z_on_t (z_on_t (z_on_t (z_on_t (z_on_h rfl (by omega) (by omega)))))))))))))))).upo (by (try unfold c_LB); first | exact z_on_h rfl (by omega) (by omega) | exact z_on_t (z_on_h rfl (by omega) (by omega)) | exact z_on_t (z_on_t (z_on_h rfl (by omega) (by omega))) | exact z_on_t (z_on_t (z_on_t (z_on_h rfl (by omega) (by omega)))) | exact z_on_t (z_on_t (z_on_t (z_on_t (z_on_h rfl (by omega) (by omega))))) | exact z_on_t (z_on_t (z_on_t (z_on_t (z_on_t (z_on_h rfl (by omega) (by omega)))))) | exact z_on_t (z_on_t (z_on_t (z_on_t (z_on_t (z_on_t (z_on_h rfl (by omega) (by omega))))))) | exact z_on_t (z_on_t (z_on_t (z_on_t (z_on_t (z_on_t (z_on_t (z_on_h rfl (by omega) (by omega)))))))) | exact z_on_t (z_on_t (z_on_t (z_on_t (z_on_t (z_on_t (z_on_t (z_on_t (z_on_h rfl (by omega) (by omega))))))))) | exact z_on_t (z_on_t (z_on_t (z_on_t (z_on_t (z_on_t (z_on_t (z_on_t (z_on_t (z_on_h rfl (by omega) (by omega)))))))))) | exact z_on_t (z_on_t (z_on_t (z_on_t (z_on_t (z_on_t (z_on_t (z_on_t (z_on_t (z_on_t (z_on_h rfl (by omega) (by omega))))))))))) | exact z_on_t (z_on_t (z_on_t (z_on_t (z_on_t (z_on_t (z_on_t (z_on_t (z_on_t (z_on_t (z_on_t (z_on_h rfl (by omega) (by omega)))))))))))) | exact z_on_t (z_on_t (z_on_t (z_on_t (z_on_t (z_on_t (z_on_t (z_on_t (z_on_t (z_on_t (z_on_t (z_on_t (z_on_h rfl (by omega) (by omega))))))))))))))).upo (by (try unfold c_LB); first | exact z_on_h rfl (by omega) (by omega) | exact z_on_t (z_on_h rfl (by omega) (by omega)) | exact z_on_t (z_on_t (z_on_h rfl (by omega) (by omega))) | exact z_on_t (z_on_t (z_on_t (z_on_h rfl (by omega) (by omega)))) | exact z_on_t (z_on_t (z_on_t (z_on_t (z_on_h rfl (by omega) (by omega))))) | exact z_on_t (z_on_t (z_on_t (z_on_t (z_on_t (z_on_h rfl (by omega) (by omega)))))) | exact z_on_t (z_on_t (z_on_t (z_on_t (z_on_t (z_on_t (z_on_h rfl (by omega) (by omega))))))) | exact z_on_t (z_on_t (z_on_t (z_on_t (z_on_t (z_on_t (z_on_t (z_on_h rfl (by omega) (by omega)))))))) | exact z_on_t (z_on_t (z_on_t (z_on_t (z_on_t (z_on_t (z_on_t (z_on_t (z_on_h rfl (by omega) (by omega))))))))) | exact z_on_t (z_on_t (z_on_t (z_on_t (z_on_t (z_on_t (z_on_t (z_on_t (z_on_t (z_on_h rfl (by omega) (by omega)))))))))) | exact z_on_t (z_on_t (z_on_t (z_on_t (z_on_t (z_on_t (z_on_t (z_on_t (z_on_t (z_on_t (z_on_h rfl (by omega) (by omega))))))))))) | exact z_on_t (z_on_t (z_on_t (z_on_t (z_on_t (z_on_t (z_on_t (z_on_t (z_on_t (z_on_t (z_on_t (z_on_h rfl (by omega) (by omega)))))))))))) | exact z_on_t (z_on_t (z_on_t (z_on_t (z_on_t (z_on_t (z_on_t (z_on_t (z_on_t (z_on_t (z_on_t (z_on_t (z_on_h rfl (by omega) (by omega))))))))))))))).upo (by (try unfold c_LB); first | exact z_on_h rfl (by omega) (by omega) | exact z_on_t (z_on_h rfl (by omega) (by omega)) | exact z_on_t (z_on_t (z_on_h rfl (by omega) (by omega))) | exact z_on_t (z_on_t (z_on_t (z_on_h rfl (by omega) (by omega)))) | exact z_on_t (z_on_t (z_on_t (z_on_t (z_on_h rfl (by omega) (by omega))))) | exact z_on_t (z_on_t (z_on_t (z_on_t (z_on_t (z_on_h rfl (by omega) (by omega)))))) | exact z_on_t (z_on_t (z_on_t (z_on_t (z_on_t (z_on_t (z_on_h rfl (by omega) (by omega))))))) | exact z_on_t (z_on_t (z_on_t (z_on_t (z_on_t (z_on_t (z_on_t (z_on_h rfl (by omega) (by omega)))))))) | exact z_on_t (z_on_t (z_on_t (z_on_t (z_on_t (z_on_t (z_on_t (z_on_t (z_on_h rfl (by omega) (by omega))))))))) | exact z_on_t (z_on_t (z_on_t (z_on_t (z_on_t (z_on_t (z_on_t (z_on_t (z_on_t (z_on_h rfl (by omega) (by omega)))))))))) | exact z_on_t (z_on_t (z_on_t (z_on_t (z_on_t (z_on_t (z_on_t (z_on_t (z_on_t (z_on_t (z_on_h rfl (by omega) (by omega))))))))))) | exact z_on_t (z_on_t (z_on_t (z_on_t (z_on_t (z_on_t (z_on_t (z_on_t (z_on_t (z_on_t (z_on_t (z_on_h rfl (by omega) (by omega)))))))))))) | exact z_on_t (z_on_t (z_on_t (z_on_t (z_on_t (z_on_t (z_on_t (z_on_t (z_on_t (z_on_t (z_on_t (z_on_t (z_on_h rfl (by omega) (by omega))))))))))))))).upo (by (try unfold c_LB); first | exact z_on_h rfl (by omega) (by omega) | exact z_on_t (z_on_h rfl (by omega) (by omega)) | exact z_on_t (z_on_t (z_on_h rfl (by omega) (by omega))) | exact z_on_t (z_on_t (z_on_t (z_on_h rfl (by omega) (by omega)))) | exact z_on_t (z_on_t (z_on_t (z_on_t (z_on_h rfl (by omega) (by omega))))) | exact z_on_t (z_on_t (z_on_t (z_on_t (z_on_t (z_on_h rfl (by omega) (by omega)))))) | exact z_on_t (z_on_t (z_on_t (z_on_t (z_on_t (z_on_t (z_on_h rfl (by omega) (by omega))))))) | exact z_on_t (z_on_t (z_on_t (z_on_t (z_on_t (z_on_t (z_on_t (z_on_h rfl (by omega) (by omega)))))))) | exact z_on_t (z_on_t (z_on_t (z_on_t (z_on_t (z_on_t (z_on_t (z_on_t (z_on_h rfl (by omega) (by omega))))))))) | exact z_on_t (z_on_t (z_on_t (z_on_t (z_on_t (z_on_t (z_on_t (z_on_t (z_on_t (z_on_h rfl (by omega) (by omega)))))))))) | exact z_on_t (z_on_t (z_on_t (z_on_t (z_on_t (z_on_t (z_on_t (z_on_t (z_on_t (z_on_t (z_on_h rfl (by omega) (by omega))))))))))) | exact z_on_t (z_on_t (z_on_t (z_on_t (z_on_t (z_on_t (z_on_t (z_on_t (z_on_t (z_on_t (z_on_t (z_on_h rfl (by omega) (by omega)))))))))))) | exact z_on_t (z_on_t (z_on_t (z_on_t (z_on_t (z_on_t (z_on_t (z_on_t (z_on_t (z_on_t (z_on_t (z_on_t (z_on_h rfl (by omega) (by omega))))))))))))))⟩
  funext k
  unfold cR
  refine z_ifc (fun h1 => ?_) (fun h1 => z_ifc (fun h2 => ?_) (fun h2 => z_ifc (fun h3 => ?_) (fun h3 => z_ifc (fun h4 => ?_) (fun h4 => z_ifc (fun h5 => ?_) (fun h5 => z_ifc (fun h6 => ?_) (fun h6 => rfl))))))
  · rw [zu_p (by omega), zu_p (by omega), zu_p (by omega), zu_p (by omega), zc_p (by omega), zc_p (by omega), zc_p (by omega), zc_p (by omega), zc_in h1]
  · rw [zu_p (by omega), zu_p (by omega), zu_p (by omega), zu_p (by omega), zc_p (by omega), zc_p (by omega), zc_p (by omega), zc_in (by omega), zc_p (by omega)]
  · rw [zu_p (by omega), zu_p (by omega), zu_p (by omega), zu_p (by omega), zc_p (by omega), zc_p (by omega), zc_in (by omega), zc_p (by omega), zc_p (by omega)]
  · rw [zu_p (by omega), zu_p (by omega), zu_p (by omega), zu_p (by omega), zc_p (by omega), zc_in (by omega), zc_p (by omega), zc_p (by omega), zc_p (by omega)]
  · rw [zu_p (by omega), zu_p (by omega), zu_p (by omega), zu_p (by omega), zc_in (by omega), zc_p (by omega), zc_p (by omega), zc_p (by omega), zc_p (by omega)]
  · rcases (show k = 33 ∨ k = 34 ∨ k = 35 ∨ k = 36 by omega) with rfl | rfl | rfl | rfl
    · show z_up (z_up (z_up (z_up _ t 5 _) t 6 _) t 7 _) t 8 _ t 5 = _
      rw [zu_k (by decide), zu_k (by decide), zu_k (by decide), zu_self]
    · show z_up (z_up (z_up (z_up _ t 5 _) t 6 _) t 7 _) t 8 _ t 6 = _
      rw [zu_k (by decide), zu_k (by decide), zu_self]
    · show z_up (z_up (z_up (z_up _ t 5 _) t 6 _) t 7 _) t 8 _ t 7 = _
      rw [zu_k (by decide), zu_self]
    · show z_up (z_up (z_up (z_up _ t 5 _) t 6 _) t 7 _) t 8 _ t 8 = _
      rw [zu_self]
theorem cS_cR {m m' : z_M} {s t : Nat} {n : Int} (h : cR m' t = cR m s) : cS m' t n = cS m s n := by unfold cS; rw [h]
/-- what can be undone, of the reference: slot j -/
def uR (m : z_M) (p j : Nat) (n : Int) : Nat → Int := a_msk n (fun k => if k < 37 then m p (37 * j + k) else 0)
theorem uR_row {m m' : z_M} {p j : Nat} {n : Int} (h : ∀ k, k < 37 → m' p (37 * j + k) = m p (37 * j + k)) : uR m' p j n = uR m p j n := by
  unfold uR
  congr 1
  funext k
  exact z_ifc (fun hk => h k hk) (fun _ => rfl)
theorem uR_is {m m' : z_M} {p j a : Nat} {n : Int} (h : ∀ k, k < 37 → m' p (37 * j + k) = m a k) : uR m' p j n = rS m a n := by
  unfold uR rS
  congr 1
  funext k
  unfold rR
  exact z_ifc (fun hk => h k hk) (fun _ => rfl)
theorem rS_is {m m' : z_M} {p j a : Nat} {n : Int} (h : ∀ k, k < 37 → m' a k = m p (37 * j + k)) : rS m' a n = uR m p j n := by
  unfold uR rS
  congr 1
  funext k
  unfold rR
  exact z_ifc (fun hk => h k hk) (fun _ => rfl)
/-- the reference lays a State down -/
theorem t_layg {a q : Nat} {B : Int} (hS : ∀ (m : z_M) (x2 x3 : Int), 0 ≤ x2 ∧ x2 ≤ B → 0 ≤ x3 ∧ x3 ≤ 37 → z_R 198 (m, 2, [(2, (a : Int)), (2, (q : Int)), (0, x2), (0, x3)], []) = if 37 ≤ x3 then some (m, none) else z_R 198 (z_up m q (x2 + x3).toNat (m a x3.toNat), 2, [(2, (a : Int)), (2, (q : Int)), (0, x2), (0, x3 + 1)], [])) (hne : ¬ a = q) {b : Nat} (hb : (b : Int) ≤ B) : ∀ (f x : Nat) (m : z_M), x + f = 37 → ∃ m', z_R 198 (m, 2, [(2, (a : Int)), (2, (q : Int)), (0, (b : Int)), (0, (x : Int))], []) = some (m', none) ∧ (∀ k, x ≤ k → k < 37 → m' q (b + k) = m a k) ∧ (∀ p k, ¬ (p = q ∧ b + x ≤ k ∧ k < b + 37) → m' p k = m p k) := by
  intro f
  induction f with
  | zero =>
    intro x m hx
    rw [hS m b x ⟨by omega, by omega⟩ ⟨by omega, by omega⟩, if_pos (by omega)]
    exact ⟨m, rfl, fun k h1 h2 => by omega, fun _ _ _ => rfl⟩
  | succ f ih =>
    intro x m hx
    rw [hS m b x ⟨by omega, by omega⟩ ⟨by omega, by omega⟩, if_neg (by omega), Int.toNat_natCast, tc1, show ((b : Int) + (x : Int)).toNat = b + x by omega]
    obtain ⟨m', a1, a2, a3⟩ := ih (x + 1) (z_up m q (b + x) (m a x)) (by omega)
    refine ⟨m', a1, fun k h1 h2 => ?_, fun p k hn => ?_⟩
    · by_cases hk : k = x
      · rw [hk, a3 q (b + x) (by omega), zu_self]
      · rw [a2 k (by omega) h2, zu_p hne]
    · rw [a3 p k (by omega)]
      by_cases hp : p = q
      · subst hp
        rw [zu_k (by omega)]
      · rw [zu_p hp]
theorem t_layd {a q : Nat} {B : Int} (hS0 : ∀ (m : z_M) (x2 : Int), 0 ≤ x2 ∧ x2 ≤ B → z_R 198 (m, 0, [(2, (a : Int)), (2, (q : Int)), (0, x2), (9, 0)], []) = z_R 198 (m, 2, [(2, (a : Int)), (2, (q : Int)), (0, x2), (0, 0)], [])) (hS : ∀ (m : z_M) (x2 x3 : Int), 0 ≤ x2 ∧ x2 ≤ B → 0 ≤ x3 ∧ x3 ≤ 37 → z_R 198 (m, 2, [(2, (a : Int)), (2, (q : Int)), (0, x2), (0, x3)], []) = if 37 ≤ x3 then some (m, none) else z_R 198 (z_up m q (x2 + x3).toNat (m a x3.toNat), 2, [(2, (a : Int)), (2, (q : Int)), (0, x2), (0, x3 + 1)], [])) (hne : ¬ a = q) {b : Nat} (hb : (b : Int) ≤ B) (m : z_M) : ∃ m', z_R 198 (m, 0, [(2, (a : Int)), (2, (q : Int)), (0, (b : Int)), (9, 0)], []) = some (m', none) ∧ (∀ k, k < 37 → m' q (b + k) = m a k) ∧ (∀ p k, ¬ (p = q ∧ b ≤ k ∧ k < b + 37) → m' p k = m p k) := by
  obtain ⟨m', a1, a2, a3⟩ := t_layg hS hne hb 37 0 m (by decide)
  refine ⟨m', ?_, fun k hk => a2 k (Nat.zero_le _) hk, fun p k hn => a3 p k (by omega)⟩
  rw [hS0 m b ⟨by omega, by omega⟩]
  exact a1
/-- the reference's slots move down by one -/
theorem t_shift {a : Nat} (ha : a = 252 ∨ a = 261) (hS : ∀ (m : z_M) (x2 : Int), 0 ≤ x2 ∧ x2 ≤ 407 → m 251 25 = 12 → z_R 197 (m, 11, [(2, 251), (2, (a : Int)), (0, x2)], []) = if 407 ≤ x2 then (z_R 198 (z_up m 251 25 (m 251 25 - 1), 0, [(2, (a : Int)), (2, 260), (0, 37 * m 251 25 - 37), (9, 0)], [])).bind fun qq => z_R 197 (qq.1, 64, [(2, 251), (2, (a : Int)), (0, x2)], qq.2.toList ++ []) else z_R 197 (z_up m 260 x2.toNat (m 260 (x2 + 37).toNat), 11, [(2, 251), (2, (a : Int)), (0, x2 + 1)], [])) : ∀ (f x : Nat) (m : z_M), x + f = 407 → m 251 25 = 12 → ∃ m' : z_M, z_R 197 (m, 11, [(2, 251), (2, (a : Int)), (0, (x : Int))], []) = ((z_R 198 (z_up m' 251 25 11, 0, [(2, (a : Int)), (2, 260), (0, 407), (9, 0)], [])).bind fun qq => z_R 197 (qq.1, 64, [(2, 251), (2, (a : Int)), (0, 407)], qq.2.toList ++ [])) ∧ (∀ k, x ≤ k → k < 407 → m' 260 k = m 260 (k + 37)) ∧ (∀ p k, ¬ (p = 260 ∧ x ≤ k ∧ k < 407) → m' p k = m p k) := by
  intro f
  induction f with
  | zero =>
    intro x m hx h12
    obtain rfl : x = 407 := by omega
    rw [show ((407 : Nat) : Int) = 407 from rfl, hS m 407 ⟨by decide, by decide⟩ h12, if_pos (by decide), h12]
    exact ⟨m, rfl, fun k h1 h2 => by omega, fun _ _ _ => rfl⟩
  | succ f ih =>
    intro x m hx h12
    rw [hS m x ⟨by omega, by omega⟩ h12, if_neg (by omega), Int.toNat_natCast, tc1, show ((x : Int) + 37).toNat = x + 37 by omega]
    obtain ⟨m', a1, a2, a3⟩ := ih (x + 1) (z_up m 260 x (m 260 (x + 37))) (by omega) (by rw [zu_p (by decide)]; exact h12)
    refine ⟨m', a1, fun k h1 h2 => ?_, fun p k hn => ?_⟩
    · by_cases hk : k = x
      · rw [hk, a3 260 x (by omega), zu_self]
      · rw [a2 k (by omega) h2, zu_k (by omega)]
    · rw [a3 p k (by omega)]
      by_cases hp : p = 260
      · subst hp
        rw [zu_k (by omega)]
      · rw [zu_p hp]
/-- one of the undos' places in the class -/
def u_pl (x : Nat) : Nat := 32 + 6 * x
theorem c_rem {n : Int} (m : z_M) {s : Nat} (hs : s = 12 ∨ s = 18) (hx : 0 ≤ m 28 3 ∧ m 28 3 ≤ 11) (hz : 0 ≤ m 28 4 ∧ m 28 4 ≤ 12) : ∃ m', z_R 60 (m, 0, [(2, 28), (2, (s : Int))], []) = some (m', none) ∧ m' 28 3 = (m 28 3 + 1) % 12 ∧ m' 28 4 = (if m 28 4 = 12 then 12 else m 28 4 + 1) ∧ cS m' (32 + 6 * (m 28 3).toNat) n = cS m s n ∧ z_same ((28, 3, 4) :: c_LB (32 + 6 * (m 28 3).toNat)) m m' := by
  have hst : z_st s := by rcases hs with rfl | rfl; exact z_st_12; exact z_st_18
  generalize hX : (m 28 3).toNat = X
  have hX12 : X < 12 := by omega
  obtain ⟨m1, a1, a2, a3⟩ := c_become hst (z_st_done hX12) (by omega) m
  have e0 : z_R 60 (m, 0, [(2, 28), (2, (s : Int))], []) = (z_R 61 (m, 0, [(2, (z_ga m 29 (m 28 3).toNat).2), (2, (s : Int))], [])).bind fun qq => z_R 60 (qq.1, 13, [(2, 28), (2, (s : Int))], qq.2.toList ++ []) := by
    rcases hs with rfl | rfl
    · exact s_rem_0 m hx
    · exact s_rem18_0 m hx
  have e1 : ∀ m : z_M, (0 ≤ m 28 3 ∧ m 28 3 ≤ 11) → (0 ≤ m 28 4 ∧ m 28 4 ≤ 12) → z_R 60 (m, 13, [(2, 28), (2, (s : Int))], []) = some (z_up (z_up m 28 3 ((m 28 3 + 1) % 12)) 28 4 (if 12 < (m 28 4 + 1) then 12 else (m 28 4 + 1)), none) := by
    rcases hs with rfl | rfl
    · exact s_rem_13
    · exact s_rem18_13
  have g3 : m1 28 3 = m 28 3 := a3.of (by (try unfold c_LB); (repeat' (first | exact trivial | refine z_of_c ?_ ?_)) <;> omega)
  have g4 : m1 28 4 = m 28 4 := a3.of (by (try unfold c_LB); (repeat' (first | exact trivial | refine z_of_c ?_ ?_)) <;> omega)
  rw [e0, hX, ga29 hX12, a1, zb_n, e1 m1 (by omega) (by omega), g3, g4]
  refine ⟨_, rfl, ?_, ?_, ?_, ((a3.subo (L' := (28, 3, 4) :: c_LB (32 + 6 * X)) (by
    unfold c_LB
    exact (by (try unfold c_LB); (repeat' (first | exact trivial | refine z_sbo_c ?_ ?_)) <;> (intro k h1 h2; first | exact z_on_h rfl (by omega) (by omega) | exact z_on_t (z_on_h rfl (by omega) (by omega)) | exact z_on_t (z_on_t (z_on_h rfl (by omega) (by omega))) | exact z_on_t (z_on_t (z_on_t (z_on_h rfl (by omega) (by omega)))) | exact z_on_t (z_on_t (z_on_t (z_on_t (z_on_h rfl (by omega) (by omega))))) | exact z_on_t (z_on_t (z_on_t (z_on_t (z_on_t (z_on_h rfl (by omega) (by omega)))))) | exact z_on_t (z_on_t (z_on_t (z_on_t (z_on_t (z_on_t (z_on_h rfl (by omega) (by omega))))))) | exact z_on_t (z_on_t (z_on_t (z_on_t (z_on_t (z_on_t (z_on_t (z_on_h rfl (by omega) (by omega)))))))) | exact z_on_t (z_on_t (z_on_t (z_on_t (z_on_t (z_on_t (z_on_t (z_on_t (z_on_h rfl (by omega) (by omega))))))))) | exact z_on_t (z_on_t (z_on_t (z_on_t (z_on_t (z_on_t (z_on_t (z_on_t (z_on_t (z_on_h rfl (by omega) (by omega)))))))))) | exact z_on_t (z_on_t (z_on_t (z_on_t (z_on_t (z_on_t (z_on_t (z_on_t (z_on_t (z_on_t (z_on_h rfl (by omega) (by omega))))))))))) | exact z_on_t (z_on_t (z_on_t (z_on_t (z_on_t (z_on_t (z_on_t (z_on_t (z_on_t (z_on_t (z_on_t (z_on_h rfl (by omega) (by omega)))))))))))) | exact z_on_t (z_on_t (z_on_t (z_on_t (z_on_t (z_on_t (z_on_t (z_on_t (z_on_t (z_on_t (z_on_t (z_on_t (z_on_h rfl (by omega) (by omega))))))))))))))))).upo (Or.inl ⟨rfl, by decide, by decide⟩)).upo (Or.inl ⟨rfl, by decide, by decide⟩)⟩
  · rw [zu_k (by decide), zu_self]
  · rw [zu_self]
    by_cases c : m 28 4 = 12
    · rw [if_pos c, if_pos (by omega)]
    · rw [if_neg c, if_neg (by omega)]
  · rw [cS_off (by omega), cS_off (by omega)]
    exact cS_cR a2
theorem r_rem {n : Int} (m : z_M) {a : Nat} (ha : a = 252 ∨ a = 261) (hz : 0 ≤ m 251 25 ∧ m 251 25 ≤ 12) : ∃ m', z_R 197 (m, 0, [(2, 251), (2, (a : Int)), (9, 0)], []) = some (m', none) ∧ m' 251 25 = (if m 251 25 = 12 then 12 else m 251 25 + 1) ∧ uR m' 260 ((m' 251 25).toNat - 1) n = rS m a n ∧ (∀ j : Nat, (j : Int) + 1 < m' 251 25 → uR m' 260 j n = uR m 260 (if m 251 25 = 12 then j + 1 else j) n) ∧ z_same [(251, 25, 25), (260, 0, 443)] m m' := by
  have eL0 : ∀ (m : z_M) (x2 : Int), 0 ≤ x2 ∧ x2 ≤ 407 → z_R 198 (m, 0, [(2, (a : Int)), (2, ((260 : Nat) : Int)), (0, x2), (9, 0)], []) = z_R 198 (m, 2, [(2, (a : Int)), (2, ((260 : Nat) : Int)), (0, x2), (0, 0)], []) := by
    rcases ha with rfl | rfl
    · exact t_lay260_0
    · exact t_laya_0
  have eL : ∀ (m : z_M) (x2 x3 : Int), 0 ≤ x2 ∧ x2 ≤ 407 → 0 ≤ x3 ∧ x3 ≤ 37 → z_R 198 (m, 2, [(2, (a : Int)), (2, ((260 : Nat) : Int)), (0, x2), (0, x3)], []) = if 37 ≤ x3 then some (m, none) else z_R 198 (z_up m 260 (x2 + x3).toNat (m a x3.toNat), 2, [(2, (a : Int)), (2, ((260 : Nat) : Int)), (0, x2), (0, x3 + 1)], []) := by
    rcases ha with rfl | rfl
    · exact t_lay260_2
    · exact t_laya_2
  have e0 : ∀ m : z_M, (0 ≤ m 251 25 ∧ m 251 25 ≤ 12) → z_R 197 (m, 0, [(2, 251), (2, (a : Int)), (9, 0)], []) = if m 251 25 = 12 then z_R 197 (m, 11, [(2, 251), (2, (a : Int)), (0, 0)], []) else (z_R 198 (m, 0, [(2, (a : Int)), (2, 260), (0, 37 * m 251 25), (9, 0)], [])).bind fun qq => z_R 197 (qq.1, 64, [(2, 251), (2, (a : Int)), (9, 0)], qq.2.toList ++ []) := by
    rcases ha with rfl | rfl
    · exact t_rem_0
    · exact t_rema_0
  have e64 : ∀ (m : z_M) (v2 : z_V), (0 ≤ m 251 25 ∧ m 251 25 ≤ 12) → z_R 197 (m, 64, [(2, 251), (2, (a : Int)), v2], []) = some (z_up m 251 25 (m 251 25 + 1), none) := by
    rcases ha with rfl | rfl
    · exact t_rem_64
    · exact t_rema_64
  have eS : ∀ (m : z_M) (x2 : Int), 0 ≤ x2 ∧ x2 ≤ 407 → m 251 25 = 12 → z_R 197 (m, 11, [(2, 251), (2, (a : Int)), (0, x2)], []) = if 407 ≤ x2 then (z_R 198 (z_up m 251 25 (m 251 25 - 1), 0, [(2, (a : Int)), (2, 260), (0, 37 * m 251 25 - 37), (9, 0)], [])).bind fun qq => z_R 197 (qq.1, 64, [(2, 251), (2, (a : Int)), (0, x2)], qq.2.toList ++ []) else z_R 197 (z_up m 260 x2.toNat (m 260 (x2 + 37).toNat), 11, [(2, 251), (2, (a : Int)), (0, x2 + 1)], []) := fun m x2 h1 h2 => by
    rcases ha with rfl | rfl
    · exact t_rem_11 m x2 h1 (by omega)
    · exact t_rema_11 m x2 h1 (by omega)
  have hane : ¬ a = 260 := by omega
  rw [e0 m hz]
  by_cases c : m 251 25 = 12
  · rw [if_pos c, if_pos c]
    obtain ⟨m1, a1, a2, a3⟩ := t_shift ha eS 407 0 m (by decide) c
    obtain ⟨m2, b1, b2, b3⟩ := t_layd eL0 eL hane (b := 407) (by decide) (z_up m1 251 25 11)
    have b1 : z_R 198 (z_up m1 251 25 11, 0, [(2, (a : Int)), (2, 260), (0, 407), (9, 0)], []) = some (m2, none) := b1
    have g25 : m2 251 25 = 11 := by rw [b3 251 25 (by omega), zu_self]
    refine ⟨z_up m2 251 25 (m2 251 25 + 1), ?_, ?_, ?_, ?_, ?_⟩
    · rw [show ((0 : Nat) : Int) = 0 from rfl] at a1
      rw [a1, b1, zb_n, e64 m2 _ (by omega)]
    · rw [zu_self, g25]; rfl
    · rw [zu_self, g25]
      refine uR_is (fun k hk => ?_)
      show z_up m2 251 25 (11 + 1) 260 (37 * 11 + k) = m a k
      rw [zu_p (by decide), show 37 * 11 + k = 407 + k by omega, b2 k hk, zu_p (by omega), a3 a k (by omega)]
    · intro j hj
      rw [zu_self, g25] at hj
      rw [if_pos c]
      unfold uR
      congr 1
      funext k
      refine z_ifc (fun hk => ?_) (fun _ => rfl)
      rw [zu_p (by decide), b3 260 (37 * j + k) (by omega), zu_p (by decide), a2 (37 * j + k) (Nat.zero_le _) (by omega), show 37 * j + k + 37 = 37 * (j + 1) + k by omega]
    · intro p k hn
      have n1 : ¬ (p = 251 ∧ k = 25) := fun z => hn (251, 25, 25) List.mem_cons_self ⟨z.1.symm, (show 25 ≤ k by omega), (show k ≤ 25 by omega)⟩
      have n2 : ¬ (p = 260 ∧ k ≤ 443) := fun z => hn (260, 0, 443) (List.mem_cons_of_mem _ List.mem_cons_self) ⟨z.1.symm, (show 0 ≤ k by omega), (show k ≤ 443 by omega)⟩
      have u1 : ∀ (m : z_M) (v : Int), z_up m 251 25 v p k = m p k := fun m v => by unfold z_up; rw [if_neg n1]
      rw [u1, b3 p k (by omega), u1, a3 p k (by omega)]
  · rw [if_neg c, if_neg c]
    obtain ⟨Z, hZ⟩ : ∃ Z : Nat, m 251 25 = (Z : Int) := ⟨(m 251 25).toNat, by omega⟩
    obtain ⟨m2, b1, b2, b3⟩ := t_layd eL0 eL hane (b := 37 * Z) (by omega) m
    have b1 : z_R 198 (m, 0, [(2, (a : Int)), (2, 260), (0, ((37 * Z : Nat) : Int)), (9, 0)], []) = some (m2, none) := b1
    have g25 : m2 251 25 = (Z : Int) := by rw [b3 251 25 (by omega), hZ]
    refine ⟨z_up m2 251 25 (m2 251 25 + 1), ?_, ?_, ?_, ?_, ?_⟩
    · rw [hZ, show 37 * (Z : Int) = ((37 * Z : Nat) : Int) by omega, b1, zb_n, e64 m2 _ (by omega)]
    · rw [zu_self, g25, hZ]
    · rw [zu_self, g25, show ((Z : Int) + 1).toNat - 1 = Z by omega]
      refine uR_is (fun k hk => ?_)
      rw [zu_p (by decide), b2 k hk]
    · intro j hj
      rw [zu_self, g25] at hj
      rw [if_neg c]
      refine uR_row (fun k hk => ?_)
      rw [zu_p (by decide), b3 260 (37 * j + k) (by omega)]
    · intro p k hn
      have n1 : ¬ (p = 251 ∧ k = 25) := fun z => hn (251, 25, 25) List.mem_cons_self ⟨z.1.symm, (show 25 ≤ k by omega), (show k ≤ 25 by omega)⟩
      have n2 : ¬ (p = 260 ∧ k ≤ 443) := fun z => hn (260, 0, 443) (List.mem_cons_of_mem _ List.mem_cons_self) ⟨z.1.symm, (show 0 ≤ k by omega), (show k ≤ 443 by omega)⟩
      have u1 : ∀ (m : z_M) (v : Int), z_up m 251 25 v p k = m p k := fun m v => by unfold z_up; rw [if_neg n1]
      rw [u1, b3 p k (by omega)]
