/-! people, of the reference, with the State -/
theorem T_a25 {cnt : Nat} (hc : cnt ≤ 5) (x2 : Int) : ∀ (f x P : Nat) (v4 v5 : z_V) (m : z_M) (r : z_Q), x + f = cnt → P + f ≤ 5 → m 251 3 = (P : Int) → z_R 172 (m, 125, [(2, 251), (0, (cnt : Int)), (0, x2), (0, (x : Int)), v4, v5], []) = some r → r.1 251 25 = 0 := by
  intro f
  induction f with
  | zero =>
    intro x P v4 v5 m r hx hP h hr
    rw [t_people_125, if_pos (by omega)] at hr
    rw [← Option.some.inj hr]
    show z_up (z_up m 251 25 0) 251 52 (z_add (m 251 52) 1) 251 25 = 0
    rw [zu_k (by decide), zu_self]
  | succ f ih =>
    intro x P v4 v5 m r hx hP h hr
    have e7 : z_mul 7 (x : Int) = ((7 * x : Nat) : Int) := by rw [z_mul_eq (by omega) (by omega)]; omega
    have e1 : z_add 18 (m 251 3) = ((18 + P : Nat) : Int) := by rw [h, z_add_eq (by omega) (by omega)]; omega
    have e2 : z_add 23 (m 251 3) = ((23 + P : Nat) : Int) := by rw [h, z_add_eq (by omega) (by omega)]; omega
    have e3 : z_add 28 (m 251 3) = ((28 + P : Nat) : Int) := by rw [h, z_add_eq (by omega) (by omega)]; omega
    rw [t_people_125, if_neg (by omega), e7, e1, e2, e3, if_pos ⟨by omega, by omega⟩, if_pos ⟨by omega, by omega⟩, if_pos ⟨by omega, by omega⟩, if_pos ⟨by omega, by omega⟩, Int.toNat_natCast, Int.toNat_natCast, Int.toNat_natCast, Int.toNat_natCast] at hr
    have o : (z_up (z_up (z_up m 252 (18 + P) (m 257 (7 * x))) 252 (23 + P) 0) 252 (28 + P) 0) 251 3 = (P : Int) := by rw [zu_p (by decide), zu_p (by decide), zu_p (by decide)]; exact h
    generalize z_up (z_up (z_up m 252 (18 + P) (m 257 (7 * x))) 252 (23 + P) 0) 252 (28 + P) 0 = m1 at hr o
    obtain ⟨m2, a1, a2, a3, a4⟩ := t_a184 (x := x) (P := P) (by omega) (by omega) (cnt : Int) x2 6 0 m1 (by decide) o
    exact ih (x + 1) (P + 1) (0, ((7 * x : Nat) : Int)) (0, 6) m2 r (by omega) (by omega) a2 (a1.symm.trans hr)
section
variable {w h n : Nat} {heat price : Int} {D A : Nat → Int} {c : Nat} {U : Nat → Nat → Int} {kn : Nat → Int} {KS : Nat → Nat → Int} {cs : List Int} {m : z_M}
theorem R_pre (hi : R_is w h n heat price D A c U kn KS cs m) (h1 : m 251 8 ≤ 80) : ∃ m0, z_R 172 (m, 0, [(2, 251), (9, 0), (9, 0), (9, 0), (9, 0), (9, 0)], []) = (if m 251 8 = 0 then some (m0, some (0, 0)) else z_R 172 (m0, 37, [(2, 251), (0, 0), (0, 1), (9, 0), (9, 0), (9, 0)], [])) ∧ z_same [(251, 8, 8), (251, 11, 16)] m m0 ∧ m0 251 12 = 254 ∧ m0 251 13 = m 251 8 ∧ m0 251 14 = 76 ∧ m0 251 15 = 0 ∧ m0 251 16 = -1 := by
  rw [t_people_0, t_begin_0]
  have e8 : (z_up m 251 11 0) 251 8 = m 251 8 := zu_k (by decide)
  show ∃ m0, z_R 172 (z_up (z_up (z_up (z_up (z_up (z_up m 251 11 0) 251 12 254) 251 13 (m 251 8)) 251 14 76) 251 15 0) 251 16 (-1), 19, [(2, 251), (9, 0), (9, 0), (9, 0), (9, 0), (9, 0)], []) = _ ∧ _
  rw [t_people_19]
  have j13 : (z_up (z_up (z_up (z_up (z_up (z_up m 251 11 0) 251 12 254) 251 13 (m 251 8)) 251 14 76) 251 15 0) 251 16 (-1)) 251 13 = m 251 8 := by rw [zu_k (by decide), zu_k (by decide), zu_k (by decide), zu_self]
  rw [j13]
  refine ⟨z_up (z_up (z_up (z_up (z_up (z_up (z_up m 251 11 0) 251 12 254) 251 13 (m 251 8)) 251 14 76) 251 15 0) 251 16 (-1)) 251 8 0, ?_, ((((((z_same.rf.upo (by first | exact z_on_h rfl (by omega) (by omega) | exact z_on_t (z_on_h rfl (by omega) (by omega)) | exact z_on_t (z_on_t (z_on_h rfl (by omega) (by omega))) | exact z_on_t (z_on_t (z_on_t (z_on_h rfl (by omega) (by omega)))) | exact z_on_t (z_on_t (z_on_t (z_on_t (z_on_h rfl (by omega) (by omega))))) | exact z_on_t (z_on_t (z_on_t (z_on_t (z_on_t (z_on_h rfl (by omega) (by omega)))))) | exact z_on_t (z_on_t (z_on_t (z_on_t (z_on_t (z_on_t (z_on_h rfl (by omega) (by omega))))))) | exact z_on_t (z_on_t (z_on_t (z_on_t (z_on_t (z_on_t (z_on_t (z_on_h rfl (by omega) (by omega)))))))) | exact z_on_t (z_on_t (z_on_t (z_on_t (z_on_t (z_on_t (z_on_t (z_on_t (z_on_h rfl (by omega) (by omega))))))))) | exact z_on_t (z_on_t (z_on_t (z_on_t (z_on_t (z_on_t (z_on_t (z_on_t (z_on_t (z_on_h rfl (by omega) (by omega)))))))))) | exact z_on_t (z_on_t (z_on_t (z_on_t (z_on_t (z_on_t (z_on_t (z_on_t (z_on_t (z_on_t (z_on_h rfl (by omega) (by omega))))))))))) | exact z_on_t (z_on_t (z_on_t (z_on_t (z_on_t (z_on_t (z_on_t (z_on_t (z_on_t (z_on_t (z_on_t (z_on_h rfl (by omega) (by omega)))))))))))) | exact z_on_t (z_on_t (z_on_t (z_on_t (z_on_t (z_on_t (z_on_t (z_on_t (z_on_t (z_on_t (z_on_t (z_on_t (z_on_h rfl (by omega) (by omega))))))))))))))).upo (by first | exact z_on_h rfl (by omega) (by omega) | exact z_on_t (z_on_h rfl (by omega) (by omega)) | exact z_on_t (z_on_t (z_on_h rfl (by omega) (by omega))) | exact z_on_t (z_on_t (z_on_t (z_on_h rfl (by omega) (by omega)))) | exact z_on_t (z_on_t (z_on_t (z_on_t (z_on_h rfl (by omega) (by omega))))) | exact z_on_t (z_on_t (z_on_t (z_on_t (z_on_t (z_on_h rfl (by omega) (by omega)))))) | exact z_on_t (z_on_t (z_on_t (z_on_t (z_on_t (z_on_t (z_on_h rfl (by omega) (by omega))))))) | exact z_on_t (z_on_t (z_on_t (z_on_t (z_on_t (z_on_t (z_on_t (z_on_h rfl (by omega) (by omega)))))))) | exact z_on_t (z_on_t (z_on_t (z_on_t (z_on_t (z_on_t (z_on_t (z_on_t (z_on_h rfl (by omega) (by omega))))))))) | exact z_on_t (z_on_t (z_on_t (z_on_t (z_on_t (z_on_t (z_on_t (z_on_t (z_on_t (z_on_h rfl (by omega) (by omega)))))))))) | exact z_on_t (z_on_t (z_on_t (z_on_t (z_on_t (z_on_t (z_on_t (z_on_t (z_on_t (z_on_t (z_on_h rfl (by omega) (by omega))))))))))) | exact z_on_t (z_on_t (z_on_t (z_on_t (z_on_t (z_on_t (z_on_t (z_on_t (z_on_t (z_on_t (z_on_t (z_on_h rfl (by omega) (by omega)))))))))))) | exact z_on_t (z_on_t (z_on_t (z_on_t (z_on_t (z_on_t (z_on_t (z_on_t (z_on_t (z_on_t (z_on_t (z_on_t (z_on_h rfl (by omega) (by omega))))))))))))))).upo (by first | exact z_on_h rfl (by omega) (by omega) | exact z_on_t (z_on_h rfl (by omega) (by omega)) | exact z_on_t (z_on_t (z_on_h rfl (by omega) (by omega))) | exact z_on_t (z_on_t (z_on_t (z_on_h rfl (by omega) (by omega)))) | exact z_on_t (z_on_t (z_on_t (z_on_t (z_on_h rfl (by omega) (by omega))))) | exact z_on_t (z_on_t (z_on_t (z_on_t (z_on_t (z_on_h rfl (by omega) (by omega)))))) | exact z_on_t (z_on_t (z_on_t (z_on_t (z_on_t (z_on_t (z_on_h rfl (by omega) (by omega))))))) | exact z_on_t (z_on_t (z_on_t (z_on_t (z_on_t (z_on_t (z_on_t (z_on_h rfl (by omega) (by omega)))))))) | exact z_on_t (z_on_t (z_on_t (z_on_t (z_on_t (z_on_t (z_on_t (z_on_t (z_on_h rfl (by omega) (by omega))))))))) | exact z_on_t (z_on_t (z_on_t (z_on_t (z_on_t (z_on_t (z_on_t (z_on_t (z_on_t (z_on_h rfl (by omega) (by omega)))))))))) | exact z_on_t (z_on_t (z_on_t (z_on_t (z_on_t (z_on_t (z_on_t (z_on_t (z_on_t (z_on_t (z_on_h rfl (by omega) (by omega))))))))))) | exact z_on_t (z_on_t (z_on_t (z_on_t (z_on_t (z_on_t (z_on_t (z_on_t (z_on_t (z_on_t (z_on_t (z_on_h rfl (by omega) (by omega)))))))))))) | exact z_on_t (z_on_t (z_on_t (z_on_t (z_on_t (z_on_t (z_on_t (z_on_t (z_on_t (z_on_t (z_on_t (z_on_t (z_on_h rfl (by omega) (by omega))))))))))))))).upo (by first | exact z_on_h rfl (by omega) (by omega) | exact z_on_t (z_on_h rfl (by omega) (by omega)) | exact z_on_t (z_on_t (z_on_h rfl (by omega) (by omega))) | exact z_on_t (z_on_t (z_on_t (z_on_h rfl (by omega) (by omega)))) | exact z_on_t (z_on_t (z_on_t (z_on_t (z_on_h rfl (by omega) (by omega))))) | exact z_on_t (z_on_t (z_on_t (z_on_t (z_on_t (z_on_h rfl (by omega) (by omega)))))) | exact z_on_t (z_on_t (z_on_t (z_on_t (z_on_t (z_on_t (z_on_h rfl (by omega) (by omega))))))) | exact z_on_t (z_on_t (z_on_t (z_on_t (z_on_t (z_on_t (z_on_t (z_on_h rfl (by omega) (by omega)))))))) | exact z_on_t (z_on_t (z_on_t (z_on_t (z_on_t (z_on_t (z_on_t (z_on_t (z_on_h rfl (by omega) (by omega))))))))) | exact z_on_t (z_on_t (z_on_t (z_on_t (z_on_t (z_on_t (z_on_t (z_on_t (z_on_t (z_on_h rfl (by omega) (by omega)))))))))) | exact z_on_t (z_on_t (z_on_t (z_on_t (z_on_t (z_on_t (z_on_t (z_on_t (z_on_t (z_on_t (z_on_h rfl (by omega) (by omega))))))))))) | exact z_on_t (z_on_t (z_on_t (z_on_t (z_on_t (z_on_t (z_on_t (z_on_t (z_on_t (z_on_t (z_on_t (z_on_h rfl (by omega) (by omega)))))))))))) | exact z_on_t (z_on_t (z_on_t (z_on_t (z_on_t (z_on_t (z_on_t (z_on_t (z_on_t (z_on_t (z_on_t (z_on_t (z_on_h rfl (by omega) (by omega))))))))))))))).upo (by first | exact z_on_h rfl (by omega) (by omega) | exact z_on_t (z_on_h rfl (by omega) (by omega)) | exact z_on_t (z_on_t (z_on_h rfl (by omega) (by omega))) | exact z_on_t (z_on_t (z_on_t (z_on_h rfl (by omega) (by omega)))) | exact z_on_t (z_on_t (z_on_t (z_on_t (z_on_h rfl (by omega) (by omega))))) | exact z_on_t (z_on_t (z_on_t (z_on_t (z_on_t (z_on_h rfl (by omega) (by omega)))))) | exact z_on_t (z_on_t (z_on_t (z_on_t (z_on_t (z_on_t (z_on_h rfl (by omega) (by omega))))))) | exact z_on_t (z_on_t (z_on_t (z_on_t (z_on_t (z_on_t (z_on_t (z_on_h rfl (by omega) (by omega)))))))) | exact z_on_t (z_on_t (z_on_t (z_on_t (z_on_t (z_on_t (z_on_t (z_on_t (z_on_h rfl (by omega) (by omega))))))))) | exact z_on_t (z_on_t (z_on_t (z_on_t (z_on_t (z_on_t (z_on_t (z_on_t (z_on_t (z_on_h rfl (by omega) (by omega)))))))))) | exact z_on_t (z_on_t (z_on_t (z_on_t (z_on_t (z_on_t (z_on_t (z_on_t (z_on_t (z_on_t (z_on_h rfl (by omega) (by omega))))))))))) | exact z_on_t (z_on_t (z_on_t (z_on_t (z_on_t (z_on_t (z_on_t (z_on_t (z_on_t (z_on_t (z_on_t (z_on_h rfl (by omega) (by omega)))))))))))) | exact z_on_t (z_on_t (z_on_t (z_on_t (z_on_t (z_on_t (z_on_t (z_on_t (z_on_t (z_on_t (z_on_t (z_on_t (z_on_h rfl (by omega) (by omega))))))))))))))).upo (by first | exact z_on_h rfl (by omega) (by omega) | exact z_on_t (z_on_h rfl (by omega) (by omega)) | exact z_on_t (z_on_t (z_on_h rfl (by omega) (by omega))) | exact z_on_t (z_on_t (z_on_t (z_on_h rfl (by omega) (by omega)))) | exact z_on_t (z_on_t (z_on_t (z_on_t (z_on_h rfl (by omega) (by omega))))) | exact z_on_t (z_on_t (z_on_t (z_on_t (z_on_t (z_on_h rfl (by omega) (by omega)))))) | exact z_on_t (z_on_t (z_on_t (z_on_t (z_on_t (z_on_t (z_on_h rfl (by omega) (by omega))))))) | exact z_on_t (z_on_t (z_on_t (z_on_t (z_on_t (z_on_t (z_on_t (z_on_h rfl (by omega) (by omega)))))))) | exact z_on_t (z_on_t (z_on_t (z_on_t (z_on_t (z_on_t (z_on_t (z_on_t (z_on_h rfl (by omega) (by omega))))))))) | exact z_on_t (z_on_t (z_on_t (z_on_t (z_on_t (z_on_t (z_on_t (z_on_t (z_on_t (z_on_h rfl (by omega) (by omega)))))))))) | exact z_on_t (z_on_t (z_on_t (z_on_t (z_on_t (z_on_t (z_on_t (z_on_t (z_on_t (z_on_t (z_on_h rfl (by omega) (by omega))))))))))) | exact z_on_t (z_on_t (z_on_t (z_on_t (z_on_t (z_on_t (z_on_t (z_on_t (z_on_t (z_on_t (z_on_t (z_on_h rfl (by omega) (by omega)))))))))))) | exact z_on_t (z_on_t (z_on_t (z_on_t (z_on_t (z_on_t (z_on_t (z_on_t (z_on_t (z_on_t (z_on_t (z_on_t (z_on_h rfl (by omega) (by omega))))))))))))))).upo (by first | exact z_on_h rfl (by omega) (by omega) | exact z_on_t (z_on_h rfl (by omega) (by omega)) | exact z_on_t (z_on_t (z_on_h rfl (by omega) (by omega))) | exact z_on_t (z_on_t (z_on_t (z_on_h rfl (by omega) (by omega)))) | exact z_on_t (z_on_t (z_on_t (z_on_t (z_on_h rfl (by omega) (by omega))))) | exact z_on_t (z_on_t (z_on_t (z_on_t (z_on_t (z_on_h rfl (by omega) (by omega)))))) | exact z_on_t (z_on_t (z_on_t (z_on_t (z_on_t (z_on_t (z_on_h rfl (by omega) (by omega))))))) | exact z_on_t (z_on_t (z_on_t (z_on_t (z_on_t (z_on_t (z_on_t (z_on_h rfl (by omega) (by omega)))))))) | exact z_on_t (z_on_t (z_on_t (z_on_t (z_on_t (z_on_t (z_on_t (z_on_t (z_on_h rfl (by omega) (by omega))))))))) | exact z_on_t (z_on_t (z_on_t (z_on_t (z_on_t (z_on_t (z_on_t (z_on_t (z_on_t (z_on_h rfl (by omega) (by omega)))))))))) | exact z_on_t (z_on_t (z_on_t (z_on_t (z_on_t (z_on_t (z_on_t (z_on_t (z_on_t (z_on_t (z_on_h rfl (by omega) (by omega))))))))))) | exact z_on_t (z_on_t (z_on_t (z_on_t (z_on_t (z_on_t (z_on_t (z_on_t (z_on_t (z_on_t (z_on_t (z_on_h rfl (by omega) (by omega)))))))))))) | exact z_on_t (z_on_t (z_on_t (z_on_t (z_on_t (z_on_t (z_on_t (z_on_t (z_on_t (z_on_t (z_on_t (z_on_t (z_on_h rfl (by omega) (by omega)))))))))))))), ?_, ?_, ?_, ?_, ?_⟩
  · by_cases z : m 251 8 = 0
    · rw [if_pos z]
    · rw [if_neg z]
  · rw [zu_k (by decide), zu_k (by decide), zu_k (by decide), zu_k (by decide), zu_k (by decide), zu_self]
  · rw [zu_k (by decide), zu_k (by decide), zu_k (by decide), zu_k (by decide), zu_self]
  · rw [zu_k (by decide), zu_k (by decide), zu_k (by decide), zu_self]
  · rw [zu_k (by decide), zu_k (by decide), zu_self]
  · rw [zu_k (by decide), zu_self]
theorem R_people_no (hi : R_is w h n heat price D A c U kn KS cs m) (hw : w ≤ 3) (hh : h ≤ 3) (n5 : n ≤ 5) (h0 : 0 ≤ m 251 8) (h1 : m 251 8 ≤ 80) (hr : ∀ k, k < 80 → -128 ≤ m 254 k ∧ m 254 k ≤ 127) {G : Int → Int} (hG : u_nx (u_t m) (m 251 8) 76 = G) {S : Bool × Int × Nat} (hS : u_ls G w h (m 251 8) (5 - n) 0 0 = S) (ok : ¬ (¬ m 251 8 = 0 ∧ S.1 = true)) : ∃ m', z_R 172 (m, 0, [(2, 251), (9, 0), (9, 0), (9, 0), (9, 0), (9, 0)], []) = some (m', some (0, u_pa (m 251 8) S)) ∧ R_is w h n heat price D A c U kn KS cs m' := by
  obtain ⟨m0, p1, p2, g12, g13, g14, g15, g16⟩ := R_pre hi h1
  have h00 : R_is w h n heat price D A c U kn KS cs m0 := R_fr hi fun p k hk => by
    have hk' := hk
    unfold R_hit at hk'
    have hk' := of_decide_eq_true hk'
    exact p2.of (by
      (repeat' (first | exact trivial | refine z_of_c ?_ ?_)) <;> omega)
  unfold u_pa
  by_cases z : m 251 8 = 0
  · rw [if_pos z] at p1
    rw [if_pos z]
    exact ⟨m0, p1, h00⟩
  have k : S.1 = false := by
    cases hq : S.1 with
    | false => rfl
    | true => exact absurd ⟨z, hq⟩ ok
  rw [if_neg z] at p1
  rw [if_neg z, if_neg (by rw [k]; decide), p1]
  have e254 : m0 254 = m 254 := p2.ofr (by (repeat' (first | exact trivial | refine z_ofr_c ?_ ?_)) <;> omega)
  have gq : u_q m0 = G := by
    rw [← hG]
    unfold u_q u_t
    rw [e254, g13, g14]
  obtain ⟨e1, e2, e3, -⟩ := h00.1
  obtain ⟨m1, r1, r2, r3⟩ := t_ls (c := (w : Int)) (s := (h : Int)) (by omega) (by omega) (by omega) (by omega) n (5 - n) 0 m0 (by omega) ⟨g12, by omega, by omega, by omega, fun k hk => by rw [e254]; exact hr k hk⟩ g16 e1 e2 e3
  rw [gq, g13, g15, hS] at r2
  refine ⟨m1, r2 k, R_fr h00 fun p j hk => ?_⟩
  have hk' := hk
  unfold R_hit at hk'
  have hk' := of_decide_eq_true hk'
  exact u_N_off r3 (by omega) (by omega)
theorem R_people (hi : R_is w h n heat price D A c U kn KS cs m) (hw : w ≤ 3) (hh : h ≤ 3) (n5 : n ≤ 5) (hkn : ∀ i, i < 2 → kn i ≤ (n : Int)) (h0 : 0 ≤ m 251 8) (h1 : m 251 8 ≤ 80) (hr : ∀ k, k < 80 → -128 ≤ m 254 k ∧ m 254 k ≤ 127) {G : Int → Int} (hG : u_nx (u_t m) (m 251 8) 76 = G) {b : Bool} {i0 : Int} {q : Nat} (hS : u_ls G w h (m 251 8) (5 - n) 0 0 = (b, i0, q)) (z : ¬ m 251 8 = 0) (k : b = true) (hq : 1 ≤ q) : ∃ m', z_R 172 (m, 0, [(2, 251), (9, 0), (9, 0), (9, 0), (9, 0), (9, 0)], []) = some (m', some (0, (q : Int))) ∧ R_is w h (n + q) heat price (u_pD D G n q) (u_pS A G n q) 0 U kn KS cs m' := by
  obtain ⟨m0, p1, p2, g12, g13, g14, g15, g16⟩ := R_pre hi h1
  have hb := u_ls_b (g := G) (by rw [← hG]; exact u_nx_b h1) (c := (w : Int)) (s := (h : Int)) (n := m 251 8) (5 - n) 0 0 (by decide) (by decide)
  rw [hS] at hb
  have hq5 : q ≤ 0 + (5 - n) := hb.2.2.2
  have h00 : R_is w h n heat price D A c U kn KS cs m0 := R_fr hi fun p k hk => by
    have hk' := hk
    unfold R_hit at hk'
    have hk' := of_decide_eq_true hk'
    exact p2.of (by
      (repeat' (first | exact trivial | refine z_of_c ?_ ?_)) <;> omega)
  have e254 : m0 254 = m 254 := p2.ofr (by (repeat' (first | exact trivial | refine z_ofr_c ?_ ?_)) <;> omega)
  have gq : u_q m0 = G := by
    rw [← hG]
    unfold u_q u_t
    rw [e254, g13, g14]
  obtain ⟨e1, e2, e3, -⟩ := id h00.1
  obtain ⟨m1, r1, r2, r3⟩ := t_ls (c := (w : Int)) (s := (h : Int)) (by omega) (by omega) (by omega) (by omega) n (5 - n) 0 m0 (by omega) ⟨g12, by omega, by omega, by omega, fun k hk => by rw [e254]; exact hr k hk⟩ g16 e1 e2 e3
  rw [gq, g13, g15, hS] at r1
  have h11 : R_is w h n heat price D A c U kn KS cs m1 := R_fr h00 fun p j hk => by
    have hk' := hk
    unfold R_hit at hk'
    have hk' := of_decide_eq_true hk'
    exact u_N_off r3 (by omega) (by omega)
  obtain ⟨q1, q2⟩ := r1 k
  have q1 : z_R 172 (m0, 37, [(2, 251), (0, 0), (0, 1), (9, 0), (9, 0), (9, 0)], []) = z_R 172 (m1, 125, [(2, 251), (0, (q : Int)), (0, 0), (0, 0), (9, 0), (9, 0)], []) := q1
  have q2 : ∀ d : Nat, d < q → m1 257 (7 * d) = u_rm G (10 * (d : Int)) ∧ ∀ k : Nat, k < 6 → m1 257 (7 * d + 1 + k) = u_dg (G (10 * (d : Int) + 3 + (k : Int))) := fun d hd => by
    have := q2 d (by rw [Nat.zero_add]; exact hd)
    rw [Nat.zero_add, show (0 : Int) + 10 * (d : Int) = 10 * (d : Int) by omega] at this
    exact this
  obtain ⟨m2, b1, b2, b52, b3, b4⟩ := t_a125 (cnt := q) (by omega) 0 q 0 n (9, 0) (9, 0) m1 (Nat.zero_add _) (by omega) h11.1.2.2.1
  have b25 := T_a25 (cnt := q) (by omega) 0 q 0 n (9, 0) (9, 0) m1 _ (Nat.zero_add _) (by omega) h11.1.2.2.1 b1
  have b25 : m2 251 25 = 0 := b25
  have b1 : z_R 172 (m1, 125, [(2, 251), (0, (q : Int)), (0, 0), (0, 0), (9, 0), (9, 0)], []) = some (m2, some (0, (q : Int))) := b1
  rw [p1, if_neg z, q1, b1]
  refine ⟨m2, rfl, ?_⟩
  obtain ⟨⟨s1, s2, s3, s4, s5, s6⟩, sb, sd, su, se, sf⟩ := h11
  have fr : ∀ p' k', ¬ (p' = 251 ∧ (k' = 3 ∨ k' = 25 ∨ k' = 52)) → ¬ p' = 253 → ¬ p' = 252 → m2 p' k' = m1 p' k' := fun p' k' n1 n2 n3 => b4 p' k' n1 (by omega) (by omega) (by omega) (by omega)
  refine ⟨⟨?_, ?_, b2, ?_, ?_, ?_⟩, fun j hj => ?_, ?_, ⟨b25, by decide, fun i hi => absurd hi (Nat.not_lt_zero i)⟩, fun i hi => ?_, ?_⟩
  · exact (fr 251 1 (by decide) (by decide) (by decide)).trans s1
  · exact (fr 251 2 (by decide) (by decide) (by decide)).trans s2
  · exact (fr 251 5 (by decide) (by decide) (by decide)).trans s4
  · exact (fr 251 6 (by decide) (by decide) (by decide)).trans s5
  · exact (fr 251 23 (by decide) (by decide) (by decide)).trans s6
  · unfold u_pD
    by_cases cj : 6 * n ≤ j ∧ j < 6 * (n + q)
    · rw [if_pos cj]
      have e := (b3 ((j - 6 * n) / 6) (by omega)).1 ((j - 6 * n) % 6) (Nat.mod_lt _ (by decide))
      rw [show 6 * (n + (j - 6 * n) / 6) + (j - 6 * n) % 6 = j by omega, Nat.zero_add, (q2 _ (by omega)).2 _ (Nat.mod_lt _ (by decide))] at e
      exact e
    · rw [if_neg cj, b4 253 j (by omega) (by omega) (by omega) (by omega) (by omega)]
      exact sb j hj
  · unfold rS u_pS
    refine a_msk_cg fun k hv => ?_
    have hv' := a_vis_is hv
    by_cases c37 : k < 37
    · rw [rR_at c37]
      by_cases cn : 18 ≤ k ∧ k < 33 ∧ n ≤ (k - 18) % 5
      · rw [if_pos cn]
        obtain ⟨d, hd⟩ : ∃ d, (k - 18) % 5 = n + d := ⟨(k - 18) % 5 - n, by omega⟩
        have hdq : d < q := by omega
        obtain ⟨-, x1, x2, x3⟩ := b3 d hdq
        by_cases c23 : k < 23
        · rw [if_pos c23, hd, show n + d - n = d by omega]
          rw [show 18 + (n + d) = k by omega, Nat.zero_add, (q2 d hdq).1] at x1
          exact x1
        · rw [if_neg c23]
          by_cases c28 : k < 28
          · rw [show 23 + (n + d) = k by omega] at x2
            exact x2
          · rw [show 28 + (n + d) = k by omega] at x3
            exact x3
      · rw [if_neg cn, b4 252 k (by omega) (by omega) (by omega) (by omega) (by omega), ← sd]
        have hvn : a_vis (n : Int) k = true := by
          by_cases c18 : k < 18
          · exact a_vis_lo c18
          by_cases c33 : 33 ≤ k
          · exact a_vis_hi c33
          unfold a_vis
          rw [decide_eq_true (show (((k - 18) % 5 : Nat) : Int) < (n : Int) by omega)]
          simp
        exact (rS_at c37 hvn).symm
    · have e0 : rR m2 252 k = 0 := if_neg c37
      rw [e0, if_neg (by omega), ← sd]
      unfold rS a_msk
      by_cases hvn : a_vis (n : Int) k = true
      · rw [if_pos hvn]
        exact (if_neg c37).symm
      · rw [if_neg hvn]
  · obtain ⟨k1, k2⟩ := se i hi
    have hk := hkn i hi
    refine ⟨?_, fun y => absurd y (by omega)⟩
    rw [fr 276 i (by omega) (by decide) (by decide), fr 277 i (by omega) (by decide) (by decide), b52]
    rcases k1 with k1 | ⟨y1, d, y2, y3, y4, y5, y6, y7⟩
    · exact Or.inl k1
    · refine Or.inr ⟨y1, d + 1, y2, by omega, fun y => by omega, ?_, y6, y7⟩
      rw [y5]
      unfold z_add
      rw [Int32.ofInt_toInt, ← Int32.ofInt_add, show m1 277 i + (d : Int) + 1 = m1 277 i + ((d + 1 : Nat) : Int) by omega]
  · unfold r_ru
    rw [fr 251 20 (by decide) (by decide) (by decide), show m2 258 = m1 258 from funext fun k => fr 258 k (by omega) (by decide) (by decide)]
    exact sf
end
