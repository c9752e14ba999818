/-! WHAT BOTH ARE IN: rooms, people, doings, the State, what can be undone, what is kept, the rule -/
def C_hit (p lo hi : Nat) : Bool := decide ((12 ≤ p ∧ p ≤ 17) ∨ (31 ≤ p ∧ p ≤ 115) ∨ p = 8 ∨ p = 5 ∨ (p = 3 ∧ 8 ≤ hi) ∨ (p = 24 ∧ lo ≤ 5 ∧ 4 ≤ hi) ∨ (p = 28 ∧ 3 ≤ hi) ∨ (p = 4 ∧ 3 ≤ hi))
theorem C_hit_mono {p k lo hi : Nat} (h : C_hit p k k = true) (h1 : lo ≤ k) (h2 : k ≤ hi) : C_hit p lo hi = true := by
  unfold C_hit at h ⊢
  refine decide_eq_true ?_
  rcases of_decide_eq_true h with a | a | a | a | a | a | a | a
  · exact Or.inl a
  · exact Or.inr (Or.inl a)
  · exact Or.inr (Or.inr (Or.inl a))
  · exact Or.inr (Or.inr (Or.inr (Or.inl a)))
  · exact Or.inr (Or.inr (Or.inr (Or.inr (Or.inl ⟨a.1, by omega⟩))))
  · exact Or.inr (Or.inr (Or.inr (Or.inr (Or.inr (Or.inl ⟨a.1, by omega, by omega⟩)))))
  · exact Or.inr (Or.inr (Or.inr (Or.inr (Or.inr (Or.inr (Or.inl ⟨a.1, by omega⟩))))))
  · exact Or.inr (Or.inr (Or.inr (Or.inr (Or.inr (Or.inr (Or.inr ⟨a.1, by omega⟩))))))
theorem hit_st {p k : Nat} (h1 : 12 ≤ p) (h2 : p ≤ 17) : C_hit p k k = true := by
  unfold C_hit
  exact decide_eq_true (Or.inl ⟨h1, h2⟩)
theorem hit_dk {p k : Nat} (h1 : 31 ≤ p) (h2 : p ≤ 115) : C_hit p k k = true := by
  unfold C_hit
  exact decide_eq_true (Or.inr (Or.inl ⟨h1, h2⟩))
theorem hit_8 {k : Nat} : C_hit 8 k k = true := by
  unfold C_hit
  exact decide_eq_true (Or.inr (Or.inr (Or.inl rfl)))
theorem hit_5 {k : Nat} : C_hit 5 k k = true := by
  unfold C_hit
  exact decide_eq_true (Or.inr (Or.inr (Or.inr (Or.inl rfl))))
noncomputable def C_off (y : Nat) : Bool := (cs_at y).all fun C => C.2.2.2.2.1.all fun q => !(C_hit q.1 q.2.1 q.2.2)
theorem C_off_ok {y : Nat} (h : C_off y = true) {C : A_C} (hC : C ∈ cs_at y) {alts : List A_A} {T : Int} {ρ : List Int} {σ σ' : m_H} {r : Option Value} (hp : c_post alts C.2.2.2.2.1 T ρ σ r σ') : ∀ p k, C_hit p k k = true → z_m σ' p k = z_m σ p k := fun p k hk => by
  have e := (c_post_h hp).2 p k (fun ⟨q, q1, q2, q3, q4⟩ => by
    have := List.all_eq_true.mp (List.all_eq_true.mp h C hC) q q1
    rw [q2, C_hit_mono hk q3 q4] at this
    cases this)
  unfold z_m
  rw [e]
def R_hit (p lo hi : Nat) : Bool := decide (p = 252 ∨ p = 253 ∨ p = 258 ∨ p = 260 ∨ (275 ≤ p ∧ p ≤ 277) ∨ (p = 251 ∧ ((lo ≤ 3 ∧ 1 ≤ hi) ∨ (lo ≤ 6 ∧ 5 ≤ hi) ∨ (lo ≤ 20 ∧ 20 ≤ hi) ∨ (lo ≤ 23 ∧ 23 ≤ hi) ∨ (lo ≤ 25 ∧ 25 ≤ hi) ∨ (lo ≤ 52 ∧ 52 ≤ hi))))
theorem R_hit_mono {p k lo hi : Nat} (h : R_hit p k k = true) (h1 : lo ≤ k) (h2 : k ≤ hi) : R_hit p lo hi = true := by
  unfold R_hit at h ⊢
  refine decide_eq_true ?_
  rcases of_decide_eq_true h with a | a | a | a | a | ⟨a, b⟩
  · exact Or.inl a
  · exact Or.inr (Or.inl a)
  · exact Or.inr (Or.inr (Or.inl a))
  · exact Or.inr (Or.inr (Or.inr (Or.inl a)))
  · exact Or.inr (Or.inr (Or.inr (Or.inr (Or.inl a))))
  · refine Or.inr (Or.inr (Or.inr (Or.inr (Or.inr ⟨a, ?_⟩))))
    rcases b with b | b | b | b | b | b
    · exact Or.inl ⟨by omega, by omega⟩
    · exact Or.inr (Or.inl ⟨by omega, by omega⟩)
    · exact Or.inr (Or.inr (Or.inl ⟨by omega, by omega⟩))
    · exact Or.inr (Or.inr (Or.inr (Or.inl ⟨by omega, by omega⟩)))
    · exact Or.inr (Or.inr (Or.inr (Or.inr (Or.inl ⟨by omega, by omega⟩))))
    · exact Or.inr (Or.inr (Or.inr (Or.inr (Or.inr ⟨by omega, by omega⟩))))
theorem hit_252 {k : Nat} : R_hit 252 k k = true := by
  unfold R_hit
  exact decide_eq_true (Or.inl rfl)
theorem hit_253 {k : Nat} : R_hit 253 k k = true := by
  unfold R_hit
  exact decide_eq_true (Or.inr (Or.inl rfl))
theorem hit_258 {k : Nat} : R_hit 258 k k = true := by
  unfold R_hit
  exact decide_eq_true (Or.inr (Or.inr (Or.inl rfl)))
theorem hit_260 {k : Nat} : R_hit 260 k k = true := by
  unfold R_hit
  exact decide_eq_true (Or.inr (Or.inr (Or.inr (Or.inl rfl))))
theorem hit_27 {p k : Nat} (h1 : 275 ≤ p) (h2 : p ≤ 277) : R_hit p k k = true := by
  unfold R_hit
  exact decide_eq_true (Or.inr (Or.inr (Or.inr (Or.inr (Or.inl ⟨h1, h2⟩)))))
noncomputable def R_off2 (y : Nat) : Bool := (cs_at y).all fun C => C.2.2.2.2.1.all fun q => !(R_hit q.1 q.2.1 q.2.2)
theorem R_off2_ok {y : Nat} (h : R_off2 y = true) {C : A_C} (hC : C ∈ cs_at y) {alts : List A_A} {T : Int} {ρ : List Int} {σ σ' : m_H} {r : Option Value} (hp : c_post alts C.2.2.2.2.1 T ρ σ r σ') : ∀ p k, R_hit p k k = true → z_m σ' p k = z_m σ p k := fun p k hk => by
  have e := (c_post_h hp).2 p k (fun ⟨q, q1, q2, q3, q4⟩ => by
    have := List.all_eq_true.mp (List.all_eq_true.mp h C hC) q q1
    rw [q2, R_hit_mono hk q3 q4] at this
    cases this)
  unfold z_m
  rw [e]
/-- what can be undone: so many, the last first -/
def c_un (n : Int) (c : Nat) (U : Nat → Nat → Int) (m : z_M) : Prop := (0 ≤ m 28 3 ∧ m 28 3 ≤ 11) ∧ m 28 4 = (c : Int) ∧ c ≤ 12 ∧ ∀ i, i < c → cS m (32 + 6 * (((m 28 3).toNat + 11 - i) % 12)) n = U i
def r_un (n : Int) (c : Nat) (U : Nat → Nat → Int) (m : z_M) : Prop := m 251 25 = (c : Int) ∧ c ≤ 12 ∧ ∀ i, i < c → uR m 260 (c - 1 - i) n = U i
/-- the reference's rule -/
def r_ru (cs : List Int) (m : z_M) : Prop := (m 251 20 = 0 ∧ cs = [1000, 2, 2047]) ∨ (0 < m 251 20 ∧ m 251 20 ≤ 40 ∧ (∀ k, k < 40 → -128 ≤ m 258 k ∧ m 258 k ≤ 127) ∧ (q_ex (u_nx (fun k => z_and (m 258 k) 255) (m 251 20) 40) 4 0).1 = true ∧ (q_ex (u_nx (fun k => z_and (m 258 k) 255) (m 251 20) 40) 4 0).2.2 = cs)
/-- one that is kept, of the reference; v the persons that it speaks of, or -1 -/
def r_kp (n : Nat) (v : Int) (S : Nat → Int) (i : Nat) (m : z_M) : Prop := ((m 276 i = 0 ∧ v = -1) ∨ (m 276 i = 1 ∧ ∃ d : Nat, 0 ≤ v ∧ v + (d : Int) ≤ (n : Int) ∧ (d = 0 → v = (n : Int)) ∧ m 251 52 = (Int32.ofInt (m 277 i + (d : Int))).toInt ∧ -2147483648 ≤ m 277 i ∧ m 277 i ≤ 2147483647)) ∧ (v = (n : Int) → uR m 275 i n = S)
def C_is (w h n : Nat) (heat price : Int) (D A : Nat → Int) (c : Nat) (U : Nat → Nat → Int) (kn : Nat → Int) (KS : Nat → Nat → Int) (cs : List Int) (m : z_M) : Prop := (m 3 8 = (w : Int) ∧ m 3 9 = (h : Int) ∧ m 3 11 = (n : Int) ∧ m 3 12 = heat ∧ m 3 13 = price ∧ (∀ r : Nat, r < 9 → (z_and (z_shr (m 3 10) (r : Int)) 1 = 0 ↔ u_hs (w : Int) (h : Int) (r : Int) = 0)) ∧ m 24 4 = -1 ∧ m 24 5 = 0) ∧ (∀ j, j < 30 → m 8 j = D j) ∧ cS m 12 n = A ∧ c_un n c U m ∧ (∀ i, i < 2 → m 31 i = kn i ∧ (kn i = (n : Int) → cS m (104 + 6 * i) n = KS i)) ∧ (m 4 3 = (cs.length : Int) ∧ cs.length ≤ 40 ∧ (∀ c ∈ cs, c ≤ 2147483647) ∧ cds (m 5) 0 cs)
def R_is (w h n : Nat) (heat price : Int) (D A : Nat → Int) (c : Nat) (U : Nat → Nat → Int) (kn : Nat → Int) (KS : Nat → Nat → Int) (cs : List Int) (m : z_M) : Prop := (m 251 1 = (w : Int) ∧ m 251 2 = (h : Int) ∧ m 251 3 = (n : Int) ∧ m 251 5 = heat ∧ m 251 6 = price ∧ m 251 23 = -1) ∧ (∀ j, j < 30 → m 253 j = D j) ∧ rS m 252 n = A ∧ r_un n c U m ∧ (∀ i, i < 2 → r_kp n (kn i) (KS i) i m) ∧ r_ru cs m
section
variable {w h n : Nat} {heat price : Int} {D A A' : Nat → Int} {c c' : Nat} {U U' : Nat → Nat → Int} {kn : Nat → Int} {KS : Nat → Nat → Int} {cs : List Int} {m m' : z_M}
theorem cS_fr {s : Nat} {n : Int} (hs : ∀ j k, j ≤ 5 → (j = 0 → 5 ≤ k) → m' (s + j) k = m (s + j) k) : cS m' s n = cS m s n := cS_rows (funext fun k => hs 1 k (by decide) (fun z => absurd z (by decide))) (funext fun k => hs 2 k (by decide) (fun z => absurd z (by decide))) (funext fun k => hs 3 k (by decide) (fun z => absurd z (by decide))) (funext fun k => hs 4 k (by decide) (fun z => absurd z (by decide))) (funext fun k => hs 5 k (by decide) (fun z => absurd z (by decide))) (fun k h1 _ => hs 0 k (by decide) (fun _ => h1))
theorem C_mk0 {heat' price' : Int} {D' : Nat → Int} (hi : C_is w h n heat price D A c U kn KS cs m) (h3 : ∀ k, 8 ≤ k → k ≤ 11 → m' 3 k = m 3 k) (h12 : m' 3 12 = heat') (h13 : m' 3 13 = price') (hD : ∀ j, j < 30 → m' 8 j = D' j) (hf : ∀ p k, C_hit p k k = true → ¬ p = 3 → ¬ p = 8 → ¬ (12 ≤ p ∧ p ≤ 17) → ¬ p = 28 → ¬ (32 ≤ p ∧ p ≤ 103) → m' p k = m p k) (hA : cS m' 12 n = A') (hU : c_un n c' U' m') : C_is w h n heat' price' D' A' c' U' kn KS cs m' := by
  obtain ⟨⟨a1, a2, a3, a4, a5, a6, a7, a8⟩, b, -, -, e, f1, f2, f3, f4⟩ := hi
  have e5 : m' 5 = m 5 := funext fun k => hf 5 k hit_5 (by decide) (by decide) (by decide) (by decide) (by decide)
  refine ⟨⟨?_, ?_, ?_, h12, h13, ?_, ?_, ?_⟩, hD, hA, hU, fun i hi => ⟨(hf 31 i (hit_dk (by decide) (by decide)) (by decide) (by decide) (by decide) (by decide) (by decide)).trans (e i hi).1, fun hv => ?_⟩, ?_, f2, f3, by rw [e5]; exact f4⟩
  · rw [h3 8 (by decide) (by decide)]; exact a1
  · rw [h3 9 (by decide) (by decide)]; exact a2
  · rw [h3 11 (by decide) (by decide)]; exact a3
  · rw [h3 10 (by decide) (by decide)]; exact a6
  · exact (hf 24 4 (by decide) (by decide) (by decide) (by decide) (by decide) (by decide)).trans a7
  · exact (hf 24 5 (by decide) (by decide) (by decide) (by decide) (by decide) (by decide)).trans a8
  · rw [cS_fr (fun j k hj _ => hf (104 + 6 * i + j) k (hit_dk (by omega) (by omega)) (by omega) (by omega) (by omega) (by omega) (by omega))]
    exact (e i hi).2 hv
  · exact (hf 4 3 (by decide) (by decide) (by decide) (by decide) (by decide) (by decide)).trans f1
theorem C_mk (hi : C_is w h n heat price D A c U kn KS cs m) (hf : ∀ p k, C_hit p k k = true → ¬ (12 ≤ p ∧ p ≤ 17) → ¬ p = 28 → ¬ (32 ≤ p ∧ p ≤ 103) → m' p k = m p k) (hA : cS m' 12 n = A') (hU : c_un n c' U' m') : C_is w h n heat price D A' c' U' kn KS cs m' := by
  have e3 : ∀ k, 8 ≤ k → m' 3 k = m 3 k := fun k hk => hf 3 k (by
    unfold C_hit
    exact decide_eq_true (Or.inr (Or.inr (Or.inr (Or.inr (Or.inl ⟨rfl, hk⟩)))))) (by decide) (by decide) (by decide)
  exact C_mk0 hi (fun k h1 _ => e3 k h1) ((e3 12 (by decide)).trans hi.1.2.2.2.1) ((e3 13 (by decide)).trans hi.1.2.2.2.2.1) (fun j hj => (hf 8 j hit_8 (by decide) (by decide) (by decide)).trans (hi.2.1 j hj)) (fun p k h1 _ _ h2 h3 h4 => hf p k h1 h2 h3 h4) hA hU
theorem c_un_fr (hu : c_un n c U m) (hf : ∀ p k, (p = 28 ∧ 3 ≤ k) ∨ (32 ≤ p ∧ p ≤ 103) → m' p k = m p k) : c_un n c U m' := by
  obtain ⟨a1, a2, a3, a4⟩ := hu
  have e3 : m' 28 3 = m 28 3 := hf 28 3 (Or.inl ⟨rfl, by decide⟩)
  have e4 : m' 28 4 = m 28 4 := hf 28 4 (Or.inl ⟨rfl, by decide⟩)
  refine ⟨by rw [e3]; exact a1, by rw [e4]; exact a2, a3, fun i hi => ?_⟩
  rw [e3, cS_fr (fun j k hj _ => hf _ k (Or.inr (by omega)))]
  exact a4 i hi
theorem hit_28 {k : Nat} (h : 3 ≤ k) : C_hit 28 k k = true := by
  unfold C_hit
  exact decide_eq_true (Or.inr (Or.inr (Or.inr (Or.inr (Or.inr (Or.inr (Or.inl ⟨rfl, h⟩)))))))
theorem c_un_fr' (hu : c_un n c U m) (hf : ∀ p k, C_hit p k k = true → ¬ (12 ≤ p ∧ p ≤ 17) → m' p k = m p k) : c_un n c U m' := c_un_fr hu fun p k hp => by
  rcases hp with ⟨rfl, h3⟩ | hp
  · exact hf 28 k (hit_28 h3) (by decide)
  · exact hf p k (hit_dk (by omega) (by omega)) (by omega)
/-- the State alone is another -/
theorem C_mkA (hi : C_is w h n heat price D A c U kn KS cs m) (hf : ∀ p k, C_hit p k k = true → ¬ (12 ≤ p ∧ p ≤ 17) → m' p k = m p k) (hA : cS m' 12 n = A') : C_is w h n heat price D A' c U kn KS cs m' := C_mk hi (fun p k h1 h2 _ _ => hf p k h1 h2) hA (c_un_fr' hi.2.2.2.1 hf)
theorem C_fr (hi : C_is w h n heat price D A c U kn KS cs m) (hf : ∀ p k, C_hit p k k = true → m' p k = m p k) : C_is w h n heat price D A c U kn KS cs m' := C_mkA hi (fun p k h1 _ => hf p k h1) (by
  rw [cS_fr (fun j k hj _ => hf (12 + j) k (hit_st (by omega) (by omega)))]
  exact hi.2.2.1)
theorem R_mk0 {heat' price' : Int} {D' : Nat → Int} (hi : R_is w h n heat price D A c U kn KS cs m) (h5 : m' 251 5 = heat') (h6 : m' 251 6 = price') (hD : ∀ j, j < 30 → m' 253 j = D' j) (hf : ∀ p k, R_hit p k k = true → ¬ p = 252 → ¬ p = 253 → ¬ p = 260 → ¬ (p = 251 ∧ (k = 5 ∨ k = 6 ∨ k = 25)) → m' p k = m p k) (hA : rS m' 252 n = A') (hU : r_un n c' U' m') : R_is w h n heat' price' D' A' c' U' kn KS cs m' := by
  obtain ⟨⟨a1, a2, a3, a4, a5, a6⟩, b, -, -, e, f⟩ := hi
  refine ⟨⟨?_, ?_, ?_, h5, h6, ?_⟩, hD, hA, hU, fun i hi => ?_, ?_⟩
  · exact (hf 251 1 (by decide) (by decide) (by decide) (by decide) (by decide)).trans a1
  · exact (hf 251 2 (by decide) (by decide) (by decide) (by decide) (by decide)).trans a2
  · exact (hf 251 3 (by decide) (by decide) (by decide) (by decide) (by decide)).trans a3
  · exact (hf 251 23 (by decide) (by decide) (by decide) (by decide) (by decide)).trans a6
  · have e52 : m' 251 52 = m 251 52 := hf 251 52 (by decide) (by decide) (by decide) (by decide) (by decide)
    have e6 : m' 276 i = m 276 i := hf 276 i (hit_27 (by decide) (by decide)) (by decide) (by decide) (by decide) (by omega)
    have e7 : m' 277 i = m 277 i := hf 277 i (hit_27 (by decide) (by decide)) (by decide) (by decide) (by decide) (by omega)
    obtain ⟨k1, k2⟩ := e i hi
    unfold r_kp
    rw [e52, e6, e7, uR_row (fun k _ => hf 275 (37 * i + k) (hit_27 (by decide) (by decide)) (by decide) (by decide) (by decide) (by omega))]
    exact ⟨k1, k2⟩
  · have e20 : m' 251 20 = m 251 20 := hf 251 20 (by decide) (by decide) (by decide) (by decide) (by decide)
    have e258 : m' 258 = m 258 := funext fun k => hf 258 k hit_258 (by decide) (by decide) (by decide) (by omega)
    unfold r_ru
    rw [e20, e258]
    exact f
theorem R_mk (hi : R_is w h n heat price D A c U kn KS cs m) (hf : ∀ p k, R_hit p k k = true → ¬ p = 252 → ¬ p = 260 → ¬ (p = 251 ∧ k = 25) → m' p k = m p k) (hA : rS m' 252 n = A') (hU : r_un n c' U' m') : R_is w h n heat price D A' c' U' kn KS cs m' := R_mk0 hi ((hf 251 5 (by decide) (by omega) (by omega) (by omega)).trans hi.1.2.2.2.1) ((hf 251 6 (by decide) (by omega) (by omega) (by omega)).trans hi.1.2.2.2.2.1) (fun j hj => (hf 253 j hit_253 (by omega) (by omega) (by omega)).trans (hi.2.1 j hj)) (fun p k h1 h2 _ h3 h4 => hf p k h1 h2 h3 (fun z => h4 ⟨z.1, Or.inr (Or.inr z.2)⟩)) hA hU
theorem r_un_fr (hu : r_un n c U m) (hf : ∀ p k, (p = 251 ∧ k = 25) ∨ p = 260 → m' p k = m p k) : r_un n c U m' := by
  obtain ⟨a1, a2, a3⟩ := hu
  refine ⟨(hf 251 25 (Or.inl ⟨rfl, rfl⟩)).trans a1, a2, fun i hi => ?_⟩
  rw [uR_row (fun k _ => hf 260 _ (Or.inr rfl))]
  exact a3 i hi
theorem r_un_fr' (hu : r_un n c U m) (hf : ∀ p k, R_hit p k k = true → ¬ p = 252 → m' p k = m p k) : r_un n c U m' := r_un_fr hu fun p k hp => by
  rcases hp with ⟨rfl, rfl⟩ | rfl
  · exact hf 251 25 (by decide) (by decide)
  · exact hf 260 k hit_260 (by decide)
theorem R_mkA (hi : R_is w h n heat price D A c U kn KS cs m) (hf : ∀ p k, R_hit p k k = true → ¬ p = 252 → m' p k = m p k) (hA : rS m' 252 n = A') : R_is w h n heat price D A' c U kn KS cs m' := R_mk hi (fun p k h1 h2 _ _ => hf p k h1 h2) hA (r_un_fr' hi.2.2.2.1 hf)
theorem X_up {p0 k0 p k : Nat} {v : Int} (hn : ¬ (p = p0 ∧ k = k0)) : z_up m p0 k0 v p k = m p k := by
  unfold z_up
  rw [if_neg hn]
theorem R_fr (hi : R_is w h n heat price D A c U kn KS cs m) (hf : ∀ p k, R_hit p k k = true → m' p k = m p k) : R_is w h n heat price D A c U kn KS cs m' := R_mkA hi (fun p k h1 _ => hf p k h1) (by
  rw [rS_row (funext fun k => hf 252 k hit_252)]
  exact hi.2.2.1)
/-- the rule alone is another -/
theorem C_mkR {cs' : List Int} (hi : C_is w h n heat price D A c U kn KS cs m) (hf : ∀ p k, C_hit p k k = true → ¬ p = 4 → ¬ p = 5 → m' p k = m p k) (hr : m' 4 3 = (cs'.length : Int) ∧ cs'.length ≤ 40 ∧ (∀ c ∈ cs', c ≤ 2147483647) ∧ cds (m' 5) 0 cs') : C_is w h n heat price D A c U kn KS cs' m' := by
  obtain ⟨⟨a1, a2, a3, a4, a5, a6, a7, a8⟩, b, d, u, e, -⟩ := hi
  have e3 : ∀ k, 8 ≤ k → m' 3 k = m 3 k := fun k hk => hf 3 k (by
    unfold C_hit
    exact decide_eq_true (Or.inr (Or.inr (Or.inr (Or.inr (Or.inl ⟨rfl, hk⟩)))))) (by decide) (by decide)
  refine ⟨⟨?_, ?_, ?_, ?_, ?_, ?_, ?_, ?_⟩, fun j hj => (hf 8 j hit_8 (by decide) (by decide)).trans (b j hj), ?_, c_un_fr u (fun p k hp => ?_), fun i hi => ⟨(hf 31 i (hit_dk (by decide) (by decide)) (by decide) (by decide)).trans (e i hi).1, fun hv => ?_⟩, hr⟩
  · rw [e3 8 (by decide)]; exact a1
  · rw [e3 9 (by decide)]; exact a2
  · rw [e3 11 (by decide)]; exact a3
  · rw [e3 12 (by decide)]; exact a4
  · rw [e3 13 (by decide)]; exact a5
  · rw [e3 10 (by decide)]; exact a6
  · exact (hf 24 4 (by decide) (by decide) (by decide)).trans a7
  · exact (hf 24 5 (by decide) (by decide) (by decide)).trans a8
  · rw [cS_fr (fun j k hj _ => hf (12 + j) k (hit_st (by omega) (by omega)) (by omega) (by omega))]
    exact d
  · rcases hp with ⟨rfl, h3⟩ | hp
    · exact hf 28 k (hit_28 h3) (by decide) (by decide)
    · exact hf p k (hit_dk (by omega) (by omega)) (by omega) (by omega)
  · rw [cS_fr (fun j k hj _ => hf (104 + 6 * i + j) k (hit_dk (by omega) (by omega)) (by omega) (by omega))]
    exact (e i hi).2 hv
theorem R_mkR {cs' : List Int} (hi : R_is w h n heat price D A c U kn KS cs m) (hf : ∀ p k, R_hit p k k = true → ¬ p = 258 → ¬ (p = 251 ∧ k = 20) → m' p k = m p k) (hr : r_ru cs' m') : R_is w h n heat price D A c U kn KS cs' m' := by
  obtain ⟨⟨a1, a2, a3, a4, a5, a6⟩, b, d, u, e, -⟩ := hi
  refine ⟨⟨?_, ?_, ?_, ?_, ?_, ?_⟩, fun j hj => (hf 253 j hit_253 (by omega) (by omega)).trans (b j hj), ?_, r_un_fr u (fun p k hp => ?_), fun i hi => ?_, hr⟩
  · exact (hf 251 1 (by decide) (by decide) (by decide)).trans a1
  · exact (hf 251 2 (by decide) (by decide) (by decide)).trans a2
  · exact (hf 251 3 (by decide) (by decide) (by decide)).trans a3
  · exact (hf 251 5 (by decide) (by decide) (by decide)).trans a4
  · exact (hf 251 6 (by decide) (by decide) (by decide)).trans a5
  · exact (hf 251 23 (by decide) (by decide) (by decide)).trans a6
  · rw [rS_row (funext fun k => hf 252 k hit_252 (by omega) (by omega))]
    exact d
  · rcases hp with ⟨rfl, rfl⟩ | rfl
    · exact hf 251 25 (by decide) (by decide) (by decide)
    · exact hf 260 k hit_260 (by omega) (by omega)
  · have e52 : m' 251 52 = m 251 52 := hf 251 52 (by decide) (by decide) (by decide)
    have e6 : m' 276 i = m 276 i := hf 276 i (hit_27 (by omega) (by omega)) (by omega) (by omega)
    have e7 : m' 277 i = m 277 i := hf 277 i (hit_27 (by omega) (by omega)) (by omega) (by omega)
    obtain ⟨k1, k2⟩ := e i hi
    unfold r_kp
    rw [e52, e6, e7, uR_row (fun k _ => hf 275 (37 * i + k) (hit_27 (by omega) (by omega)) (by omega) (by omega))]
    exact ⟨k1, k2⟩
/-- a cell that is none of these -/
theorem C_upn {p0 k0 : Nat} {v : Int} (hi : C_is w h n heat price D A c U kn KS cs m) (hn : C_hit p0 k0 k0 = false) : C_is w h n heat price D A c U kn KS cs (z_up m p0 k0 v) := C_fr hi fun p k hk => X_up fun z => by
  rw [z.1, z.2, hn] at hk
  cases hk
theorem R_upn {p0 k0 : Nat} {v : Int} (hi : R_is w h n heat price D A c U kn KS cs m) (hn : R_hit p0 k0 k0 = false) : R_is w h n heat price D A c U kn KS cs (z_up m p0 k0 v) := R_fr hi fun p k hk => X_up fun z => by
  rw [z.1, z.2, hn] at hk
  cases hk
end
/-- both, alike -/
def Core (m : z_M) : Prop := ∃ (w h n : Nat) (heat price : Int) (D A : Nat → Int) (c : Nat) (U : Nat → Nat → Int) (kn : Nat → Int) (KS : Nat → Nat → Int) (cs : List Int), C_is w h n heat price D A c U kn KS cs m ∧ R_is w h n heat price D A c U kn KS cs m ∧ w_W w h n A c U kn KS
theorem Core_mk {w h n : Nat} {heat price : Int} {D A : Nat → Int} {c : Nat} {U : Nat → Nat → Int} {kn : Nat → Int} {KS : Nat → Nat → Int} {cs : List Int} {m : z_M} (h1 : C_is w h n heat price D A c U kn KS cs m) (h2 : R_is w h n heat price D A c U kn KS cs m) (hW : w_W w h n A c U kn KS) : Core m := ⟨w, h, n, heat, price, D, A, c, U, kn, KS, cs, h1, h2, hW⟩
theorem R_inj {X : Option z_Q} {m1 m2 : z_M} {x y : Int} (h1 : X = some (m1, some (0, x))) (h2 : X = some (m2, some (0, y))) : m1 = m2 ∧ x = y := by
  rw [h1] at h2
  have e := Option.some.inj h2
  exact ⟨congrArg Prod.fst e, congrArg (fun z : z_Q => (z.2.getD (0, 0)).2) e⟩
/-- the class's call, then the reference's -/
theorem core_do {y1 y2 : Nat} {G1 G2 : z_G} {σ1 σ2 : m_H} {v1 v2 : Int32} {x : Int} {Cp Rp Rp' : z_M → Prop} (hR : Rp (z_m σ1)) (f2 : Cp (z_m σ1) → Cp (z_m σ2)) (hc : ∃ m1, z_R y1 G1 = some (m1, some (0, x)) ∧ Cp m1) (hr : Rp (z_m σ1) → ∃ m2, z_R y2 G2 = some (m2, some (0, x)) ∧ Rp' m2) (hE1 : z_R y1 G1 = some (z_m σ1, some (0, v1.toInt))) (hE2 : z_R y2 G2 = some (z_m σ2, some (0, v2.toInt))) : (Cp (z_m σ2) ∧ Rp' (z_m σ2)) ∧ v1 = v2 := by
  obtain ⟨m1, a1, a2⟩ := hc
  obtain ⟨b1, b2⟩ := R_inj a1 hE1
  subst b1
  obtain ⟨m2, c1, c2⟩ := hr hR
  obtain ⟨d1, d2⟩ := R_inj c1 hE2
  subst d1
  exact ⟨⟨f2 a2, c2⟩, Int32.toInt_inj.mp (b2.symm.trans d2)⟩
/-! numbers of the cells -/
theorem z_rng3 {B : Int} {σ : m_H} (h : h_ok B σ) {p k : Nat} {lo hi : Int} (hp : p < h_N) (hk : k < h_ln p) (ht : h_ty p k = (3, lo, hi)) : 0 ≤ z_m σ p k ∧ z_m σ p k ≤ B := by
  obtain ⟨vs, h1, h2, h3⟩ := h.2 p hp
  have hv : vs[k]? = some (vs[k]'(by omega)) := List.getElem?_eq_getElem _
  have h4 := (h3 k _ hv).1
  rw [ht] at h4
  obtain ⟨x, hx, g1, g2⟩ : ∃ x : Int32, vs[k]'(by omega) = .int x ∧ 0 ≤ x.toInt ∧ x.toInt ≤ B := h4
  rw [z_m_at h1 hv, hx]
  exact ⟨g1, g2⟩
def wmD (D : Nat → Int) (t : Int) (p : Nat) : Int := D (6 * p + (t % 6).toNat)
theorem core_b {w h n : Nat} {heat price : Int} {D A : Nat → Int} {c : Nat} {U : Nat → Nat → Int} {kn : Nat → Int} {KS : Nat → Nat → Int} {cs : List Int} {M1 : Int} {σ : m_H} (hh : h_ok M1 σ) (hM : M1 ≤ 1073741824) (hR : R_is w h n heat price D A c U kn KS cs (z_m σ)) : (w ≤ 3 ∧ h ≤ 3 ∧ n ≤ 5) ∧ (0 ≤ heat ∧ heat ≤ 9) ∧ (0 ≤ price ∧ price ≤ 9) ∧ (∀ j, j < 30 → 0 ≤ D j ∧ D j ≤ 9) ∧ hr_ok n A ∧ (0 ≤ A 35 ∧ A 35 ≤ 1073741824) ∧ (-1 ≤ A 34 ∧ A 34 ≤ 9) ∧ ∀ t : Int, 0 ≤ t → ∀ p, p < 5 → 0 ≤ wmD D t p ∧ wmD D t p ≤ 9 := by
  obtain ⟨⟨a1, a2, a3, a4, a5, -⟩, b, d, -⟩ := hR
  have r1 := z_rng hh (p := 251) (k := 1) (lo := 0) (hi := 3) (by decide) (by decide +kernel) (by decide +kernel)
  have r2 := z_rng hh (p := 251) (k := 2) (lo := 0) (hi := 3) (by decide) (by decide +kernel) (by decide +kernel)
  have r3 := z_rng hh (p := 251) (k := 3) (lo := 0) (hi := 5) (by decide) (by decide +kernel) (by decide +kernel)
  have r5 := z_rng hh (p := 251) (k := 5) (lo := 0) (hi := 9) (by decide) (by decide +kernel) (by decide +kernel)
  have r6 := z_rng hh (p := 251) (k := 6) (lo := 0) (hi := 9) (by decide) (by decide +kernel) (by decide +kernel)
  have l252 : h_ln 252 = 37 := by decide +kernel
  have l253 : h_ln 253 = 30 := by decide +kernel
  have hD : ∀ j, j < 30 → 0 ≤ D j ∧ D j ≤ 9 := fun j hj => by
    have t : ∀ j, j < 30 → h_ty 253 j = (0, 0, 9) := by decide +kernel
    rw [← b j hj]
    exact z_rng hh (by decide) (by rw [l253]; exact hj) (t j hj)
  have n5 : n ≤ 5 := by omega
  refine ⟨⟨by omega, by omega, n5⟩, by omega, by omega, hD, ⟨fun k hk => ?_, fun k hk => ?_, fun p hp => ?_, ?_⟩, ?_, ?_, fun t ht p hp => ?_⟩
  · have t : ∀ k, k < 9 → h_ty 252 k = (0, 0, 99) := by decide +kernel
    rw [← d, rS_at (by omega) (a_vis_lo (by omega))]
    exact z_rng hh (by decide) (by rw [l252]; omega) (t k hk)
  · have t : ∀ k, k < 9 → h_ty 252 (k + 9) = (0, 0, 99 * ((k / 3 + 1 : Nat) : Int)) := by decide +kernel
    rw [← d, rS_at (by omega) (a_vis_lo (by omega))]
    exact z_rng hh (by decide) (by rw [l252]; omega) (t k hk)
  · have t : ∀ p, p < 5 → h_ty 252 (p + 18) = (0, -1, 8) := by decide +kernel
    rw [← d, rS_at (by omega) (a_vis_p (b := 18) (p := p) (by omega) (by omega) (by omega) (by omega))]
    exact z_rng hh (by decide) (by rw [l252]; omega) (t p (by omega))
  · rw [← d, rS_at (by omega) (a_vis_hi (by omega))]
    exact z_rng hh (by decide) (by rw [l252]; decide) (by decide +kernel)
  · rw [← d, rS_at (by omega) (a_vis_hi (by omega))]
    have := z_rng3 hh (p := 252) (k := 35) (lo := 0) (hi := 0) (by decide) (by rw [l252]; decide) (by decide +kernel)
    omega
  · rw [← d, rS_at (by omega) (a_vis_hi (by omega))]
    exact z_rng hh (p := 252) (k := 34) (lo := -1) (hi := 9) (by decide) (by rw [l252]; decide) (by decide +kernel)
  · have hm : 0 ≤ t % 6 ∧ t % 6 < 6 := ⟨Int.emod_nonneg _ (by decide), Int.emod_lt_of_pos _ (by decide)⟩
    exact hD _ (by omega)
theorem cw_D {D : Nat → Int} {m : z_M} (h4 : m 24 4 = -1) (h5 : m 24 5 = 0) (h8 : ∀ j, j < 30 → m 8 j = D j) {t : Int} (ht : 0 ≤ t) {p : Nat} (hp : p < 5) : cw m p t = wmD D t p := by
  have hm : 0 ≤ t % 6 ∧ t % 6 < 6 := ⟨Int.emod_nonneg _ (by decide), Int.emod_lt_of_pos _ (by decide)⟩
  have ej : (6 * (p : Int) + t % 6).toNat = 6 * p + (t % 6).toNat := by omega
  have e0 : z_and (z_shr 0 (6 * (p : Int) + t % 6)) 1 = 0 := by
    have e : ∀ j, j < 30 → z_and (z_shr 0 ((j : Nat) : Int)) 1 = 0 := by decide +kernel
    have := e (6 * p + (t % 6).toNat) (by omega)
    rw [show ((6 * p + (t % 6).toNat : Nat) : Int) = 6 * (p : Int) + t % 6 by omega] at this
    exact this
  unfold cw wmD
  rw [h5, if_pos e0, if_neg (by rw [h4]; omega), ej, h8 _ (by omega)]
theorem rwm_D {D : Nat → Int} {m : z_M} (h23 : m 251 23 = -1) (h253 : ∀ j, j < 30 → m 253 j = D j) {t : Int} (ht : 0 ≤ t) {p : Nat} (hp : p < 5) : rwm m p t = wmD D t p := by
  have hm : 0 ≤ t % 6 ∧ t % 6 < 6 := ⟨Int.emod_nonneg _ (by decide), Int.emod_lt_of_pos _ (by decide)⟩
  have ej : (6 * (p : Int) + t % 6).toNat = 6 * p + (t % 6).toNat := by omega
  unfold rwm wmD
  rw [if_neg (by rw [h23]; omega), ej, h253 _ (by omega)]
