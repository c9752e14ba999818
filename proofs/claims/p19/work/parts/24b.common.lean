/-! the greatest common divisor -/
def q_common (σ : m_H) (a b : Int64) : Option Value → m_H → Prop := fun r σ' => σ' = σ ∧ ∃ x : Int64, r = some (.long x) ∧ (x = 0 → a = 0 ∧ b = 0)
section HC
variable {l : Launch} {X : Nat → Option (List Int32)} {Y : (Nat → Prop) → State → Heap → Prop} {xa : Nat → Nat}
theorem i64_rem (x y : Int64) : (x - x / y * y).toInt = x.toInt.tmod y.toInt := by
  have e : x - x / y * y = x % y := by
    apply Int64.toInt_inj.mp
    have h1 := Int64.le_toInt (x % y)
    have h2 := Int64.toInt_lt (x % y)
    rw [Int64.toInt_sub, Int64.toInt_mul, Int64.toInt_div, Int.bmod_mul_bmod, Int.sub_bmod_bmod, Int.mul_comm (x.toInt.tdiv y.toInt), ← Int.tmod_def, ← Int64.toInt_mod]
    exact Int.bmod_eq_of_le_mul_two (by omega) (by omega)
  rw [e, Int64.toInt_mod]
theorem lg_cmp_0 {x y : Int64} : lg_cmp x y = 0 ↔ x = y := by
  unfold lg_cmp
  by_cases h : x > y
  · rw [if_pos h]
    refine ⟨fun z => absurd z (by decide), fun z => ?_⟩
    subst z
    exact (Int64.lt_irrefl h).elim
  · rw [if_neg h]
    by_cases h2 : x = y
    · rw [if_pos h2]; exact ⟨fun _ => h2, fun _ => rfl⟩
    · rw [if_neg h2]; exact ⟨fun z => absurd z (by decide), fun z => absurd z h2⟩
theorem e_common_step (hY : m_Yok Y) {d : Nat} {σ : m_H} {a b : Int64} (hd : ¬ b = 0 → ∃ d', d = d' + 1 ∧ e_K l X Y xa d' 241 σ [.long b, .long (a - a / b * b)] (q_common σ b (a - a / b * b))) : e_K l X Y xa d 241 σ [.long a, .long b] (q_common σ a b) := by
  intro q hq
  cases hq
  refine m_K_of (K := kt_241) rfl (by decide +kernel) (Nat.le_of_ble_eq_true rfl) rfl (fun p e s m args below meth c dC dI aC ad sz hC hn hrt => ?_)
  have hk := k_all_ok (own := "LetByTheDegreeModel") rfl kt_241_ok
  refine mW_lload_n hC (kd hk (pc := 0) rfl).1 rfl ?_
  refine mW_lconst hC (kd hk (pc := 1) rfl).1 ?_
  refine mW_lcmp hC (kd hk (pc := 2) rfl).1 ?_
  refine mW_if_ne hC (kd hk (pc := 3) rfl).1 (tgt := 10) rfl (fun h => ?_) (fun h => ?_)
  · have hb : ¬ b = 0 := fun z => h (lg_cmp_0.mpr z)
    obtain ⟨d', rfl, hM⟩ := hd hb
    refine mW_lload_n hC (kd hk (pc := 10) rfl).1 rfl ?_
    refine mW_lload_n hC (kd hk (pc := 11) rfl).1 rfl ?_
    refine mW_lload_n hC (kd hk (pc := 12) rfl).1 rfl ?_
    refine mW_lrem hC (kd hk (pc := 13) rfl).1 hb ?_
    refine mW_invS hY hC (as := [.long b, .long (a - a / b * b)]) (st := []) (kd hk (pc := 14) rfl) rfl rfl (hM _ rfl) rfl ⟨Nat.le_refl _, Nat.le_refl _⟩ (Nat.zero_le _) (Nat.zero_le _) (Nat.zero_le _) (Nat.le_refl _) (fun v hv => by cases hv) (fun u hu => ?_) (fun r σ' hQ => ?_)
    · rcases List.mem_cons.mp hu with rfl | hu
      · trivial
      · rcases List.mem_cons.mp hu with rfl | hu
        · trivial
        · cases hu
    · obtain ⟨rfl, x, rfl, hx⟩ := hQ
      refine mW_lret hC (kd hk (pc := 17) rfl).1 hrt ⟨rfl, x, rfl, fun z => absurd (hx z).1 hb⟩ (Nat.le_refl _) (Nat.le_refl _)
  · have hb : b = 0 := lg_cmp_0.mp h
    refine mW_lload_n hC (kd hk (pc := 6) rfl).1 rfl ?_
    refine mW_goto hC (kd hk (pc := 7) rfl).1 (tgt := 17) rfl ?_
    exact mW_lret hC (kd hk (pc := 17) rfl).1 hrt ⟨rfl, a, rfl, fun z => ⟨z, hb⟩⟩ (Nat.le_refl _) (Nat.le_refl _)
theorem nat_mod_half {m k : Nat} (hk : 0 < k) (h : k < m) : 2 * (m % k) < m := by
  have h1 := Nat.mod_lt m hk
  have h2 := Nat.div_add_mod m k
  have h3 : 1 ≤ m / k := Nat.div_pos (Nat.le_of_lt h) hk
  have h4 : k * 1 ≤ k * (m / k) := Nat.mul_le_mul_left k h3
  omega
theorem e_common (hY : m_Yok Y) : ∀ (n : Nat) (a b : Int64) (d : Nat) (σ : m_H), b.toInt.natAbs < 2 ^ n → 2 * n ≤ d → e_K l X Y xa d 241 σ [.long a, .long b] (q_common σ a b)
  | 0, a, b, d, σ, hb, hd => by
    refine e_common_step hY (fun z => absurd ?_ z)
    have : b.toInt = 0 := by
      have : b.toInt.natAbs < 1 := hb
      omega
    exact Int64.toInt_inj.mp this
  | n + 1, a, b, d, σ, hb, hd => by
    refine e_common_step hY (fun z => ⟨d - 1, by omega, ?_⟩)
    have hb0 : b.toInt ≠ 0 := fun y => z (Int64.toInt_inj.mp y)
    have e1 : (a - a / b * b).toInt.natAbs = a.toInt.natAbs % b.toInt.natAbs := by rw [i64_rem, Int.natAbs_tmod]
    refine e_common_step hY (fun z2 => ⟨d - 2, by omega, ?_⟩)
    have hr0 : (a - a / b * b).toInt ≠ 0 := fun y => z2 (Int64.toInt_inj.mp y)
    refine e_common hY n _ _ (d - 2) σ ?_ (by omega)
    rw [i64_rem, Int.natAbs_tmod]
    have h1 : (a - a / b * b).toInt.natAbs < b.toInt.natAbs := by rw [e1]; exact Nat.mod_lt _ (by omega)
    have h2 := nat_mod_half (m := b.toInt.natAbs) (k := (a - a / b * b).toInt.natAbs) (by omega) h1
    have h3 : 2 ^ (n + 1) = 2 * 2 ^ n := by rw [Nat.pow_succ, Nat.mul_comm]
    omega
theorem cn_0_sem (hY : m_Yok Y) (d : Nat) : c_sem l X Y xa d cn_0 := by
  intro q hq ρ0 M z dz σ vs he hM hh htau hz hMz hdep hdz ho ha hv
  obtain ⟨a, t1, e1, ha1, ht1⟩ := s_long ha rfl
  subst e1
  obtain ⟨b, t2, e2, hb1, ht2⟩ := s_long ht1 rfl
  subst e2
  cases t2 with
  | cons v t => exact absurd ht2 id
  | nil =>
    cases hdep
    have hzz : (0 : Int) + 0 = z := Option.some.inj htau
    obtain rfl : z = 0 := by omega
    clear hzz
    have hdz : (130 : Int) ≤ (d : Int) := hdz
    have hb2 : ρ0[1]? = some b.toInt := by
      have : (ρ0[1]?).map (fun r => r + 0) = some b.toInt := hb1
      simpa using this
    have hbr := he.2 1 _ _ rfl hb2
    have hb3 : 1 ≤ b.toInt := hbr.1
    have hb4 : b.toInt ≤ 9223372036854775807 := hbr.2.1
    have hm := e_common (l := l) (X := X) (xa := xa) hY 63 a b d σ (by
      have : (2 : Nat) ^ 63 = 9223372036854775808 := by decide +kernel
      omega) (by omega) q hq
    refine m_K_post hm (fun r σ' hQ => ?_)
    obtain ⟨rfl, x, rfl, hx⟩ := hQ
    have hx0 : x.toInt ≠ 0 := fun y => by
      have := (hx (Int64.toInt_inj.mp y)).2
      rw [this] at hb3
      exact absurd hb3 (by decide)
    have hxr := i64_rng x
    have hl : ρ0.length = 2 := he.1
    have hat : (ρ0 ++ [x.toInt])[2]? = some x.toInt := by
      rw [List.getElem?_append_right (by omega), hl]; rfl
    have hret : v_ok (ρ0 ++ [x.toInt]) (4, 2, 0) (.long x) := ⟨x, x.toInt, rfl, hat, by show x.toInt = x.toInt + 0; omega⟩
    have hM0 : M + 0 = M := by omega
    rcases Int.lt_or_gt_of_ne hx0 with hneg | hpos
    · exact ⟨_, List.mem_cons_of_mem _ List.mem_cons_self, ρ0 ++ [x.toInt], r_ext.push _, by rw [hM0]; exact e_ok_push he ⟨hxr.1, by show x.toInt ≤ -1; omega, fun y => by cases y⟩, fun q hq => (by cases hq), hret, by rw [hM0]; exact hh, (fun q hq => by cases hq), fun p k _ => rfl⟩
    · exact ⟨_, List.mem_cons_self, ρ0 ++ [x.toInt], r_ext.push _, by rw [hM0]; exact e_ok_push he ⟨by show (1 : Int) ≤ x.toInt; omega, hxr.2, fun y => by cases y⟩, fun q hq => (by cases hq), hret, by rw [hM0]; exact hh, (fun q hq => by cases hq), fun p k _ => rfl⟩
end HC
