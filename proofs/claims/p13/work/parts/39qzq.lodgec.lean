/-! LODGE: the class's search -/
def lo_st (N : Int) (sb : Nat → Int) : Nat → Int
  | 0 => N
  | b + 1 => if sb b < lo_st N sb b then sb b else lo_st N sb b
theorem lo_st_mn {N : Int} {sb : Nat → Int} {w : Nat} (hw : w ≤ 3) (h1 : ∀ b, sb b ≤ N) (h2 : ∀ b, w ≤ b → b < 3 → sb b = N) : lo_st N sb w = i_mn (i_mn (sb 0) (sb 1)) (sb 2) := by
  have a0 := h1 0
  have a1 := h1 1
  have a2 := h1 2
  unfold i_mn
  rcases (show w = 0 ∨ w = 1 ∨ w = 2 ∨ w = 3 by omega) with rfl | rfl | rfl | rfl
  · have b0 := h2 0 (by omega) (by omega)
    have b1 := h2 1 (by omega) (by omega)
    have b2 := h2 2 (by omega) (by omega)
    show N = _
    (repeat' split) <;> omega
  · have b1 := h2 1 (by omega) (by omega)
    have b2 := h2 2 (by omega) (by omega)
    show (if sb 0 < N then sb 0 else N) = _
    (repeat' split) <;> omega
  · have b2 := h2 2 (by omega) (by omega)
    show (if sb 1 < (if sb 0 < N then sb 0 else N) then sb 1 else (if sb 0 < N then sb 0 else N)) = _
    (repeat' split) <;> omega
  · show (if sb 2 < (if sb 1 < (if sb 0 < N then sb 0 else N) then sb 1 else (if sb 0 < N then sb 0 else N)) then sb 2 else (if sb 1 < (if sb 0 < N then sb 0 else N) then sb 1 else (if sb 0 < N then sb 0 else N))) = _
    (repeat' split) <;> omega
/-- for how many hours it stands, so placed -/
def lo_V (w h n : Nat) (heat price : Int) (cs : List Int) (D A : Nat → Int) (l : List Nat) (N : Nat) (rr : Nat → Nat) : Int := s_sta w h n heat price cs D (s_F w h A) N N 0 (lo_pl l rr l.length A)
theorem s_stc_no {w h n c : Nat} {heat price : Int} {cs : List Int} {D : Nat → Int} {F : Nat → Bool} {N : Nat} (hz : ∀ r : Nat, r < 9 → r % 3 = c → u_hs (w : Int) (h : Int) (r : Int) = 0) : ∀ (f x : Nat) (B : Nat → Int), x + f = N → s_stc w h n heat price cs D F c N f x B = (N : Int) := by
  intro f
  induction f with
  | zero => intro x B hx; rfl
  | succ f ih =>
    intro x B hx
    unfold s_stc
    have e : s_vio w h F c (hr_A w h heat price (c_ml cs) (wmD D (B 35)) n B) = false := by
      cases y : s_vio w h F c (hr_A w h heat price (c_ml cs) (wmD D (B 35)) n B)
      · rfl
      · obtain ⟨r, h1, h2, h3, -⟩ := s_vio_iff.mp y
        exact absurd (hz r h1 h2) h3
    rw [e, if_neg Bool.false_ne_true]
    exact ih (x + 1) _ (by omega)
theorem lo_V_st {w h n : Nat} {heat price : Int} {cs : List Int} {D A : Nat → Int} {l : List Nat} {N : Nat} (hw : w ≤ 3) (hh : h ≤ 3) {rr : Nat → Nat} : lo_V w h n heat price cs D A l N rr = lo_st (N : Int) (fun b => s_stc w h n heat price cs D (s_fl A) b N N 0 (lo_pl l rr l.length A)) w := by
  unfold lo_V
  rw [s_sta_min N 0 _ (by omega)]
  refine (lo_st_mn (sb := fun b => s_stc w h n heat price cs D (s_fl A) b N N 0 (lo_pl l rr l.length A)) hw (fun b => (s_stc_x (N := N) N 0 _ (Nat.zero_add N)).2) (fun b h1 h2 => s_stc_no (N := N) (fun r hr hrc => ?_) N 0 _ (Nat.zero_add N))).symm
  rw [u_hs_eq hw hh (by omega), if_neg (by omega)]
section
variable {w h n : Nat} {heat price : Int} {D A : Nat → Int} {c : Nat} {U : Nat → Nat → Int} {kn : Nat → Int} {KS : Nat → Nat → Int} {cs : List Int} {m : z_M}
theorem lo_plok {l : List Nat} (hok : hr_ok n A) (n5 : n ≤ 5) (hl : lo_ok n A l) {rr : Nat → Nat} : ∀ k, k ≤ l.length → (∀ i, i < k → rr i < 9) → hr_ok n (lo_pl l rr k A)
  | 0, _, _ => hok
  | k + 1, hk, hr => by
    have ih := lo_plok hok n5 hl k (by omega) (fun i hi => hr i (by omega))
    have h1 := hl.1 k (by omega)
    have h2 := hr k (by omega)
    unfold lo_pl
    exact hr_ok_up ih (by omega) (fun z => by omega) (fun p _ _ => by omega)
/-- what the search holds, and what was found -/
def lo_J (w h n : Nat) (heat price : Int) (D A : Nat → Int) (c : Nat) (U : Nat → Nat → Int) (kn : Nat → Int) (KS : Nat → Nat → Int) (cs : List Int) (l : List Nat) (N : Nat) (a : lo_a) (m : z_M) : Prop := lo_I w h n heat price D A c U kn KS cs l N m ∧ (∀ b, b < w → lo_tab w h n heat price cs D A l N b m) ∧ m 122 11 = 1 ∧ m 122 12 = a.1 ∧ z_w a.1 = a.1 ∧ m 122 13 = a.2.1 ∧ -1 ≤ a.2.1 ∧ (a.2.1 = -1 ∨ ∀ i, i < l.length → m 137 i = (a.2.2 i : Int))
theorem lo_J_fr {l : List Nat} {N : Nat} {a : lo_a} {m m' : z_M} (hv : lo_J w h n heat price D A c U kn KS cs l N a m) (hf : ∀ p k, ¬ p = 136 → ¬ p = 138 → m' p k = m p k) : lo_J w h n heat price D A c U kn KS cs l N a m' := by
  obtain ⟨a1, a2, a3, a4, a5, a6, a7, a8⟩ := hv
  refine ⟨lo_I_fr a1 (fun p k hk => ?_) (hf _ _ (by decide) (by decide)) (hf _ _ (by decide) (by decide)) (fun i => hf _ _ (by decide) (by decide)) (fun j k hj => hf _ _ (by omega) (by omega)), fun b hb code hc hlv => (hf _ _ (by decide) (by decide)).trans (a2 b hb code hc hlv), (hf _ _ (by decide) (by decide)).trans a3, (hf _ _ (by decide) (by decide)).trans a4, a5, (hf _ _ (by decide) (by decide)).trans a6, a7, a8.imp id (fun z i hi => (hf _ _ (by decide) (by decide)).trans (z i hi))⟩
  have hk' := hk
  unfold C_hit at hk'
  have hk' := of_decide_eq_true hk'
  exact hf p k (by omega) (by omega)
theorem lo_wei {l : List Nat} {N : Nat} (hN40 : N ≤ 100) (hN : w_N w h n heat D) (hok : hr_ok n A) (ht : 0 ≤ A 35 ∧ A 35 ≤ 1073741824) (hl : lo_ok n A l) (hl4 : l.length ≤ 4) {rr : Nat → Nat} (hva : lo_va w h rr l.length) {a : lo_a} {m : z_M} (hv : lo_J w h n heat price D A c U kn KS cs l N a m) (h136 : ∀ i, i < l.length → m 136 i = (rr i : Int)) (h138 : ∀ b, b < 3 → m 138 b = (lo_cd rr b l.length : Int)) : ∃ m1, z_R 107 (m, 0, [(2, 122), (9, 0), (9, 0), (9, 0)], []) = some (m1, none) ∧ lo_J w h n heat price D A c U kn KS cs l N (lo_w (N : Int) (lo_V w h n heat price cs D A l N rr) rr a) m1 ∧ ∀ p k, (p = 136 ∨ p = 138) → m1 p k = m p k := by
  have n5 := hN.1.2.2
  have hw3 := hN.1.1
  obtain ⟨a1, a2, a3, a4, a5, a6, a7, a8⟩ := hv
  have h8 := a1.1.1.1
  have h10 := a1.2.2.1
  have hoP := lo_plok hok n5 hl l.length (Nat.le_refl _) (fun i hi => (hva.1 i hi).1)
  have eP35 : lo_pl l rr l.length A 35 = A 35 := lo_pl_ne _ (fun i hi => by have := hl.1 i hi; omega)
  have lp : ∀ (f b : Nat) (v3 : z_V), b + f = w → ∃ v3', z_R 107 (m, 7, [(2, 122), (0, lo_st (N : Int) (fun b => s_stc w h n heat price cs D (s_fl A) b N N 0 (lo_pl l rr l.length A)) b), (0, (b : Int)), v3], []) = z_R 107 (m, 7, [(2, 122), (0, lo_st (N : Int) (fun b => s_stc w h n heat price cs D (s_fl A) b N N 0 (lo_pl l rr l.length A)) w), (0, (w : Int)), v3'], []) := by
    intro f
    induction f with
    | zero =>
      intro b v3 hb
      obtain rfl : b = w := by omega
      exact ⟨v3, rfl⟩
    | succ f ih =>
      intro b v3 hb
      obtain ⟨d1, d2⟩ := lo_cd_dg (c := b) hl4 hva.2
      have hdg : (fun y => lo_cd rr b l.length / 5 ^ y % 5) 0 = lo_dg rr b 0 l.length ∧ (fun y => lo_cd rr b l.length / 5 ^ y % 5) 1 = lo_dg rr b 1 l.length ∧ (fun y => lo_cd rr b l.length / 5 ^ y % 5) 2 = lo_dg rr b 2 l.length := ⟨d2 0 (by decide), d2 1 (by decide), d2 2 (by decide)⟩
      have hlv0 := lo_lv_va (w := w) (h := h) (l := l) hva b
      have hlv : ∀ y', y' < 3 → lo_lv w h l b (fun y => lo_cd rr b l.length / 5 ^ y % 5) y' := fun y' hy' => by
        have z := hlv0 y'
        unfold lo_lv at z ⊢
        have e : ∀ y, y < 3 → (fun y => lo_cd rr b l.length / 5 ^ y % 5) y = (fun y => lo_dg rr b y l.length) y := d2
        rw [e y' hy']
        refine z.imp id (fun q => ⟨q.1, q.2.1, fun y2 h2 => ?_⟩)
        rw [e y2 (by omega)]
        exact q.2.2 y2 h2
      have ec : lo_c n A l b (fun y => lo_cd rr b l.length / 5 ^ y % 5) 3 = lo_c n A l b (fun y => lo_dg rr b y l.length) 3 := by
        unfold lo_c lo_c lo_c lo_c
        have hdg2 : lo_cd rr b l.length / 5 ^ 0 % 5 = lo_dg rr b 0 l.length ∧ lo_cd rr b l.length / 5 ^ 1 % 5 = lo_dg rr b 1 l.length ∧ lo_cd rr b l.length / 5 ^ 2 % 5 = lo_dg rr b 2 l.length := hdg
        rw [hdg2.1, hdg2.2.1, hdg2.2.2]
      have tb := a2 b (by omega) (lo_cd rr b l.length) d1 hlv
      rw [ec] at tb
      have hd : ∀ y, y < 3 → (fun y => lo_dg rr b y l.length) y = 0 ∨ (fun y => lo_dg rr b y l.length) y ≤ l.length := fun y _ => (hlv0 y).imp id (fun z => z.1)
      have eS : s_stc w h n heat price cs D (s_fl A) b N N 0 (lo_c n A l b (fun y => lo_dg rr b y l.length) 3) = s_stc w h n heat price cs D (s_fl A) b N N 0 (lo_pl l rr l.length A) := (s_stc_ag hN hN (fun _ _ _ _ => rfl) N 0 _ _ (lo_ag (w := w) (h := h) n5 hl hva (by omega)) hoP (lo_hok hok n5 hl (by omega) hd) (by rw [eP35]; exact ht.1) (by rw [eP35]; omega) (fun _ _ _ _ _ => rfl)).symm
      rw [eS] at tb
      rw [lo_wei_7, h8, if_neg (by omega), if_neg (by omega), if_pos (by omega), Int.toNat_natCast, h138 b (by omega), z_mul_eq (x := (b : Int)) (y := 125) (by omega) (by omega), z_add_eq (x := (b : Int) * 125) (y := ((lo_cd rr b l.length : Nat) : Int)) (by omega) (by omega), if_neg (by omega), if_neg (by omega), show ((b : Int) * 125 + ((lo_cd rr b l.length : Nat) : Int)).toNat = 125 * b + lo_cd rr b l.length by omega, tb, tc1]
      exact ih (b + 1) _ (by omega)
  obtain ⟨v3', e0⟩ := lp w 0 (9, 0) (by omega)
  have e0 : z_R 107 (m, 7, [(2, 122), (0, (N : Int)), (0, 0), (9, 0)], []) = z_R 107 (m, 7, [(2, 122), (0, lo_V w h n heat price cs D A l N rr), (0, (w : Int)), v3'], []) := by
    rw [lo_V_st hN.1.1 hN.1.2.1]
    exact e0
  rw [lo_wei_0, h10, e0, lo_wei_7, h8, if_pos (Int.le_refl _), a6, h10, a4]
  generalize lo_V w h n heat price cs D A l N rr = v
  have cp : ∀ i, i < l.length → (z_cp (z_up m 122 13 v) 136 0 137 0 4) 137 i = (rr i : Int) := fun i hi => by
    rw [zc_in (by omega), zu_p (by decide)]
    exact h136 i hi
  have hit : ∀ p k, C_hit p k k = true → ¬ p = 122 ∧ ¬ p = 137 := fun p k hk => by
    have hk' := hk
    unfold C_hit at hk'
    have hk' := of_decide_eq_true hk'
    omega
  unfold lo_w
  by_cases z1 : v ≤ a.2.1
  · rw [if_pos z1]
    by_cases z2 : v = (N : Int)
    · rw [if_pos z2]
      refine ⟨_, rfl, ⟨lo_I_fr a1 (fun p k hk => zu_p (hit p k hk).1) (zu_k (by decide)) (zu_k (by decide)) (fun i => zu_p (by decide)) (fun j k hj => zu_p (by omega)), fun b hb code hc hlv => (zu_p (by decide)).trans (a2 b hb code hc hlv), (zu_k (by decide)).trans a3, ?_, ?_, ?_, ?_, ?_⟩, fun p k hp => zu_p (by omega)⟩
      · rw [zu_self, if_pos z2]
      · show z_w (if v = (N : Int) then z_add a.1 1 else a.1) = _
        rw [if_pos z2, z_add_w]
        exact z_w_w
      · rw [zu_k (by decide), a6]
        exact (if_neg (show ¬ a.2.1 < v by omega)).symm
      · show -1 ≤ (if a.2.1 < v then v else a.2.1)
        rw [if_neg (by omega)]
        exact a7
      · show (if a.2.1 < v then v else a.2.1) = -1 ∨ ∀ i, i < l.length → _ = (((if a.2.1 < v then rr else a.2.2) i : Nat) : Int)
        rw [if_neg (by omega), if_neg (by omega)]
        exact a8.imp id (fun q i hi => (zu_p (by decide)).trans (q i hi))
    · rw [if_neg z2]
      refine ⟨_, rfl, ⟨a1, a2, a3, ?_, ?_, ?_, ?_, ?_⟩, fun p k hp => rfl⟩
      · rw [if_neg z2]
        exact a4
      · show z_w (if v = (N : Int) then z_add a.1 1 else a.1) = _
        rw [if_neg z2]
        exact a5
      · exact a6.trans (if_neg (show ¬ a.2.1 < v by omega)).symm
      · show -1 ≤ (if a.2.1 < v then v else a.2.1)
        rw [if_neg (by omega)]
        exact a7
      · show (if a.2.1 < v then v else a.2.1) = -1 ∨ ∀ i, i < l.length → _ = (((if a.2.1 < v then rr else a.2.2) i : Nat) : Int)
        rw [if_neg (by omega), if_neg (by omega)]
        exact a8
  · rw [if_neg z1]
    have hlt : a.2.1 < v := by omega
    have base : lo_I w h n heat price D A c U kn KS cs l N (z_cp (z_up m 122 13 v) 136 0 137 0 4) := lo_I_fr a1 (fun p k hk => (zc_p (hit p k hk).2).trans (zu_p (hit p k hk).1)) ((zc_p (by decide)).trans (zu_k (by decide))) ((zc_p (by decide)).trans (zu_k (by decide))) (fun i => (zc_p (by decide)).trans (zu_p (by decide))) (fun j k hj => (zc_p (by omega)).trans (zu_p (by omega)))
    by_cases z2 : v = (N : Int)
    · rw [if_pos z2]
      refine ⟨_, rfl, ⟨lo_I_fr base (fun p k hk => zu_p (hit p k hk).1) (zu_k (by decide)) (zu_k (by decide)) (fun i => zu_p (by decide)) (fun j k hj => zu_p (by omega)), fun b hb code hc hlv => ((zu_p (by decide)).trans ((zc_p (by decide)).trans (zu_p (by decide)))).trans (a2 b hb code hc hlv), ((zu_k (by decide)).trans ((zc_p (by decide)).trans (zu_k (by decide)))).trans a3, ?_, ?_, ?_, ?_, ?_⟩, fun p k hp => (zu_p (by omega)).trans ((zc_p (by omega)).trans (zu_p (by omega)))⟩
      · rw [zu_self, if_pos z2]
      · show z_w (if v = (N : Int) then z_add a.1 1 else a.1) = _
        rw [if_pos z2, z_add_w]
        exact z_w_w
      · rw [zu_k (by decide), zc_p (by decide), zu_self]
        exact (if_pos hlt).symm
      · show -1 ≤ (if a.2.1 < v then v else a.2.1)
        rw [if_pos hlt]
        omega
      · refine Or.inr fun i hi => ?_
        show _ = (((if a.2.1 < v then rr else a.2.2) i : Nat) : Int)
        rw [zu_p (by decide), cp i hi, if_pos hlt]
    · rw [if_neg z2]
      refine ⟨_, rfl, ⟨base, fun b hb code hc hlv => ((zc_p (by decide)).trans (zu_p (by decide))).trans (a2 b hb code hc hlv), ((zc_p (by decide)).trans (zu_k (by decide))).trans a3, ?_, ?_, ?_, ?_, ?_⟩, fun p k hp => (zc_p (by omega)).trans (zu_p (by omega))⟩
      · rw [zc_p (by decide), zu_k (by decide), if_neg z2]
        exact a4
      · show z_w (if v = (N : Int) then z_add a.1 1 else a.1) = _
        rw [if_neg z2]
        exact a5
      · rw [zc_p (by decide), zu_self]
        exact (if_pos hlt).symm
      · show -1 ≤ (if a.2.1 < v then v else a.2.1)
        rw [if_pos hlt]
        omega
      · refine Or.inr fun i hi => ?_
        show _ = (((if a.2.1 < v then rr else a.2.2) i : Nat) : Int)
        rw [cp i hi, if_pos hlt]
theorem lo_plc {i : Nat} (hi : i < 3) (m : z_M) : z_rd m 1000000 i = ((if i = 0 then 1 else if i = 1 then 5 else 25 : Nat) : Int) := by
  rcases (show i = 0 ∨ i = 1 ∨ i = 2 by omega) with rfl | rfl | rfl <;> rfl
theorem lo_plaC {l : List Nat} {N : Nat} (hN40 : N ≤ 100) (hN : w_N w h n heat D) (hok : hr_ok n A) (ht : 0 ≤ A 35 ∧ A 35 ≤ 1073741824) (hl : lo_ok n A l) (hl4 : l.length ≤ 4) : ∀ (j k : Nat), k + j = l.length → ∀ (t : Int) (rr : Nat → Nat) (a : lo_a) (m : z_M), lo_va w h rr k → lo_tk k rr t → lo_J w h n heat price D A c U kn KS cs l N a m → (∀ i, i < k → m 136 i = (rr i : Int)) → (∀ b, b < 3 → m 138 b = (lo_cd rr b k : Int)) → ∃ m1, z_R 106 (m, 0, [(2, 122), (0, (k : Int)), (0, t), (9, 0), (9, 0)], []) = some (m1, none) ∧ lo_J w h n heat price D A c U kn KS cs l N (lo_g (lo_V w h n heat price cs D A l N) (N : Int) w h j k rr a) m1 ∧ (∀ i, i < k → m1 136 i = m 136 i) ∧ ∀ b, b < 3 → m1 138 b = m 138 b := by
  intro j
  induction j with
  | zero =>
    intro k hk t rr a m hva htk hv h136 h138
    obtain rfl : k = l.length := by omega
    obtain ⟨m1, a1, a2, a3⟩ := lo_wei hN40 hN hok ht hl hl4 hva hv h136 h138
    rw [lo_pla_0, hv.1.2.1, if_pos (Int.le_refl _), a1, zb_n, lo_pla_17]
    exact ⟨m1, rfl, a2, fun i _ => a3 136 i (Or.inl rfl), fun b _ => a3 138 b (Or.inr rfl)⟩
  | succ j ih =>
    intro k hk t rr a m hva htk hv h136 h138
    have IH := ih (k + 1) (by omega)
    have lp : ∀ (f r : Nat) (v4 : z_V) (a' : lo_a) (m' : z_M), r + f = 9 → lo_J w h n heat price D A c U kn KS cs l N a' m' → (∀ i, i < k → m' 136 i = m 136 i) → (∀ b, b < 3 → m' 138 b = m 138 b) → ∃ m1, z_R 106 (m', 20, [(2, 122), (0, (k : Int)), (0, t), (0, (r : Int)), v4], []) = some (m1, none) ∧ lo_J w h n heat price D A c U kn KS cs l N ((lo_rs f r).foldl (fun a r => if lo_can w h k rr r = true then lo_g (lo_V w h n heat price cs D A l N) (N : Int) w h j (k + 1) (lo_up rr k r) a else a) a') m1 ∧ (∀ i, i < k → m1 136 i = m 136 i) ∧ ∀ b, b < 3 → m1 138 b = m 138 b := by
      intro f
      induction f with
      | zero =>
        intro r v4 a' m' hr hv' h1 h2
        rw [lo_pla_20, if_pos (by omega)]
        exact ⟨m', rfl, hv', h1, h2⟩
      | succ f ihf =>
        intro r v4 a' m' hr hv' h1 h2
        have hcan := lo_can_tk (w := w) (h := h) htk (show r < 9 by omega)
        have hbit := zb_test (a := t) (k := r) (by omega)
        have er3 : ((r : Int) % 3).toNat = r % 3 := by omega
        have ed3 : ((r : Int) / 3).toNat = r / 3 := by omega
        rw [lo_pla_20, if_neg (by omega), hv'.2.2.1, if_neg (show ¬ (1 : Int) = 0 by decide), hv'.1.1.1.1, hv'.1.1.1.2.1, z_add_eq (x := (r : Int)) (y := 1) (by omega) (by omega), er3, ed3, tc1, tc1]
        unfold lo_rs
        show ∃ m1, _ ∧ lo_J w h n heat price D A c U kn KS cs l N ((lo_rs f (r + 1)).foldl (fun a r => if lo_can w h k rr r = true then lo_g (lo_V w h n heat price cs D A l N) (N : Int) w h j (k + 1) (lo_up rr k r) a else a) (if lo_can w h k rr r = true then lo_g (lo_V w h n heat price cs D A l N) (N : Int) w h j (k + 1) (lo_up rr k r) a' else a')) m1 ∧ _
        by_cases cu : u_hs (w : Int) (h : Int) (r : Int) = 0
        · rw [if_neg (not_not_intro cu), if_neg (show ¬ lo_can w h k rr r = true from fun z => (hcan.mp z).1 cu)]
          exact ihf (r + 1) _ a' m' (by omega) hv' h1 h2
        rw [if_pos cu]
        by_cases cb : zb t r = true
        · rw [if_neg (fun z => by rw [hbit.mp z] at cb; cases cb), if_neg (show ¬ lo_can w h k rr r = true from fun z => by rw [(hcan.mp z).2] at cb; cases cb)]
          exact ihf (r + 1) _ a' m' (by omega) hv' h1 h2
        have cb' : zb t r = false := by
          cases y : zb t r
          · rfl
          · exact absurd y cb
        have hc : lo_can w h k rr r = true := hcan.mpr ⟨cu, cb'⟩
        rw [if_pos (hbit.mpr cb'), if_pos (by omega), if_pos hc, Int.toNat_natCast, z_add_eq (x := (k : Int)) (y := 1) (by omega) (by omega), tc1, lo_plc (by omega) m']
        have hplc : (if r / 3 = 0 then 1 else if r / 3 = 1 then 5 else 25 : Nat) ≤ 25 := by
          (repeat' split) <;> omega
        have el : z_mul ((k + 1 : Nat) : Int) (((if r / 3 = 0 then 1 else if r / 3 = 1 then 5 else 25 : Nat)) : Int) = (((k + 1) * (if r / 3 = 0 then 1 else if r / 3 = 1 then 5 else 25) : Nat) : Int) := by
          have hk4 : k + 1 ≤ 4 := by omega
          have hb : (k + 1) * (if r / 3 = 0 then 1 else if r / 3 = 1 then 5 else 25) ≤ 4 * 25 := Nat.mul_le_mul hk4 hplc
          rw [z_mul_eq (by rw [← Int.natCast_mul]; omega) (by rw [← Int.natCast_mul]; omega)]
          exact (Int.natCast_mul _ _).symm
        rw [el]
        have hb100 : (k + 1) * (if r / 3 = 0 then 1 else if r / 3 = 1 then 5 else 25) ≤ 100 := by
          have := Nat.mul_le_mul (show k + 1 ≤ 4 by omega) hplc
          omega
        generalize hq : (k + 1) * (if r / 3 = 0 then 1 else if r / 3 = 1 then 5 else 25) = q at hb100
        have hcd := (lo_cd_dg (c := r % 3) (show k ≤ 4 by omega) hva.2).1
        have e138 : m' 138 (r % 3) = (lo_cd rr (r % 3) k : Int) := (h2 (r % 3) (by omega)).trans (h138 (r % 3) (by omega))
        rw [e138, z_add_eq (x := (lo_cd rr (r % 3) k : Int)) (y := (q : Int)) (by omega) (by omega), show (lo_cd rr (r % 3) k : Int) + (q : Int) = ((lo_cd rr (r % 3) k + q : Nat) : Int) by omega]
        have hcd1 : ∀ b, b < 3 → lo_cd (lo_up rr k r) b (k + 1) = lo_cd rr b k + (if r % 3 = b then q else 0) := fun b hb => by
          have ek : lo_up rr k r k = r := if_pos rfl
          rw [lo_cd_s (by rw [ek]; omega) hb, ek, lo_cd_cg (rr := lo_up rr k r) (rr' := rr) k (fun i hi => if_neg (by omega)), hq]
        have hv2 : lo_J w h n heat price D A c U kn KS cs l N a' (z_up (z_up m' 136 k (r : Int)) 138 (r % 3) ((lo_cd rr (r % 3) k + q : Nat) : Int)) := lo_J_fr hv' (fun p i h136' h138' => by rw [zu_p h138', zu_p h136'])
        obtain ⟨m2, b1, b2, b3, b4⟩ := IH (z_or t (z_shl 1 (r : Int))) (lo_up rr k r) a' _ (lo_can_va hva hc) (lo_tk_s htk (by omega)) hv2 (fun i hi => by
          rw [zu_p (by decide)]
          unfold lo_up
          by_cases e : i = k
          · rw [e, zu_self, if_pos rfl]
          · rw [zu_k e, if_neg e, h1 i (by omega), h136 i (by omega)]) (fun b hb => by
          rw [hcd1 b hb]
          by_cases e : r % 3 = b
          · rw [← e, zu_self, if_pos rfl]
          · rw [zu_k (fun z => e z.symm), zu_p (by decide), if_neg e, Nat.add_zero, h2 b hb, h138 b hb])
        rw [b1, zb_n, lo_pla_104, z_rem_nn (x := (r : Int)) (by omega) (by omega) (by decide) (by decide), if_pos (by omega), er3, z_add_eq (x := (r : Int)) (y := 1) (by omega) (by omega), tc1]
        have e1 : m2 138 (r % 3) = ((lo_cd rr (r % 3) k + q : Nat) : Int) := (b4 (r % 3) (by omega)).trans zu_self
        rw [e1, z_sub_eq (by omega) (by omega), show ((lo_cd rr (r % 3) k + q : Nat) : Int) - (q : Int) = (lo_cd rr (r % 3) k : Int) by omega]
        refine ihf (r + 1) _ _ _ (by omega) (lo_J_fr b2 (fun p i h136' h138' => zu_p h138')) (fun i hi => ?_) (fun b hb => ?_)
        · rw [zu_p (by decide), b3 i (by omega), zu_p (by decide), zu_k (by omega)]
          exact h1 i hi
        · by_cases e : b = r % 3
          · rw [e, zu_self]
            exact (h138 (r % 3) (by omega)).symm
          · rw [zu_k e, b4 b hb, zu_k e, zu_p (by decide)]
            exact h2 b hb
    obtain ⟨m1, a1, a2, a3, a4⟩ := lp 9 0 (9, 0) a m (by decide) hv (fun _ _ => rfl) (fun _ _ => rfl)
    have a1 : z_R 106 (m, 20, [(2, 122), (0, (k : Int)), (0, t), (0, 0), (9, 0)], []) = some (m1, none) := a1
    rw [lo_pla_0, hv.1.2.1, if_neg (by omega), if_pos (by omega), a1]
    exact ⟨m1, rfl, a2, a3, a4⟩
/-- who is to be lodged -/
theorem lo_seaL (n5 : n ≤ 5) {x2 x3 : Int} : ∀ (f p k : Nat) (m : z_M), p + f = n → k + (o_ls A f p).length ≤ 4 → C_is w h n heat price D A c U kn KS cs m → m 122 9 = (k : Int) → cS m 123 n = lo_b p A → ∃ m1, z_R 102 (m, 16, [(2, 122), (2, 12), (0, x2), (0, x3), (0, (p : Int))], []) = z_R 102 (z_up (z_up (z_up (z_up m1 122 10 x2) 122 11 x3) 122 12 0) 122 13 (-1), 111, [(2, 122), (2, 12), (0, x2), (0, x3), (0, 0)], []) ∧ C_is w h n heat price D A c U kn KS cs m1 ∧ m1 122 9 = ((k + (o_ls A f p).length : Nat) : Int) ∧ (∀ i, i < (o_ls A f p).length → m1 135 (k + i) = (lo_P (o_ls A f p) i : Int)) ∧ (∀ i, i < k → m1 135 i = m 135 i) ∧ cS m1 123 n = lo_b n A ∧ ∀ k, m1 138 k = m 138 k := by
  intro f
  induction f with
  | zero =>
    intro p k m hp hk hi h9 hS
    obtain rfl : p = n := by omega
    have e3 := hi.1.2.2.1
    rw [lo_sea_16 m _ _ _ (by omega), e3, if_pos (Int.le_refl _)]
    exact ⟨m, rfl, hi, h9, fun i hi' => absurd hi' (Nat.not_lt_zero i), fun _ _ => rfl, hS, fun _ => rfl⟩
  | succ f ih =>
    intro p k m hp hk hi h9 hS
    have e3 := hi.1.2.2.1
    have e126 : m 126 p = A (p + 18) := by
      have : cS m 123 n (p + 18) = m 126 p := cS_at3 (s := 123) (by omega) (by omega)
      rw [← this, hS]
      exact if_neg (by omega)
    rw [lo_sea_16 m _ _ _ (by omega), e3, if_neg (by omega), if_pos (by omega), Int.toNat_natCast, e126, tc1, h9]
    unfold o_ls at hk ⊢
    by_cases z : A (p + 18) = -1
    · rw [if_pos z] at hk ⊢
      rw [if_pos z]
      refine ih (p + 1) k m (by omega) hk hi h9 ?_
      rw [hS]
      funext j
      unfold lo_b
      by_cases e : j = p + 18
      · rw [if_neg (by omega), if_pos (by omega), e, z]
      · by_cases q : 18 ≤ j ∧ j < 18 + p
        · rw [if_pos q, if_pos (by omega)]
        · rw [if_neg q, if_neg (by omega)]
    · rw [if_neg z] at hk ⊢
      have hk' : k + ((o_ls A f (p + 1)).length + 1) ≤ 4 := hk
      rw [if_neg z, if_neg (by omega), if_pos (by omega), Int.toNat_natCast, show (k : Int) + 1 = ((k + 1 : Nat) : Int) by omega]
      have hi2 : C_is w h n heat price D A c U kn KS cs (z_up (z_up (z_up m 135 k (p : Int)) 126 p (-1)) 122 9 ((k + 1 : Nat) : Int)) := C_fr hi fun q j hq => by
        have hq' := hq
        unfold C_hit at hq'
        have hq' := of_decide_eq_true hq'
        rw [zu_p (by omega), zu_p (by omega), zu_p (by omega)]
      obtain ⟨m1, a1, a2, a3, a4, a5, a6, a7⟩ := ih (p + 1) (k + 1) _ (by omega) (by omega) hi2 zu_self (by
        rw [cS_fr (m := z_up (z_up m 135 k (p : Int)) 126 p (-1)) (fun j q hj _ => zu_p (by omega)), cS_up3 (s := 123) (by omega) (by omega), cS_fr (m := m) (fun j q hj _ => zu_p (by omega)), hS]
        funext j
        unfold u_up lo_b
        by_cases e : j = p + 18
        · rw [if_pos e, if_pos (by omega)]
        · rw [if_neg e]
          by_cases q : 18 ≤ j ∧ j < 18 + p
          · rw [if_pos q, if_pos (by omega)]
          · rw [if_neg q, if_neg (by omega)])
      refine ⟨m1, a1, a2, ?_, fun i hi' => ?_, fun i hi' => ?_, a6, fun q => (a7 q).trans (by rw [zu_p (by decide), zu_p (by decide), zu_p (by decide)])⟩
      · rw [a3]
        show ((k + 1 + (o_ls A f (p + 1)).length : Nat) : Int) = ((k + ((o_ls A f (p + 1)).length + 1) : Nat) : Int)
        omega
      · cases i with
        | zero =>
          show m1 135 k = (p : Int)
          rw [a5 k (by omega), zu_p (by decide), zu_p (by decide), zu_self]
        | succ i =>
          show m1 135 (k + (i + 1)) = (lo_P (o_ls A f (p + 1)) i : Int)
          rw [show k + (i + 1) = k + 1 + i by omega]
          exact a4 i (Nat.lt_of_succ_lt_succ hi')
      · rw [a5 i (by omega), zu_p (by decide), zu_p (by decide), zu_k (by omega)]
theorem lo_colL {l : List Nat} {N : Nat} (hN40 : N ≤ 100) (hN : w_N w h n heat D) (hok : hr_ok n A) (ht : 0 ≤ A 35 ∧ A 35 ≤ 1073741824) (hl : lo_ok n A l) (hl4 : l.length ≤ 4) {x2 x3 : Int} : ∀ (f b : Nat) (m : z_M), b + f = w → lo_I w h n heat price D A c U kn KS cs l N m → (∀ b', b' < b → lo_tab w h n heat price cs D A l N b' m) → ∃ m1, z_R 102 (m, 111, [(2, 122), (2, 12), (0, x2), (0, x3), (0, (b : Int))], []) = ((z_R 106 (m1, 0, [(2, 122), (0, 0), (0, 0), (9, 0), (9, 0)], [])).bind fun qq => z_R 102 (qq.1, 147, [(2, 122), (2, 12), (0, x2), (0, x3), (0, (w : Int))], qq.2.toList ++ [])) ∧ lo_I w h n heat price D A c U kn KS cs l N m1 ∧ (∀ b', b' < w → lo_tab w h n heat price cs D A l N b' m1) ∧ (∀ k, m1 122 k = m 122 k) ∧ ∀ k, m1 138 k = m 138 k := by
  have hw3 := hN.1.1
  intro f
  induction f with
  | zero =>
    intro b m hb hv hT
    obtain rfl : b = w := by omega
    have h8 := hv.1.1.1
    refine ⟨m, ?_, hv, hT, fun _ => rfl, fun _ => rfl⟩
    rw [lo_sea_111, h8]
    by_cases y : (3 : Int) ≤ (b : Int)
    · rw [if_pos y]
    · rw [if_neg y, if_pos (Int.le_refl _)]
  | succ f ih =>
    intro b m hb hv hT
    have h8 := hv.1.1.1
    obtain ⟨m1, a1, a2, a3, a4, a5, a6⟩ := lo_scoL hN40 hN hok ht hl hl4 (b := b) (by omega) 125 0 m (by decide) hv (fun code hc => absurd hc (Nat.not_lt_zero code))
    have a1 : z_R 103 (m, 2, [(2, 122), (0, (b : Int)), (0, 0)], []) = some (m1, none) := a1
    rw [lo_sea_111, h8, if_neg (by omega), if_neg (by omega), lo_sco_0 m _ ⟨by omega, by omega⟩, a1, zb_n, lo_sea_135, z_add_eq (x := (b : Int)) (y := 1) (by omega) (by omega), tc1]
    obtain ⟨m2, b1, b2, b3, b4, b5⟩ := ih (b + 1) m1 (by omega) a2 (fun b' hb' => by
      by_cases e : b' = b
      · rw [e]
        exact a3
      · intro code hc hlv
        rw [a6 _ (by omega)]
        exact hT b' (by omega) code hc hlv)
    exact ⟨m2, b1, b2, b3, fun k => (b4 k).trans (a4 k), fun k => (b5 k).trans (a5 k)⟩
end
