/-! A CONTRACT CHECKED in pieces -/
def c_cuts (C : A_C) : List A_S := match C with
  | (_, _, _, _, _, _, _, _, cuts, _) => cuts
def c_pre (nL : Nat) (C : A_C) : Bool := match C with
  | (_, E0, args, _, _, _, _, _, _, ph0) => (match s_cat args with | some k => Nat.ble k nL | none => false) && (match l_app (c_idn E0.length) ph0 with | some _ => true | none => false)
def c_go1 (cs : Nat → List A_C) (nL : Nat) (rt : Option FieldType) (code : List (List a_K)) (fuel : Nat) (C : A_C) (S : A_S) : Bool := match C with
  | (_, E0, _, _, mc, _, dep, alts, cuts, _) => a_go cs mc dep nL E0.length alts cuts rt code fuel 1 S
def c_start (C : A_C) : A_S := match C with
  | (_, E0, args, ov0, _, tau, _, _, _, ph0) => (0, E0, [], a_args 0 args, [], ov0, tau, ph0)
theorem c_chk_of {cs : Nat → List A_C} {nL : Nat} {rt : Option FieldType} {code : List (List a_K)} {fuel : Nat} {C : A_C} (h1 : c_pre nL C = true) (h2 : c_go1 cs nL rt code fuel C (c_start C) = true) (h3 : (c_cuts C).all (c_go1 cs nL rt code fuel C) = true) : c_chk cs nL rt code fuel C = true := by
  obtain ⟨y, E0, args, ov0, mc, tau, dep, alts, cuts, ph0⟩ := C
  obtain ⟨g1, g2⟩ := Bool.and_eq_true _ _ |>.mp h1
  exact Bool.and_eq_true _ _ |>.mpr ⟨g1, Bool.and_eq_true _ _ |>.mpr ⟨g2, Bool.and_eq_true _ _ |>.mpr ⟨h2, h3⟩⟩⟩
theorem all_chunks {α : Type} {f : α → Bool} {l : List α} (k m : Nat) (hk : 0 < k) (h : ∀ j, j < m → ((l.drop (k * j)).take k).all f = true) (hl : l.length ≤ k * m) : l.all f = true := by
  refine List.all_eq_true.mpr (fun x hx => ?_)
  obtain ⟨i, hi⟩ := List.mem_iff_getElem?.mp hx
  have hil := (List.getElem?_eq_some_iff.mp hi).1
  have h1 := Nat.div_add_mod i k
  have h2 := Nat.mod_lt i hk
  have h3 : i / k < m := by
    rw [Nat.div_lt_iff_lt_mul hk, Nat.mul_comm]
    omega
  refine List.all_eq_true.mp (h (i / k) h3) x (List.mem_of_getElem? (i := i % k) ?_)
  rw [List.getElem?_take, if_pos h2, List.getElem?_drop, h1]
  exact hi
