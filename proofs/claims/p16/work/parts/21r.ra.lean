section
/-! readAct of the model, by the place that it fills -/
def ra_con (k : Nat) : A_C := (213, [(0, 80, false), (-2147483648, 2147483647, false), (0, 60, false), (-1, 200, false)], [(2, 251, 0), (0, 0, (k : Int))], [((251, 12), (2, 254, 0)), ((251, 13), (1, 0, 0)), ((251, 14), (1, 1, 0)), ((251, 15), (1, 2, 0)), ((251, 16), (1, 3, 0))], [(251, 15, 16), (263, k, k + 2)], (0, []), (12, []),
  [([(0, 80, false), (-2147483648, 2147483647, false), (0, 60, false), (-1, 200, false), (0, 200, false)], [], none, [((251, 16), (1, 4, 0))]),
   ([(0, 80, false), (-2147483648, 2147483647, false), (0, 60, false), (-1, 200, false), (1, 64, false), (0, 9, false)], [(2, true, 4, -1)], none, [((251, 15), (1, 4, 0)), ((263, k + 1), (1, 5, 0))]),
   ([(0, 80, false), (-2147483648, 2147483647, false), (0, 60, false), (-1, 200, false), (1, 64, false), (-1, 8, false)], [(2, true, 4, -1)], none, [((251, 15), (1, 4, 0)), ((263, k), (0, 0, 115)), ((263, k + 1), (1, 5, 0))])], [], (1, []))
def ra_list : List A_C := (List.range 31).map fun n => ra_con (3 * n)
end
section
/-! THE TABLE of the contracts, by methods -/
noncomputable def cs_tab_0 : List (List A_C) := [[], [], [], [], [cn_20], [], [], [], [], [], [], [], [], [], [cn_122], [cn_24], [cn_119], [cn_26], [cn_407], [cn_389], [cn_25], [cn_367, cn_368, cn_369], [cn_315], [cn_206], [cn_29], [cn_2], [cn_30], [cn_207], [cn_28], [cn_27], [cn_196], [cn_31]]
noncomputable def cs_tab_1 : List (List A_C) := [[cn_14], [cn_18], [cn_19], [cn_381], [cn_366], [cn_316], [cn_195], [cn_502], [cn_501], [cn_457, cn_476, cn_484, cn_492, cn_500], [cn_448, cn_454, cn_469, cn_475, cn_481, cn_483, cn_489, cn_491, cn_497, cn_499], [cn_445, cn_451, cn_467, cn_471, cn_480, cn_482, cn_488, cn_490, cn_496, cn_498], [cn_442, cn_465, cn_479, cn_487, cn_495], [cn_437, cn_463, cn_478, cn_486, cn_494], [cn_205, cn_461, cn_477, cn_485, cn_493], [cn_324], [cn_22], [], [], [cn_23], [cn_203], [cn_6], [cn_118], [cn_15], [cn_293], [cn_120], [cn_342], [cn_121], [cn_322, cn_323], [cn_209, cn_210, cn_211, cn_212, cn_213, cn_214, cn_215, cn_216, cn_217, cn_218, cn_219, cn_220, cn_221, cn_222, cn_223, cn_224, cn_225, cn_226, cn_227, cn_228, cn_229, cn_230, cn_231, cn_232, cn_233, cn_234, cn_235, cn_236, cn_237, cn_238, cn_239, cn_240, cn_241, cn_242, cn_243, cn_244, cn_245, cn_246, cn_247, cn_248, cn_249, cn_250, cn_251, cn_252, cn_253, cn_254, cn_255, cn_256, cn_257, cn_258, cn_259, cn_260, cn_261, cn_262, cn_263, cn_264, cn_265, cn_266, cn_267, cn_268], [cn_344], [cn_123]]
noncomputable def cs_tab_2 : List (List A_C) := [[cn_405], [cn_378], [cn_8], [cn_347, cn_348, cn_349, cn_350, cn_351, cn_352, cn_353, cn_354, cn_355, cn_356, cn_357, cn_358, cn_359, cn_360, cn_361], [cn_297, cn_298, cn_299, cn_300, cn_301, cn_302, cn_303, cn_304, cn_305, cn_306, cn_307, cn_308, cn_309, cn_310, cn_311, cn_312, cn_313], [cn_177, cn_178, cn_179, cn_180, cn_181, cn_182, cn_183, cn_184, cn_185, cn_186, cn_187, cn_188, cn_189, cn_190, cn_191, cn_192, cn_193], [cn_12], [cn_204], [cn_21], [cn_126, cn_127, cn_128, cn_129, cn_130, cn_131, cn_132, cn_133, cn_134, cn_135, cn_136, cn_137, cn_138, cn_139, cn_140, cn_141, cn_142], [cn_160, cn_161, cn_162, cn_163, cn_164, cn_165, cn_166, cn_167, cn_168, cn_169, cn_170, cn_171, cn_172, cn_173, cn_174, cn_175, cn_176], [cn_143, cn_144, cn_145, cn_146, cn_147, cn_148, cn_149, cn_150, cn_151, cn_152, cn_153, cn_154, cn_155, cn_156, cn_157, cn_158, cn_159], [cn_294], [cn_124], [cn_7], [cn_1], [cn_406], [cn_343], [cn_411], [cn_395], [cn_371], [cn_325], [cn_382], [cn_345], [cn_320], [cn_410], [cn_379], [cn_377], [cn_197, cn_198, cn_199, cn_200], [cn_4], [cn_403], [cn_402]]
noncomputable def cs_tab_3 : List (List A_C) := [[cn_388], [cn_363, cn_364, cn_365], [cn_435], [cn_201], [cn_13], [cn_99], [cn_431], [cn_391], [cn_317], [cn_16], [cn_318, cn_370, cn_390, cn_412, cn_425], [cn_202], [cn_125], [cn_436], [cn_441], [cn_438], [cn_392, cn_413, cn_426, cn_432], [cn_208], [cn_117], [cn_401], [cn_409], [cn_387], [cn_362], [cn_194], [cn_296], [cn_314], [cn_295], [cn_376], [], [cn_385], [cn_408], [cn_386]]
noncomputable def cs_tab_4 : List (List A_C) := [[cn_116], [cn_460], [cn_458], [cn_269, cn_414, cn_433, cn_443, cn_449, cn_455], [cn_393, cn_427, cn_439, cn_446, cn_452], [cn_404], [cn_380], [cn_383], [cn_340], [cn_346], [cn_474], [cn_472], [cn_32, cn_415, cn_434, cn_444, cn_450, cn_456, cn_462, cn_466, cn_470], [cn_394, cn_428, cn_440, cn_447, cn_453, cn_459, cn_464, cn_468], [cn_33], [cn_473], [cn_384], [cn_10], [cn_5], [cn_3], [cn_9], [cn_11], [cn_341], [cn_321], [cn_339], [cn_319], [cn_292], [], [], [cn_17], [], []]
noncomputable def cs_tab_5 : List (List A_C) := [[cn_92], [cn_271], [cn_43], [cn_429], [cn_34, cn_35], [cn_38], [cn_416, cn_417, cn_418], [cn_396, cn_397, cn_398, cn_399, cn_400], [cn_41, cn_42], [cn_272], [cn_281, cn_282], [cn_278], [cn_430], [cn_419, cn_420, cn_421, cn_422, cn_423], [cn_330, cn_331], [cn_531], [cn_510, cn_511], [cn_508, cn_509], [cn_506, cn_507], [cn_504, cn_505], [cn_78], [cn_575], [cn_79], [cn_80, cn_81], [cn_289, cn_290], [cn_40], [cn_97, cn_98], [cn_553, cn_554, cn_555, cn_556, cn_557, cn_558, cn_559, cn_560, cn_561, cn_562, cn_563, cn_564, cn_565, cn_566, cn_567, cn_568, cn_569, cn_570, cn_571], [cn_532, cn_533, cn_534, cn_535, cn_536, cn_537, cn_538, cn_539, cn_540, cn_541, cn_542, cn_543, cn_544, cn_545, cn_546, cn_547, cn_548, cn_549, cn_550], [cn_512, cn_513, cn_514, cn_515, cn_516, cn_517, cn_518, cn_519, cn_520, cn_521, cn_522, cn_523, cn_524, cn_525, cn_526, cn_527, cn_528, cn_529, cn_530], [cn_333], [cn_277]]
noncomputable def cs_tab_6 : List (List A_C) := [[cn_286], [cn_326], [cn_336], [cn_374], [cn_334], [cn_283, cn_284], [cn_44, cn_45, cn_46, cn_47, cn_48, cn_49, cn_50, cn_51, cn_52, cn_53, cn_54, cn_55, cn_56, cn_57, cn_58, cn_59, cn_60, cn_61, cn_62, cn_63, cn_64, cn_65, cn_66, cn_67, cn_68, cn_69, cn_70, cn_71, cn_72, cn_73, cn_74, cn_75, cn_76], [cn_273], [cn_95], [cn_375], [cn_335], [cn_274], [cn_603], [cn_592], [cn_36], [cn_579, cn_580], [cn_573, cn_574], [cn_327, cn_328], [cn_94], [cn_332], [cn_618], ra_list, [cn_424], [cn_372, cn_584], [cn_96], [cn_598], [cn_276], [cn_280], [cn_588], [cn_581, cn_582], [cn_329], [cn_337, cn_338]]
noncomputable def cs_tab_7 : List (List A_C) := [[cn_100, cn_101, cn_102, cn_103, cn_104, cn_105, cn_106, cn_107, cn_108, cn_109, cn_110, cn_111, cn_112, cn_113, cn_114, cn_115], [cn_587], [cn_586], [cn_616], [cn_37], [cn_614, cn_615], [cn_590, cn_591, cn_600, cn_601, cn_606, cn_607, cn_609, cn_610, cn_612, cn_613], [cn_288], [cn_617], [cn_604], [cn_593], [cn_77], [cn_93], [cn_287], [cn_585], [cn_576], [cn_503], [cn_0], [cn_577], [cn_572], [cn_552], [cn_611], [cn_39, cn_578, cn_589, cn_599, cn_605, cn_608], [cn_275], [], [cn_602], [cn_595], [cn_551], [cn_291], [cn_597], [cn_583], [cn_82, cn_83, cn_84, cn_85, cn_86, cn_87, cn_88, cn_89, cn_90, cn_91]]
noncomputable def cs_tab_8 : List (List A_C) := [[cn_594], [cn_596], [cn_279], [cn_270], [cn_373], [cn_285]]
noncomputable def cs_tabs : List (List (List A_C)) := [cs_tab_0, cs_tab_1, cs_tab_2, cs_tab_3, cs_tab_4, cs_tab_5, cs_tab_6, cs_tab_7, cs_tab_8]
noncomputable def cs_at (y : Nat) : List A_C := match g_nth cs_tabs (y / 32) with
  | some t => match g_nth t (y % 32) with
    | some r => r
    | none => []
  | none => []
noncomputable abbrev cn_w : A_C := cn_618
noncomputable abbrev cn_actS : A_C := cn_372
noncomputable abbrev cn_act9 : A_C := cn_584
end
section
/-! A CONTRACT CHECKED in pieces -/
def c_cuts (C : A_C) : List A_S := match C with
  | (_, _, _, _, _, _, _, _, cuts, _) => cuts
def c_pre (nL : Nat) (C : A_C) : Bool := match C with
  | (_, E0, args, _, _, _, _, _, _, ph0) => (match s_cat args with | some k => Nat.ble k nL | none => false) && (match l_app (c_idn E0.length) ph0 with | some _ => true | none => false)
noncomputable def c_go1 (cs : Nat → List A_C) (nL : Nat) (rt : Option FieldType) (code : List (List a_K)) (fuel : Nat) (C : A_C) (S : A_S) : Bool := match C with
  | (_, E0, _, _, mc, _, dep, alts, cuts, _) => a_go cs mc dep nL E0.length alts cuts rt code fuel 1 S
def c_start (C : A_C) : A_S := match C with
  | (_, E0, args, ov0, _, tau, _, _, _, ph0) => (0, E0, [], a_args 0 args, [], ov0, tau, ph0)
theorem c_chk_of {cs : Nat → List A_C} {nL : Nat} {rt : Option FieldType} {code : List (List a_K)} {fuel : Nat} {C : A_C} (h1 : c_pre nL C = true) (h2 : c_go1 cs nL rt code fuel C (c_start C) = true) (h3 : (c_cuts C).all (c_go1 cs nL rt code fuel C) = true) : c_chk cs nL rt code fuel C = true := by
  obtain ⟨y, E0, args, ov0, mc, tau, dep, alts, cuts, ph0⟩ := C
  obtain ⟨g1, g2⟩ := Bool.and_eq_true _ _ |>.mp h1
  exact Bool.and_eq_true _ _ |>.mpr ⟨g1, Bool.and_eq_true _ _ |>.mpr ⟨g2, Bool.and_eq_true _ _ |>.mpr ⟨h2, h3⟩⟩⟩
theorem all_chunks {α : Type} {f : α → Bool} {l : List α} (k m : Nat) (hk : 0 < k) (h : ∀ j, j < m → ((l.drop (k * j)).take k).all f = true) (hl : l.length ≤ k * m) : l.all f = true := by
  refine List.all_eq_true.mpr (fun x hx => ?_)
  obtain ⟨i, hi⟩ := List.mem_iff_getElem?.mp hx
  have hil := (List.getElem?_eq_some_iff.mp hi).1
  have h1 := Nat.div_add_mod i k
  have h2 := Nat.mod_lt i hk
  have h3 : i / k < m := by
    rw [Nat.div_lt_iff_lt_mul hk, Nat.mul_comm]
    omega
  refine List.all_eq_true.mp (h (i / k) h3) x (List.mem_of_getElem? (i := i % k) ?_)
  rw [List.getElem?_take, if_pos h2, List.getElem?_drop, h1]
  exact hi
/-! fewer cuts to look through: those that are near -/
theorem a_go_mono {cs : Nat → List A_C} {md : A_D} {dp : A_L} {nL nr : Nat} {alts : List A_A} {cuts cuts' : List A_S} {rt : Option FieldType} {code : List (List a_K)} (hs : ∀ U ∈ cuts', U ∈ cuts) (hp : ∀ pc, cuts.any (fun U => Nat.beq U.1 pc) = cuts'.any (fun U => Nat.beq U.1 pc)) : ∀ (f mode : Nat) (S : A_S), a_go cs md dp nL nr alts cuts' rt code f mode S = true → a_go cs md dp nL nr alts cuts rt code f mode S = true := by
  intro f
  induction f with
  | zero => intro mode S h; unfold a_go at h; cases h
  | succ f ih =>
    intro mode S h
    rcases (show mode = 0 ∨ mode = 1 ∨ ∃ j, mode = j + 2 from by
      match mode with
      | 0 => exact Or.inl rfl
      | 1 => exact Or.inr (Or.inl rfl)
      | j + 2 => exact Or.inr (Or.inr ⟨j, rfl⟩)) with rfl | rfl | ⟨j0, rfl⟩
    · rw [a_go_0] at h ⊢
      rw [hp]
      cases hb : cuts'.any (fun U => Nat.beq U.1 S.1)
      · rw [hb] at h
        exact ih 1 S h
      · rw [hb] at h
        obtain ⟨U, hU, hA⟩ := List.any_eq_true.mp h
        exact List.any_eq_true.mpr ⟨U, hs U hU, hA⟩
    · rw [a_go_1] at h ⊢
      cases hk : k_get code S.1 with
      | none =>
        rw [hk] at h
        cases h
      | some q =>
        rw [hk] at h
        simp only at h ⊢
        cases hb : Nat.beq (q.2.2.2.1 % 2) 1
        · rw [hb] at h
          exact ih 2 S h
        · rw [hb] at h
          simp only [cond_true] at h ⊢
          cases hL : s_split S with
          | none =>
            rw [hL] at h
            cases h
          | some L =>
            rw [hL] at h
            exact List.all_eq_true.mpr fun x hx => ih 2 x (List.all_eq_true.mp h x hx)
    · rw [a_go_2] at h ⊢
      cases hk : k_get code S.1 with
      | none =>
        rw [hk] at h
        cases h
      | some q =>
        rw [hk] at h
        simp only at h ⊢
        cases hb : a_isRt q.2.1
        · rw [hb] at h
          simp only [cond_false] at h ⊢
          cases hL : a_nx cs md dp nL q S with
          | none =>
            rw [hL] at h
            cases h
          | some L =>
            rw [hL] at h
            exact List.all_eq_true.mpr fun x hx => ih 0 x (List.all_eq_true.mp h x hx)
        · rw [hb] at h
          exact h
noncomputable def c_go2 (cs : Nat → List A_C) (nL : Nat) (rt : Option FieldType) (code : List (List a_K)) (fuel : Nat) (C : A_C) (L : List A_S) (S : A_S) : Bool := match C with
  | (_, E0, _, _, mc, _, dep, alts, _, _) => a_go cs mc dep nL E0.length alts L rt code fuel 1 S
theorem c_go2_ok {cs : Nat → List A_C} {nL : Nat} {rt : Option FieldType} {code : List (List a_K)} {fuel : Nat} {C : A_C} {L : List A_S} (hs : ∀ U ∈ L, U ∈ c_cuts C) (hp : ∀ pc, (c_cuts C).any (fun U => Nat.beq U.1 pc) = L.any (fun U => Nat.beq U.1 pc)) {S : A_S} (h : c_go2 cs nL rt code fuel C L S = true) : c_go1 cs nL rt code fuel C S = true := by
  obtain ⟨y, E0, args, ov0, mc, tau, dep, alts, cuts, ph0⟩ := C
  exact a_go_mono hs hp fuel 1 S h
theorem any_pc {p0 : Nat} {L : List A_S} (h : L.all (fun U => Nat.beq U.1 p0) = true) (hn : L.isEmpty = false) (pc : Nat) : L.any (fun U => Nat.beq U.1 pc) = Nat.beq p0 pc := by
  cases L with
  | nil => cases hn
  | cons u l =>
    have h' := List.all_eq_true.mp h
    have e : ∀ U ∈ u :: l, Nat.beq U.1 pc = Nat.beq p0 pc := fun U hU => by rw [Nat.eq_of_beq_eq_true (h' U hU)]
    cases hb : Nat.beq p0 pc with
    | true => exact List.any_eq_true.mpr ⟨u, List.mem_cons_self, (e u List.mem_cons_self).trans hb⟩
    | false =>
      cases ha : (u :: l).any (fun U => Nat.beq U.1 pc) with
      | false => rfl
      | true =>
        obtain ⟨U, hU, hx⟩ := List.any_eq_true.mp ha
        rw [e U hU, hb] at hx
        cases hx
/-- a piece of the cuts, looked through with the next of them alone -/
theorem go_piece {cs : Nat → List A_C} {nL : Nat} {rt : Option FieldType} {code : List (List a_K)} {fuel : Nat} {C : A_C} {p0 k n : Nat} (h1 : (c_cuts C).all (fun U => Nat.beq U.1 p0) = true) (h2 : (((c_cuts C).drop k).take (n + 1)).isEmpty = false) (h : (((c_cuts C).drop k).take n).all (c_go2 cs nL rt code fuel C (((c_cuts C).drop k).take (n + 1))) = true) : (((c_cuts C).drop k).take n).all (c_go1 cs nL rt code fuel C) = true := by
  have hs : ∀ U ∈ ((c_cuts C).drop k).take (n + 1), U ∈ c_cuts C := fun U hU => List.mem_of_mem_drop (List.mem_of_mem_take hU)
  have h3 : (((c_cuts C).drop k).take (n + 1)).all (fun U => Nat.beq U.1 p0) = true := List.all_eq_true.mpr fun U hU => List.all_eq_true.mp h1 U (hs U hU)
  have hn : (c_cuts C).isEmpty = false := by
    cases hc : c_cuts C with
    | nil =>
      rw [hc] at h2
      rw [List.drop_nil, List.take_nil] at h2
      cases h2
    | cons u l => rfl
  exact List.all_eq_true.mpr fun S hS => c_go2_ok hs (fun pc => (any_pc h1 hn pc).trans (any_pc h3 h2 pc).symm) (List.all_eq_true.mp h S hS)
/-! where a cut stands told by a short list -/
noncomputable def a_goP (cs : Nat → List A_C) (md : A_D) (dp : A_L) (nL nr : Nat) (alts : List A_A) (cuts : List A_S) (rt : Option FieldType) (code : List (List a_K)) (pcs : List Nat) : Nat → Nat → A_S → Bool
  | 0, _, _ => false
  | f + 1, 0, S => bif pcs.any (Nat.beq S.1) then cuts.any (c_arr nr S) else a_goP cs md dp nL nr alts cuts rt code pcs f 1 S
  | f + 1, 1, S => match k_get code S.1 with
    | none => false
    | some q => bif Nat.beq (q.2.2.2.1 % 2) 1 then (match s_split S with
      | some L => L.all (a_goP cs md dp nL nr alts cuts rt code pcs f 2)
      | none => false) else a_goP cs md dp nL nr alts cuts rt code pcs f 2 S
  | f + 1, _, S => match k_get code S.1 with
    | none => false
    | some q => bif a_isRt q.2.1 then a_rt nr alts rt q.2.1 q.2.2.1 S else (match a_nx cs md dp nL q S with
      | some L => L.all (a_goP cs md dp nL nr alts cuts rt code pcs f 0)
      | none => false)
theorem a_goP_0 {cs : Nat → List A_C} {md : A_D} {dp : A_L} {nL nr : Nat} {alts : List A_A} {cuts : List A_S} {rt : Option FieldType} {code : List (List a_K)} {pcs : List Nat} {f : Nat} {S : A_S} : a_goP cs md dp nL nr alts cuts rt code pcs (f + 1) 0 S = (bif pcs.any (Nat.beq S.1) then cuts.any (c_arr nr S) else a_goP cs md dp nL nr alts cuts rt code pcs f 1 S) := rfl
theorem a_goP_1 {cs : Nat → List A_C} {md : A_D} {dp : A_L} {nL nr : Nat} {alts : List A_A} {cuts : List A_S} {rt : Option FieldType} {code : List (List a_K)} {pcs : List Nat} {f : Nat} {S : A_S} : a_goP cs md dp nL nr alts cuts rt code pcs (f + 1) 1 S = (match k_get code S.1 with
    | none => false
    | some q => bif Nat.beq (q.2.2.2.1 % 2) 1 then (match s_split S with
      | some L => L.all (a_goP cs md dp nL nr alts cuts rt code pcs f 2)
      | none => false) else a_goP cs md dp nL nr alts cuts rt code pcs f 2 S) := rfl
theorem a_goP_2 {cs : Nat → List A_C} {md : A_D} {dp : A_L} {nL nr : Nat} {alts : List A_A} {cuts : List A_S} {rt : Option FieldType} {code : List (List a_K)} {pcs : List Nat} {f j : Nat} {S : A_S} : a_goP cs md dp nL nr alts cuts rt code pcs (f + 1) (j + 2) S = (match k_get code S.1 with
    | none => false
    | some q => bif a_isRt q.2.1 then a_rt nr alts rt q.2.1 q.2.2.1 S else (match a_nx cs md dp nL q S with
      | some L => L.all (a_goP cs md dp nL nr alts cuts rt code pcs f 0)
      | none => false)) := rfl
theorem a_goP_ok {cs : Nat → List A_C} {md : A_D} {dp : A_L} {nL nr : Nat} {alts : List A_A} {cuts : List A_S} {rt : Option FieldType} {code : List (List a_K)} {pcs : List Nat} (hp : ∀ pc, cuts.any (fun U => Nat.beq U.1 pc) = pcs.any (Nat.beq pc)) : ∀ (f mode : Nat) (S : A_S), a_goP cs md dp nL nr alts cuts rt code pcs f mode S = true → a_go cs md dp nL nr alts cuts rt code f mode S = true := by
  intro f
  induction f with
  | zero => intro mode S h; unfold a_goP at h; cases h
  | succ f ih =>
    intro mode S h
    rcases (show mode = 0 ∨ mode = 1 ∨ ∃ j, mode = j + 2 from by
      match mode with
      | 0 => exact Or.inl rfl
      | 1 => exact Or.inr (Or.inl rfl)
      | j + 2 => exact Or.inr (Or.inr ⟨j, rfl⟩)) with rfl | rfl | ⟨j0, rfl⟩
    · rw [a_goP_0] at h
      rw [a_go_0, hp]
      cases hb : pcs.any (Nat.beq S.1)
      · rw [hb] at h
        exact ih 1 S h
      · rw [hb] at h
        exact h
    · rw [a_goP_1] at h
      rw [a_go_1]
      cases hk : k_get code S.1 with
      | none =>
        rw [hk] at h
        cases h
      | some q =>
        rw [hk] at h
        simp only at h ⊢
        cases hb : Nat.beq (q.2.2.2.1 % 2) 1
        · rw [hb] at h
          exact ih 2 S h
        · rw [hb] at h
          simp only [cond_true] at h ⊢
          cases hL : s_split S with
          | none =>
            rw [hL] at h
            cases h
          | some L =>
            rw [hL] at h
            exact List.all_eq_true.mpr fun x hx => ih 2 x (List.all_eq_true.mp h x hx)
    · rw [a_goP_2] at h
      rw [a_go_2]
      cases hk : k_get code S.1 with
      | none =>
        rw [hk] at h
        cases h
      | some q =>
        rw [hk] at h
        simp only at h ⊢
        cases hb : a_isRt q.2.1
        · rw [hb] at h
          simp only [cond_false] at h ⊢
          cases hL : a_nx cs md dp nL q S with
          | none =>
            rw [hL] at h
            cases h
          | some L =>
            rw [hL] at h
            exact List.all_eq_true.mpr fun x hx => ih 0 x (List.all_eq_true.mp h x hx)
        · rw [hb] at h
          exact h
noncomputable def c_goP (cs : Nat → List A_C) (nL : Nat) (rt : Option FieldType) (code : List (List a_K)) (fuel : Nat) (C : A_C) (pcs : List Nat) (S : A_S) : Bool := match C with
  | (_, E0, _, _, mc, _, dep, alts, cuts, _) => a_goP cs mc dep nL E0.length alts cuts rt code pcs fuel 1 S
def c_pcs (C : A_C) (pcs : List Nat) : Bool := (c_cuts C).all (fun U => pcs.any (Nat.beq U.1)) && pcs.all (fun p => (c_cuts C).any (fun U => Nat.beq U.1 p))
theorem c_pcs_ok {C : A_C} {pcs : List Nat} (h : c_pcs C pcs = true) (pc : Nat) : (c_cuts C).any (fun U => Nat.beq U.1 pc) = pcs.any (Nat.beq pc) := by
  obtain ⟨h1, h2⟩ := Bool.and_eq_true _ _ |>.mp h
  cases ha : (c_cuts C).any (fun U => Nat.beq U.1 pc) with
  | true =>
    obtain ⟨U, hU, hx⟩ := List.any_eq_true.mp ha
    have := List.all_eq_true.mp h1 U hU
    rw [Nat.eq_of_beq_eq_true hx] at this
    exact this.symm
  | false =>
    cases hb : pcs.any (Nat.beq pc) with
    | false => rfl
    | true =>
      obtain ⟨p, hp, hx⟩ := List.any_eq_true.mp hb
      have := List.all_eq_true.mp h2 p hp
      rw [← Nat.eq_of_beq_eq_true hx, ha] at this
      exact this
theorem c_goP_ok {cs : Nat → List A_C} {nL : Nat} {rt : Option FieldType} {code : List (List a_K)} {fuel : Nat} {C : A_C} {pcs : List Nat} (hp : c_pcs C pcs = true) {S : A_S} (h : c_goP cs nL rt code fuel C pcs S = true) : c_go1 cs nL rt code fuel C S = true := by
  have hp' := c_pcs_ok hp
  obtain ⟨y, E0, args, ov0, mc, tau, dep, alts, cuts, ph0⟩ := C
  exact a_goP_ok hp' fuel 1 S h
theorem goP_piece {cs : Nat → List A_C} {nL : Nat} {rt : Option FieldType} {code : List (List a_K)} {fuel : Nat} {C : A_C} {pcs : List Nat} (hp : c_pcs C pcs = true) {L : List A_S} (h : L.all (c_goP cs nL rt code fuel C pcs) = true) : L.all (c_go1 cs nL rt code fuel C) = true := List.all_eq_true.mpr fun S hS => c_goP_ok hp (List.all_eq_true.mp h S hS)
noncomputable def c_chkP (cs : Nat → List A_C) (nL : Nat) (rt : Option FieldType) (code : List (List a_K)) (fuel : Nat) (C : A_C) (pcs : List Nat) : Bool := c_pre nL C && (c_pcs C pcs && (c_goP cs nL rt code fuel C pcs (c_start C) && (c_cuts C).all (c_goP cs nL rt code fuel C pcs)))
theorem c_chkP_ok {cs : Nat → List A_C} {nL : Nat} {rt : Option FieldType} {code : List (List a_K)} {fuel : Nat} {C : A_C} {pcs : List Nat} (h : c_chkP cs nL rt code fuel C pcs = true) : c_chk cs nL rt code fuel C = true := by
  obtain ⟨h1, h⟩ := Bool.and_eq_true _ _ |>.mp h
  obtain ⟨h2, h⟩ := Bool.and_eq_true _ _ |>.mp h
  obtain ⟨h3, h4⟩ := Bool.and_eq_true _ _ |>.mp h
  exact c_chk_of h1 (c_goP_ok h2 h3) (goP_piece h2 h4)
end
section
/-! THE CHECK, quicker: one look into the table a step, where the cuts stand by a short list -/
noncomputable def l_anyN (pc : Nat) (l : List Nat) : Bool := @List.rec Nat (fun _ => Bool) false (fun a _ ih => @Bool.rec (fun _ => Bool) ih true (Nat.beq pc a)) l
theorem l_anyN_eq (pc : Nat) : ∀ l : List Nat, l_anyN pc l = l.any (Nat.beq pc)
  | [] => rfl
  | a :: l => by
    have ih := l_anyN_eq pc l
    have e : l_anyN pc (a :: l) = (Nat.beq pc a || l_anyN pc l) := by
      cases hb : Nat.beq pc a with
      | true => exact congrArg (fun b => @Bool.rec (fun _ => Bool) (l_anyN pc l) true b) hb
      | false => exact congrArg (fun b => @Bool.rec (fun _ => Bool) (l_anyN pc l) true b) hb
    rw [e, List.any_cons, ih]
noncomputable def r_find (pc : Nat) (r : List a_K) : Option a_K := @List.rec a_K (fun _ => Option a_K) none (fun a _ ih => @Bool.rec (fun _ => Option a_K) ih (some a) (Nat.beq a.1 pc)) r
theorem r_find_eq (pc : Nat) : ∀ r : List a_K, r_find pc r = r.find? (fun q => Nat.beq q.1 pc)
  | [] => rfl
  | a :: r => by
    have ih := r_find_eq pc r
    cases hb : Nat.beq a.1 pc with
    | true =>
      have e : r_find pc (a :: r) = some a := congrArg (fun b => @Bool.rec (fun _ => Option a_K) (r_find pc r) (some a) b) hb
      rw [e, List.find?_cons_of_pos (p := fun q : a_K => Nat.beq q.1 pc) hb]
    | false =>
      have e : r_find pc (a :: r) = r_find pc r := congrArg (fun b => @Bool.rec (fun _ => Option a_K) (r_find pc r) (some a) b) hb
      rw [e, ih, List.find?_cons_of_neg (p := fun q : a_K => Nat.beq q.1 pc) (fun z => Bool.false_ne_true (hb.symm.trans z))]
noncomputable def r_nth (code : List (List a_K)) : Nat → Option (List a_K) := @List.rec (List a_K) (fun _ => Nat → Option (List a_K)) (fun _ => none) (fun r _ ih n => @Nat.rec (fun _ => Option (List a_K)) (some r) (fun k _ => ih k) n) code
theorem r_nth_eq : ∀ (code : List (List a_K)) (n : Nat), r_nth code n = code[n]?
  | [], _ => List.getElem?_nil.symm
  | _ :: _, 0 => rfl
  | r :: l, n + 1 => by
    have e : r_nth (r :: l) (n + 1) = r_nth l n := rfl
    rw [e, r_nth_eq l n, List.getElem?_cons_succ]
noncomputable def k_getF (code : List (List a_K)) (pc : Nat) : Option a_K := @Option.rec (List a_K) (fun _ => Option a_K) none (fun r => r_find pc r) (r_nth code (pc / 32))
theorem k_getF_eq (code : List (List a_K)) (pc : Nat) : k_getF code pc = k_get code pc := by
  unfold k_getF k_get
  rw [r_nth_eq]
  cases code[pc / 32]? with
  | none => rfl
  | some r => exact r_find_eq pc r
noncomputable def a_doQ (cs : Nat → List A_C) (md : A_D) (dp : A_L) (nL nr : Nat) (alts : List A_A) (rt : Option FieldType) (go : A_S → Bool) (q : a_K) (S : A_S) : Bool := bif a_isRt q.2.1 then a_rt nr alts rt q.2.1 q.2.2.1 S else (match a_nx cs md dp nL q S with
  | some L => L.all go
  | none => false)
noncomputable def a_exQ (cs : Nat → List A_C) (md : A_D) (dp : A_L) (nL nr : Nat) (alts : List A_A) (rt : Option FieldType) (go : A_S → Bool) (o : Option a_K) (S : A_S) : Bool := match o with
  | none => false
  | some q => bif Nat.beq (q.2.2.2.1 % 2) 1 then (match s_split S with
    | some L => L.all (a_doQ cs md dp nL nr alts rt go q)
    | none => false) else a_doQ cs md dp nL nr alts rt go q S
--DISP
abbrev d_T : Type := (Nat → List A_C) → A_D → A_L → Nat → Nat → List A_A → Option FieldType → (A_S → Bool) → Nat → Nat → Nat → List Nat → A_S → Bool
noncomputable def g_st {β : Type} (S : A_S) (k : Nat → A_E → A_F → List (Nat × A_V) → List A_V → A_O → A_L → A_L → β) : β := @Prod.rec Nat (A_E × A_F × List (Nat × A_V) × List A_V × A_O × A_L × A_L) (fun _ => β) (fun pc r1 => @Prod.rec A_E (A_F × List (Nat × A_V) × List A_V × A_O × A_L × A_L) (fun _ => β) (fun E r2 => @Prod.rec A_F (List (Nat × A_V) × List A_V × A_O × A_L × A_L) (fun _ => β) (fun F r3 => @Prod.rec (List (Nat × A_V)) (List A_V × A_O × A_L × A_L) (fun _ => β) (fun ls r4 => @Prod.rec (List A_V) (A_O × A_L × A_L) (fun _ => β) (fun st r5 => @Prod.rec A_O (A_L × A_L) (fun _ => β) (fun ov r6 => @Prod.rec A_L A_L (fun _ => β) (fun bu ph => k pc E F ls st ov bu ph) r6) r5) r4) r3) r2) r1) S
noncomputable def d_goL (go : A_S → Bool) (o : Option (List A_S)) : Bool := @Option.rec (List A_S) (fun _ => Bool) false (fun L => g_all go L) o
theorem d_goL_eq (go : A_S → Bool) (o : Option (List A_S)) : d_goL go o = (match o with
    | some L => L.all go
    | none => false) := by
  cases o with
  | none => rfl
  | some L => exact g_all_eq go L
noncomputable def d_lnL (b : Bool) (go : A_S → Bool) (o : Option (List A_S)) : Bool := @Bool.rec (fun _ => Bool) false (d_goL go o) b
theorem d_lnL_eq (b : Bool) (go : A_S → Bool) (o : Option (List A_S)) : d_lnL b go o = (match (bif b then o else none) with
    | some L => L.all go
    | none => false) := by
  cases b with
  | false => rfl
  | true => exact d_goL_eq go o
theorem g_no (b : Bool) (go : A_S → Bool) : false = (match (bif b then (none : Option (List A_S)) else none) with
    | some L => L.all go
    | none => false) := by
  cases b <;> rfl
noncomputable def d_i_aaload : d_T := fun cs md dp nL nr alts rt go q1 n fl aux S => g_st S fun pc E F ls st ov bu ph => d_lnL (Nat.beq n 1) go (st_aa pc E F ls st ov bu ph)
noncomputable def d_i_aload (x0 : Nat) : d_T := fun cs md dp nL nr alts rt go q1 n fl aux S => g_st S fun pc E F ls st ov bu ph => d_lnL (Nat.beq n 2) go (st_ld 2 x0 pc 2 E F ls st ov bu ph)
noncomputable def d_i_aload_n (x0 : Fin 4) : d_T := fun cs md dp nL nr alts rt go q1 n fl aux S => g_st S fun pc E F ls st ov bu ph => d_lnL (Nat.beq n 1) go (st_ld 2 x0 pc 1 E F ls st ov bu ph)
noncomputable def d_i_arraylength : d_T := fun cs md dp nL nr alts rt go q1 n fl aux S => g_st S fun pc E F ls st ov bu ph => d_lnL (Nat.beq n 1) go (st_len pc E F ls st ov bu ph)
noncomputable def d_i_astore (x0 : Nat) : d_T := fun cs md dp nL nr alts rt go q1 n fl aux S => g_st S fun pc E F ls st ov bu ph => d_lnL (Nat.beq n 2) go (st_st 2 x0 nL pc 2 E F ls st ov bu ph)
noncomputable def d_i_astore_n (x0 : Fin 4) : d_T := fun cs md dp nL nr alts rt go q1 n fl aux S => g_st S fun pc E F ls st ov bu ph => d_lnL (Nat.beq n 1) go (st_st 2 x0 nL pc 1 E F ls st ov bu ph)
noncomputable def d_i_baload : d_T := fun cs md dp nL nr alts rt go q1 n fl aux S => g_st S fun pc E F ls st ov bu ph => d_lnL (Nat.beq n 1) go ((match st with
      | _ :: a :: _ => bif decide (h_kd a.2.1 = .inl 1) then st_al 1 pc E F ls st ov bu ph else st_al 3 pc E F ls st ov bu ph
      | _ => none))
noncomputable def d_i_bastore : d_T := fun cs md dp nL nr alts rt go q1 n fl aux S => g_st S fun pc E F ls st ov bu ph => d_lnL (Nat.beq n 1) go ((match st with
      | _ :: _ :: a :: _ => bif decide (h_kd a.2.1 = .inl 1) then st_as 1 pc md E F ls st ov bu ph else st_as 3 pc md E F ls st ov bu ph
      | _ => none))
noncomputable def d_i_bipush (x0 : Int) : d_T := fun cs md dp nL nr alts rt go q1 n fl aux S => g_st S fun pc E F ls st ov bu ph => d_lnL (Nat.beq n 2) go (some (st_push (pc + 2) (0, 0, (Int8.ofInt x0).toInt32.toInt) E F ls st ov bu ph))
noncomputable def d_i_caload : d_T := fun cs md dp nL nr alts rt go q1 n fl aux S => g_st S fun pc E F ls st ov bu ph => d_lnL (Nat.beq n 1) go (st_al 2 pc E F ls st ov bu ph)
noncomputable def d_i_castore : d_T := fun cs md dp nL nr alts rt go q1 n fl aux S => g_st S fun pc E F ls st ov bu ph => d_lnL (Nat.beq n 1) go (st_as 2 pc md E F ls st ov bu ph)
noncomputable def d_i_dup : d_T := fun cs md dp nL nr alts rt go q1 n fl aux S => g_st S fun pc E F ls st ov bu ph => d_lnL (Nat.beq n 1) go (st_sh .dup pc E F ls st ov bu ph)
noncomputable def d_i_dup_x1 : d_T := fun cs md dp nL nr alts rt go q1 n fl aux S => g_st S fun pc E F ls st ov bu ph => d_lnL (Nat.beq n 1) go (st_sh .dup_x1 pc E F ls st ov bu ph)
noncomputable def d_i_dup2 : d_T := fun cs md dp nL nr alts rt go q1 n fl aux S => g_st S fun pc E F ls st ov bu ph => d_lnL (Nat.beq n 1) go (st_sh .dup2 pc E F ls st ov bu ph)
noncomputable def d_i_getfield (x0 : Nat) : d_T := fun cs md dp nL nr alts rt go q1 n fl aux S => g_st S fun pc E F ls st ov bu ph => d_lnL (Nat.beq n 3) go ((match aux with
      | [_, ci, k, _] => st_gf ci k pc E F ls st ov bu ph
      | _ => none))
noncomputable def d_i_getstatic (x0 : Nat) : d_T := fun cs md dp nL nr alts rt go q1 n fl aux S => g_st S fun pc E F ls st ov bu ph => d_lnL (Nat.beq n 3) go (match aux with
      | [0] => some (st_push (pc + 3) (2, m_X0, 0) E F ls st ov bu ph)
      | [1] => some (st_push (pc + 3) (2, m_X0 + 1, 0) E F ls st ov bu ph)
      | _ => none)
noncomputable def d_i_goto (x0 : Int) : d_T := fun cs md dp nL nr alts rt go q1 n fl aux S => g_st S fun pc E F ls st ov bu ph => d_lnL (Nat.beq n 3) go (st_goto x0 pc E F ls st ov bu ph)
noncomputable def d_i_i2b : d_T := fun cs md dp nL nr alts rt go q1 n fl aux S => g_st S fun pc E F ls st ov bu ph => d_lnL (Nat.beq n 1) go (st_un (a_nar (-128) 127) pc E F ls st ov bu ph)
noncomputable def d_i_i2c : d_T := fun cs md dp nL nr alts rt go q1 n fl aux S => g_st S fun pc E F ls st ov bu ph => d_lnL (Nat.beq n 1) go (st_un (a_nar 0 65535) pc E F ls st ov bu ph)
noncomputable def d_i_i2l : d_T := fun cs md dp nL nr alts rt go q1 n fl aux S => g_st S fun pc E F ls st ov bu ph => d_lnL (Nat.beq n 1) go (st_il pc E F ls st ov bu ph)
noncomputable def d_i_i2s : d_T := fun cs md dp nL nr alts rt go q1 n fl aux S => g_st S fun pc E F ls st ov bu ph => d_lnL (Nat.beq n 1) go (st_un (a_nar (-32768) 32767) pc E F ls st ov bu ph)
noncomputable def d_i_iadd : d_T := fun cs md dp nL nr alts rt go q1 n fl aux S => g_st S fun pc E F ls st ov bu ph => d_lnL (Nat.beq n 1) go (st_bin a_add pc E F ls st ov bu ph)
noncomputable def d_i_iaload : d_T := fun cs md dp nL nr alts rt go q1 n fl aux S => g_st S fun pc E F ls st ov bu ph => d_lnL (Nat.beq n 1) go (st_al 0 pc E F ls st ov bu ph)
noncomputable def d_i_iand : d_T := fun cs md dp nL nr alts rt go q1 n fl aux S => g_st S fun pc E F ls st ov bu ph => d_lnL (Nat.beq n 1) go (st_bin a_and pc E F ls st ov bu ph)
noncomputable def d_i_iastore : d_T := fun cs md dp nL nr alts rt go q1 n fl aux S => g_st S fun pc E F ls st ov bu ph => d_lnL (Nat.beq n 1) go (st_as 0 pc md E F ls st ov bu ph)
noncomputable def d_i_iconst (x0 : Int) : d_T := fun cs md dp nL nr alts rt go q1 n fl aux S => g_st S fun pc E F ls st ov bu ph => d_lnL (Nat.beq n 1) go (some (st_push (pc + 1) (0, 0, (Int32.ofInt x0).toInt) E F ls st ov bu ph))
noncomputable def d_i_idiv : d_T := fun cs md dp nL nr alts rt go q1 n fl aux S => g_st S fun pc E F ls st ov bu ph => d_lnL (Nat.beq n 1) go (st_dv a_div pc E F ls st ov bu ph)
noncomputable def d_i_if_icmp (x0 : Jvm.ClassFile.Cond) (x1 : Int) : d_T := fun cs md dp nL nr alts rt go q1 n fl aux S => g_st S fun pc E F ls st ov bu ph => d_lnL (Nat.beq n 3) go (st_ic (Nat.ble 2 fl) x0 x1 pc E F ls st ov bu ph)
noncomputable def d_i_ifCond (x0 : Jvm.ClassFile.Cond) (x1 : Int) : d_T := fun cs md dp nL nr alts rt go q1 n fl aux S => g_st S fun pc E F ls st ov bu ph => d_lnL (Nat.beq n 3) go (st_if (Nat.ble 2 fl) x0 x1 pc E F ls st ov bu ph)
noncomputable def d_i_iinc (x0 : Nat) (x1 : Int) : d_T := fun cs md dp nL nr alts rt go q1 n fl aux S => g_st S fun pc E F ls st ov bu ph => d_lnL (Nat.beq n 3) go (st_inc x0 x1 nL pc E F ls st ov bu ph)
noncomputable def d_i_iload (x0 : Nat) : d_T := fun cs md dp nL nr alts rt go q1 n fl aux S => g_st S fun pc E F ls st ov bu ph => d_lnL (Nat.beq n 2) go (st_ld 0 x0 pc 2 E F ls st ov bu ph)
noncomputable def d_i_iload_n (x0 : Fin 4) : d_T := fun cs md dp nL nr alts rt go q1 n fl aux S => g_st S fun pc E F ls st ov bu ph => d_lnL (Nat.beq n 1) go (st_ld 0 x0 pc 1 E F ls st ov bu ph)
noncomputable def d_i_imul : d_T := fun cs md dp nL nr alts rt go q1 n fl aux S => g_st S fun pc E F ls st ov bu ph => d_lnL (Nat.beq n 1) go (st_bin (a_two (fun x y => x * y) a_mul) pc E F ls st ov bu ph)
noncomputable def d_i_ineg : d_T := fun cs md dp nL nr alts rt go q1 n fl aux S => g_st S fun pc E F ls st ov bu ph => d_lnL (Nat.beq n 1) go (st_un a_neg pc E F ls st ov bu ph)
noncomputable def d_i_invokestatic (x0 : Nat) : d_T := fun cs md dp nL nr alts rt go q1 n fl aux S => g_st S fun pc E F ls st ov bu ph => (match aux with
      | [_, y, _, ne] => d_lnL (Nat.beq n 3) go (st_inv cs md dp (.invokestatic x0) y ne pc E F ls st ov bu ph)
      | [_, _] => d_lnL (Nat.beq n 3) go (st_cpy md dp pc E F ls st ov bu ph)
      | [kd, _, _] => d_lnL (Nat.beq n 3) go (st_nat kd dp pc E F ls st ov bu ph)
      | _ => false)
noncomputable def d_i_invokevirtual (x0 : Nat) : d_T := fun cs md dp nL nr alts rt go q1 n fl aux S => g_st S fun pc E F ls st ov bu ph => (match aux with
      | [_, y, _, ne] => d_lnL (Nat.beq n 3) go (st_inv cs md dp (.invokevirtual x0) y ne pc E F ls st ov bu ph)
      | [_, _, _] => d_lnL (Nat.beq n 3) go (st_ix dp pc E F ls st ov bu ph)
      | _ => false)
noncomputable def d_i_ior : d_T := fun cs md dp nL nr alts rt go q1 n fl aux S => g_st S fun pc E F ls st ov bu ph => d_lnL (Nat.beq n 1) go (st_bin a_or pc E F ls st ov bu ph)
noncomputable def d_i_irem : d_T := fun cs md dp nL nr alts rt go q1 n fl aux S => g_st S fun pc E F ls st ov bu ph => d_lnL (Nat.beq n 1) go (st_dv a_rem pc E F ls st ov bu ph)
noncomputable def d_i_ireturn : d_T := fun cs md dp nL nr alts rt go q1 n fl aux S => a_rt nr alts rt .ireturn n S
noncomputable def d_i_ishl : d_T := fun cs md dp nL nr alts rt go q1 n fl aux S => g_st S fun pc E F ls st ov bu ph => d_lnL (Nat.beq n 1) go (st_bin a_shl pc E F ls st ov bu ph)
noncomputable def d_i_ishr : d_T := fun cs md dp nL nr alts rt go q1 n fl aux S => g_st S fun pc E F ls st ov bu ph => d_lnL (Nat.beq n 1) go (st_bin a_shr pc E F ls st ov bu ph)
noncomputable def d_i_istore (x0 : Nat) : d_T := fun cs md dp nL nr alts rt go q1 n fl aux S => g_st S fun pc E F ls st ov bu ph => d_lnL (Nat.beq n 2) go (st_st 0 x0 nL pc 2 E F ls st ov bu ph)
noncomputable def d_i_istore_n (x0 : Fin 4) : d_T := fun cs md dp nL nr alts rt go q1 n fl aux S => g_st S fun pc E F ls st ov bu ph => d_lnL (Nat.beq n 1) go (st_st 0 x0 nL pc 1 E F ls st ov bu ph)
noncomputable def d_i_isub : d_T := fun cs md dp nL nr alts rt go q1 n fl aux S => g_st S fun pc E F ls st ov bu ph => d_lnL (Nat.beq n 1) go (st_bin a_sub pc E F ls st ov bu ph)
noncomputable def d_i_iushr : d_T := fun cs md dp nL nr alts rt go q1 n fl aux S => g_st S fun pc E F ls st ov bu ph => d_lnL (Nat.beq n 1) go (st_bin a_ush pc E F ls st ov bu ph)
noncomputable def d_i_ixor : d_T := fun cs md dp nL nr alts rt go q1 n fl aux S => g_st S fun pc E F ls st ov bu ph => d_lnL (Nat.beq n 1) go (st_bin a_xor pc E F ls st ov bu ph)
noncomputable def d_i_l2i : d_T := fun cs md dp nL nr alts rt go q1 n fl aux S => g_st S fun pc E F ls st ov bu ph => d_lnL (Nat.beq n 1) go (st_li pc E F ls st ov bu ph)
noncomputable def d_i_ladd : d_T := fun cs md dp nL nr alts rt go q1 n fl aux S => g_st S fun pc E F ls st ov bu ph => d_lnL (Nat.beq n 1) go (st_lb (fun x y => x + y) false pc E F ls st ov bu ph)
noncomputable def d_i_laload : d_T := fun cs md dp nL nr alts rt go q1 n fl aux S => g_st S fun pc E F ls st ov bu ph => d_lnL (Nat.beq n 1) go (st_ll pc E F ls st ov bu ph)
noncomputable def d_i_land : d_T := fun cs md dp nL nr alts rt go q1 n fl aux S => g_st S fun pc E F ls st ov bu ph => d_lnL (Nat.beq n 1) go (st_lb (fun x y => x &&& y) false pc E F ls st ov bu ph)
noncomputable def d_i_lastore : d_T := fun cs md dp nL nr alts rt go q1 n fl aux S => g_st S fun pc E F ls st ov bu ph => d_lnL (Nat.beq n 1) go (st_sl pc md E F ls st ov bu ph)
noncomputable def d_i_lcmp : d_T := fun cs md dp nL nr alts rt go q1 n fl aux S => g_st S fun pc E F ls st ov bu ph => d_lnL (Nat.beq n 1) go (st_lc pc E F ls st ov bu ph)
noncomputable def d_i_lconst (x0 : Fin 2) : d_T := fun cs md dp nL nr alts rt go q1 n fl aux S => g_st S fun pc E F ls st ov bu ph => d_lnL (Nat.beq n 1) go (some (st_push (pc + 1) (3, 0, (Int64.ofNat (x0 : Nat)).toInt) E F ls st ov bu ph))
noncomputable def d_i_ldc (x0 : Nat) : d_T := fun cs md dp nL nr alts rt go q1 n fl aux S => g_st S fun pc E F ls st ov bu ph => (match aux with
      | [_, _] => d_lnL (Nat.beq n 2) go (some [(pc + 2, E, F, ls, (2, m_X0 + 2, 0) :: st, ov, bu, ph)])
      | [v] => d_lnL (Nat.beq n 2) go (some (st_push (pc + 2) (0, 0, (Int32.ofInt ((v : Int) - 2147483648)).toInt) E F ls st ov bu ph))
      | _ => false)
noncomputable def d_i_ldc_w (x0 : Nat) : d_T := fun cs md dp nL nr alts rt go q1 n fl aux S => g_st S fun pc E F ls st ov bu ph => d_lnL (Nat.beq n 3) go ((match aux with
      | [v] => some (st_push (pc + 3) (0, 0, (Int32.ofInt ((v : Int) - 2147483648)).toInt) E F ls st ov bu ph)
      | _ => none))
noncomputable def d_i_ldc2_w (x0 : Nat) : d_T := fun cs md dp nL nr alts rt go q1 n fl aux S => g_st S fun pc E F ls st ov bu ph => d_lnL (Nat.beq n 3) go ((match aux with
      | [v] => some (st_push (pc + 3) (3, 0, (Int64.ofInt ((v : Int) - 9223372036854775808)).toInt) E F ls st ov bu ph)
      | _ => none))
noncomputable def d_i_ldiv : d_T := fun cs md dp nL nr alts rt go q1 n fl aux S => g_st S fun pc E F ls st ov bu ph => d_lnL (Nat.beq n 1) go (st_lb (fun x y => x / y) true pc E F ls st ov bu ph)
noncomputable def d_i_lload (x0 : Nat) : d_T := fun cs md dp nL nr alts rt go q1 n fl aux S => g_st S fun pc E F ls st ov bu ph => d_lnL (Nat.beq n 2) go (st_ld 1 x0 pc 2 E F ls st ov bu ph)
noncomputable def d_i_lload_n (x0 : Fin 4) : d_T := fun cs md dp nL nr alts rt go q1 n fl aux S => g_st S fun pc E F ls st ov bu ph => d_lnL (Nat.beq n 1) go (st_ld 1 x0 pc 1 E F ls st ov bu ph)
noncomputable def d_i_lmul : d_T := fun cs md dp nL nr alts rt go q1 n fl aux S => g_st S fun pc E F ls st ov bu ph => d_lnL (Nat.beq n 1) go (st_lb (fun x y => x * y) false pc E F ls st ov bu ph)
noncomputable def d_i_lookupswitch (x0 : Int) (x1 : Array (Int × Int)) : d_T := fun cs md dp nL nr alts rt go q1 n fl aux S => g_st S fun pc E F ls st ov bu ph => d_goL go (st_lk x0 x1.toList pc E F ls st ov bu ph)
noncomputable def d_i_lor : d_T := fun cs md dp nL nr alts rt go q1 n fl aux S => g_st S fun pc E F ls st ov bu ph => d_lnL (Nat.beq n 1) go (st_lb (fun x y => x ||| y) false pc E F ls st ov bu ph)
noncomputable def d_i_lrem : d_T := fun cs md dp nL nr alts rt go q1 n fl aux S => g_st S fun pc E F ls st ov bu ph => d_lnL (Nat.beq n 1) go (st_lb (fun x y => x - x / y * y) true pc E F ls st ov bu ph)
noncomputable def d_i_lreturn : d_T := fun cs md dp nL nr alts rt go q1 n fl aux S => a_rt nr alts rt .lreturn n S
noncomputable def d_i_lshl : d_T := fun cs md dp nL nr alts rt go q1 n fl aux S => g_st S fun pc E F ls st ov bu ph => d_lnL (Nat.beq n 1) go (st_lsh pc E F ls st ov bu ph)
noncomputable def d_i_lstore (x0 : Nat) : d_T := fun cs md dp nL nr alts rt go q1 n fl aux S => g_st S fun pc E F ls st ov bu ph => d_lnL (Nat.beq n 2) go (st_st 1 x0 nL pc 2 E F ls st ov bu ph)
noncomputable def d_i_lstore_n (x0 : Fin 4) : d_T := fun cs md dp nL nr alts rt go q1 n fl aux S => g_st S fun pc E F ls st ov bu ph => d_lnL (Nat.beq n 1) go (st_st 1 x0 nL pc 1 E F ls st ov bu ph)
noncomputable def d_i_lsub : d_T := fun cs md dp nL nr alts rt go q1 n fl aux S => g_st S fun pc E F ls st ov bu ph => d_lnL (Nat.beq n 1) go (st_lb (fun x y => x - y) false pc E F ls st ov bu ph)
noncomputable def d_i_lushr : d_T := fun cs md dp nL nr alts rt go q1 n fl aux S => g_st S fun pc E F ls st ov bu ph => d_lnL (Nat.beq n 1) go (st_lsh pc E F ls st ov bu ph)
noncomputable def d_i_pop : d_T := fun cs md dp nL nr alts rt go q1 n fl aux S => g_st S fun pc E F ls st ov bu ph => d_lnL (Nat.beq n 1) go (st_sh .pop pc E F ls st ov bu ph)
noncomputable def d_i_pop2 : d_T := fun cs md dp nL nr alts rt go q1 n fl aux S => g_st S fun pc E F ls st ov bu ph => d_lnL (Nat.beq n 1) go (st_sh .pop2 pc E F ls st ov bu ph)
noncomputable def d_i_putfield (x0 : Nat) : d_T := fun cs md dp nL nr alts rt go q1 n fl aux S => g_st S fun pc E F ls st ov bu ph => d_lnL (Nat.beq n 3) go ((match aux with
      | [_, ci, k, _] => st_pf ci k pc md E F ls st ov bu ph
      | _ => none))
noncomputable def d_i_return_ : d_T := fun cs md dp nL nr alts rt go q1 n fl aux S => a_rt nr alts rt .return_ n S
noncomputable def d_i_sipush (x0 : Int) : d_T := fun cs md dp nL nr alts rt go q1 n fl aux S => g_st S fun pc E F ls st ov bu ph => d_lnL (Nat.beq n 3) go (some (st_push (pc + 3) (0, 0, (Int16.ofInt x0).toInt32.toInt) E F ls st ov bu ph))
noncomputable def d_i_tableswitch (x0 : Int) (x1 : Int) (x2 : Int) (x3 : Array Int) : d_T := fun cs md dp nL nr alts rt go q1 n fl aux S => g_st S fun pc E F ls st ov bu ph => d_goL go (st_tb x0 x1 x2 x3.toList pc E F ls st ov bu ph)
noncomputable def d_none (i : Jvm.ClassFile.Instr) : d_T := fun cs md dp nL nr alts rt go q1 n fl aux S => a_doQ cs md dp nL nr alts rt go (q1, i, n, fl, aux) S
noncomputable def d_all_i (i : Jvm.ClassFile.Instr) : d_T := @Jvm.ClassFile.Instr.rec (fun _ => d_T) d_i_aaload (d_none .aastore) (d_none .aconst_null) d_i_aload d_i_aload_n (fun x0 => d_none (.anewarray x0)) (d_none .areturn) d_i_arraylength d_i_astore d_i_astore_n (d_none .athrow) d_i_baload d_i_bastore d_i_bipush d_i_caload d_i_castore (fun x0 => d_none (.checkcast x0)) (d_none .d2f) (d_none .d2i) (d_none .d2l) (d_none .dadd) (d_none .daload) (d_none .dastore) (fun x0 => d_none (.dcmp x0)) (fun x0 => d_none (.dconst x0)) (d_none .ddiv) (fun x0 => d_none (.dload x0)) (fun x0 => d_none (.dload_n x0)) (d_none .dmul) (d_none .dneg) (d_none .drem) (d_none .dreturn) (fun x0 => d_none (.dstore x0)) (fun x0 => d_none (.dstore_n x0)) (d_none .dsub) d_i_dup d_i_dup_x1 (d_none .dup_x2) d_i_dup2 (d_none .dup2_x1) (d_none .dup2_x2) (d_none .f2d) (d_none .f2i) (d_none .f2l) (d_none .fadd) (d_none .faload) (d_none .fastore) (fun x0 => d_none (.fcmp x0)) (fun x0 => d_none (.fconst x0)) (d_none .fdiv) (fun x0 => d_none (.fload x0)) (fun x0 => d_none (.fload_n x0)) (d_none .fmul) (d_none .fneg) (d_none .frem) (d_none .freturn) (fun x0 => d_none (.fstore x0)) (fun x0 => d_none (.fstore_n x0)) (d_none .fsub) d_i_getfield d_i_getstatic d_i_goto (fun x0 => d_none (.goto_w x0)) d_i_i2b d_i_i2c (d_none .i2d) (d_none .i2f) d_i_i2l d_i_i2s d_i_iadd d_i_iaload d_i_iand d_i_iastore d_i_iconst d_i_idiv (fun x0 x1 => d_none (.if_acmp x0 x1)) d_i_if_icmp d_i_ifCond (fun x0 => d_none (.ifnonnull x0)) (fun x0 => d_none (.ifnull x0)) d_i_iinc d_i_iload d_i_iload_n d_i_imul d_i_ineg (fun x0 => d_none (.instanceof x0)) (fun x0 => d_none (.invokedynamic x0)) (fun x0 x1 => d_none (.invokeinterface x0 x1)) (fun x0 => d_none (.invokespecial x0)) d_i_invokestatic d_i_invokevirtual d_i_ior d_i_irem d_i_ireturn d_i_ishl d_i_ishr d_i_istore d_i_istore_n d_i_isub d_i_iushr d_i_ixor (fun x0 => d_none (.jsr x0)) (fun x0 => d_none (.jsr_w x0)) (d_none .l2d) (d_none .l2f) d_i_l2i d_i_ladd d_i_laload d_i_land d_i_lastore d_i_lcmp d_i_lconst d_i_ldc d_i_ldc_w d_i_ldc2_w d_i_ldiv d_i_lload d_i_lload_n d_i_lmul (d_none .lneg) d_i_lookupswitch d_i_lor d_i_lrem d_i_lreturn d_i_lshl (d_none .lshr) d_i_lstore d_i_lstore_n d_i_lsub d_i_lushr (d_none .lxor) (d_none .monitorenter) (d_none .monitorexit) (fun x0 x1 => d_none (.multianewarray x0 x1)) (fun x0 => d_none (.new x0)) (fun x0 => d_none (.newarray x0)) (d_none .nop) d_i_pop d_i_pop2 d_i_putfield (fun x0 => d_none (.putstatic x0)) (fun x0 => d_none (.ret x0)) d_i_return_ (d_none .saload) (d_none .sastore) d_i_sipush (d_none .swap) d_i_tableswitch i
noncomputable def a_doR (cs : Nat → List A_C) (md : A_D) (dp : A_L) (nL nr : Nat) (alts : List A_A) (rt : Option FieldType) (go : A_S → Bool) (q : a_K) (S : A_S) : Bool := @Prod.rec Nat (Jvm.ClassFile.Instr × Nat × Nat × List Nat) (fun _ => Bool) (fun q1 r1 => @Prod.rec Jvm.ClassFile.Instr (Nat × Nat × List Nat) (fun _ => Bool) (fun i r2 => @Prod.rec Nat (Nat × List Nat) (fun _ => Bool) (fun n r3 => @Prod.rec Nat (List Nat) (fun _ => Bool) (fun fl aux => d_all_i i cs md dp nL nr alts rt go q1 n fl aux S) r3) r2) r1) q
theorem a_doR_eq (cs : Nat → List A_C) (md : A_D) (dp : A_L) (nL nr : Nat) (alts : List A_A) (rt : Option FieldType) (go : A_S → Bool) (q : a_K) (S : A_S) : a_doR cs md dp nL nr alts rt go q S = a_doQ cs md dp nL nr alts rt go q S := by
  obtain ⟨q1, i, n, fl, aux⟩ := q
  obtain ⟨pc, E, F, ls, st, ov, bu, ph⟩ := S
  cases i with
  | aaload => exact d_lnL_eq _ _ _
  | aastore => rfl
  | aconst_null => rfl
  | aload x0 => exact d_lnL_eq _ _ _
  | aload_n x0 => exact d_lnL_eq _ _ _
  | anewarray x0 => rfl
  | areturn => rfl
  | arraylength => exact d_lnL_eq _ _ _
  | astore x0 => exact d_lnL_eq _ _ _
  | astore_n x0 => exact d_lnL_eq _ _ _
  | athrow => rfl
  | baload => exact d_lnL_eq _ _ _
  | bastore => exact d_lnL_eq _ _ _
  | bipush x0 => exact d_lnL_eq _ _ _
  | caload => exact d_lnL_eq _ _ _
  | castore => exact d_lnL_eq _ _ _
  | checkcast x0 => rfl
  | d2f => rfl
  | d2i => rfl
  | d2l => rfl
  | dadd => rfl
  | daload => rfl
  | dastore => rfl
  | dcmp x0 => rfl
  | dconst x0 => rfl
  | ddiv => rfl
  | dload x0 => rfl
  | dload_n x0 => rfl
  | dmul => rfl
  | dneg => rfl
  | drem => rfl
  | dreturn => rfl
  | dstore x0 => rfl
  | dstore_n x0 => rfl
  | dsub => rfl
  | dup => exact d_lnL_eq _ _ _
  | dup_x1 => exact d_lnL_eq _ _ _
  | dup_x2 => rfl
  | dup2 => exact d_lnL_eq _ _ _
  | dup2_x1 => rfl
  | dup2_x2 => rfl
  | f2d => rfl
  | f2i => rfl
  | f2l => rfl
  | fadd => rfl
  | faload => rfl
  | fastore => rfl
  | fcmp x0 => rfl
  | fconst x0 => rfl
  | fdiv => rfl
  | fload x0 => rfl
  | fload_n x0 => rfl
  | fmul => rfl
  | fneg => rfl
  | frem => rfl
  | freturn => rfl
  | fstore x0 => rfl
  | fstore_n x0 => rfl
  | fsub => rfl
  | getfield x0 => exact d_lnL_eq _ _ _
  | getstatic x0 => exact d_lnL_eq _ _ _
  | goto x0 => exact d_lnL_eq _ _ _
  | goto_w x0 => rfl
  | i2b => exact d_lnL_eq _ _ _
  | i2c => exact d_lnL_eq _ _ _
  | i2d => rfl
  | i2f => rfl
  | i2l => exact d_lnL_eq _ _ _
  | i2s => exact d_lnL_eq _ _ _
  | iadd => exact d_lnL_eq _ _ _
  | iaload => exact d_lnL_eq _ _ _
  | iand => exact d_lnL_eq _ _ _
  | iastore => exact d_lnL_eq _ _ _
  | iconst x0 => exact d_lnL_eq _ _ _
  | idiv => exact d_lnL_eq _ _ _
  | if_acmp x0 x1 => rfl
  | if_icmp x0 x1 => exact d_lnL_eq _ _ _
  | ifCond x0 x1 => exact d_lnL_eq _ _ _
  | ifnonnull x0 => rfl
  | ifnull x0 => rfl
  | iinc x0 x1 => exact d_lnL_eq _ _ _
  | iload x0 => exact d_lnL_eq _ _ _
  | iload_n x0 => exact d_lnL_eq _ _ _
  | imul => exact d_lnL_eq _ _ _
  | ineg => exact d_lnL_eq _ _ _
  | instanceof x0 => rfl
  | invokedynamic x0 => rfl
  | invokeinterface x0 x1 => rfl
  | invokespecial x0 => rfl
  | invokestatic x0 =>
    rcases aux with _ | ⟨a, _ | ⟨b, _ | ⟨c, _ | ⟨d, _ | ⟨e, t⟩⟩⟩⟩⟩ <;> first | exact d_lnL_eq _ _ _ | exact g_no (Nat.beq n 1) go | exact g_no (Nat.beq n 2) go | rfl
  | invokevirtual x0 =>
    rcases aux with _ | ⟨a, _ | ⟨b, _ | ⟨c, _ | ⟨d, _ | ⟨e, t⟩⟩⟩⟩⟩ <;> first | exact d_lnL_eq _ _ _ | exact g_no (Nat.beq n 1) go | exact g_no (Nat.beq n 2) go | rfl
  | ior => exact d_lnL_eq _ _ _
  | irem => exact d_lnL_eq _ _ _
  | ireturn => rfl
  | ishl => exact d_lnL_eq _ _ _
  | ishr => exact d_lnL_eq _ _ _
  | istore x0 => exact d_lnL_eq _ _ _
  | istore_n x0 => exact d_lnL_eq _ _ _
  | isub => exact d_lnL_eq _ _ _
  | iushr => exact d_lnL_eq _ _ _
  | ixor => exact d_lnL_eq _ _ _
  | jsr x0 => rfl
  | jsr_w x0 => rfl
  | l2d => rfl
  | l2f => rfl
  | l2i => exact d_lnL_eq _ _ _
  | ladd => exact d_lnL_eq _ _ _
  | laload => exact d_lnL_eq _ _ _
  | land => exact d_lnL_eq _ _ _
  | lastore => exact d_lnL_eq _ _ _
  | lcmp => exact d_lnL_eq _ _ _
  | lconst x0 => exact d_lnL_eq _ _ _
  | ldc x0 =>
    rcases aux with _ | ⟨a, _ | ⟨b, _ | ⟨c, _ | ⟨d, _ | ⟨e, t⟩⟩⟩⟩⟩ <;> first | exact d_lnL_eq _ _ _ | exact g_no (Nat.beq n 1) go | exact g_no (Nat.beq n 2) go | rfl
  | ldc_w x0 => exact d_lnL_eq _ _ _
  | ldc2_w x0 => exact d_lnL_eq _ _ _
  | ldiv => exact d_lnL_eq _ _ _
  | lload x0 => exact d_lnL_eq _ _ _
  | lload_n x0 => exact d_lnL_eq _ _ _
  | lmul => exact d_lnL_eq _ _ _
  | lneg => rfl
  | lookupswitch x0 x1 => exact d_goL_eq _ _
  | lor => exact d_lnL_eq _ _ _
  | lrem => exact d_lnL_eq _ _ _
  | lreturn => rfl
  | lshl => exact d_lnL_eq _ _ _
  | lshr => rfl
  | lstore x0 => exact d_lnL_eq _ _ _
  | lstore_n x0 => exact d_lnL_eq _ _ _
  | lsub => exact d_lnL_eq _ _ _
  | lushr => exact d_lnL_eq _ _ _
  | lxor => rfl
  | monitorenter => rfl
  | monitorexit => rfl
  | multianewarray x0 x1 => rfl
  | new x0 => rfl
  | newarray x0 => rfl
  | nop => rfl
  | pop => exact d_lnL_eq _ _ _
  | pop2 => exact d_lnL_eq _ _ _
  | putfield x0 => exact d_lnL_eq _ _ _
  | putstatic x0 => rfl
  | ret x0 => rfl
  | return_ => rfl
  | saload => rfl
  | sastore => rfl
  | sipush x0 => exact d_lnL_eq _ _ _
  | swap => rfl
  | tableswitch x0 x1 x2 x3 => exact d_goL_eq _ _
noncomputable def a_exR (cs : Nat → List A_C) (md : A_D) (dp : A_L) (nL nr : Nat) (alts : List A_A) (rt : Option FieldType) (go : A_S → Bool) (o : Option a_K) (S : A_S) : Bool := @Option.rec a_K (fun _ => Bool) false (fun q => @Bool.rec (fun _ => Bool) (a_doR cs md dp nL nr alts rt go q S) (@Option.rec (List A_S) (fun _ => Bool) false (fun L => g_all (a_doR cs md dp nL nr alts rt go q) L) (s_split S)) (Nat.beq (q.2.2.2.1 % 2) 1)) o
theorem a_exR_eq (cs : Nat → List A_C) (md : A_D) (dp : A_L) (nL nr : Nat) (alts : List A_A) (rt : Option FieldType) (go : A_S → Bool) (o : Option a_K) (S : A_S) : a_exR cs md dp nL nr alts rt go o S = a_exQ cs md dp nL nr alts rt go o S := by
  cases o with
  | none => rfl
  | some q =>
    have e : a_doR cs md dp nL nr alts rt go q = a_doQ cs md dp nL nr alts rt go q := funext fun T => a_doR_eq cs md dp nL nr alts rt go q T
    show @Bool.rec (fun _ => Bool) (a_doR cs md dp nL nr alts rt go q S) (@Option.rec (List A_S) (fun _ => Bool) false (fun L => g_all (a_doR cs md dp nL nr alts rt go q) L) (s_split S)) (Nat.beq (q.2.2.2.1 % 2) 1) = (bif Nat.beq (q.2.2.2.1 % 2) 1 then (match s_split S with
      | some L => L.all (a_doQ cs md dp nL nr alts rt go q)
      | none => false) else a_doQ cs md dp nL nr alts rt go q S)
    rw [e]
    cases Nat.beq (q.2.2.2.1 % 2) 1 with
    | false => rfl
    | true =>
      cases s_split S with
      | none => rfl
      | some L => exact g_all_eq _ L
--ENDDISP
noncomputable def a_goQ (cs : Nat → List A_C) (md : A_D) (dp : A_L) (nL nr : Nat) (alts : List A_A) (cuts : List A_S) (rt : Option FieldType) (code : List (List a_K)) (pcs : List Nat) (f : Nat) : A_S → Bool := @Nat.rec (fun _ => A_S → Bool) (fun _ => false) (fun _ ih S => @Bool.rec (fun _ => Bool) (a_exR cs md dp nL nr alts rt ih (k_getF code S.1) S) (g_any (c_arr nr S) cuts) (l_anyN S.1 pcs)) f
theorem s_split_pc {S : A_S} {L : List A_S} (h : s_split S = some L) : ∀ x ∈ L, x.1 = S.1 := by
  obtain ⟨pc, E, F, ls, st, ov, bu, ph⟩ := S
  unfold s_split at h
  cases st with
  | nil => cases h
  | cons a r =>
    simp only at h
    cases ia : a_isI a
    · rw [ia] at h
      cases h
    · rw [ia] at h
      cases h
      intro x hx
      obtain ⟨j, -, hj⟩ := List.mem_flatMap.mp hx
      unfold c_to at hj
      obtain ⟨q, -, rfl⟩ := List.mem_map.mp hj
      rfl
section QK
variable {cs : Nat → List A_C} {md : A_D} {dp : A_L} {nL nr : Nat} {alts : List A_A} {cuts : List A_S} {rt : Option FieldType} {code : List (List a_K)} {pcs : List Nat}
theorem a_doQ_ok {F : Nat} {go : A_S → Bool} (hgo : ∀ S, go S = true → a_go cs md dp nL nr alts cuts rt code F 0 S = true) {q : a_K} {S : A_S} (hk : k_get code S.1 = some q) (h : a_doQ cs md dp nL nr alts rt go q S = true) : a_go cs md dp nL nr alts cuts rt code (F + 1) 2 S = true := by
  have e := a_go_2 (cs := cs) (md := md) (dp := dp) (nL := nL) (nr := nr) (alts := alts) (cuts := cuts) (rt := rt) (code := code) (f := F) (j := 0) (S := S)
  rw [hk] at e
  refine e.trans ?_
  show (bif a_isRt q.2.1 then a_rt nr alts rt q.2.1 q.2.2.1 S else (match a_nx cs md dp nL q S with
    | some L => L.all (a_go cs md dp nL nr alts cuts rt code F 0)
    | none => false)) = true
  unfold a_doQ at h
  cases hb : a_isRt q.2.1
  · rw [hb] at h
    simp only [cond_false] at h ⊢
    cases hL : a_nx cs md dp nL q S with
    | none =>
      rw [hL] at h
      cases h
    | some L =>
      rw [hL] at h
      exact List.all_eq_true.mpr fun x hx => hgo x (List.all_eq_true.mp h x hx)
  · rw [hb] at h
    exact h
theorem a_exQ_ok {F : Nat} {go : A_S → Bool} (hgo : ∀ S, go S = true → a_go cs md dp nL nr alts cuts rt code F 0 S = true) {S : A_S} (h : a_exQ cs md dp nL nr alts rt go (k_getF code S.1) S = true) : a_go cs md dp nL nr alts cuts rt code (F + 2) 1 S = true := by
  have e := a_go_1 (cs := cs) (md := md) (dp := dp) (nL := nL) (nr := nr) (alts := alts) (cuts := cuts) (rt := rt) (code := code) (f := F + 1) (S := S)
  rw [k_getF_eq] at h
  cases hk : k_get code S.1 with
  | none =>
    rw [hk] at h
    cases h
  | some q =>
    rw [hk] at h e
    refine e.trans ?_
    show (bif Nat.beq (q.2.2.2.1 % 2) 1 then (match s_split S with
      | some L => L.all (a_go cs md dp nL nr alts cuts rt code (F + 1) 2)
      | none => false) else a_go cs md dp nL nr alts cuts rt code (F + 1) 2 S) = true
    have h : (bif Nat.beq (q.2.2.2.1 % 2) 1 then (match s_split S with
      | some L => L.all (a_doQ cs md dp nL nr alts rt go q)
      | none => false) else a_doQ cs md dp nL nr alts rt go q S) = true := h
    cases hb : Nat.beq (q.2.2.2.1 % 2) 1
    · rw [hb] at h
      exact a_doQ_ok hgo hk h
    · rw [hb] at h
      simp only [cond_true] at h ⊢
      cases hL : s_split S with
      | none =>
        rw [hL] at h
        cases h
      | some L =>
        rw [hL] at h
        exact List.all_eq_true.mpr fun x hx => a_doQ_ok hgo ((congrArg (k_get code) (s_split_pc hL x hx)).trans hk) (List.all_eq_true.mp h x hx)
theorem a_goQ_ok (hp : ∀ pc, cuts.any (fun U => Nat.beq U.1 pc) = pcs.any (Nat.beq pc)) : ∀ (f F : Nat), 3 * f ≤ F → ∀ S, a_goQ cs md dp nL nr alts cuts rt code pcs f S = true → a_go cs md dp nL nr alts cuts rt code F 0 S = true := by
  intro f
  induction f with
  | zero => intro F _ S h; exact absurd h Bool.false_ne_true
  | succ f ih =>
    intro F hF S h
    obtain ⟨G, rfl⟩ : ∃ G, F = G + 3 := ⟨F - 3, by omega⟩
    have h : @Bool.rec (fun _ => Bool) (a_exR cs md dp nL nr alts rt (a_goQ cs md dp nL nr alts cuts rt code pcs f) (k_getF code S.1) S) (g_any (c_arr nr S) cuts) (l_anyN S.1 pcs) = true := h
    rw [a_exR_eq, g_any_eq, l_anyN_eq] at h
    have e := a_go_0 (cs := cs) (md := md) (dp := dp) (nL := nL) (nr := nr) (alts := alts) (cuts := cuts) (rt := rt) (code := code) (f := G + 2) (S := S)
    rw [hp] at e
    refine e.trans ?_
    cases hb : pcs.any (Nat.beq S.1)
    · rw [hb] at h
      exact a_exQ_ok (go := a_goQ cs md dp nL nr alts cuts rt code pcs f) (fun S hS => ih G (by omega) S hS) h
    · rw [hb] at h
      exact h
end QK
noncomputable def c_exQ (cs : Nat → List A_C) (nL : Nat) (rt : Option FieldType) (code : List (List a_K)) (C : A_C) (pcs : List Nat) (S : A_S) : Bool := match C with
  | (_, E0, _, _, mc, _, dep, alts, cuts, _) => a_exQ cs mc dep nL E0.length alts rt (a_goQ cs mc dep nL E0.length alts cuts rt code pcs 1300) (k_getF code S.1) S
theorem c_exQ_ok {cs : Nat → List A_C} {nL : Nat} {rt : Option FieldType} {code : List (List a_K)} {C : A_C} {pcs : List Nat} (hp : c_pcs C pcs = true) {S : A_S} (h : c_exQ cs nL rt code C pcs S = true) : c_go1 cs nL rt code 4000 C S = true := by
  have hp' := c_pcs_ok hp
  obtain ⟨y, E0, args, ov0, mc, tau, dep, alts, cuts, ph0⟩ := C
  exact a_exQ_ok (F := 3998) (fun S hS => a_goQ_ok hp' 1300 3998 (by decide) S hS) h
theorem goQ_piece {cs : Nat → List A_C} {nL : Nat} {rt : Option FieldType} {code : List (List a_K)} {C : A_C} {pcs : List Nat} (hp : c_pcs C pcs = true) {L : List A_S} (h : L.all (c_exQ cs nL rt code C pcs) = true) : L.all (c_go1 cs nL rt code 4000 C) = true := List.all_eq_true.mpr fun S hS => c_exQ_ok hp (List.all_eq_true.mp h S hS)
noncomputable def c_chkQ (cs : Nat → List A_C) (nL : Nat) (rt : Option FieldType) (code : List (List a_K)) (pcs : List Nat) (C : A_C) : Bool := c_pre nL C && (c_pcs C pcs && (c_exQ cs nL rt code C pcs (c_start C) && (c_cuts C).all (c_exQ cs nL rt code C pcs)))
theorem c_chkQ_ok {cs : Nat → List A_C} {nL : Nat} {rt : Option FieldType} {code : List (List a_K)} {C : A_C} {pcs : List Nat} (h : c_chkQ cs nL rt code pcs C = true) : c_chk cs nL rt code 4000 C = true := by
  obtain ⟨h1, h⟩ := Bool.and_eq_true _ _ |>.mp h
  obtain ⟨h2, h⟩ := Bool.and_eq_true _ _ |>.mp h
  obtain ⟨h3, h4⟩ := Bool.and_eq_true _ _ |>.mp h
  exact c_chk_of h1 (c_exQ_ok h2 h3) (goQ_piece h2 h4)
theorem all_Q {cs : Nat → List A_C} {nL : Nat} {rt : Option FieldType} {code : List (List a_K)} {pcs : List Nat} {L : List A_C} (h : L.all (c_chkQ cs nL rt code pcs) = true) : L.all (c_chk cs nL rt code 4000) = true := List.all_eq_true.mpr fun C hC => c_chkQ_ok (List.all_eq_true.mp h C hC)
/-- a piece of the cuts, looked through with the next of them alone -/
noncomputable def c_exN (cs : Nat → List A_C) (nL : Nat) (rt : Option FieldType) (code : List (List a_K)) (C : A_C) (p0 : Nat) (L : List A_S) (S : A_S) : Bool := match C with
  | (_, E0, _, _, mc, _, dep, alts, _, _) => a_exQ cs mc dep nL E0.length alts rt (a_goQ cs mc dep nL E0.length alts L rt code [p0] 1300) (k_getF code S.1) S
theorem c_exN_ok {cs : Nat → List A_C} {nL : Nat} {rt : Option FieldType} {code : List (List a_K)} {C : A_C} {p0 : Nat} {L : List A_S} (h1 : L.all (fun U => Nat.beq U.1 p0) = true) (hn : L.isEmpty = false) {S : A_S} (h : c_exN cs nL rt code C p0 L S = true) : c_go2 cs nL rt code 4000 C L S = true := by
  obtain ⟨y, E0, args, ov0, mc, tau, dep, alts, cuts, ph0⟩ := C
  refine a_exQ_ok (F := 3998) (fun S hS => a_goQ_ok (fun pc => ?_) 1300 3998 (by decide) S hS) h
  rw [any_pc h1 hn pc]
  show Nat.beq p0 pc = (Nat.beq pc p0 || false)
  rw [Bool.or_false]
  cases hb : Nat.beq p0 pc with
  | true =>
    rw [Nat.eq_of_beq_eq_true hb]
    exact (Nat.beq_refl pc).symm
  | false =>
    cases hc : Nat.beq pc p0 with
    | false => rfl
    | true =>
      rw [Nat.eq_of_beq_eq_true hc, Nat.beq_refl] at hb
      cases hb
theorem go_pieceN {cs : Nat → List A_C} {nL : Nat} {rt : Option FieldType} {code : List (List a_K)} {C : A_C} {p0 k n : Nat} (h1 : (c_cuts C).all (fun U => Nat.beq U.1 p0) = true) (h2 : (((c_cuts C).drop k).take (n + 1)).isEmpty = false) (h : (((c_cuts C).drop k).take n).all (c_exN cs nL rt code C p0 (((c_cuts C).drop k).take (n + 1))) = true) : (((c_cuts C).drop k).take n).all (c_go1 cs nL rt code 4000 C) = true :=
  go_piece h1 h2 (List.all_eq_true.mpr fun S hS => c_exN_ok (List.all_eq_true.mpr fun U hU => List.all_eq_true.mp h1 U (List.mem_of_mem_drop (List.mem_of_mem_take hU))) h2 (List.all_eq_true.mp h S hS))
end
