/-! THE SAME FRAME, seen from a later heap: nothing made yet -/
section RB
variable {p : Program} {l : Launch} {e : Env} {R : Room} {s : State} {m : MethodId} {args : Array Value} {below : List Frame} {meth : Method} {c : Code}
def s_base (s : State) (m : MethodId) (args : Array Value) (below : List Frame) (T : State) : State := (T.setVm s.vm).setFrames (.invoking m args :: below)
theorem st_tr {R' : Room} {T0 T2 : State} {locs locs2 : List Loc} {k n c2 n2 : Nat} (X1 : Stand p l e R s m args below meth c T0 locs k n) (X2 : Stand p l e R' (s_base s m args below T0) m args below meth c T2 locs2 c2 n2) : Stand p l e R s m args below meth c T2 (locs ++ locs2) (k + c2) (n + n2) := by
  have hsame : (T0.setVm s.vm).sameButNew (T2.setVm s.vm) locs2 c2 n2 := by
    obtain ⟨e, q⟩ := X2.same
    refine ⟨?_, q⟩
    unfold s_base at e
    rw [State.setFrames_setFrames] at e
    exact e
  have hl : e.platform.stackLimits T2.me = e.platform.stackLimits s.me := by
    refine X2.limits.trans ?_
    unfold s_base
    rw [State.stackLimits_setFrames]
    exact X1.limits
  have hb : T2.me.stackBytes = s.me.stackBytes := by
    refine X2.bytes.trans ?_
    unfold s_base
    rw [State.stackBytes_setFrames]
    exact X1.bytes
  exact ⟨X1.admits, X1.cas, X1.clock, X1.frames, X1.room, X1.hears, X1.method, X1.code, X2.here, X2.tail, X2.warmed, hl, hb, X1.same.trans hsame⟩
end RB
section RM
variable {p : Program} {l : Launch} {e : Env} {R : Room} {s : State} {m : MethodId} {args : Array Value} {below : List Frame} {meth : Method} {c : Code} {QQ : State → Prop} {dC : Nat → ClassId} {dI : Nat → Nat → Nat} {aC : Nat → ClassId} {A : Nat → Prop} {n0 : Nat} {ad0 xa : Nat → Nat} {nL : Nat} {cc : ByteArray} {own : String} {X : Nat → Option (List Int32)} {Y : (Nat → Prop) → State → Heap → Prop}
def r_small (R : Room) : Room := { frames := R.frames, cells := 1, slots := 6, locals := R.locals }
theorem mV_reb (hY : m_Yok Y) (hC : m_Ctx p s m args meth c cc nL own dC dI aC A xa X Y) {σ : m_H} {k n pc : Nat} {ls : List (Nat × Value)} {st : List Value} (hk : k + 1 ≤ R.cells) (hn : n + 6 ≤ R.slots)
    (h : ∀ s' : State, m_Ctx p s' m args meth c cc nL own dC dI aC A xa X Y → (∀ (σ2 : m_H) (c2 n2 pc2 : Nat) (ls2 : List (Nat × Value)) (st2 : List Value), mV p l e R s m args below meth c QQ dC dI aC A n0 ad0 xa nL (σ2, k + c2, n + n2, pc2, ls2, st2) → mV p l e (r_small R) s' m args below meth c QQ dC dI aC A n0 ad0 xa nL (σ2, c2, n2, pc2, ls2, st2)) →
      mV p l e (r_small R) s' m args below meth c QQ dC dI aC A n0 ad0 xa nL (σ, 0, 0, pc, ls, st)) : mV p l e R s m args below meth c QQ dC dI aC A n0 ad0 xa nL (σ, k, n, pc, ls, st) := by
  intro ad H locs lsC h1 h2 h3 h4 h5 h6 T0 hT X1
  have X2 := vx_rebase X1 (R' := r_small R) (Nat.le_refl _) (Nat.le_refl _) hk hn
  have hH : (s_base s m args below T0).heap = H := hT
  have hvm : (s_base s m args below T0).vm = s.vm := rfl
  have hW : s.WarmedH (s_base s m args below T0).vm := by rw [hvm]; exact State.WarmedH.refl s
  have hE : m_Ext X Y xa A s H := m_Ext.kept hY h5.2.1 hC.2.2.2.2.2.2.2.1
  have hE2 : m_Ext X Y xa A (s_base s m args below T0) (s_base s m args below T0).heap := by rw [hH]; exact hE.warm hY hW
  have hC2 : m_Ctx p (s_base s m args below T0) m args meth c cc nL own dC dI aC A xa X Y := ⟨hC.1, hC.2.1, hC.2.2.1, hC.2.2.2.1, fun w hw => pay_in hC.2.2.2.2.1 (a_good (fun w h => h)) w hw _ _ hW, va_K.moved hW.alike hC.2.2.2.2.2.1, fun q hq => hC.2.2.2.2.2.2.1 q (by rw [hH] at hq; exact Nat.le_trans h5.1 hq), hE2, hC.2.2.2.2.2.2.2.2⟩
  refine h (s_base s m args below T0) hC2 ?_ ad H [] lsC h1 h2 h3 h4 (by rw [hH]; exact va_S.rf) h6 T0 hT X2
  intro σ2 c2 n2 pc2 ls2 st2 hm ad2 H2 locs2 lsC2 g1 g2 g3 g4 g5 g6 T2 hT2 X3
  rw [hH] at g5
  exact hm ad2 H2 (locs ++ locs2) lsC2 g1 g2 g3 g4 ⟨Nat.le_trans h5.1 g5.1, fun q q1 q2 => (g5.2.1 q (Nat.lt_of_lt_of_le q1 h5.1) q2).trans (h5.2.1 q q1 q2), fun q hq => by
    rcases List.mem_append.mp hq with h | h
    · exact h5.2.2 q h
    · exact g5.2.2 q h⟩ g6 T2 hT2 (st_tr X1 X3)
end RM
