/-! one of some signs: the five contracts -/
section H5
variable {l : Launch} {X : Nat → Option (List Int32)} {Y : (Nat → Prop) → State → Heap → Prop} {xa : Nat → Nat}
theorem cn_396_sem (hY : m_Yok Y) (d : Nat) : c_sem l X Y xa d cn_396 := by
  unfold cn_396
  exact one_sem (iL := 1) (iA := 3) (iW := 4) (q := 254) (mh := 9) hY rfl (Or.inl rfl) (List.mem_of_getElem? (i := 0) rfl) (List.mem_of_getElem? (i := 1) rfl) (List.mem_of_getElem? (i := 3) rfl) (List.mem_of_getElem? (i := 4) rfl) rfl rfl rfl (Or.inl ⟨10, rfl, by decide, by decide, by decide, rfl⟩)
theorem cn_397_sem (hY : m_Yok Y) (d : Nat) : c_sem l X Y xa d cn_397 := by
  unfold cn_397
  exact one_sem (iL := 1) (iA := 2) (iW := 3) (q := 258) (mh := 9) hY rfl (Or.inr ⟨rfl, (List.mem_of_getElem? (i := 1) rfl)⟩) (List.mem_of_getElem? (i := 0) rfl) (List.mem_of_getElem? (i := 2) rfl) (List.mem_of_getElem? (i := 3) rfl) (List.mem_of_getElem? (i := 4) rfl) rfl rfl rfl (Or.inl ⟨10, rfl, by decide, by decide, by decide, rfl⟩)
theorem cn_398_sem (hY : m_Yok Y) (d : Nat) : c_sem l X Y xa d cn_398 := by
  unfold cn_398
  exact one_sem (iL := 1) (iA := 3) (iW := 4) (q := 254) (mh := 2) hY rfl (Or.inl rfl) (List.mem_of_getElem? (i := 0) rfl) (List.mem_of_getElem? (i := 1) rfl) (List.mem_of_getElem? (i := 3) rfl) (List.mem_of_getElem? (i := 4) rfl) rfl rfl rfl (Or.inl ⟨3, rfl, by decide, by decide, by decide, rfl⟩)
theorem cn_399_sem (hY : m_Yok Y) (d : Nat) : c_sem l X Y xa d cn_399 := by
  unfold cn_399
  exact one_sem (iL := 1) (iA := 3) (iW := 4) (q := 254) (mh := 8) hY rfl (Or.inl rfl) (List.mem_of_getElem? (i := 0) rfl) (List.mem_of_getElem? (i := 1) rfl) (List.mem_of_getElem? (i := 3) rfl) (List.mem_of_getElem? (i := 4) rfl) rfl rfl rfl (Or.inl ⟨9, rfl, by decide, by decide, by decide, rfl⟩)
theorem cn_400_sem (hY : m_Yok Y) (d : Nat) : c_sem l X Y xa d cn_400 := by
  unfold cn_400
  exact one_sem (iL := 2) (iA := 4) (iW := 5) (q := 254) (mh := 26) hY rfl (Or.inl rfl) (List.mem_of_getElem? (i := 0) rfl) (List.mem_of_getElem? (i := 1) rfl) (List.mem_of_getElem? (i := 3) rfl) (List.mem_of_getElem? (i := 4) rfl) rfl rfl rfl (Or.inr ⟨rfl, rfl, rfl, rfl⟩)
end H5
