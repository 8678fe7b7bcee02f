/-! What is needed where the class's groove throws: an exception's words, its text. -/
abbrev exI : String := "java/lang/IndexOutOfBoundsException"
def exB : List Cond := [.declares (Bundle.initS "java/lang/RuntimeException"), .declares (Bundle.initS "java/lang/Exception"), .declares (Bundle.initS Bundle.tN), .castable exI exI]
def ex_ok (sa : Nat) (A : Nat → Prop) (U : State) (H : Heap) : Prop := (va_Nw (.declares (Bundle.initS "java/lang/RuntimeException")) U ∧ va_Nw (.declares (Bundle.initS "java/lang/Exception")) U ∧ va_Nw (.declares (Bundle.initS Bundle.tN)) U ∧ va_Nw (.castable exI exI) U) ∧ vk_R RX7 131 "no such groove" sa U ∧ vx_Zq Bundle.tN "UNASSIGNED_STACK" Bundle.steD A U H ∧ vx_Zq Bundle.tN "SUPPRESSED_SENTINEL" Bundle.listD A U H
theorem ex_next {sa : Nat} {A B : Nat → Prop} {s U : State} {H : Heap} {locs : List Loc} (h : ex_ok sa A s s.heap) (hS : va_S A s.heap H locs) (hAB : ∀ q, B q → A q) (hU : U.heap = H) (hW : s.WarmedH U.vm) : ex_ok sa B U U.heap := by
  obtain ⟨⟨h1, h2, h3, h4⟩, h5, h6, h7⟩ := h
  rw [hU]
  exact ⟨⟨va_Nw.warmD hW h1, va_Nw.warmD hW h2, va_Nw.warmD hW h3, va_Nw.warmC hW h4⟩, h5.warm hW, (vx_Zq.moved hW.alike (h6.kept hS.2.1)).narrow hAB, (vx_Zq.moved hW.alike (h7.kept hS.2.1)).narrow hAB⟩
theorem ex_same {sa : Nat} {A : Nat → Prop} {u U : State} (hv : U.vm = u.vm) (hh : U.heap = u.heap) (h : ex_ok sa A u u.heap) : ex_ok sa A U U.heap := by
  obtain ⟨⟨h1, h2, h3, h4⟩, h5, h6, h7⟩ := h
  have ha : u.vm.Alike U.vm := by rw [hv]; exact Vm.Alike.refl _
  rw [hh]
  exact ⟨⟨va_Nw.same rfl hv.symm h1, va_Nw.same rfl hv.symm h2, va_Nw.same rfl hv.symm h3, va_Nw.same rfl hv.symm h4⟩, h5.same hv, vx_Zq.moved ha h6, vx_Zq.moved ha h7⟩
/-- the same of the other exception, and that it is none of the first -/
abbrev neI : String := "java/util/NoSuchElementException"
def ne_ok (sb : Nat) (U : State) : Prop := va_Nw (.castable neI neI) U ∧ va_Nc neI exI U ∧ vk_R RX7 150 "no such what" sb U
theorem ne_next {sb : Nat} {s U : State} (h : ne_ok sb s) (hW : s.WarmedH U.vm) : ne_ok sb U := ⟨va_Nw.warmC hW h.1, va_Nc.moved hW.alike h.2.1, h.2.2.warm hW⟩
theorem ne_same {sb : Nat} {u U : State} (hv : U.vm = u.vm) (h : ne_ok sb u) : ne_ok sb U := ⟨va_Nw.same rfl hv.symm h.1, va_Nc.moved (by rw [hv]; exact Vm.Alike.refl _) h.2.1, h.2.2.same hv⟩
