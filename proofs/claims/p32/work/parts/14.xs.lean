def xs_ok (K V : Nat) (f : Nat → Int32) (A : Nat → Prop) (U : State) (H : Heap) : Prop := vk_R RX3 58 "groovescrat guest arm   price seed  law   back  wear  worth or    and   not   place odds  worn  heavy round heard turn  " K U ∧ va_O "java/lang/String" K A U H ∧ va_OF "java/lang/String" "coder" "B" (.int 0) K A U H ∧ va_OF "java/lang/String" "value" "[B" (.ref V) K A U H ∧ va_T .byte V 120 (fun j => .int (f j)) A U H ∧ va_Z "java/lang/String" "COMPACT_STRINGS" "Z" (.int 1) A U H ∧ va_Zq "jdk/internal/util/Preconditions" "SIOOBE_FORMATTER" "Ljava/util/function/BiFunction;" A U H ∧ (Cond.arrayOver (.array .int)).before #[] U = true
theorem ao_vm {ty : FieldType} {a a' : Array Value} {U U' : State} (h : U.vm = U'.vm) (q : (Cond.arrayOver ty).before a U = true) : (Cond.arrayOver ty).before a' U' = true := by
  simp only [Cond.before, Cond.holds, Cond.value] at q ⊢
  rw [← h]
  exact q
theorem xs_next {K V : Nat} {f : Nat → Int32} {A B : Nat → Prop} {s U : State} {H : Heap} {locs : List Loc} (h : xs_ok K V f A s s.heap) (hS : va_S A s.heap H locs) (hAB : ∀ q, B q → A q) (hU : U.heap = H) (hW : s.WarmedH U.vm) : xs_ok K V f B U U.heap := by
  obtain ⟨h1, h2, h3, h4, h5, h6, h7, h8⟩ := h
  rw [hU]
  exact ⟨h1.warm hW, (va_O.moved hW.alike (h2.kept hS.2.1)).narrow hAB, (va_OF.moved hW.alike (h3.kept hS.2.1)).narrow hAB, (va_OF.moved hW.alike (h4.kept hS.2.1)).narrow hAB, (va_T.moved hW.alike (h5.kept hS.2.1)).narrow hAB, (va_Z.moved hW.alike (h6.kept hS.2.1)).narrow hAB, (va_Zq.moved hW.alike (h7.kept hS.2.1)).narrow hAB, ao_vm (U := s.setVm U.vm) (a := #[]) rfl (by rw [Cond.arrayOver_setVmC hW.alike]; exact h8)⟩
theorem xs_same {K V : Nat} {f : Nat → Int32} {A : Nat → Prop} {u U : State} (hv : U.vm = u.vm) (hh : U.heap = u.heap) (h : xs_ok K V f A u u.heap) : xs_ok K V f A U U.heap := by
  obtain ⟨h1, h2, h3, h4, h5, h6, h7, h8⟩ := h
  have ha : u.vm.Alike U.vm := by rw [hv]; exact Vm.Alike.refl _
  rw [hh]
  exact ⟨h1.same hv, va_O.moved ha h2, va_OF.moved ha h3, va_OF.moved ha h4, va_T.moved ha h5, va_Z.moved ha h6, va_Zq.moved ha h7, ao_vm hv.symm h8⟩
/-- the text's bytes -/
def sm_tl : List Int32 := [103, 114, 111, 111, 118, 101, 115, 99, 114, 97, 116, 32, 103, 117, 101, 115, 116, 32, 97, 114, 109, 32, 32, 32, 112, 114, 105, 99, 101, 32, 115, 101, 101, 100, 32, 32, 108, 97, 119, 32, 32, 32, 98, 97, 99, 107, 32, 32, 119, 101, 97, 114, 32, 32, 119, 111, 114, 116, 104, 32, 111, 114, 32, 32, 32, 32, 97, 110, 100, 32, 32, 32, 110, 111, 116, 32, 32, 32, 112, 108, 97, 99, 101, 32, 111, 100, 100, 115, 32, 32, 119, 111, 114, 110, 32, 32, 104, 101, 97, 118, 121, 32, 114, 111, 117, 110, 100, 32, 104, 101, 97, 114, 100, 32, 116, 117, 114, 110, 32, 32]
def sm_tx (j : Nat) : Int32 := sm_tl.getD j 0
/-- what a state has beside the cells: what is only read, the text, the kind of rows of rows -/
def sm_ex (E : Nat → Nat) (ro : Nat → List Int32) (A : Nat → Prop) (U : State) (H : Heap) : Prop := sm_ro E ro A U H ∧ xs_ok (E 0) (E 3) sm_tx A U H ∧ (ex_ok (E 4) A U H ∧ ne_ok (E 5) U) ∧ va_Z RX7 "RANKS" "[I" (.ref (E 2)) A U H
theorem sm_ex_next {E : Nat → Nat} {ro : Nat → List Int32} {A B : Nat → Prop} {s U : State} {H : Heap} {locs : List Loc} (h : sm_ex E ro A s s.heap) (hS : va_S A s.heap H locs) (hAB : ∀ q, B q → A q) (hU : U.heap = H) (hW : s.WarmedH U.vm) : sm_ex E ro B U U.heap :=
  ⟨fun j hj => by rw [hU]; exact (va_T.moved hW.alike ((h.1 j hj).kept hS.2.1)).narrow hAB, xs_next h.2.1 hS hAB hU hW, ⟨ex_next h.2.2.1.1 hS hAB hU hW, ne_next h.2.2.1.2 hW⟩, by rw [hU]; exact (va_Z.moved hW.alike (h.2.2.2.kept hS.2.1)).narrow hAB⟩
theorem sm_ex_same {E : Nat → Nat} {ro : Nat → List Int32} {A : Nat → Prop} {u U : State} (hv : U.vm = u.vm) (hh : U.heap = u.heap) (h : sm_ex E ro A u u.heap) : sm_ex E ro A U U.heap :=
  ⟨fun j hj => by rw [hh]; exact va_T.moved (by rw [hv]; exact Vm.Alike.refl _) (h.1 j hj), xs_same hv hh h.2.1, ⟨ex_same hv hh h.2.2.1.1, ne_same hv h.2.2.1.2⟩, by rw [hh]; exact va_Z.moved (by rw [hv]; exact Vm.Alike.refl _) h.2.2.2⟩
theorem sm_ex_over {E : Nat → Nat} {ro : Nat → List Int32} {A : Nat → Prop} {U : State} {H : Heap} {args : Array Value} (h : sm_ex E ro A U H) : (Cond.arrayOver (.array .int)).before args U = true := ao_vm rfl h.2.1.2.2.2.2.2.2.2
theorem sm_ex_text {E : Nat → Nat} {ro : Nat → List Int32} {A : Nat → Prop} {U : State} {H : Heap} (h : sm_ex E ro A U H) : ∃ tx, vk_R RX3 58 tx (E 0) U := ⟨_, h.2.1.1⟩
